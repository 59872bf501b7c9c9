/-! methods as functions, by program (gen/dcmall.py) -/
def f_X14_areApart (n : Nat) (a0 : Nat) (a1 : Nat) (x2 : Int32) (σ : xσ) : Option (Int32 × xσ) := gd (okM a0) (gd (okM a1) (bd (f_X14_extreme n a0 x2 0 σ) (fun v101 σ102 => bd (f_X14_extreme n a1 x2 1 σ102) (fun v106 σ107 => if v101 < v106 then some (1, σ107) else bd (f_X14_extreme n a1 x2 0 σ107) (fun v112 σ113 => bd (f_X14_extreme n a0 x2 1 σ113) (fun v117 σ118 => if v117 ≤ v112 then some (0, σ118) else some (1, σ118)))))))
set_option maxRecDepth 100000 in
set_option maxHeartbeats 4000000 in
theorem c_X14_areApart {G : xG} {n : Nat} {σ : xσ} {h : xH} {a0 : Nat} {a1 : Nat} {x2 : Int32} {v1 : Int32} {σ1 : xσ} (R : Rl n σ h) (hf : f_X14_areApart n a0 a1 x2 σ = some (v1, σ1)) : Ca G mX14_areApart [.ref a0, .ref a1, .int x2] h (fun v h' => v = some (.int v1) ∧ Rl n σ1 h') := by
  refine Ca.of rfl (Nat.le_of_ble_eq_true rfl) ?_
  generalize hr : (v1, σ1) = r at hf
  suffices q : Go G mX14_areApart 0 (xent (xMl mX14_areApart) [.ref a0, .ref a1, .int x2]) [] h (fun v h' => xRok (xRt mX14_areApart) v ∧ v = some (.int r.1) ∧ Rl n r.2 h') by
    subst hr
    exact q
  clear hr
  rw [f_X14_areApart] at hf
  obtain ⟨g0, hf⟩ := gd_some hf
  obtain ⟨g1, hf⟩ := gd_some hf
  refine go_aload_n (i := 0) (pc' := 1) dX14_areApart_0 rfl rfl rfl ?_
  refine go_iload_n (i := 2) (pc' := 2) dX14_areApart_1 rfl rfl rfl ?_
  refine go_iconst (v := 0) (pc' := 3) dX14_areApart_2 rfl (by decide) ?_
  obtain ⟨v101, σ102, e103, hf⟩ := bd_some hf
  refine go_invS (As := [_, _, _]) (pc' := 6) dX14_areApart_3 rfl cf_X14_areApart_201 rfl rfl (Nat.le_of_ble_eq_true rfl) (c_X14_extreme R e103) (fun q104v h105 q104 => ?_)
  obtain ⟨rfl, R⟩ := q104
  refine go_aload_n (i := 1) (pc' := 7) dX14_areApart_6 rfl rfl rfl ?_
  refine go_iload_n (i := 2) (pc' := 8) dX14_areApart_7 rfl rfl rfl ?_
  refine go_iconst (v := 1) (pc' := 9) dX14_areApart_8 rfl (by decide) ?_
  obtain ⟨v106, σ107, e108, hf⟩ := bd_some hf
  refine go_invS (As := [_, _, _]) (pc' := 12) dX14_areApart_9 rfl cf_X14_areApart_201 rfl rfl (Nat.le_of_ble_eq_true rfl) (c_X14_extreme R e108) (fun q109v h110 q109 => ?_)
  obtain ⟨rfl, R⟩ := q109
  refine go_icmp_lt (pc' := 15) (tgt := 30) dX14_areApart_12 (by decide) rfl (fun c111 => ?_) (fun c111 => ?_)
  · have hf := it c111 hf
    refine go_iconst (v := 1) (pc' := 31) dX14_areApart_30 rfl (by decide) ?_
    refine go_goto (pc' := 0) (tgt := 35) dX14_areApart_31 (by decide) ?_
    obtain rfl := Option.some.inj hf
    exact Go.ret (v := some (.int _)) dX14_areApart_35 ⟨_, rfl⟩ ⟨rfl, rfl, R⟩
  · have hf := ie c111 hf
    refine go_aload_n (i := 1) (pc' := 16) dX14_areApart_15 rfl rfl rfl ?_
    refine go_iload_n (i := 2) (pc' := 17) dX14_areApart_16 rfl rfl rfl ?_
    refine go_iconst (v := 0) (pc' := 18) dX14_areApart_17 rfl (by decide) ?_
    obtain ⟨v112, σ113, e114, hf⟩ := bd_some hf
    refine go_invS (As := [_, _, _]) (pc' := 21) dX14_areApart_18 rfl cf_X14_areApart_201 rfl rfl (Nat.le_of_ble_eq_true rfl) (c_X14_extreme R e114) (fun q115v h116 q115 => ?_)
    obtain ⟨rfl, R⟩ := q115
    refine go_aload_n (i := 0) (pc' := 22) dX14_areApart_21 rfl rfl rfl ?_
    refine go_iload_n (i := 2) (pc' := 23) dX14_areApart_22 rfl rfl rfl ?_
    refine go_iconst (v := 1) (pc' := 24) dX14_areApart_23 rfl (by decide) ?_
    obtain ⟨v117, σ118, e119, hf⟩ := bd_some hf
    refine go_invS (As := [_, _, _]) (pc' := 27) dX14_areApart_24 rfl cf_X14_areApart_201 rfl rfl (Nat.le_of_ble_eq_true rfl) (c_X14_extreme R e119) (fun q120v h121 q120 => ?_)
    obtain ⟨rfl, R⟩ := q120
    refine go_icmp_ge (pc' := 30) (tgt := 34) dX14_areApart_27 (by decide) rfl (fun c122 => ?_) (fun c122 => ?_)
    · have hf := it c122 hf
      refine go_iconst (v := 0) (pc' := 35) dX14_areApart_34 rfl (by decide) ?_
      obtain rfl := Option.some.inj hf
      exact Go.ret (v := some (.int _)) dX14_areApart_35 ⟨_, rfl⟩ ⟨rfl, rfl, R⟩
    · have hf := ie c122 hf
      refine go_iconst (v := 1) (pc' := 31) dX14_areApart_30 rfl (by decide) ?_
      refine go_goto (pc' := 0) (tgt := 35) dX14_areApart_31 (by decide) ?_
      obtain rfl := Option.some.inj hf
      exact Go.ret (v := some (.int _)) dX14_areApart_35 ⟨_, rfl⟩ ⟨rfl, rfl, R⟩
def l_X14_intersect_74 (n : Nat) (k62 : Nat → Nat → Int32 → xσ → Option (Int32 × xσ)) : Nat → Nat → Nat → Int32 → Int32 → xσ → Option (Int32 × xσ)
  | 0, _, _, _, _, _ => none
  | f + 1, a0, a1, x2, x3, σ => if (sI σ a1 2) ≤ (x3 + 1) then k62 a0 a1 (x2 + 1) σ else bd (f_X12_isWay n a0 x2 σ) (fun v102 σ103 => if v102 = 0 then k62 a0 a1 (x2 + 1) σ103 else bd (f_X12_isWay n a1 x3 σ103) (fun v108 σ109 => if v108 = 0 then (l_X14_intersect_74 n k62 f) a0 a1 x2 (x3 + 1) σ109 else bd (f_X14_meet n a0 x2 a1 x3 σ109) (fun v114 σ115 => if v114 = 0 then (l_X14_intersect_74 n k62 f) a0 a1 x2 (x3 + 1) σ115 else some (1, σ115))))
set_option maxRecDepth 100000 in
set_option maxHeartbeats 4000000 in
theorem t_X14_intersect_74 {G : xG} {n : Nat} {k62 : Nat → Nat → Int32 → xσ → Option (Int32 × xσ)} (hk62 : ∀ {a0 : Nat} {a1 : Nat} {x2 : Int32} {σ : xσ} {h : xH} {r : Int32 × xσ} {d3 : Option Value}, Rl n σ h → okM a0 → okM a1 → k62 a0 a1 x2 σ = some r → Go G mX14_intersect 62 [some (.ref a0), some (.ref a1), some (.int x2), d3] [] h (fun v h' => xRok (xRt mX14_intersect) v ∧ v = some (.int r.1) ∧ Rl n r.2 h')) : ∀ (f : Nat) {a0 : Nat} {a1 : Nat} {x2 : Int32} {x3 : Int32} {σ : xσ} {h : xH} {r : Int32 × xσ}, Rl n σ h → okM a0 → okM a1 → l_X14_intersect_74 n k62 f a0 a1 x2 x3 σ = some r → Go G mX14_intersect 74 [some (.ref a0), some (.ref a1), some (.int x2), some (.int x3)] [] h (fun v h' => xRok (xRt mX14_intersect) v ∧ v = some (.int r.1) ∧ Rl n r.2 h') := by
  intro f
  induction f with
  | zero =>
    intros
    rename _ = some _ => hf
    rw [l_X14_intersect_74] at hf
    cases hf
  | succ f ih =>
    intro a0 a1 x2 x3 σ h r  R g0 g1 hf
    rw [l_X14_intersect_74] at hf
    refine go_iload_n (i := 3) (pc' := 75) dX14_intersect_74 rfl rfl rfl ?_
    refine go_iconst (v := 1) (pc' := 76) dX14_intersect_75 rfl (by decide) ?_
    refine go_iadd (pc' := 77) dX14_intersect_76 rfl ?_
    refine go_aload_n (i := 1) (pc' := 78) dX14_intersect_77 rfl rfl rfl ?_
    refine go_getS (pc' := 81) dX14_intersect_78 rfl gf_LandBaseModel_79 R (g1.at R) (by decide) rfl ?_
    refine go_icmp_ge (pc' := 84) (tgt := 118) dX14_intersect_81 (by decide) rfl (fun c101 => ?_) (fun c101 => ?_)
    · have hf := it c101 hf
      refine go_iincC (kk := 1) (pc' := 121) dX14_intersect_118 rfl rfl (by decide) (by decide) rfl ?_
      refine go_goto (pc' := 0) (tgt := 62) dX14_intersect_121 (by decide) ?_
      exact hk62 R g0 g1 hf
    · have hf := ie c101 hf
      refine go_aload_n (i := 0) (pc' := 85) dX14_intersect_84 rfl rfl rfl ?_
      refine go_iload_n (i := 2) (pc' := 86) dX14_intersect_85 rfl rfl rfl ?_
      obtain ⟨v102, σ103, e104, hf⟩ := bd_some hf
      refine go_invV (As := [_]) (pc' := 89) dX14_intersect_86 rfl cf_X14_intersect_82 rfl (R.ob (g0.at R)) rfl rfl (Nat.le_of_ble_eq_true rfl) (c_X12_isWay R e104) (fun q105v h106 q105 => ?_)
      obtain ⟨rfl, R⟩ := q105
      refine go_if_eq (pc' := 92) (tgt := 118) dX14_intersect_89 (by decide) rfl (fun c107 => ?_) (fun c107 => ?_)
      · have hf := it c107 hf
        refine go_iincC (kk := 1) (pc' := 121) dX14_intersect_118 rfl rfl (by decide) (by decide) rfl ?_
        refine go_goto (pc' := 0) (tgt := 62) dX14_intersect_121 (by decide) ?_
        exact hk62 R g0 g1 hf
      · have hf := ie c107 hf
        refine go_aload_n (i := 1) (pc' := 93) dX14_intersect_92 rfl rfl rfl ?_
        refine go_iload_n (i := 3) (pc' := 94) dX14_intersect_93 rfl rfl rfl ?_
        obtain ⟨v108, σ109, e110, hf⟩ := bd_some hf
        refine go_invV (As := [_]) (pc' := 97) dX14_intersect_94 rfl cf_X14_intersect_82 rfl (R.ob (g1.at R)) rfl rfl (Nat.le_of_ble_eq_true rfl) (c_X12_isWay R e110) (fun q111v h112 q111 => ?_)
        obtain ⟨rfl, R⟩ := q111
        refine go_if_eq (pc' := 100) (tgt := 112) dX14_intersect_97 (by decide) rfl (fun c113 => ?_) (fun c113 => ?_)
        · have hf := it c113 hf
          refine go_iincC (kk := 1) (pc' := 115) dX14_intersect_112 rfl rfl (by decide) (by decide) rfl ?_
          refine go_goto (pc' := 0) (tgt := 74) dX14_intersect_115 (by decide) ?_
          exact ih R g0 g1 hf
        · have hf := ie c113 hf
          refine go_aload_n (i := 0) (pc' := 101) dX14_intersect_100 rfl rfl rfl ?_
          refine go_iload_n (i := 2) (pc' := 102) dX14_intersect_101 rfl rfl rfl ?_
          refine go_aload_n (i := 1) (pc' := 103) dX14_intersect_102 rfl rfl rfl ?_
          refine go_iload_n (i := 3) (pc' := 104) dX14_intersect_103 rfl rfl rfl ?_
          obtain ⟨v114, σ115, e116, hf⟩ := bd_some hf
          refine go_invS (As := [_, _, _, _]) (pc' := 107) dX14_intersect_104 rfl cf_X14_intersect_209 rfl rfl (Nat.le_of_ble_eq_true rfl) (c_X14_meet R e116) (fun q117v h118 q117 => ?_)
          obtain ⟨rfl, R⟩ := q117
          refine go_if_eq (pc' := 110) (tgt := 112) dX14_intersect_107 (by decide) rfl (fun c119 => ?_) (fun c119 => ?_)
          · have hf := it c119 hf
            refine go_iincC (kk := 1) (pc' := 115) dX14_intersect_112 rfl rfl (by decide) (by decide) rfl ?_
            refine go_goto (pc' := 0) (tgt := 74) dX14_intersect_115 (by decide) ?_
            exact ih R g0 g1 hf
          · have hf := ie c119 hf
            refine go_iconst (v := 1) (pc' := 111) dX14_intersect_110 rfl (by decide) ?_
            obtain rfl := Option.some.inj hf
            exact Go.ret (v := some (.int _)) dX14_intersect_111 ⟨_, rfl⟩ ⟨rfl, rfl, R⟩
def l_X14_intersect_62 (n : Nat) : Nat → Nat → Nat → Int32 → xσ → Option (Int32 × xσ)
  | 0, _, _, _, _ => none
  | f + 1, a0, a1, x2, σ => if (sI σ a0 2) ≤ (x2 + 1) then some (0, σ) else l_X14_intersect_74 n (l_X14_intersect_62 n f) xFU a0 a1 x2 0 σ
set_option maxRecDepth 100000 in
set_option maxHeartbeats 4000000 in
theorem t_X14_intersect_62 {G : xG} {n : Nat} : ∀ (f : Nat) {a0 : Nat} {a1 : Nat} {x2 : Int32} {σ : xσ} {h : xH} {r : Int32 × xσ} {d3 : Option Value}, Rl n σ h → okM a0 → okM a1 → l_X14_intersect_62 n f a0 a1 x2 σ = some r → Go G mX14_intersect 62 [some (.ref a0), some (.ref a1), some (.int x2), d3] [] h (fun v h' => xRok (xRt mX14_intersect) v ∧ v = some (.int r.1) ∧ Rl n r.2 h') := by
  intro f
  induction f with
  | zero =>
    intros
    rename _ = some _ => hf
    rw [l_X14_intersect_62] at hf
    cases hf
  | succ f ih =>
    intro a0 a1 x2 σ h r d3 R g0 g1 hf
    rw [l_X14_intersect_62] at hf
    refine go_iload_n (i := 2) (pc' := 63) dX14_intersect_62 rfl rfl rfl ?_
    refine go_iconst (v := 1) (pc' := 64) dX14_intersect_63 rfl (by decide) ?_
    refine go_iadd (pc' := 65) dX14_intersect_64 rfl ?_
    refine go_aload_n (i := 0) (pc' := 66) dX14_intersect_65 rfl rfl rfl ?_
    refine go_getS (pc' := 69) dX14_intersect_66 rfl gf_LandBaseModel_79 R (g0.at R) (by decide) rfl ?_
    refine go_icmp_ge (pc' := 72) (tgt := 124) dX14_intersect_69 (by decide) rfl (fun c101 => ?_) (fun c101 => ?_)
    · have hf := it c101 hf
      refine go_iconst (v := 0) (pc' := 125) dX14_intersect_124 rfl (by decide) ?_
      obtain rfl := Option.some.inj hf
      exact Go.ret (v := some (.int _)) dX14_intersect_125 ⟨_, rfl⟩ ⟨rfl, rfl, R⟩
    · have hf := ie c101 hf
      refine go_iconst (v := 0) (pc' := 73) dX14_intersect_72 rfl (by decide) ?_
      refine go_istore_nE rfl (i := 3) (pc' := 74) dX14_intersect_73 rfl rfl (by decide) rfl ?_
      exact t_X14_intersect_74 @ih xFU R g0 g1 hf
def f_X14_intersect (n : Nat) (a0 : Nat) (a1 : Nat) (σ : xσ) : Option (Int32 × xσ) := gd (okM a0) (gd (okM a1) (bd (f_X14_areApart n a0 a1 1 σ) (fun v101 σ102 => if v101 = 0 then bd (f_X14_areApart n a0 a1 0 σ102) (fun v107 σ108 => if v107 = 0 then gd (inb 0 40) (gd (inb 0 40) (bd (f_X14_locate n a1 (sI σ108 (a0 + 2) (0 : Int32).toNatClampNeg) (sI σ108 (a0 + 3) (0 : Int32).toNatClampNeg) σ108) (fun v115 σ116 => if 0 ≤ v115 then some (1, σ116) else gd (inb 0 40) (gd (inb 0 40) (bd (f_X14_locate n a0 (sI σ116 (a1 + 2) (0 : Int32).toNatClampNeg) (sI σ116 (a1 + 3) (0 : Int32).toNatClampNeg) σ116) (fun v123 σ124 => if v123 < 0 then l_X14_intersect_62 n xFU a0 a1 0 σ124 else some (1, σ124))))))) else some (0, σ108)) else some (0, σ102))))
set_option maxRecDepth 100000 in
set_option maxHeartbeats 4000000 in
theorem c_X14_intersect {G : xG} {n : Nat} {σ : xσ} {h : xH} {a0 : Nat} {a1 : Nat} {v1 : Int32} {σ1 : xσ} (R : Rl n σ h) (hf : f_X14_intersect n a0 a1 σ = some (v1, σ1)) : Ca G mX14_intersect [.ref a0, .ref a1] h (fun v h' => v = some (.int v1) ∧ Rl n σ1 h') := by
  refine Ca.of rfl (Nat.le_of_ble_eq_true rfl) ?_
  generalize hr : (v1, σ1) = r at hf
  suffices q : Go G mX14_intersect 0 (xent (xMl mX14_intersect) [.ref a0, .ref a1]) [] h (fun v h' => xRok (xRt mX14_intersect) v ∧ v = some (.int r.1) ∧ Rl n r.2 h') by
    subst hr
    exact q
  clear hr
  rw [f_X14_intersect] at hf
  obtain ⟨g0, hf⟩ := gd_some hf
  obtain ⟨g1, hf⟩ := gd_some hf
  refine go_aload_n (i := 0) (pc' := 1) dX14_intersect_0 rfl rfl rfl ?_
  refine go_aload_n (i := 1) (pc' := 2) dX14_intersect_1 rfl rfl rfl ?_
  refine go_iconst (v := 1) (pc' := 3) dX14_intersect_2 rfl (by decide) ?_
  obtain ⟨v101, σ102, e103, hf⟩ := bd_some hf
  refine go_invS (As := [_, _, _]) (pc' := 6) dX14_intersect_3 rfl cf_X14_intersect_205 rfl rfl (Nat.le_of_ble_eq_true rfl) (c_X14_areApart R e103) (fun q104v h105 q104 => ?_)
  obtain ⟨rfl, R⟩ := q104
  refine go_if_ne (pc' := 9) (tgt := 18) dX14_intersect_6 (by decide) rfl (fun c106 => ?_) (fun c106 => ?_)
  · have hf := ie c106 hf
    refine go_iconst (v := 0) (pc' := 19) dX14_intersect_18 rfl (by decide) ?_
    obtain rfl := Option.some.inj hf
    exact Go.ret (v := some (.int _)) dX14_intersect_19 ⟨_, rfl⟩ ⟨rfl, rfl, R⟩
  · have hf := it c106 hf
    refine go_aload_n (i := 0) (pc' := 10) dX14_intersect_9 rfl rfl rfl ?_
    refine go_aload_n (i := 1) (pc' := 11) dX14_intersect_10 rfl rfl rfl ?_
    refine go_iconst (v := 0) (pc' := 12) dX14_intersect_11 rfl (by decide) ?_
    obtain ⟨v107, σ108, e109, hf⟩ := bd_some hf
    refine go_invS (As := [_, _, _]) (pc' := 15) dX14_intersect_12 rfl cf_X14_intersect_205 rfl rfl (Nat.le_of_ble_eq_true rfl) (c_X14_areApart R e109) (fun q110v h111 q110 => ?_)
    obtain ⟨rfl, R⟩ := q110
    refine go_if_eq (pc' := 18) (tgt := 20) dX14_intersect_15 (by decide) rfl (fun c112 => ?_) (fun c112 => ?_)
    · have hf := it c112 hf
      refine go_aload_n (i := 1) (pc' := 21) dX14_intersect_20 rfl rfl rfl ?_
      refine go_aload_n (i := 0) (pc' := 22) dX14_intersect_21 rfl rfl rfl ?_
      refine go_getS (pc' := 25) dX14_intersect_22 rfl gf_LandBaseModel_30 R (g0.at R) (by decide) rfl ?_
      refine go_iconst (v := 0) (pc' := 26) dX14_intersect_25 rfl (by decide) ?_
      obtain ⟨g113, hf⟩ := gd_some hf
      refine go_ialoadS (pc' := 27) dX14_intersect_26 rfl R (g0.x R) g113 ?_
      refine go_aload_n (i := 0) (pc' := 28) dX14_intersect_27 rfl rfl rfl ?_
      refine go_getS (pc' := 31) dX14_intersect_28 rfl gf_LandBaseModel_36 R (g0.at R) (by decide) rfl ?_
      refine go_iconst (v := 0) (pc' := 32) dX14_intersect_31 rfl (by decide) ?_
      obtain ⟨g114, hf⟩ := gd_some hf
      refine go_ialoadS (pc' := 33) dX14_intersect_32 rfl R (g0.y R) g114 ?_
      obtain ⟨v115, σ116, e117, hf⟩ := bd_some hf
      refine go_invS (As := [_, _, _]) (pc' := 36) dX14_intersect_33 rfl cf_X14_intersect_197 rfl rfl (Nat.le_of_ble_eq_true rfl) (c_X14_locate R e117) (fun q118v h119 q118 => ?_)
      obtain ⟨rfl, R⟩ := q118
      refine go_if_ge (pc' := 39) (tgt := 58) dX14_intersect_36 (by decide) rfl (fun c120 => ?_) (fun c120 => ?_)
      · have hf := it c120 hf
        refine go_iconst (v := 1) (pc' := 59) dX14_intersect_58 rfl (by decide) ?_
        obtain rfl := Option.some.inj hf
        exact Go.ret (v := some (.int _)) dX14_intersect_59 ⟨_, rfl⟩ ⟨rfl, rfl, R⟩
      · have hf := ie c120 hf
        refine go_aload_n (i := 0) (pc' := 40) dX14_intersect_39 rfl rfl rfl ?_
        refine go_aload_n (i := 1) (pc' := 41) dX14_intersect_40 rfl rfl rfl ?_
        refine go_getS (pc' := 44) dX14_intersect_41 rfl gf_LandBaseModel_30 R (g1.at R) (by decide) rfl ?_
        refine go_iconst (v := 0) (pc' := 45) dX14_intersect_44 rfl (by decide) ?_
        obtain ⟨g121, hf⟩ := gd_some hf
        refine go_ialoadS (pc' := 46) dX14_intersect_45 rfl R (g1.x R) g121 ?_
        refine go_aload_n (i := 1) (pc' := 47) dX14_intersect_46 rfl rfl rfl ?_
        refine go_getS (pc' := 50) dX14_intersect_47 rfl gf_LandBaseModel_36 R (g1.at R) (by decide) rfl ?_
        refine go_iconst (v := 0) (pc' := 51) dX14_intersect_50 rfl (by decide) ?_
        obtain ⟨g122, hf⟩ := gd_some hf
        refine go_ialoadS (pc' := 52) dX14_intersect_51 rfl R (g1.y R) g122 ?_
        obtain ⟨v123, σ124, e125, hf⟩ := bd_some hf
        refine go_invS (As := [_, _, _]) (pc' := 55) dX14_intersect_52 rfl cf_X14_intersect_197 rfl rfl (Nat.le_of_ble_eq_true rfl) (c_X14_locate R e125) (fun q126v h127 q126 => ?_)
        obtain ⟨rfl, R⟩ := q126
        refine go_if_lt (pc' := 58) (tgt := 60) dX14_intersect_55 (by decide) rfl (fun c128 => ?_) (fun c128 => ?_)
        · have hf := it c128 hf
          refine go_iconst (v := 0) (pc' := 61) dX14_intersect_60 rfl (by decide) ?_
          refine go_istore_nE rfl (i := 2) (pc' := 62) dX14_intersect_61 rfl rfl (by decide) rfl ?_
          exact t_X14_intersect_62 xFU R g0 g1 hf
        · have hf := ie c128 hf
          refine go_iconst (v := 1) (pc' := 59) dX14_intersect_58 rfl (by decide) ?_
          obtain rfl := Option.some.inj hf
          exact Go.ret (v := some (.int _)) dX14_intersect_59 ⟨_, rfl⟩ ⟨rfl, rfl, R⟩
    · have hf := ie c112 hf
      refine go_iconst (v := 0) (pc' := 19) dX14_intersect_18 rfl (by decide) ?_
      obtain rfl := Option.some.inj hf
      exact Go.ret (v := some (.int _)) dX14_intersect_19 ⟨_, rfl⟩ ⟨rfl, rfl, R⟩
def f_X14_isEndAt (n : Nat) (a0 : Nat) (a1 : Nat) (x2 : Int32) (a3 : Nat) (x4 : Int32) (σ : xσ) : Option (Int32 × xσ) := gd (okM a0) (gd (okM a1) (gd (okM a3) (st ((sI σ a0 2) - 1) (fun x101 => bd (f_X12_isOpen n a0 σ) (fun v103 σ104 => if v103 = 0 then some (0, σ104) else gd (inb 0 40) (gd (inb 0 40) (bd (f_X14_isOn n a1 x2 (sI σ104 (a0 + 2) (0 : Int32).toNatClampNeg) (sI σ104 (a0 + 3) (0 : Int32).toNatClampNeg) σ104) (fun v111 σ112 => if v111 = 0 then gd (inb x101 40) (gd (inb x101 40) (bd (f_X14_isOn n a1 x2 (sI σ112 (a0 + 2) x101.toNatClampNeg) (sI σ112 (a0 + 3) x101.toNatClampNeg) σ112) (fun v119 σ120 => if v119 = 0 then some (0, σ120) else gd (inb x101 40) (gd (inb x101 40) (bd (f_X14_isOn n a3 x4 (sI σ120 (a0 + 2) x101.toNatClampNeg) (sI σ120 (a0 + 3) x101.toNatClampNeg) σ120) (fun v127 σ128 => if v127 = 0 then some (0, σ128) else some (1, σ128))))))) else gd (inb 0 40) (gd (inb 0 40) (bd (f_X14_isOn n a3 x4 (sI σ112 (a0 + 2) (0 : Int32).toNatClampNeg) (sI σ112 (a0 + 3) (0 : Int32).toNatClampNeg) σ112) (fun v135 σ136 => if v135 = 0 then gd (inb x101 40) (gd (inb x101 40) (bd (f_X14_isOn n a1 x2 (sI σ136 (a0 + 2) x101.toNatClampNeg) (sI σ136 (a0 + 3) x101.toNatClampNeg) σ136) (fun v143 σ144 => if v143 = 0 then some (0, σ144) else gd (inb x101 40) (gd (inb x101 40) (bd (f_X14_isOn n a3 x4 (sI σ144 (a0 + 2) x101.toNatClampNeg) (sI σ144 (a0 + 3) x101.toNatClampNeg) σ144) (fun v151 σ152 => if v151 = 0 then some (0, σ152) else some (1, σ152))))))) else some (1, σ136))))))))))))
set_option maxRecDepth 100000 in
set_option maxHeartbeats 4000000 in
theorem c_X14_isEndAt {G : xG} {n : Nat} {σ : xσ} {h : xH} {a0 : Nat} {a1 : Nat} {x2 : Int32} {a3 : Nat} {x4 : Int32} {v1 : Int32} {σ1 : xσ} (R : Rl n σ h) (hf : f_X14_isEndAt n a0 a1 x2 a3 x4 σ = some (v1, σ1)) : Ca G mX14_isEndAt [.ref a0, .ref a1, .int x2, .ref a3, .int x4] h (fun v h' => v = some (.int v1) ∧ Rl n σ1 h') := by
  refine Ca.of rfl (Nat.le_of_ble_eq_true rfl) ?_
  generalize hr : (v1, σ1) = r at hf
  suffices q : Go G mX14_isEndAt 0 (xent (xMl mX14_isEndAt) [.ref a0, .ref a1, .int x2, .ref a3, .int x4]) [] h (fun v h' => xRok (xRt mX14_isEndAt) v ∧ v = some (.int r.1) ∧ Rl n r.2 h') by
    subst hr
    exact q
  clear hr
  rw [f_X14_isEndAt] at hf
  obtain ⟨g0, hf⟩ := gd_some hf
  obtain ⟨g1, hf⟩ := gd_some hf
  obtain ⟨g3, hf⟩ := gd_some hf
  refine go_aload_n (i := 0) (pc' := 1) dX14_isEndAt_0 rfl rfl rfl ?_
  refine go_getS (pc' := 4) dX14_isEndAt_1 rfl gf_LandBaseModel_79 R (g0.at R) (by decide) rfl ?_
  refine go_iconst (v := 1) (pc' := 5) dX14_isEndAt_4 rfl (by decide) ?_
  refine go_isub (pc' := 6) dX14_isEndAt_5 rfl ?_
  obtain ⟨x101, e102, hf⟩ := st_some hf
  refine go_istoreE e102 (pc' := 8) dX14_isEndAt_6 rfl (by decide) rfl ?_
  refine go_aload_n (i := 0) (pc' := 9) dX14_isEndAt_8 rfl rfl rfl ?_
  obtain ⟨v103, σ104, e105, hf⟩ := bd_some hf
  refine go_invV (As := []) (pc' := 12) dX14_isEndAt_9 rfl cf_X14_isEndAt_86 rfl (R.ob (g0.at R)) rfl rfl (Nat.le_of_ble_eq_true rfl) (c_X12_isOpen R e105) (fun q106v h107 q106 => ?_)
  obtain ⟨rfl, R⟩ := q106
  refine go_if_ne (pc' := 15) (tgt := 17) dX14_isEndAt_12 (by decide) rfl (fun c108 => ?_) (fun c108 => ?_)
  · have hf := ie c108 hf
    refine go_aload_n (i := 1) (pc' := 18) dX14_isEndAt_17 rfl rfl rfl ?_
    refine go_iload_n (i := 2) (pc' := 19) dX14_isEndAt_18 rfl rfl rfl ?_
    refine go_aload_n (i := 0) (pc' := 20) dX14_isEndAt_19 rfl rfl rfl ?_
    refine go_getS (pc' := 23) dX14_isEndAt_20 rfl gf_LandBaseModel_30 R (g0.at R) (by decide) rfl ?_
    refine go_iconst (v := 0) (pc' := 24) dX14_isEndAt_23 rfl (by decide) ?_
    obtain ⟨g109, hf⟩ := gd_some hf
    refine go_ialoadS (pc' := 25) dX14_isEndAt_24 rfl R (g0.x R) g109 ?_
    refine go_aload_n (i := 0) (pc' := 26) dX14_isEndAt_25 rfl rfl rfl ?_
    refine go_getS (pc' := 29) dX14_isEndAt_26 rfl gf_LandBaseModel_36 R (g0.at R) (by decide) rfl ?_
    refine go_iconst (v := 0) (pc' := 30) dX14_isEndAt_29 rfl (by decide) ?_
    obtain ⟨g110, hf⟩ := gd_some hf
    refine go_ialoadS (pc' := 31) dX14_isEndAt_30 rfl R (g0.y R) g110 ?_
    obtain ⟨v111, σ112, e113, hf⟩ := bd_some hf
    refine go_invS (As := [_, _, _, _]) (pc' := 34) dX14_isEndAt_31 rfl cf_X14_isEndAt_71 rfl rfl (Nat.le_of_ble_eq_true rfl) (c_X14_isOn R e113) (fun q114v h115 q114 => ?_)
    obtain ⟨rfl, R⟩ := q114
    refine go_if_eq (pc' := 37) (tgt := 58) dX14_isEndAt_34 (by decide) rfl (fun c116 => ?_) (fun c116 => ?_)
    · have hf := it c116 hf
      refine go_aload_n (i := 1) (pc' := 59) dX14_isEndAt_58 rfl rfl rfl ?_
      refine go_iload_n (i := 2) (pc' := 60) dX14_isEndAt_59 rfl rfl rfl ?_
      refine go_aload_n (i := 0) (pc' := 61) dX14_isEndAt_60 rfl rfl rfl ?_
      refine go_getS (pc' := 64) dX14_isEndAt_61 rfl gf_LandBaseModel_30 R (g0.at R) (by decide) rfl ?_
      refine go_iload (pc' := 66) dX14_isEndAt_64 rfl rfl ?_
      obtain ⟨g117, hf⟩ := gd_some hf
      refine go_ialoadS (pc' := 67) dX14_isEndAt_66 rfl R (g0.x R) g117 ?_
      refine go_aload_n (i := 0) (pc' := 68) dX14_isEndAt_67 rfl rfl rfl ?_
      refine go_getS (pc' := 71) dX14_isEndAt_68 rfl gf_LandBaseModel_36 R (g0.at R) (by decide) rfl ?_
      refine go_iload (pc' := 73) dX14_isEndAt_71 rfl rfl ?_
      obtain ⟨g118, hf⟩ := gd_some hf
      refine go_ialoadS (pc' := 74) dX14_isEndAt_73 rfl R (g0.y R) g118 ?_
      obtain ⟨v119, σ120, e121, hf⟩ := bd_some hf
      refine go_invS (As := [_, _, _, _]) (pc' := 77) dX14_isEndAt_74 rfl cf_X14_isEndAt_71 rfl rfl (Nat.le_of_ble_eq_true rfl) (c_X14_isOn R e121) (fun q122v h123 q122 => ?_)
      obtain ⟨rfl, R⟩ := q122
      refine go_if_eq (pc' := 80) (tgt := 107) dX14_isEndAt_77 (by decide) rfl (fun c124 => ?_) (fun c124 => ?_)
      · have hf := it c124 hf
        refine go_iconst (v := 0) (pc' := 108) dX14_isEndAt_107 rfl (by decide) ?_
        obtain rfl := Option.some.inj hf
        exact Go.ret (v := some (.int _)) dX14_isEndAt_108 ⟨_, rfl⟩ ⟨rfl, rfl, R⟩
      · have hf := ie c124 hf
        refine go_aload_n (i := 3) (pc' := 81) dX14_isEndAt_80 rfl rfl rfl ?_
        refine go_iload (pc' := 83) dX14_isEndAt_81 rfl rfl ?_
        refine go_aload_n (i := 0) (pc' := 84) dX14_isEndAt_83 rfl rfl rfl ?_
        refine go_getS (pc' := 87) dX14_isEndAt_84 rfl gf_LandBaseModel_30 R (g0.at R) (by decide) rfl ?_
        refine go_iload (pc' := 89) dX14_isEndAt_87 rfl rfl ?_
        obtain ⟨g125, hf⟩ := gd_some hf
        refine go_ialoadS (pc' := 90) dX14_isEndAt_89 rfl R (g0.x R) g125 ?_
        refine go_aload_n (i := 0) (pc' := 91) dX14_isEndAt_90 rfl rfl rfl ?_
        refine go_getS (pc' := 94) dX14_isEndAt_91 rfl gf_LandBaseModel_36 R (g0.at R) (by decide) rfl ?_
        refine go_iload (pc' := 96) dX14_isEndAt_94 rfl rfl ?_
        obtain ⟨g126, hf⟩ := gd_some hf
        refine go_ialoadS (pc' := 97) dX14_isEndAt_96 rfl R (g0.y R) g126 ?_
        obtain ⟨v127, σ128, e129, hf⟩ := bd_some hf
        refine go_invS (As := [_, _, _, _]) (pc' := 100) dX14_isEndAt_97 rfl cf_X14_isEndAt_71 rfl rfl (Nat.le_of_ble_eq_true rfl) (c_X14_isOn R e129) (fun q130v h131 q130 => ?_)
        obtain ⟨rfl, R⟩ := q130
        refine go_if_eq (pc' := 103) (tgt := 107) dX14_isEndAt_100 (by decide) rfl (fun c132 => ?_) (fun c132 => ?_)
        · have hf := it c132 hf
          refine go_iconst (v := 0) (pc' := 108) dX14_isEndAt_107 rfl (by decide) ?_
          obtain rfl := Option.some.inj hf
          exact Go.ret (v := some (.int _)) dX14_isEndAt_108 ⟨_, rfl⟩ ⟨rfl, rfl, R⟩
        · have hf := ie c132 hf
          refine go_iconst (v := 1) (pc' := 104) dX14_isEndAt_103 rfl (by decide) ?_
          refine go_goto (pc' := 0) (tgt := 108) dX14_isEndAt_104 (by decide) ?_
          obtain rfl := Option.some.inj hf
          exact Go.ret (v := some (.int _)) dX14_isEndAt_108 ⟨_, rfl⟩ ⟨rfl, rfl, R⟩
    · have hf := ie c116 hf
      refine go_aload_n (i := 3) (pc' := 38) dX14_isEndAt_37 rfl rfl rfl ?_
      refine go_iload (pc' := 40) dX14_isEndAt_38 rfl rfl ?_
      refine go_aload_n (i := 0) (pc' := 41) dX14_isEndAt_40 rfl rfl rfl ?_
      refine go_getS (pc' := 44) dX14_isEndAt_41 rfl gf_LandBaseModel_30 R (g0.at R) (by decide) rfl ?_
      refine go_iconst (v := 0) (pc' := 45) dX14_isEndAt_44 rfl (by decide) ?_
      obtain ⟨g133, hf⟩ := gd_some hf
      refine go_ialoadS (pc' := 46) dX14_isEndAt_45 rfl R (g0.x R) g133 ?_
      refine go_aload_n (i := 0) (pc' := 47) dX14_isEndAt_46 rfl rfl rfl ?_
      refine go_getS (pc' := 50) dX14_isEndAt_47 rfl gf_LandBaseModel_36 R (g0.at R) (by decide) rfl ?_
      refine go_iconst (v := 0) (pc' := 51) dX14_isEndAt_50 rfl (by decide) ?_
      obtain ⟨g134, hf⟩ := gd_some hf
      refine go_ialoadS (pc' := 52) dX14_isEndAt_51 rfl R (g0.y R) g134 ?_
      obtain ⟨v135, σ136, e137, hf⟩ := bd_some hf
      refine go_invS (As := [_, _, _, _]) (pc' := 55) dX14_isEndAt_52 rfl cf_X14_isEndAt_71 rfl rfl (Nat.le_of_ble_eq_true rfl) (c_X14_isOn R e137) (fun q138v h139 q138 => ?_)
      obtain ⟨rfl, R⟩ := q138
      refine go_if_ne (pc' := 58) (tgt := 103) dX14_isEndAt_55 (by decide) rfl (fun c140 => ?_) (fun c140 => ?_)
      · have hf := ie c140 hf
        refine go_iconst (v := 1) (pc' := 104) dX14_isEndAt_103 rfl (by decide) ?_
        refine go_goto (pc' := 0) (tgt := 108) dX14_isEndAt_104 (by decide) ?_
        obtain rfl := Option.some.inj hf
        exact Go.ret (v := some (.int _)) dX14_isEndAt_108 ⟨_, rfl⟩ ⟨rfl, rfl, R⟩
      · have hf := it c140 hf
        refine go_aload_n (i := 1) (pc' := 59) dX14_isEndAt_58 rfl rfl rfl ?_
        refine go_iload_n (i := 2) (pc' := 60) dX14_isEndAt_59 rfl rfl rfl ?_
        refine go_aload_n (i := 0) (pc' := 61) dX14_isEndAt_60 rfl rfl rfl ?_
        refine go_getS (pc' := 64) dX14_isEndAt_61 rfl gf_LandBaseModel_30 R (g0.at R) (by decide) rfl ?_
        refine go_iload (pc' := 66) dX14_isEndAt_64 rfl rfl ?_
        obtain ⟨g141, hf⟩ := gd_some hf
        refine go_ialoadS (pc' := 67) dX14_isEndAt_66 rfl R (g0.x R) g141 ?_
        refine go_aload_n (i := 0) (pc' := 68) dX14_isEndAt_67 rfl rfl rfl ?_
        refine go_getS (pc' := 71) dX14_isEndAt_68 rfl gf_LandBaseModel_36 R (g0.at R) (by decide) rfl ?_
        refine go_iload (pc' := 73) dX14_isEndAt_71 rfl rfl ?_
        obtain ⟨g142, hf⟩ := gd_some hf
        refine go_ialoadS (pc' := 74) dX14_isEndAt_73 rfl R (g0.y R) g142 ?_
        obtain ⟨v143, σ144, e145, hf⟩ := bd_some hf
        refine go_invS (As := [_, _, _, _]) (pc' := 77) dX14_isEndAt_74 rfl cf_X14_isEndAt_71 rfl rfl (Nat.le_of_ble_eq_true rfl) (c_X14_isOn R e145) (fun q146v h147 q146 => ?_)
        obtain ⟨rfl, R⟩ := q146
        refine go_if_eq (pc' := 80) (tgt := 107) dX14_isEndAt_77 (by decide) rfl (fun c148 => ?_) (fun c148 => ?_)
        · have hf := it c148 hf
          refine go_iconst (v := 0) (pc' := 108) dX14_isEndAt_107 rfl (by decide) ?_
          obtain rfl := Option.some.inj hf
          exact Go.ret (v := some (.int _)) dX14_isEndAt_108 ⟨_, rfl⟩ ⟨rfl, rfl, R⟩
        · have hf := ie c148 hf
          refine go_aload_n (i := 3) (pc' := 81) dX14_isEndAt_80 rfl rfl rfl ?_
          refine go_iload (pc' := 83) dX14_isEndAt_81 rfl rfl ?_
          refine go_aload_n (i := 0) (pc' := 84) dX14_isEndAt_83 rfl rfl rfl ?_
          refine go_getS (pc' := 87) dX14_isEndAt_84 rfl gf_LandBaseModel_30 R (g0.at R) (by decide) rfl ?_
          refine go_iload (pc' := 89) dX14_isEndAt_87 rfl rfl ?_
          obtain ⟨g149, hf⟩ := gd_some hf
          refine go_ialoadS (pc' := 90) dX14_isEndAt_89 rfl R (g0.x R) g149 ?_
          refine go_aload_n (i := 0) (pc' := 91) dX14_isEndAt_90 rfl rfl rfl ?_
          refine go_getS (pc' := 94) dX14_isEndAt_91 rfl gf_LandBaseModel_36 R (g0.at R) (by decide) rfl ?_
          refine go_iload (pc' := 96) dX14_isEndAt_94 rfl rfl ?_
          obtain ⟨g150, hf⟩ := gd_some hf
          refine go_ialoadS (pc' := 97) dX14_isEndAt_96 rfl R (g0.y R) g150 ?_
          obtain ⟨v151, σ152, e153, hf⟩ := bd_some hf
          refine go_invS (As := [_, _, _, _]) (pc' := 100) dX14_isEndAt_97 rfl cf_X14_isEndAt_71 rfl rfl (Nat.le_of_ble_eq_true rfl) (c_X14_isOn R e153) (fun q154v h155 q154 => ?_)
          obtain ⟨rfl, R⟩ := q154
          refine go_if_eq (pc' := 103) (tgt := 107) dX14_isEndAt_100 (by decide) rfl (fun c156 => ?_) (fun c156 => ?_)
          · have hf := it c156 hf
            refine go_iconst (v := 0) (pc' := 108) dX14_isEndAt_107 rfl (by decide) ?_
            obtain rfl := Option.some.inj hf
            exact Go.ret (v := some (.int _)) dX14_isEndAt_108 ⟨_, rfl⟩ ⟨rfl, rfl, R⟩
          · have hf := ie c156 hf
            refine go_iconst (v := 1) (pc' := 104) dX14_isEndAt_103 rfl (by decide) ?_
            refine go_goto (pc' := 0) (tgt := 108) dX14_isEndAt_104 (by decide) ?_
            obtain rfl := Option.some.inj hf
            exact Go.ret (v := some (.int _)) dX14_isEndAt_108 ⟨_, rfl⟩ ⟨rfl, rfl, R⟩
  · have hf := it c108 hf
    refine go_iconst (v := 0) (pc' := 16) dX14_isEndAt_15 rfl (by decide) ?_
    obtain rfl := Option.some.inj hf
    exact Go.ret (v := some (.int _)) dX14_isEndAt_16 ⟨_, rfl⟩ ⟨rfl, rfl, R⟩
def f_X14_isInner (n : Nat) (a0 : Nat) (a1 : Nat) (a2 : Nat) (x3 : Int32) (σ : xσ) : Option (Int32 × xσ) := gd (okM a0) (gd (okM a1) (gd (okM a2) (gd (inb x3 40) (gd (inb x3 40) (bd (f_X14_locate n a0 (sI σ (a2 + 2) x3.toNatClampNeg) (sI σ (a2 + 3) x3.toNatClampNeg) σ) (fun v103 σ104 => if v103 = 1 then gd (inb x3 40) (gd (inb x3 40) (bd (f_X14_locate n a1 (sI σ104 (a2 + 2) x3.toNatClampNeg) (sI σ104 (a2 + 3) x3.toNatClampNeg) σ104) (fun v111 σ112 => if v111 = 1 then some (1, σ112) else some (0, σ112)))) else some (0, σ104)))))))
set_option maxRecDepth 100000 in
set_option maxHeartbeats 4000000 in
theorem c_X14_isInner {G : xG} {n : Nat} {σ : xσ} {h : xH} {a0 : Nat} {a1 : Nat} {a2 : Nat} {x3 : Int32} {v1 : Int32} {σ1 : xσ} (R : Rl n σ h) (hf : f_X14_isInner n a0 a1 a2 x3 σ = some (v1, σ1)) : Ca G mX14_isInner [.ref a0, .ref a1, .ref a2, .int x3] h (fun v h' => v = some (.int v1) ∧ Rl n σ1 h') := by
  refine Ca.of rfl (Nat.le_of_ble_eq_true rfl) ?_
  generalize hr : (v1, σ1) = r at hf
  suffices q : Go G mX14_isInner 0 (xent (xMl mX14_isInner) [.ref a0, .ref a1, .ref a2, .int x3]) [] h (fun v h' => xRok (xRt mX14_isInner) v ∧ v = some (.int r.1) ∧ Rl n r.2 h') by
    subst hr
    exact q
  clear hr
  rw [f_X14_isInner] at hf
  obtain ⟨g0, hf⟩ := gd_some hf
  obtain ⟨g1, hf⟩ := gd_some hf
  obtain ⟨g2, hf⟩ := gd_some hf
  refine go_aload_n (i := 0) (pc' := 1) dX14_isInner_0 rfl rfl rfl ?_
  refine go_aload_n (i := 2) (pc' := 2) dX14_isInner_1 rfl rfl rfl ?_
  refine go_getS (pc' := 5) dX14_isInner_2 rfl gf_LandBaseModel_30 R (g2.at R) (by decide) rfl ?_
  refine go_iload_n (i := 3) (pc' := 6) dX14_isInner_5 rfl rfl rfl ?_
  obtain ⟨g101, hf⟩ := gd_some hf
  refine go_ialoadS (pc' := 7) dX14_isInner_6 rfl R (g2.x R) g101 ?_
  refine go_aload_n (i := 2) (pc' := 8) dX14_isInner_7 rfl rfl rfl ?_
  refine go_getS (pc' := 11) dX14_isInner_8 rfl gf_LandBaseModel_36 R (g2.at R) (by decide) rfl ?_
  refine go_iload_n (i := 3) (pc' := 12) dX14_isInner_11 rfl rfl rfl ?_
  obtain ⟨g102, hf⟩ := gd_some hf
  refine go_ialoadS (pc' := 13) dX14_isInner_12 rfl R (g2.y R) g102 ?_
  obtain ⟨v103, σ104, e105, hf⟩ := bd_some hf
  refine go_invS (As := [_, _, _]) (pc' := 16) dX14_isInner_13 rfl cf_X14_isInner_197 rfl rfl (Nat.le_of_ble_eq_true rfl) (c_X14_locate R e105) (fun q106v h107 q106 => ?_)
  obtain ⟨rfl, R⟩ := q106
  refine go_iconst (v := 1) (pc' := 17) dX14_isInner_16 rfl (by decide) ?_
  refine go_icmp_ne (pc' := 20) (tgt := 44) dX14_isInner_17 (by decide) rfl (fun c108 => ?_) (fun c108 => ?_)
  · have hf := ie c108 hf
    refine go_iconst (v := 0) (pc' := 45) dX14_isInner_44 rfl (by decide) ?_
    obtain rfl := Option.some.inj hf
    exact Go.ret (v := some (.int _)) dX14_isInner_45 ⟨_, rfl⟩ ⟨rfl, rfl, R⟩
  · have hf := it c108 hf
    refine go_aload_n (i := 1) (pc' := 21) dX14_isInner_20 rfl rfl rfl ?_
    refine go_aload_n (i := 2) (pc' := 22) dX14_isInner_21 rfl rfl rfl ?_
    refine go_getS (pc' := 25) dX14_isInner_22 rfl gf_LandBaseModel_30 R (g2.at R) (by decide) rfl ?_
    refine go_iload_n (i := 3) (pc' := 26) dX14_isInner_25 rfl rfl rfl ?_
    obtain ⟨g109, hf⟩ := gd_some hf
    refine go_ialoadS (pc' := 27) dX14_isInner_26 rfl R (g2.x R) g109 ?_
    refine go_aload_n (i := 2) (pc' := 28) dX14_isInner_27 rfl rfl rfl ?_
    refine go_getS (pc' := 31) dX14_isInner_28 rfl gf_LandBaseModel_36 R (g2.at R) (by decide) rfl ?_
    refine go_iload_n (i := 3) (pc' := 32) dX14_isInner_31 rfl rfl rfl ?_
    obtain ⟨g110, hf⟩ := gd_some hf
    refine go_ialoadS (pc' := 33) dX14_isInner_32 rfl R (g2.y R) g110 ?_
    obtain ⟨v111, σ112, e113, hf⟩ := bd_some hf
    refine go_invS (As := [_, _, _]) (pc' := 36) dX14_isInner_33 rfl cf_X14_isInner_197 rfl rfl (Nat.le_of_ble_eq_true rfl) (c_X14_locate R e113) (fun q114v h115 q114 => ?_)
    obtain ⟨rfl, R⟩ := q114
    refine go_iconst (v := 1) (pc' := 37) dX14_isInner_36 rfl (by decide) ?_
    refine go_icmp_ne (pc' := 40) (tgt := 44) dX14_isInner_37 (by decide) rfl (fun c116 => ?_) (fun c116 => ?_)
    · have hf := ie c116 hf
      refine go_iconst (v := 0) (pc' := 45) dX14_isInner_44 rfl (by decide) ?_
      obtain rfl := Option.some.inj hf
      exact Go.ret (v := some (.int _)) dX14_isInner_45 ⟨_, rfl⟩ ⟨rfl, rfl, R⟩
    · have hf := it c116 hf
      refine go_iconst (v := 1) (pc' := 41) dX14_isInner_40 rfl (by decide) ?_
      refine go_goto (pc' := 0) (tgt := 45) dX14_isInner_41 (by decide) ?_
      obtain rfl := Option.some.inj hf
      exact Go.ret (v := some (.int _)) dX14_isInner_45 ⟨_, rfl⟩ ⟨rfl, rfl, R⟩
def b_X14_crossInside_137 (n : Nat) (k2 : Nat → Nat → Int32 → xσ → Option (Int32 × xσ)) (k15 : Nat → Nat → Int32 → Int32 → xσ → Option (Int32 × xσ)) (a1 : Nat) (a2 : Nat) (x3 : Int32) (x4 : Int32) (σ : xσ) : Option (Int32 × xσ) := k15 a1 a2 x3 (x4 + 1) σ
set_option maxRecDepth 100000 in
set_option maxHeartbeats 4000000 in
theorem t_X14_crossInside_137 {G : xG} {n : Nat} {k2 : Nat → Nat → Int32 → xσ → Option (Int32 × xσ)} {k15 : Nat → Nat → Int32 → Int32 → xσ → Option (Int32 × xσ)} (hk2 : ∀ {a1 : Nat} {a2 : Nat} {x3 : Int32} {σ : xσ} {h : xH} {r : Int32 × xσ} {d4 : Option Value}, Rl n σ h → okM a1 → okM a2 → k2 a1 a2 x3 σ = some r → Go G mX14_crossInside 2 [some (.ref 233), some (.ref a1), some (.ref a2), some (.int x3), d4] [] h (fun v h' => xRok (xRt mX14_crossInside) v ∧ v = some (.int r.1) ∧ Rl n r.2 h')) (hk15 : ∀ {a1 : Nat} {a2 : Nat} {x3 : Int32} {x4 : Int32} {σ : xσ} {h : xH} {r : Int32 × xσ}, Rl n σ h → okM a1 → okM a2 → k15 a1 a2 x3 x4 σ = some r → Go G mX14_crossInside 15 [some (.ref 233), some (.ref a1), some (.ref a2), some (.int x3), some (.int x4)] [] h (fun v h' => xRok (xRt mX14_crossInside) v ∧ v = some (.int r.1) ∧ Rl n r.2 h')) {a1 : Nat} {a2 : Nat} {x3 : Int32} {x4 : Int32} {σ : xσ} {h : xH} {r : Int32 × xσ} : Rl n σ h → okM a1 → okM a2 → b_X14_crossInside_137 n k2 k15 a1 a2 x3 x4 σ = some r → Go G mX14_crossInside 137 [some (.ref 233), some (.ref a1), some (.ref a2), some (.int x3), some (.int x4)] [] h (fun v h' => xRok (xRt mX14_crossInside) v ∧ v = some (.int r.1) ∧ Rl n r.2 h') := by
  intro R g1 g2 hf
  rw [b_X14_crossInside_137] at hf
  refine go_iincC (kk := 1) (pc' := 140) dX14_crossInside_137 rfl rfl (by decide) (by decide) rfl ?_
  refine go_goto (pc' := 0) (tgt := 15) dX14_crossInside_140 (by decide) ?_
  exact hk15 R g1 g2 hf
def l_X14_crossInside_15 (n : Nat) (k2 : Nat → Nat → Int32 → xσ → Option (Int32 × xσ)) : Nat → Nat → Nat → Int32 → Int32 → xσ → Option (Int32 × xσ)
  | 0, _, _, _, _, _ => none
  | f + 1, a1, a2, x3, x4, σ => if (sI σ a2 2) ≤ (x4 + 1) then k2 a1 a2 (x3 + 1) σ else bd (f_X14_meet n a1 x3 a2 x4 σ) (fun v102 σ103 => if v102 = 0 then b_X14_crossInside_137 n k2 (l_X14_crossInside_15 n k2 f) a1 a2 x3 x4 σ103 else bd (f_X14_meetWays n a1 x3 a2 x4 σ103) (fun v108 σ109 => if (sI σ109 233 8) = 0 then if (sI σ109 233 9) = 0 then (l_X14_crossInside_15 n k2 f) a1 a2 x3 (x4 + 1) σ109 else bd (f_X14_isInner n a1 a2 a1 x3 σ109) (fun v115 σ116 => if v115 = 0 then bd (f_X14_isInner n a1 a2 a1 (x3 + 1) σ116) (fun v121 σ122 => if v121 = 0 then bd (f_X14_isInner n a1 a2 a2 x4 σ122) (fun v127 σ128 => if v127 = 0 then bd (f_X14_isInner n a1 a2 a2 (x4 + 1) σ128) (fun v133 σ134 => if v133 = 0 then (l_X14_crossInside_15 n k2 f) a1 a2 x3 (x4 + 1) σ134 else some (1, σ134)) else some (1, σ128)) else some (1, σ122)) else some (1, σ116)) else bd (f_X14_isEndAt n a1 a1 x3 a2 x4 σ109) (fun v139 σ140 => if v139 = 0 then bd (f_X14_isEndAt n a2 a1 x3 a2 x4 σ140) (fun v170 σ171 => if v170 = 0 then some (1, σ171) else if (sI σ171 233 9) = 0 then (l_X14_crossInside_15 n k2 f) a1 a2 x3 (x4 + 1) σ171 else bd (f_X14_isInner n a1 a2 a1 x3 σ171) (fun v177 σ178 => if v177 = 0 then bd (f_X14_isInner n a1 a2 a1 (x3 + 1) σ178) (fun v183 σ184 => if v183 = 0 then bd (f_X14_isInner n a1 a2 a2 x4 σ184) (fun v189 σ190 => if v189 = 0 then bd (f_X14_isInner n a1 a2 a2 (x4 + 1) σ190) (fun v195 σ196 => if v195 = 0 then (l_X14_crossInside_15 n k2 f) a1 a2 x3 (x4 + 1) σ196 else some (1, σ196)) else some (1, σ190)) else some (1, σ184)) else some (1, σ178))) else if (sI σ140 233 9) = 0 then (l_X14_crossInside_15 n k2 f) a1 a2 x3 (x4 + 1) σ140 else bd (f_X14_isInner n a1 a2 a1 x3 σ140) (fun v146 σ147 => if v146 = 0 then bd (f_X14_isInner n a1 a2 a1 (x3 + 1) σ147) (fun v152 σ153 => if v152 = 0 then bd (f_X14_isInner n a1 a2 a2 x4 σ153) (fun v158 σ159 => if v158 = 0 then bd (f_X14_isInner n a1 a2 a2 (x4 + 1) σ159) (fun v164 σ165 => if v164 = 0 then (l_X14_crossInside_15 n k2 f) a1 a2 x3 (x4 + 1) σ165 else some (1, σ165)) else some (1, σ159)) else some (1, σ153)) else some (1, σ147)))))
set_option maxRecDepth 100000 in
set_option maxHeartbeats 4000000 in
theorem t_X14_crossInside_15 {G : xG} {n : Nat} {k2 : Nat → Nat → Int32 → xσ → Option (Int32 × xσ)} (hk2 : ∀ {a1 : Nat} {a2 : Nat} {x3 : Int32} {σ : xσ} {h : xH} {r : Int32 × xσ} {d4 : Option Value}, Rl n σ h → okM a1 → okM a2 → k2 a1 a2 x3 σ = some r → Go G mX14_crossInside 2 [some (.ref 233), some (.ref a1), some (.ref a2), some (.int x3), d4] [] h (fun v h' => xRok (xRt mX14_crossInside) v ∧ v = some (.int r.1) ∧ Rl n r.2 h')) : ∀ (f : Nat) {a1 : Nat} {a2 : Nat} {x3 : Int32} {x4 : Int32} {σ : xσ} {h : xH} {r : Int32 × xσ}, Rl n σ h → okM a1 → okM a2 → l_X14_crossInside_15 n k2 f a1 a2 x3 x4 σ = some r → Go G mX14_crossInside 15 [some (.ref 233), some (.ref a1), some (.ref a2), some (.int x3), some (.int x4)] [] h (fun v h' => xRok (xRt mX14_crossInside) v ∧ v = some (.int r.1) ∧ Rl n r.2 h') := by
  intro f
  induction f with
  | zero =>
    intros
    rename _ = some _ => hf
    rw [l_X14_crossInside_15] at hf
    cases hf
  | succ f ih =>
    intro a1 a2 x3 x4 σ h r  R g1 g2 hf
    rw [l_X14_crossInside_15] at hf
    refine go_iload (pc' := 17) dX14_crossInside_15 rfl rfl ?_
    refine go_iconst (v := 1) (pc' := 18) dX14_crossInside_17 rfl (by decide) ?_
    refine go_iadd (pc' := 19) dX14_crossInside_18 rfl ?_
    refine go_aload_n (i := 2) (pc' := 20) dX14_crossInside_19 rfl rfl rfl ?_
    refine go_getS (pc' := 23) dX14_crossInside_20 rfl gf_LandBaseModel_79 R (g2.at R) (by decide) rfl ?_
    refine go_icmp_ge (pc' := 26) (tgt := 143) dX14_crossInside_23 (by decide) rfl (fun c101 => ?_) (fun c101 => ?_)
    · have hf := it c101 hf
      refine go_iincC (kk := 1) (pc' := 146) dX14_crossInside_143 rfl rfl (by decide) (by decide) rfl ?_
      refine go_goto (pc' := 0) (tgt := 2) dX14_crossInside_146 (by decide) ?_
      exact hk2 R g1 g2 hf
    · have hf := ie c101 hf
      refine go_aload_n (i := 1) (pc' := 27) dX14_crossInside_26 rfl rfl rfl ?_
      refine go_iload_n (i := 3) (pc' := 28) dX14_crossInside_27 rfl rfl rfl ?_
      refine go_aload_n (i := 2) (pc' := 29) dX14_crossInside_28 rfl rfl rfl ?_
      refine go_iload (pc' := 31) dX14_crossInside_29 rfl rfl ?_
      obtain ⟨v102, σ103, e104, hf⟩ := bd_some hf
      refine go_invS (As := [_, _, _, _]) (pc' := 34) dX14_crossInside_31 rfl cf_X14_crossInside_209 rfl rfl (Nat.le_of_ble_eq_true rfl) (c_X14_meet R e104) (fun q105v h106 q105 => ?_)
      obtain ⟨rfl, R⟩ := q105
      refine go_if_ne (pc' := 37) (tgt := 40) dX14_crossInside_34 (by decide) rfl (fun c107 => ?_) (fun c107 => ?_)
      · have hf := ie c107 hf
        refine go_aload_n (i := 0) (pc' := 41) dX14_crossInside_40 rfl rfl rfl ?_
        refine go_aload_n (i := 1) (pc' := 42) dX14_crossInside_41 rfl rfl rfl ?_
        refine go_iload_n (i := 3) (pc' := 43) dX14_crossInside_42 rfl rfl rfl ?_
        refine go_aload_n (i := 2) (pc' := 44) dX14_crossInside_43 rfl rfl rfl ?_
        refine go_iload (pc' := 46) dX14_crossInside_44 rfl rfl ?_
        obtain ⟨v108, σ109, e110, hf⟩ := bd_some hf
        refine go_invV (As := [_, _, _, _]) (pc' := 49) dX14_crossInside_46 rfl cf_X14_crossInside_144 rfl (R.ob (R.at rfl (by decide))) rfl rfl (Nat.le_of_ble_eq_true rfl) (c_X14_meetWays R e110) (fun q111v h112 q111 => ?_)
        obtain ⟨rfl, R⟩ := q111
        refine go_aload_n (i := 0) (pc' := 50) dX14_crossInside_49 rfl rfl rfl ?_
        refine go_getS (pc' := 53) dX14_crossInside_50 rfl gf_LandBaseModel_102 R (R.at rfl (by decide)) (by decide) rfl ?_
        refine go_if_eq (pc' := 56) (tgt := 82) dX14_crossInside_53 (by decide) rfl (fun c113 => ?_) (fun c113 => ?_)
        · have hf := it c113 hf
          refine go_aload_n (i := 0) (pc' := 83) dX14_crossInside_82 rfl rfl rfl ?_
          refine go_getS (pc' := 86) dX14_crossInside_83 rfl gf_LandBaseModel_98 R (R.at rfl (by decide)) (by decide) rfl ?_
          refine go_if_eq (pc' := 89) (tgt := 137) dX14_crossInside_86 (by decide) rfl (fun c114 => ?_) (fun c114 => ?_)
          · have hf := it c114 hf
            refine go_iincC (kk := 1) (pc' := 140) dX14_crossInside_137 rfl rfl (by decide) (by decide) rfl ?_
            refine go_goto (pc' := 0) (tgt := 15) dX14_crossInside_140 (by decide) ?_
            exact ih R g1 g2 hf
          · have hf := ie c114 hf
            refine go_aload_n (i := 1) (pc' := 90) dX14_crossInside_89 rfl rfl rfl ?_
            refine go_aload_n (i := 2) (pc' := 91) dX14_crossInside_90 rfl rfl rfl ?_
            refine go_aload_n (i := 1) (pc' := 92) dX14_crossInside_91 rfl rfl rfl ?_
            refine go_iload_n (i := 3) (pc' := 93) dX14_crossInside_92 rfl rfl rfl ?_
            obtain ⟨v115, σ116, e117, hf⟩ := bd_some hf
            refine go_invS (As := [_, _, _, _]) (pc' := 96) dX14_crossInside_93 rfl cf_X14_crossInside_231 rfl rfl (Nat.le_of_ble_eq_true rfl) (c_X14_isInner R e117) (fun q118v h119 q118 => ?_)
            obtain ⟨rfl, R⟩ := q118
            refine go_if_ne (pc' := 99) (tgt := 135) dX14_crossInside_96 (by decide) rfl (fun c120 => ?_) (fun c120 => ?_)
            · have hf := ie c120 hf
              refine go_iconst (v := 1) (pc' := 136) dX14_crossInside_135 rfl (by decide) ?_
              obtain rfl := Option.some.inj hf
              exact Go.ret (v := some (.int _)) dX14_crossInside_136 ⟨_, rfl⟩ ⟨rfl, rfl, R⟩
            · have hf := it c120 hf
              refine go_aload_n (i := 1) (pc' := 100) dX14_crossInside_99 rfl rfl rfl ?_
              refine go_aload_n (i := 2) (pc' := 101) dX14_crossInside_100 rfl rfl rfl ?_
              refine go_aload_n (i := 1) (pc' := 102) dX14_crossInside_101 rfl rfl rfl ?_
              refine go_iload_n (i := 3) (pc' := 103) dX14_crossInside_102 rfl rfl rfl ?_
              refine go_iconst (v := 1) (pc' := 104) dX14_crossInside_103 rfl (by decide) ?_
              refine go_iadd (pc' := 105) dX14_crossInside_104 rfl ?_
              obtain ⟨v121, σ122, e123, hf⟩ := bd_some hf
              refine go_invS (As := [_, _, _, _]) (pc' := 108) dX14_crossInside_105 rfl cf_X14_crossInside_231 rfl rfl (Nat.le_of_ble_eq_true rfl) (c_X14_isInner R e123) (fun q124v h125 q124 => ?_)
              obtain ⟨rfl, R⟩ := q124
              refine go_if_ne (pc' := 111) (tgt := 135) dX14_crossInside_108 (by decide) rfl (fun c126 => ?_) (fun c126 => ?_)
              · have hf := ie c126 hf
                refine go_iconst (v := 1) (pc' := 136) dX14_crossInside_135 rfl (by decide) ?_
                obtain rfl := Option.some.inj hf
                exact Go.ret (v := some (.int _)) dX14_crossInside_136 ⟨_, rfl⟩ ⟨rfl, rfl, R⟩
              · have hf := it c126 hf
                refine go_aload_n (i := 1) (pc' := 112) dX14_crossInside_111 rfl rfl rfl ?_
                refine go_aload_n (i := 2) (pc' := 113) dX14_crossInside_112 rfl rfl rfl ?_
                refine go_aload_n (i := 2) (pc' := 114) dX14_crossInside_113 rfl rfl rfl ?_
                refine go_iload (pc' := 116) dX14_crossInside_114 rfl rfl ?_
                obtain ⟨v127, σ128, e129, hf⟩ := bd_some hf
                refine go_invS (As := [_, _, _, _]) (pc' := 119) dX14_crossInside_116 rfl cf_X14_crossInside_231 rfl rfl (Nat.le_of_ble_eq_true rfl) (c_X14_isInner R e129) (fun q130v h131 q130 => ?_)
                obtain ⟨rfl, R⟩ := q130
                refine go_if_ne (pc' := 122) (tgt := 135) dX14_crossInside_119 (by decide) rfl (fun c132 => ?_) (fun c132 => ?_)
                · have hf := ie c132 hf
                  refine go_iconst (v := 1) (pc' := 136) dX14_crossInside_135 rfl (by decide) ?_
                  obtain rfl := Option.some.inj hf
                  exact Go.ret (v := some (.int _)) dX14_crossInside_136 ⟨_, rfl⟩ ⟨rfl, rfl, R⟩
                · have hf := it c132 hf
                  refine go_aload_n (i := 1) (pc' := 123) dX14_crossInside_122 rfl rfl rfl ?_
                  refine go_aload_n (i := 2) (pc' := 124) dX14_crossInside_123 rfl rfl rfl ?_
                  refine go_aload_n (i := 2) (pc' := 125) dX14_crossInside_124 rfl rfl rfl ?_
                  refine go_iload (pc' := 127) dX14_crossInside_125 rfl rfl ?_
                  refine go_iconst (v := 1) (pc' := 128) dX14_crossInside_127 rfl (by decide) ?_
                  refine go_iadd (pc' := 129) dX14_crossInside_128 rfl ?_
                  obtain ⟨v133, σ134, e135, hf⟩ := bd_some hf
                  refine go_invS (As := [_, _, _, _]) (pc' := 132) dX14_crossInside_129 rfl cf_X14_crossInside_231 rfl rfl (Nat.le_of_ble_eq_true rfl) (c_X14_isInner R e135) (fun q136v h137 q136 => ?_)
                  obtain ⟨rfl, R⟩ := q136
                  refine go_if_eq (pc' := 135) (tgt := 137) dX14_crossInside_132 (by decide) rfl (fun c138 => ?_) (fun c138 => ?_)
                  · have hf := it c138 hf
                    refine go_iincC (kk := 1) (pc' := 140) dX14_crossInside_137 rfl rfl (by decide) (by decide) rfl ?_
                    refine go_goto (pc' := 0) (tgt := 15) dX14_crossInside_140 (by decide) ?_
                    exact ih R g1 g2 hf
                  · have hf := ie c138 hf
                    refine go_iconst (v := 1) (pc' := 136) dX14_crossInside_135 rfl (by decide) ?_
                    obtain rfl := Option.some.inj hf
                    exact Go.ret (v := some (.int _)) dX14_crossInside_136 ⟨_, rfl⟩ ⟨rfl, rfl, R⟩
        · have hf := ie c113 hf
          refine go_aload_n (i := 1) (pc' := 57) dX14_crossInside_56 rfl rfl rfl ?_
          refine go_aload_n (i := 1) (pc' := 58) dX14_crossInside_57 rfl rfl rfl ?_
          refine go_iload_n (i := 3) (pc' := 59) dX14_crossInside_58 rfl rfl rfl ?_
          refine go_aload_n (i := 2) (pc' := 60) dX14_crossInside_59 rfl rfl rfl ?_
          refine go_iload (pc' := 62) dX14_crossInside_60 rfl rfl ?_
          obtain ⟨v139, σ140, e141, hf⟩ := bd_some hf
          refine go_invS (As := [_, _, _, _, _]) (pc' := 65) dX14_crossInside_62 rfl cf_X14_crossInside_227 rfl rfl (Nat.le_of_ble_eq_true rfl) (c_X14_isEndAt R e141) (fun q142v h143 q142 => ?_)
          obtain ⟨rfl, R⟩ := q142
          refine go_if_ne (pc' := 68) (tgt := 82) dX14_crossInside_65 (by decide) rfl (fun c144 => ?_) (fun c144 => ?_)
          · have hf := ie c144 hf
            refine go_aload_n (i := 0) (pc' := 83) dX14_crossInside_82 rfl rfl rfl ?_
            refine go_getS (pc' := 86) dX14_crossInside_83 rfl gf_LandBaseModel_98 R (R.at rfl (by decide)) (by decide) rfl ?_
            refine go_if_eq (pc' := 89) (tgt := 137) dX14_crossInside_86 (by decide) rfl (fun c145 => ?_) (fun c145 => ?_)
            · have hf := it c145 hf
              refine go_iincC (kk := 1) (pc' := 140) dX14_crossInside_137 rfl rfl (by decide) (by decide) rfl ?_
              refine go_goto (pc' := 0) (tgt := 15) dX14_crossInside_140 (by decide) ?_
              exact ih R g1 g2 hf
            · have hf := ie c145 hf
              refine go_aload_n (i := 1) (pc' := 90) dX14_crossInside_89 rfl rfl rfl ?_
              refine go_aload_n (i := 2) (pc' := 91) dX14_crossInside_90 rfl rfl rfl ?_
              refine go_aload_n (i := 1) (pc' := 92) dX14_crossInside_91 rfl rfl rfl ?_
              refine go_iload_n (i := 3) (pc' := 93) dX14_crossInside_92 rfl rfl rfl ?_
              obtain ⟨v146, σ147, e148, hf⟩ := bd_some hf
              refine go_invS (As := [_, _, _, _]) (pc' := 96) dX14_crossInside_93 rfl cf_X14_crossInside_231 rfl rfl (Nat.le_of_ble_eq_true rfl) (c_X14_isInner R e148) (fun q149v h150 q149 => ?_)
              obtain ⟨rfl, R⟩ := q149
              refine go_if_ne (pc' := 99) (tgt := 135) dX14_crossInside_96 (by decide) rfl (fun c151 => ?_) (fun c151 => ?_)
              · have hf := ie c151 hf
                refine go_iconst (v := 1) (pc' := 136) dX14_crossInside_135 rfl (by decide) ?_
                obtain rfl := Option.some.inj hf
                exact Go.ret (v := some (.int _)) dX14_crossInside_136 ⟨_, rfl⟩ ⟨rfl, rfl, R⟩
              · have hf := it c151 hf
                refine go_aload_n (i := 1) (pc' := 100) dX14_crossInside_99 rfl rfl rfl ?_
                refine go_aload_n (i := 2) (pc' := 101) dX14_crossInside_100 rfl rfl rfl ?_
                refine go_aload_n (i := 1) (pc' := 102) dX14_crossInside_101 rfl rfl rfl ?_
                refine go_iload_n (i := 3) (pc' := 103) dX14_crossInside_102 rfl rfl rfl ?_
                refine go_iconst (v := 1) (pc' := 104) dX14_crossInside_103 rfl (by decide) ?_
                refine go_iadd (pc' := 105) dX14_crossInside_104 rfl ?_
                obtain ⟨v152, σ153, e154, hf⟩ := bd_some hf
                refine go_invS (As := [_, _, _, _]) (pc' := 108) dX14_crossInside_105 rfl cf_X14_crossInside_231 rfl rfl (Nat.le_of_ble_eq_true rfl) (c_X14_isInner R e154) (fun q155v h156 q155 => ?_)
                obtain ⟨rfl, R⟩ := q155
                refine go_if_ne (pc' := 111) (tgt := 135) dX14_crossInside_108 (by decide) rfl (fun c157 => ?_) (fun c157 => ?_)
                · have hf := ie c157 hf
                  refine go_iconst (v := 1) (pc' := 136) dX14_crossInside_135 rfl (by decide) ?_
                  obtain rfl := Option.some.inj hf
                  exact Go.ret (v := some (.int _)) dX14_crossInside_136 ⟨_, rfl⟩ ⟨rfl, rfl, R⟩
                · have hf := it c157 hf
                  refine go_aload_n (i := 1) (pc' := 112) dX14_crossInside_111 rfl rfl rfl ?_
                  refine go_aload_n (i := 2) (pc' := 113) dX14_crossInside_112 rfl rfl rfl ?_
                  refine go_aload_n (i := 2) (pc' := 114) dX14_crossInside_113 rfl rfl rfl ?_
                  refine go_iload (pc' := 116) dX14_crossInside_114 rfl rfl ?_
                  obtain ⟨v158, σ159, e160, hf⟩ := bd_some hf
                  refine go_invS (As := [_, _, _, _]) (pc' := 119) dX14_crossInside_116 rfl cf_X14_crossInside_231 rfl rfl (Nat.le_of_ble_eq_true rfl) (c_X14_isInner R e160) (fun q161v h162 q161 => ?_)
                  obtain ⟨rfl, R⟩ := q161
                  refine go_if_ne (pc' := 122) (tgt := 135) dX14_crossInside_119 (by decide) rfl (fun c163 => ?_) (fun c163 => ?_)
                  · have hf := ie c163 hf
                    refine go_iconst (v := 1) (pc' := 136) dX14_crossInside_135 rfl (by decide) ?_
                    obtain rfl := Option.some.inj hf
                    exact Go.ret (v := some (.int _)) dX14_crossInside_136 ⟨_, rfl⟩ ⟨rfl, rfl, R⟩
                  · have hf := it c163 hf
                    refine go_aload_n (i := 1) (pc' := 123) dX14_crossInside_122 rfl rfl rfl ?_
                    refine go_aload_n (i := 2) (pc' := 124) dX14_crossInside_123 rfl rfl rfl ?_
                    refine go_aload_n (i := 2) (pc' := 125) dX14_crossInside_124 rfl rfl rfl ?_
                    refine go_iload (pc' := 127) dX14_crossInside_125 rfl rfl ?_
                    refine go_iconst (v := 1) (pc' := 128) dX14_crossInside_127 rfl (by decide) ?_
                    refine go_iadd (pc' := 129) dX14_crossInside_128 rfl ?_
                    obtain ⟨v164, σ165, e166, hf⟩ := bd_some hf
                    refine go_invS (As := [_, _, _, _]) (pc' := 132) dX14_crossInside_129 rfl cf_X14_crossInside_231 rfl rfl (Nat.le_of_ble_eq_true rfl) (c_X14_isInner R e166) (fun q167v h168 q167 => ?_)
                    obtain ⟨rfl, R⟩ := q167
                    refine go_if_eq (pc' := 135) (tgt := 137) dX14_crossInside_132 (by decide) rfl (fun c169 => ?_) (fun c169 => ?_)
                    · have hf := it c169 hf
                      refine go_iincC (kk := 1) (pc' := 140) dX14_crossInside_137 rfl rfl (by decide) (by decide) rfl ?_
                      refine go_goto (pc' := 0) (tgt := 15) dX14_crossInside_140 (by decide) ?_
                      exact ih R g1 g2 hf
                    · have hf := ie c169 hf
                      refine go_iconst (v := 1) (pc' := 136) dX14_crossInside_135 rfl (by decide) ?_
                      obtain rfl := Option.some.inj hf
                      exact Go.ret (v := some (.int _)) dX14_crossInside_136 ⟨_, rfl⟩ ⟨rfl, rfl, R⟩
          · have hf := it c144 hf
            refine go_aload_n (i := 2) (pc' := 69) dX14_crossInside_68 rfl rfl rfl ?_
            refine go_aload_n (i := 1) (pc' := 70) dX14_crossInside_69 rfl rfl rfl ?_
            refine go_iload_n (i := 3) (pc' := 71) dX14_crossInside_70 rfl rfl rfl ?_
            refine go_aload_n (i := 2) (pc' := 72) dX14_crossInside_71 rfl rfl rfl ?_
            refine go_iload (pc' := 74) dX14_crossInside_72 rfl rfl ?_
            obtain ⟨v170, σ171, e172, hf⟩ := bd_some hf
            refine go_invS (As := [_, _, _, _, _]) (pc' := 77) dX14_crossInside_74 rfl cf_X14_crossInside_227 rfl rfl (Nat.le_of_ble_eq_true rfl) (c_X14_isEndAt R e172) (fun q173v h174 q173 => ?_)
            obtain ⟨rfl, R⟩ := q173
            refine go_if_ne (pc' := 80) (tgt := 82) dX14_crossInside_77 (by decide) rfl (fun c175 => ?_) (fun c175 => ?_)
            · have hf := ie c175 hf
              refine go_aload_n (i := 0) (pc' := 83) dX14_crossInside_82 rfl rfl rfl ?_
              refine go_getS (pc' := 86) dX14_crossInside_83 rfl gf_LandBaseModel_98 R (R.at rfl (by decide)) (by decide) rfl ?_
              refine go_if_eq (pc' := 89) (tgt := 137) dX14_crossInside_86 (by decide) rfl (fun c176 => ?_) (fun c176 => ?_)
              · have hf := it c176 hf
                refine go_iincC (kk := 1) (pc' := 140) dX14_crossInside_137 rfl rfl (by decide) (by decide) rfl ?_
                refine go_goto (pc' := 0) (tgt := 15) dX14_crossInside_140 (by decide) ?_
                exact ih R g1 g2 hf
              · have hf := ie c176 hf
                refine go_aload_n (i := 1) (pc' := 90) dX14_crossInside_89 rfl rfl rfl ?_
                refine go_aload_n (i := 2) (pc' := 91) dX14_crossInside_90 rfl rfl rfl ?_
                refine go_aload_n (i := 1) (pc' := 92) dX14_crossInside_91 rfl rfl rfl ?_
                refine go_iload_n (i := 3) (pc' := 93) dX14_crossInside_92 rfl rfl rfl ?_
                obtain ⟨v177, σ178, e179, hf⟩ := bd_some hf
                refine go_invS (As := [_, _, _, _]) (pc' := 96) dX14_crossInside_93 rfl cf_X14_crossInside_231 rfl rfl (Nat.le_of_ble_eq_true rfl) (c_X14_isInner R e179) (fun q180v h181 q180 => ?_)
                obtain ⟨rfl, R⟩ := q180
                refine go_if_ne (pc' := 99) (tgt := 135) dX14_crossInside_96 (by decide) rfl (fun c182 => ?_) (fun c182 => ?_)
                · have hf := ie c182 hf
                  refine go_iconst (v := 1) (pc' := 136) dX14_crossInside_135 rfl (by decide) ?_
                  obtain rfl := Option.some.inj hf
                  exact Go.ret (v := some (.int _)) dX14_crossInside_136 ⟨_, rfl⟩ ⟨rfl, rfl, R⟩
                · have hf := it c182 hf
                  refine go_aload_n (i := 1) (pc' := 100) dX14_crossInside_99 rfl rfl rfl ?_
                  refine go_aload_n (i := 2) (pc' := 101) dX14_crossInside_100 rfl rfl rfl ?_
                  refine go_aload_n (i := 1) (pc' := 102) dX14_crossInside_101 rfl rfl rfl ?_
                  refine go_iload_n (i := 3) (pc' := 103) dX14_crossInside_102 rfl rfl rfl ?_
                  refine go_iconst (v := 1) (pc' := 104) dX14_crossInside_103 rfl (by decide) ?_
                  refine go_iadd (pc' := 105) dX14_crossInside_104 rfl ?_
                  obtain ⟨v183, σ184, e185, hf⟩ := bd_some hf
                  refine go_invS (As := [_, _, _, _]) (pc' := 108) dX14_crossInside_105 rfl cf_X14_crossInside_231 rfl rfl (Nat.le_of_ble_eq_true rfl) (c_X14_isInner R e185) (fun q186v h187 q186 => ?_)
                  obtain ⟨rfl, R⟩ := q186
                  refine go_if_ne (pc' := 111) (tgt := 135) dX14_crossInside_108 (by decide) rfl (fun c188 => ?_) (fun c188 => ?_)
                  · have hf := ie c188 hf
                    refine go_iconst (v := 1) (pc' := 136) dX14_crossInside_135 rfl (by decide) ?_
                    obtain rfl := Option.some.inj hf
                    exact Go.ret (v := some (.int _)) dX14_crossInside_136 ⟨_, rfl⟩ ⟨rfl, rfl, R⟩
                  · have hf := it c188 hf
                    refine go_aload_n (i := 1) (pc' := 112) dX14_crossInside_111 rfl rfl rfl ?_
                    refine go_aload_n (i := 2) (pc' := 113) dX14_crossInside_112 rfl rfl rfl ?_
                    refine go_aload_n (i := 2) (pc' := 114) dX14_crossInside_113 rfl rfl rfl ?_
                    refine go_iload (pc' := 116) dX14_crossInside_114 rfl rfl ?_
                    obtain ⟨v189, σ190, e191, hf⟩ := bd_some hf
                    refine go_invS (As := [_, _, _, _]) (pc' := 119) dX14_crossInside_116 rfl cf_X14_crossInside_231 rfl rfl (Nat.le_of_ble_eq_true rfl) (c_X14_isInner R e191) (fun q192v h193 q192 => ?_)
                    obtain ⟨rfl, R⟩ := q192
                    refine go_if_ne (pc' := 122) (tgt := 135) dX14_crossInside_119 (by decide) rfl (fun c194 => ?_) (fun c194 => ?_)
                    · have hf := ie c194 hf
                      refine go_iconst (v := 1) (pc' := 136) dX14_crossInside_135 rfl (by decide) ?_
                      obtain rfl := Option.some.inj hf
                      exact Go.ret (v := some (.int _)) dX14_crossInside_136 ⟨_, rfl⟩ ⟨rfl, rfl, R⟩
                    · have hf := it c194 hf
                      refine go_aload_n (i := 1) (pc' := 123) dX14_crossInside_122 rfl rfl rfl ?_
                      refine go_aload_n (i := 2) (pc' := 124) dX14_crossInside_123 rfl rfl rfl ?_
                      refine go_aload_n (i := 2) (pc' := 125) dX14_crossInside_124 rfl rfl rfl ?_
                      refine go_iload (pc' := 127) dX14_crossInside_125 rfl rfl ?_
                      refine go_iconst (v := 1) (pc' := 128) dX14_crossInside_127 rfl (by decide) ?_
                      refine go_iadd (pc' := 129) dX14_crossInside_128 rfl ?_
                      obtain ⟨v195, σ196, e197, hf⟩ := bd_some hf
                      refine go_invS (As := [_, _, _, _]) (pc' := 132) dX14_crossInside_129 rfl cf_X14_crossInside_231 rfl rfl (Nat.le_of_ble_eq_true rfl) (c_X14_isInner R e197) (fun q198v h199 q198 => ?_)
                      obtain ⟨rfl, R⟩ := q198
                      refine go_if_eq (pc' := 135) (tgt := 137) dX14_crossInside_132 (by decide) rfl (fun c200 => ?_) (fun c200 => ?_)
                      · have hf := it c200 hf
                        refine go_iincC (kk := 1) (pc' := 140) dX14_crossInside_137 rfl rfl (by decide) (by decide) rfl ?_
                        refine go_goto (pc' := 0) (tgt := 15) dX14_crossInside_140 (by decide) ?_
                        exact ih R g1 g2 hf
                      · have hf := ie c200 hf
                        refine go_iconst (v := 1) (pc' := 136) dX14_crossInside_135 rfl (by decide) ?_
                        obtain rfl := Option.some.inj hf
                        exact Go.ret (v := some (.int _)) dX14_crossInside_136 ⟨_, rfl⟩ ⟨rfl, rfl, R⟩
            · have hf := it c175 hf
              refine go_iconst (v := 1) (pc' := 81) dX14_crossInside_80 rfl (by decide) ?_
              obtain rfl := Option.some.inj hf
              exact Go.ret (v := some (.int _)) dX14_crossInside_81 ⟨_, rfl⟩ ⟨rfl, rfl, R⟩
      · have hf := it c107 hf
        refine go_goto (pc' := 0) (tgt := 137) dX14_crossInside_37 (by decide) ?_
        exact t_X14_crossInside_137 @hk2 @ih R g1 g2 hf
def l_X14_crossInside_2 (n : Nat) : Nat → Nat → Nat → Int32 → xσ → Option (Int32 × xσ)
  | 0, _, _, _, _ => none
  | f + 1, a1, a2, x3, σ => if (sI σ a1 2) ≤ (x3 + 1) then some (0, σ) else l_X14_crossInside_15 n (l_X14_crossInside_2 n f) xFU a1 a2 x3 0 σ
set_option maxRecDepth 100000 in
set_option maxHeartbeats 4000000 in
theorem t_X14_crossInside_2 {G : xG} {n : Nat} : ∀ (f : Nat) {a1 : Nat} {a2 : Nat} {x3 : Int32} {σ : xσ} {h : xH} {r : Int32 × xσ} {d4 : Option Value}, Rl n σ h → okM a1 → okM a2 → l_X14_crossInside_2 n f a1 a2 x3 σ = some r → Go G mX14_crossInside 2 [some (.ref 233), some (.ref a1), some (.ref a2), some (.int x3), d4] [] h (fun v h' => xRok (xRt mX14_crossInside) v ∧ v = some (.int r.1) ∧ Rl n r.2 h') := by
  intro f
  induction f with
  | zero =>
    intros
    rename _ = some _ => hf
    rw [l_X14_crossInside_2] at hf
    cases hf
  | succ f ih =>
    intro a1 a2 x3 σ h r d4 R g1 g2 hf
    rw [l_X14_crossInside_2] at hf
    refine go_iload_n (i := 3) (pc' := 3) dX14_crossInside_2 rfl rfl rfl ?_
    refine go_iconst (v := 1) (pc' := 4) dX14_crossInside_3 rfl (by decide) ?_
    refine go_iadd (pc' := 5) dX14_crossInside_4 rfl ?_
    refine go_aload_n (i := 1) (pc' := 6) dX14_crossInside_5 rfl rfl rfl ?_
    refine go_getS (pc' := 9) dX14_crossInside_6 rfl gf_LandBaseModel_79 R (g1.at R) (by decide) rfl ?_
    refine go_icmp_ge (pc' := 12) (tgt := 149) dX14_crossInside_9 (by decide) rfl (fun c101 => ?_) (fun c101 => ?_)
    · have hf := it c101 hf
      refine go_iconst (v := 0) (pc' := 150) dX14_crossInside_149 rfl (by decide) ?_
      obtain rfl := Option.some.inj hf
      exact Go.ret (v := some (.int _)) dX14_crossInside_150 ⟨_, rfl⟩ ⟨rfl, rfl, R⟩
    · have hf := ie c101 hf
      refine go_iconst (v := 0) (pc' := 13) dX14_crossInside_12 rfl (by decide) ?_
      refine go_istoreE rfl (pc' := 15) dX14_crossInside_13 rfl (by decide) rfl ?_
      exact t_X14_crossInside_15 @ih xFU R g1 g2 hf
def f_X14_crossInside (n : Nat) (a1 : Nat) (a2 : Nat) (σ : xσ) : Option (Int32 × xσ) := gd (okM a1) (gd (okM a2) (l_X14_crossInside_2 n xFU a1 a2 0 σ))
set_option maxRecDepth 100000 in
set_option maxHeartbeats 4000000 in
theorem c_X14_crossInside {G : xG} {n : Nat} {σ : xσ} {h : xH} {a1 : Nat} {a2 : Nat} {v1 : Int32} {σ1 : xσ} (R : Rl n σ h) (hf : f_X14_crossInside n a1 a2 σ = some (v1, σ1)) : Ca G mX14_crossInside [.ref 233, .ref a1, .ref a2] h (fun v h' => v = some (.int v1) ∧ Rl n σ1 h') := by
  refine Ca.of rfl (Nat.le_of_ble_eq_true rfl) ?_
  generalize hr : (v1, σ1) = r at hf
  suffices q : Go G mX14_crossInside 0 (xent (xMl mX14_crossInside) [.ref 233, .ref a1, .ref a2]) [] h (fun v h' => xRok (xRt mX14_crossInside) v ∧ v = some (.int r.1) ∧ Rl n r.2 h') by
    subst hr
    exact q
  clear hr
  rw [f_X14_crossInside] at hf
  obtain ⟨g1, hf⟩ := gd_some hf
  obtain ⟨g2, hf⟩ := gd_some hf
  refine go_iconst (v := 0) (pc' := 1) dX14_crossInside_0 rfl (by decide) ?_
  refine go_istore_nE rfl (i := 3) (pc' := 2) dX14_crossInside_1 rfl rfl (by decide) rfl ?_
  exact t_X14_crossInside_2 xFU R g1 g2 hf
theorem cf_X14_overlap0_213 : xCs mX14_overlap0 213 mX14_intersect 2 := ⟨wd_1558, wd_1559, ⟨wd_11, wd_1560, by decide +kernel, by decide, by decide⟩⟩
theorem cf_X14_overlap0_197 : xCs mX14_overlap0 197 mX14_locate 3 := ⟨wd_1440, wd_1441, ⟨wd_11, wd_1442, by decide +kernel, by decide, by decide⟩⟩
theorem cf_X14_overlap0_220 : xCv mX14_overlap0 220 mX14_goAlong 2 := ⟨wd_1388, wd_1390, ws_67, ⟨wd_11, wd_1391, by decide +kernel, by decide, by decide⟩⟩
theorem cf_X14_overlap0_224 : xCv mX14_overlap0 224 mX14_crossInside 2 := ⟨wd_1571, wd_1573, ws_93, ⟨wd_11, wd_1574, by decide +kernel, by decide, by decide⟩⟩
def f_X14_overlap0 (n : Nat) (a1 : Nat) (a2 : Nat) (σ : xσ) : Option (Int32 × xσ) := gd (okM a1) (gd (okM a2) (bd (f_X14_intersect n a1 a2 σ) (fun v101 σ102 => if v101 = 0 then some (0, σ102) else if (sI σ102 a1 1) = 0 then gd (inb 0 40) (gd (inb 0 40) (bd (f_X14_locate n a2 (sI σ102 (a1 + 2) (0 : Int32).toNatClampNeg) (sI σ102 (a1 + 3) (0 : Int32).toNatClampNeg) σ102) (fun v155 σ156 => if v155 = 1 then some (1, σ156) else some (0, σ156)))) else if (sI σ102 a2 1) = 0 then gd (inb 0 40) (gd (inb 0 40) (bd (f_X14_locate n a1 (sI σ102 (a2 + 2) (0 : Int32).toNatClampNeg) (sI σ102 (a2 + 3) (0 : Int32).toNatClampNeg) σ102) (fun v147 σ148 => if v147 = 1 then some (1, σ148) else some (0, σ148)))) else if (sI σ102 a2 1) = 1 then if (sI σ102 a1 1) = 2 then none else bd (f_X14_goAlong n a1 a2 σ102) (fun v133 σ134 => if (sI σ134 233 4) = 0 then bd (f_X14_crossInside n a1 a2 σ134) (fun v139 σ140 => if v139 = 0 then some (0, σ140) else some (1, σ140)) else some (1, σ134)) else bd (f_X14_goAlong n a1 a2 σ102) (fun v110 σ111 => if (sI σ111 233 4) = 0 then if (sI σ111 a1 1) = 2 then if (sI σ111 233 7) = 0 then if (sI σ111 a1 1) = 1 then some (0, σ111) else bd (f_X14_goAlong n a2 a1 σ111) (fun v126 σ127 => gd (sI σ127 233 4 = 0 ∨ sI σ127 233 4 = 1) (some (sI σ127 233 4, σ127))) else some (1, σ111) else if (sI σ111 a1 1) = 1 then some (0, σ111) else bd (f_X14_goAlong n a2 a1 σ111) (fun v118 σ119 => gd (sI σ119 233 4 = 0 ∨ sI σ119 233 4 = 1) (some (sI σ119 233 4, σ119))) else some (1, σ111)))))
set_option maxRecDepth 100000 in
set_option maxHeartbeats 4000000 in
theorem c_X14_overlap0 {G : xG} {n : Nat} {σ : xσ} {h : xH} {a1 : Nat} {a2 : Nat} {v1 : Int32} {σ1 : xσ} (R : Rl n σ h) (hf : f_X14_overlap0 n a1 a2 σ = some (v1, σ1)) : Ca G mX14_overlap0 [.ref 233, .ref a1, .ref a2] h (fun v h' => v = some (.int v1) ∧ Rl n σ1 h') := by
  refine Ca.of rfl (Nat.le_of_ble_eq_true rfl) ?_
  generalize hr : (v1, σ1) = r at hf
  suffices q : Go G mX14_overlap0 0 (xent (xMl mX14_overlap0) [.ref 233, .ref a1, .ref a2]) [] h (fun v h' => xRok (xRt mX14_overlap0) v ∧ v = some (.int r.1) ∧ Rl n r.2 h') by
    subst hr
    exact q
  clear hr
  rw [f_X14_overlap0] at hf
  obtain ⟨g1, hf⟩ := gd_some hf
  obtain ⟨g2, hf⟩ := gd_some hf
  refine go_aload_n (i := 1) (pc' := 1) dX14_overlap_0 rfl rfl rfl ?_
  refine go_aload_n (i := 2) (pc' := 2) dX14_overlap_1 rfl rfl rfl ?_
  obtain ⟨v101, σ102, e103, hf⟩ := bd_some hf
  refine go_invS (As := [_, _]) (pc' := 5) dX14_overlap_2 rfl cf_X14_overlap0_213 rfl rfl (Nat.le_of_ble_eq_true rfl) (c_X14_intersect R e103) (fun q104v h105 q104 => ?_)
  obtain ⟨rfl, R⟩ := q104
  refine go_if_ne (pc' := 8) (tgt := 10) dX14_overlap_5 (by decide) rfl (fun c106 => ?_) (fun c106 => ?_)
  · have hf := ie c106 hf
    refine go_aload_n (i := 1) (pc' := 11) dX14_overlap_10 rfl rfl rfl ?_
    refine go_getS (pc' := 14) dX14_overlap_11 rfl gf_LandBaseModel_75 R (g1.at R) (by decide) rfl ?_
    refine go_if_ne (pc' := 17) (tgt := 43) dX14_overlap_14 (by decide) rfl (fun c107 => ?_) (fun c107 => ?_)
    · have hf := ie c107 hf
      refine go_aload_n (i := 2) (pc' := 44) dX14_overlap_43 rfl rfl rfl ?_
      refine go_getS (pc' := 47) dX14_overlap_44 rfl gf_LandBaseModel_75 R (g2.at R) (by decide) rfl ?_
      refine go_if_ne (pc' := 50) (tgt := 76) dX14_overlap_47 (by decide) rfl (fun c108 => ?_) (fun c108 => ?_)
      · have hf := ie c108 hf
        refine go_aload_n (i := 2) (pc' := 77) dX14_overlap_76 rfl rfl rfl ?_
        refine go_getS (pc' := 80) dX14_overlap_77 rfl gf_LandBaseModel_75 R (g2.at R) (by decide) rfl ?_
        refine go_iconst (v := 1) (pc' := 81) dX14_overlap_80 rfl (by decide) ?_
        refine go_icmp_ne (pc' := 84) (tgt := 127) dX14_overlap_81 (by decide) rfl (fun c109 => ?_) (fun c109 => ?_)
        · have hf := ie c109 hf
          refine go_aload_n (i := 0) (pc' := 128) dX14_overlap_127 rfl rfl rfl ?_
          refine go_aload_n (i := 1) (pc' := 129) dX14_overlap_128 rfl rfl rfl ?_
          refine go_aload_n (i := 2) (pc' := 130) dX14_overlap_129 rfl rfl rfl ?_
          obtain ⟨v110, σ111, e112, hf⟩ := bd_some hf
          refine go_invV (As := [_, _]) (pc' := 133) dX14_overlap_130 rfl cf_X14_overlap0_220 rfl (R.ob (R.at rfl (by decide))) rfl rfl (Nat.le_of_ble_eq_true rfl) (c_X14_goAlong R e112) (fun q113v h114 q113 => ?_)
          obtain ⟨rfl, R⟩ := q113
          refine go_aload_n (i := 0) (pc' := 134) dX14_overlap_133 rfl rfl rfl ?_
          refine go_getS (pc' := 137) dX14_overlap_134 rfl gf_LandBaseModel_168 R (R.at rfl (by decide)) (by decide) rfl ?_
          refine go_if_ne (pc' := 140) (tgt := 155) dX14_overlap_137 (by decide) rfl (fun c115 => ?_) (fun c115 => ?_)
          · have hf := ie c115 hf
            refine go_iconst (v := 1) (pc' := 156) dX14_overlap_155 rfl (by decide) ?_
            obtain rfl := Option.some.inj hf
            exact Go.ret (v := some (.int _)) dX14_overlap_156 ⟨_, rfl⟩ ⟨rfl, rfl, R⟩
          · have hf := it c115 hf
            refine go_aload_n (i := 1) (pc' := 141) dX14_overlap_140 rfl rfl rfl ?_
            refine go_getS (pc' := 144) dX14_overlap_141 rfl gf_LandBaseModel_75 R (g1.at R) (by decide) rfl ?_
            refine go_iconst (v := 2) (pc' := 145) dX14_overlap_144 rfl (by decide) ?_
            refine go_icmp_ne (pc' := 148) (tgt := 157) dX14_overlap_145 (by decide) rfl (fun c116 => ?_) (fun c116 => ?_)
            · have hf := ie c116 hf
              refine go_aload_n (i := 1) (pc' := 158) dX14_overlap_157 rfl rfl rfl ?_
              refine go_getS (pc' := 161) dX14_overlap_158 rfl gf_LandBaseModel_75 R (g1.at R) (by decide) rfl ?_
              refine go_iconst (v := 1) (pc' := 162) dX14_overlap_161 rfl (by decide) ?_
              refine go_icmp_ne (pc' := 165) (tgt := 167) dX14_overlap_162 (by decide) rfl (fun c117 => ?_) (fun c117 => ?_)
              · have hf := ie c117 hf
                refine go_aload_n (i := 0) (pc' := 168) dX14_overlap_167 rfl rfl rfl ?_
                refine go_aload_n (i := 2) (pc' := 169) dX14_overlap_168 rfl rfl rfl ?_
                refine go_aload_n (i := 1) (pc' := 170) dX14_overlap_169 rfl rfl rfl ?_
                obtain ⟨v118, σ119, e120, hf⟩ := bd_some hf
                refine go_invV (As := [_, _]) (pc' := 173) dX14_overlap_170 rfl cf_X14_overlap0_220 rfl (R.ob (R.at rfl (by decide))) rfl rfl (Nat.le_of_ble_eq_true rfl) (c_X14_goAlong R e120) (fun q121v h122 q121 => ?_)
                obtain ⟨rfl, R⟩ := q121
                refine go_aload_n (i := 0) (pc' := 174) dX14_overlap_173 rfl rfl rfl ?_
                refine go_getS (pc' := 177) dX14_overlap_174 rfl gf_LandBaseModel_168 R (R.at rfl (by decide)) (by decide) rfl ?_
                obtain ⟨g123, hf⟩ := gd_some hf
                obtain rfl := Option.some.inj hf
                exact Go.ret (v := some (.int _)) dX14_overlap_177 ⟨_, rfl⟩ ⟨(nb g123), rfl, R⟩
              · have hf := it c117 hf
                refine go_iconst (v := 0) (pc' := 166) dX14_overlap_165 rfl (by decide) ?_
                obtain rfl := Option.some.inj hf
                exact Go.ret (v := some (.int _)) dX14_overlap_166 ⟨_, rfl⟩ ⟨rfl, rfl, R⟩
            · have hf := it c116 hf
              refine go_aload_n (i := 0) (pc' := 149) dX14_overlap_148 rfl rfl rfl ?_
              refine go_getS (pc' := 152) dX14_overlap_149 rfl gf_LandBaseModel_177 R (R.at rfl (by decide)) (by decide) rfl ?_
              refine go_if_eq (pc' := 155) (tgt := 157) dX14_overlap_152 (by decide) rfl (fun c124 => ?_) (fun c124 => ?_)
              · have hf := it c124 hf
                refine go_aload_n (i := 1) (pc' := 158) dX14_overlap_157 rfl rfl rfl ?_
                refine go_getS (pc' := 161) dX14_overlap_158 rfl gf_LandBaseModel_75 R (g1.at R) (by decide) rfl ?_
                refine go_iconst (v := 1) (pc' := 162) dX14_overlap_161 rfl (by decide) ?_
                refine go_icmp_ne (pc' := 165) (tgt := 167) dX14_overlap_162 (by decide) rfl (fun c125 => ?_) (fun c125 => ?_)
                · have hf := ie c125 hf
                  refine go_aload_n (i := 0) (pc' := 168) dX14_overlap_167 rfl rfl rfl ?_
                  refine go_aload_n (i := 2) (pc' := 169) dX14_overlap_168 rfl rfl rfl ?_
                  refine go_aload_n (i := 1) (pc' := 170) dX14_overlap_169 rfl rfl rfl ?_
                  obtain ⟨v126, σ127, e128, hf⟩ := bd_some hf
                  refine go_invV (As := [_, _]) (pc' := 173) dX14_overlap_170 rfl cf_X14_overlap0_220 rfl (R.ob (R.at rfl (by decide))) rfl rfl (Nat.le_of_ble_eq_true rfl) (c_X14_goAlong R e128) (fun q129v h130 q129 => ?_)
                  obtain ⟨rfl, R⟩ := q129
                  refine go_aload_n (i := 0) (pc' := 174) dX14_overlap_173 rfl rfl rfl ?_
                  refine go_getS (pc' := 177) dX14_overlap_174 rfl gf_LandBaseModel_168 R (R.at rfl (by decide)) (by decide) rfl ?_
                  obtain ⟨g131, hf⟩ := gd_some hf
                  obtain rfl := Option.some.inj hf
                  exact Go.ret (v := some (.int _)) dX14_overlap_177 ⟨_, rfl⟩ ⟨(nb g131), rfl, R⟩
                · have hf := it c125 hf
                  refine go_iconst (v := 0) (pc' := 166) dX14_overlap_165 rfl (by decide) ?_
                  obtain rfl := Option.some.inj hf
                  exact Go.ret (v := some (.int _)) dX14_overlap_166 ⟨_, rfl⟩ ⟨rfl, rfl, R⟩
              · have hf := ie c124 hf
                refine go_iconst (v := 1) (pc' := 156) dX14_overlap_155 rfl (by decide) ?_
                obtain rfl := Option.some.inj hf
                exact Go.ret (v := some (.int _)) dX14_overlap_156 ⟨_, rfl⟩ ⟨rfl, rfl, R⟩
        · have hf := it c109 hf
          refine go_aload_n (i := 1) (pc' := 85) dX14_overlap_84 rfl rfl rfl ?_
          refine go_getS (pc' := 88) dX14_overlap_85 rfl gf_LandBaseModel_75 R (g1.at R) (by decide) rfl ?_
          refine go_iconst (v := 2) (pc' := 89) dX14_overlap_88 rfl (by decide) ?_
          refine go_icmp_ne (pc' := 92) (tgt := 99) dX14_overlap_89 (by decide) rfl (fun c132 => ?_) (fun c132 => ?_)
          · have hf := ie c132 hf
            refine go_aload_n (i := 0) (pc' := 100) dX14_overlap_99 rfl rfl rfl ?_
            refine go_aload_n (i := 1) (pc' := 101) dX14_overlap_100 rfl rfl rfl ?_
            refine go_aload_n (i := 2) (pc' := 102) dX14_overlap_101 rfl rfl rfl ?_
            obtain ⟨v133, σ134, e135, hf⟩ := bd_some hf
            refine go_invV (As := [_, _]) (pc' := 105) dX14_overlap_102 rfl cf_X14_overlap0_220 rfl (R.ob (R.at rfl (by decide))) rfl rfl (Nat.le_of_ble_eq_true rfl) (c_X14_goAlong R e135) (fun q136v h137 q136 => ?_)
            obtain ⟨rfl, R⟩ := q136
            refine go_aload_n (i := 0) (pc' := 106) dX14_overlap_105 rfl rfl rfl ?_
            refine go_getS (pc' := 109) dX14_overlap_106 rfl gf_LandBaseModel_168 R (R.at rfl (by decide)) (by decide) rfl ?_
            refine go_if_ne (pc' := 112) (tgt := 121) dX14_overlap_109 (by decide) rfl (fun c138 => ?_) (fun c138 => ?_)
            · have hf := ie c138 hf
              refine go_iconst (v := 1) (pc' := 122) dX14_overlap_121 rfl (by decide) ?_
              refine go_goto (pc' := 0) (tgt := 126) dX14_overlap_122 (by decide) ?_
              obtain rfl := Option.some.inj hf
              exact Go.ret (v := some (.int _)) dX14_overlap_126 ⟨_, rfl⟩ ⟨rfl, rfl, R⟩
            · have hf := it c138 hf
              refine go_aload_n (i := 0) (pc' := 113) dX14_overlap_112 rfl rfl rfl ?_
              refine go_aload_n (i := 1) (pc' := 114) dX14_overlap_113 rfl rfl rfl ?_
              refine go_aload_n (i := 2) (pc' := 115) dX14_overlap_114 rfl rfl rfl ?_
              obtain ⟨v139, σ140, e141, hf⟩ := bd_some hf
              refine go_invV (As := [_, _]) (pc' := 118) dX14_overlap_115 rfl cf_X14_overlap0_224 rfl (R.ob (R.at rfl (by decide))) rfl rfl (Nat.le_of_ble_eq_true rfl) (c_X14_crossInside R e141) (fun q142v h143 q142 => ?_)
              obtain ⟨rfl, R⟩ := q142
              refine go_if_eq (pc' := 121) (tgt := 125) dX14_overlap_118 (by decide) rfl (fun c144 => ?_) (fun c144 => ?_)
              · have hf := it c144 hf
                refine go_iconst (v := 0) (pc' := 126) dX14_overlap_125 rfl (by decide) ?_
                obtain rfl := Option.some.inj hf
                exact Go.ret (v := some (.int _)) dX14_overlap_126 ⟨_, rfl⟩ ⟨rfl, rfl, R⟩
              · have hf := ie c144 hf
                refine go_iconst (v := 1) (pc' := 122) dX14_overlap_121 rfl (by decide) ?_
                refine go_goto (pc' := 0) (tgt := 126) dX14_overlap_122 (by decide) ?_
                obtain rfl := Option.some.inj hf
                exact Go.ret (v := some (.int _)) dX14_overlap_126 ⟨_, rfl⟩ ⟨rfl, rfl, R⟩
          · have hf := it c132 hf
            refine go_aload_n (i := 0) (pc' := 93) dX14_overlap_92 rfl rfl rfl ?_
            refine go_aload_n (i := 2) (pc' := 94) dX14_overlap_93 rfl rfl rfl ?_
            refine go_aload_n (i := 1) (pc' := 95) dX14_overlap_94 rfl rfl rfl ?_
            cases hf
      · have hf := it c108 hf
        refine go_aload_n (i := 1) (pc' := 51) dX14_overlap_50 rfl rfl rfl ?_
        refine go_aload_n (i := 2) (pc' := 52) dX14_overlap_51 rfl rfl rfl ?_
        refine go_getS (pc' := 55) dX14_overlap_52 rfl gf_LandBaseModel_30 R (g2.at R) (by decide) rfl ?_
        refine go_iconst (v := 0) (pc' := 56) dX14_overlap_55 rfl (by decide) ?_
        obtain ⟨g145, hf⟩ := gd_some hf
        refine go_ialoadS (pc' := 57) dX14_overlap_56 rfl R (g2.x R) g145 ?_
        refine go_aload_n (i := 2) (pc' := 58) dX14_overlap_57 rfl rfl rfl ?_
        refine go_getS (pc' := 61) dX14_overlap_58 rfl gf_LandBaseModel_36 R (g2.at R) (by decide) rfl ?_
        refine go_iconst (v := 0) (pc' := 62) dX14_overlap_61 rfl (by decide) ?_
        obtain ⟨g146, hf⟩ := gd_some hf
        refine go_ialoadS (pc' := 63) dX14_overlap_62 rfl R (g2.y R) g146 ?_
        obtain ⟨v147, σ148, e149, hf⟩ := bd_some hf
        refine go_invS (As := [_, _, _]) (pc' := 66) dX14_overlap_63 rfl cf_X14_overlap0_197 rfl rfl (Nat.le_of_ble_eq_true rfl) (c_X14_locate R e149) (fun q150v h151 q150 => ?_)
        obtain ⟨rfl, R⟩ := q150
        refine go_iconst (v := 1) (pc' := 67) dX14_overlap_66 rfl (by decide) ?_
        refine go_icmp_ne (pc' := 70) (tgt := 74) dX14_overlap_67 (by decide) rfl (fun c152 => ?_) (fun c152 => ?_)
        · have hf := ie c152 hf
          refine go_iconst (v := 0) (pc' := 75) dX14_overlap_74 rfl (by decide) ?_
          obtain rfl := Option.some.inj hf
          exact Go.ret (v := some (.int _)) dX14_overlap_75 ⟨_, rfl⟩ ⟨rfl, rfl, R⟩
        · have hf := it c152 hf
          refine go_iconst (v := 1) (pc' := 71) dX14_overlap_70 rfl (by decide) ?_
          refine go_goto (pc' := 0) (tgt := 75) dX14_overlap_71 (by decide) ?_
          obtain rfl := Option.some.inj hf
          exact Go.ret (v := some (.int _)) dX14_overlap_75 ⟨_, rfl⟩ ⟨rfl, rfl, R⟩
    · have hf := it c107 hf
      refine go_aload_n (i := 2) (pc' := 18) dX14_overlap_17 rfl rfl rfl ?_
      refine go_aload_n (i := 1) (pc' := 19) dX14_overlap_18 rfl rfl rfl ?_
      refine go_getS (pc' := 22) dX14_overlap_19 rfl gf_LandBaseModel_30 R (g1.at R) (by decide) rfl ?_
      refine go_iconst (v := 0) (pc' := 23) dX14_overlap_22 rfl (by decide) ?_
      obtain ⟨g153, hf⟩ := gd_some hf
      refine go_ialoadS (pc' := 24) dX14_overlap_23 rfl R (g1.x R) g153 ?_
      refine go_aload_n (i := 1) (pc' := 25) dX14_overlap_24 rfl rfl rfl ?_
      refine go_getS (pc' := 28) dX14_overlap_25 rfl gf_LandBaseModel_36 R (g1.at R) (by decide) rfl ?_
      refine go_iconst (v := 0) (pc' := 29) dX14_overlap_28 rfl (by decide) ?_
      obtain ⟨g154, hf⟩ := gd_some hf
      refine go_ialoadS (pc' := 30) dX14_overlap_29 rfl R (g1.y R) g154 ?_
      obtain ⟨v155, σ156, e157, hf⟩ := bd_some hf
      refine go_invS (As := [_, _, _]) (pc' := 33) dX14_overlap_30 rfl cf_X14_overlap0_197 rfl rfl (Nat.le_of_ble_eq_true rfl) (c_X14_locate R e157) (fun q158v h159 q158 => ?_)
      obtain ⟨rfl, R⟩ := q158
      refine go_iconst (v := 1) (pc' := 34) dX14_overlap_33 rfl (by decide) ?_
      refine go_icmp_ne (pc' := 37) (tgt := 41) dX14_overlap_34 (by decide) rfl (fun c160 => ?_) (fun c160 => ?_)
      · have hf := ie c160 hf
        refine go_iconst (v := 0) (pc' := 42) dX14_overlap_41 rfl (by decide) ?_
        obtain rfl := Option.some.inj hf
        exact Go.ret (v := some (.int _)) dX14_overlap_42 ⟨_, rfl⟩ ⟨rfl, rfl, R⟩
      · have hf := it c160 hf
        refine go_iconst (v := 1) (pc' := 38) dX14_overlap_37 rfl (by decide) ?_
        refine go_goto (pc' := 0) (tgt := 42) dX14_overlap_38 (by decide) ?_
        obtain rfl := Option.some.inj hf
        exact Go.ret (v := some (.int _)) dX14_overlap_42 ⟨_, rfl⟩ ⟨rfl, rfl, R⟩
  · have hf := it c106 hf
    refine go_iconst (v := 0) (pc' := 9) dX14_overlap_8 rfl (by decide) ?_
    obtain rfl := Option.some.inj hf
    exact Go.ret (v := some (.int _)) dX14_overlap_9 ⟨_, rfl⟩ ⟨rfl, rfl, R⟩
def f_X14_overlap (n : Nat) (a1 : Nat) (a2 : Nat) (σ : xσ) : Option (Int32 × xσ) := gd (okM a1) (gd (okM a2) (bd (f_X14_intersect n a1 a2 σ) (fun v101 σ102 => if v101 = 0 then some (0, σ102) else if (sI σ102 a1 1) = 0 then gd (inb 0 40) (gd (inb 0 40) (bd (f_X14_locate n a2 (sI σ102 (a1 + 2) (0 : Int32).toNatClampNeg) (sI σ102 (a1 + 3) (0 : Int32).toNatClampNeg) σ102) (fun v161 σ162 => if v161 = 1 then some (1, σ162) else some (0, σ162)))) else if (sI σ102 a2 1) = 0 then gd (inb 0 40) (gd (inb 0 40) (bd (f_X14_locate n a1 (sI σ102 (a2 + 2) (0 : Int32).toNatClampNeg) (sI σ102 (a2 + 3) (0 : Int32).toNatClampNeg) σ102) (fun v153 σ154 => if v153 = 1 then some (1, σ154) else some (0, σ154)))) else if (sI σ102 a2 1) = 1 then if (sI σ102 a1 1) = 2 then bd (f_X14_overlap0 n a2 a1 σ102) (fun v145 σ146 => gd (v145 = 0 ∨ v145 = 1) (some (v145, σ146))) else bd (f_X14_goAlong n a1 a2 σ102) (fun v133 σ134 => if (sI σ134 233 4) = 0 then bd (f_X14_crossInside n a1 a2 σ134) (fun v139 σ140 => if v139 = 0 then some (0, σ140) else some (1, σ140)) else some (1, σ134)) else bd (f_X14_goAlong n a1 a2 σ102) (fun v110 σ111 => if (sI σ111 233 4) = 0 then if (sI σ111 a1 1) = 2 then if (sI σ111 233 7) = 0 then if (sI σ111 a1 1) = 1 then some (0, σ111) else bd (f_X14_goAlong n a2 a1 σ111) (fun v126 σ127 => gd (sI σ127 233 4 = 0 ∨ sI σ127 233 4 = 1) (some (sI σ127 233 4, σ127))) else some (1, σ111) else if (sI σ111 a1 1) = 1 then some (0, σ111) else bd (f_X14_goAlong n a2 a1 σ111) (fun v118 σ119 => gd (sI σ119 233 4 = 0 ∨ sI σ119 233 4 = 1) (some (sI σ119 233 4, σ119))) else some (1, σ111)))))
set_option maxRecDepth 100000 in
set_option maxHeartbeats 4000000 in
theorem c_X14_overlap {G : xG} {n : Nat} {σ : xσ} {h : xH} {a1 : Nat} {a2 : Nat} {v1 : Int32} {σ1 : xσ} (R : Rl n σ h) (hf : f_X14_overlap n a1 a2 σ = some (v1, σ1)) : Ca G mX14_overlap [.ref 233, .ref a1, .ref a2] h (fun v h' => v = some (.int v1) ∧ Rl n σ1 h') := by
  refine Ca.of rfl (Nat.le_of_ble_eq_true rfl) ?_
  generalize hr : (v1, σ1) = r at hf
  suffices q : Go G mX14_overlap 0 (xent (xMl mX14_overlap) [.ref 233, .ref a1, .ref a2]) [] h (fun v h' => xRok (xRt mX14_overlap) v ∧ v = some (.int r.1) ∧ Rl n r.2 h') by
    subst hr
    exact q
  clear hr
  rw [f_X14_overlap] at hf
  obtain ⟨g1, hf⟩ := gd_some hf
  obtain ⟨g2, hf⟩ := gd_some hf
  refine go_aload_n (i := 1) (pc' := 1) dX14_overlap_0 rfl rfl rfl ?_
  refine go_aload_n (i := 2) (pc' := 2) dX14_overlap_1 rfl rfl rfl ?_
  obtain ⟨v101, σ102, e103, hf⟩ := bd_some hf
  refine go_invS (As := [_, _]) (pc' := 5) dX14_overlap_2 rfl cf_X14_overlap_213 rfl rfl (Nat.le_of_ble_eq_true rfl) (c_X14_intersect R e103) (fun q104v h105 q104 => ?_)
  obtain ⟨rfl, R⟩ := q104
  refine go_if_ne (pc' := 8) (tgt := 10) dX14_overlap_5 (by decide) rfl (fun c106 => ?_) (fun c106 => ?_)
  · have hf := ie c106 hf
    refine go_aload_n (i := 1) (pc' := 11) dX14_overlap_10 rfl rfl rfl ?_
    refine go_getS (pc' := 14) dX14_overlap_11 rfl gf_LandBaseModel_75 R (g1.at R) (by decide) rfl ?_
    refine go_if_ne (pc' := 17) (tgt := 43) dX14_overlap_14 (by decide) rfl (fun c107 => ?_) (fun c107 => ?_)
    · have hf := ie c107 hf
      refine go_aload_n (i := 2) (pc' := 44) dX14_overlap_43 rfl rfl rfl ?_
      refine go_getS (pc' := 47) dX14_overlap_44 rfl gf_LandBaseModel_75 R (g2.at R) (by decide) rfl ?_
      refine go_if_ne (pc' := 50) (tgt := 76) dX14_overlap_47 (by decide) rfl (fun c108 => ?_) (fun c108 => ?_)
      · have hf := ie c108 hf
        refine go_aload_n (i := 2) (pc' := 77) dX14_overlap_76 rfl rfl rfl ?_
        refine go_getS (pc' := 80) dX14_overlap_77 rfl gf_LandBaseModel_75 R (g2.at R) (by decide) rfl ?_
        refine go_iconst (v := 1) (pc' := 81) dX14_overlap_80 rfl (by decide) ?_
        refine go_icmp_ne (pc' := 84) (tgt := 127) dX14_overlap_81 (by decide) rfl (fun c109 => ?_) (fun c109 => ?_)
        · have hf := ie c109 hf
          refine go_aload_n (i := 0) (pc' := 128) dX14_overlap_127 rfl rfl rfl ?_
          refine go_aload_n (i := 1) (pc' := 129) dX14_overlap_128 rfl rfl rfl ?_
          refine go_aload_n (i := 2) (pc' := 130) dX14_overlap_129 rfl rfl rfl ?_
          obtain ⟨v110, σ111, e112, hf⟩ := bd_some hf
          refine go_invV (As := [_, _]) (pc' := 133) dX14_overlap_130 rfl cf_X14_overlap_220 rfl (R.ob (R.at rfl (by decide))) rfl rfl (Nat.le_of_ble_eq_true rfl) (c_X14_goAlong R e112) (fun q113v h114 q113 => ?_)
          obtain ⟨rfl, R⟩ := q113
          refine go_aload_n (i := 0) (pc' := 134) dX14_overlap_133 rfl rfl rfl ?_
          refine go_getS (pc' := 137) dX14_overlap_134 rfl gf_LandBaseModel_168 R (R.at rfl (by decide)) (by decide) rfl ?_
          refine go_if_ne (pc' := 140) (tgt := 155) dX14_overlap_137 (by decide) rfl (fun c115 => ?_) (fun c115 => ?_)
          · have hf := ie c115 hf
            refine go_iconst (v := 1) (pc' := 156) dX14_overlap_155 rfl (by decide) ?_
            obtain rfl := Option.some.inj hf
            exact Go.ret (v := some (.int _)) dX14_overlap_156 ⟨_, rfl⟩ ⟨rfl, rfl, R⟩
          · have hf := it c115 hf
            refine go_aload_n (i := 1) (pc' := 141) dX14_overlap_140 rfl rfl rfl ?_
            refine go_getS (pc' := 144) dX14_overlap_141 rfl gf_LandBaseModel_75 R (g1.at R) (by decide) rfl ?_
            refine go_iconst (v := 2) (pc' := 145) dX14_overlap_144 rfl (by decide) ?_
            refine go_icmp_ne (pc' := 148) (tgt := 157) dX14_overlap_145 (by decide) rfl (fun c116 => ?_) (fun c116 => ?_)
            · have hf := ie c116 hf
              refine go_aload_n (i := 1) (pc' := 158) dX14_overlap_157 rfl rfl rfl ?_
              refine go_getS (pc' := 161) dX14_overlap_158 rfl gf_LandBaseModel_75 R (g1.at R) (by decide) rfl ?_
              refine go_iconst (v := 1) (pc' := 162) dX14_overlap_161 rfl (by decide) ?_
              refine go_icmp_ne (pc' := 165) (tgt := 167) dX14_overlap_162 (by decide) rfl (fun c117 => ?_) (fun c117 => ?_)
              · have hf := ie c117 hf
                refine go_aload_n (i := 0) (pc' := 168) dX14_overlap_167 rfl rfl rfl ?_
                refine go_aload_n (i := 2) (pc' := 169) dX14_overlap_168 rfl rfl rfl ?_
                refine go_aload_n (i := 1) (pc' := 170) dX14_overlap_169 rfl rfl rfl ?_
                obtain ⟨v118, σ119, e120, hf⟩ := bd_some hf
                refine go_invV (As := [_, _]) (pc' := 173) dX14_overlap_170 rfl cf_X14_overlap_220 rfl (R.ob (R.at rfl (by decide))) rfl rfl (Nat.le_of_ble_eq_true rfl) (c_X14_goAlong R e120) (fun q121v h122 q121 => ?_)
                obtain ⟨rfl, R⟩ := q121
                refine go_aload_n (i := 0) (pc' := 174) dX14_overlap_173 rfl rfl rfl ?_
                refine go_getS (pc' := 177) dX14_overlap_174 rfl gf_LandBaseModel_168 R (R.at rfl (by decide)) (by decide) rfl ?_
                obtain ⟨g123, hf⟩ := gd_some hf
                obtain rfl := Option.some.inj hf
                exact Go.ret (v := some (.int _)) dX14_overlap_177 ⟨_, rfl⟩ ⟨(nb g123), rfl, R⟩
              · have hf := it c117 hf
                refine go_iconst (v := 0) (pc' := 166) dX14_overlap_165 rfl (by decide) ?_
                obtain rfl := Option.some.inj hf
                exact Go.ret (v := some (.int _)) dX14_overlap_166 ⟨_, rfl⟩ ⟨rfl, rfl, R⟩
            · have hf := it c116 hf
              refine go_aload_n (i := 0) (pc' := 149) dX14_overlap_148 rfl rfl rfl ?_
              refine go_getS (pc' := 152) dX14_overlap_149 rfl gf_LandBaseModel_177 R (R.at rfl (by decide)) (by decide) rfl ?_
              refine go_if_eq (pc' := 155) (tgt := 157) dX14_overlap_152 (by decide) rfl (fun c124 => ?_) (fun c124 => ?_)
              · have hf := it c124 hf
                refine go_aload_n (i := 1) (pc' := 158) dX14_overlap_157 rfl rfl rfl ?_
                refine go_getS (pc' := 161) dX14_overlap_158 rfl gf_LandBaseModel_75 R (g1.at R) (by decide) rfl ?_
                refine go_iconst (v := 1) (pc' := 162) dX14_overlap_161 rfl (by decide) ?_
                refine go_icmp_ne (pc' := 165) (tgt := 167) dX14_overlap_162 (by decide) rfl (fun c125 => ?_) (fun c125 => ?_)
                · have hf := ie c125 hf
                  refine go_aload_n (i := 0) (pc' := 168) dX14_overlap_167 rfl rfl rfl ?_
                  refine go_aload_n (i := 2) (pc' := 169) dX14_overlap_168 rfl rfl rfl ?_
                  refine go_aload_n (i := 1) (pc' := 170) dX14_overlap_169 rfl rfl rfl ?_
                  obtain ⟨v126, σ127, e128, hf⟩ := bd_some hf
                  refine go_invV (As := [_, _]) (pc' := 173) dX14_overlap_170 rfl cf_X14_overlap_220 rfl (R.ob (R.at rfl (by decide))) rfl rfl (Nat.le_of_ble_eq_true rfl) (c_X14_goAlong R e128) (fun q129v h130 q129 => ?_)
                  obtain ⟨rfl, R⟩ := q129
                  refine go_aload_n (i := 0) (pc' := 174) dX14_overlap_173 rfl rfl rfl ?_
                  refine go_getS (pc' := 177) dX14_overlap_174 rfl gf_LandBaseModel_168 R (R.at rfl (by decide)) (by decide) rfl ?_
                  obtain ⟨g131, hf⟩ := gd_some hf
                  obtain rfl := Option.some.inj hf
                  exact Go.ret (v := some (.int _)) dX14_overlap_177 ⟨_, rfl⟩ ⟨(nb g131), rfl, R⟩
                · have hf := it c125 hf
                  refine go_iconst (v := 0) (pc' := 166) dX14_overlap_165 rfl (by decide) ?_
                  obtain rfl := Option.some.inj hf
                  exact Go.ret (v := some (.int _)) dX14_overlap_166 ⟨_, rfl⟩ ⟨rfl, rfl, R⟩
              · have hf := ie c124 hf
                refine go_iconst (v := 1) (pc' := 156) dX14_overlap_155 rfl (by decide) ?_
                obtain rfl := Option.some.inj hf
                exact Go.ret (v := some (.int _)) dX14_overlap_156 ⟨_, rfl⟩ ⟨rfl, rfl, R⟩
        · have hf := it c109 hf
          refine go_aload_n (i := 1) (pc' := 85) dX14_overlap_84 rfl rfl rfl ?_
          refine go_getS (pc' := 88) dX14_overlap_85 rfl gf_LandBaseModel_75 R (g1.at R) (by decide) rfl ?_
          refine go_iconst (v := 2) (pc' := 89) dX14_overlap_88 rfl (by decide) ?_
          refine go_icmp_ne (pc' := 92) (tgt := 99) dX14_overlap_89 (by decide) rfl (fun c132 => ?_) (fun c132 => ?_)
          · have hf := ie c132 hf
            refine go_aload_n (i := 0) (pc' := 100) dX14_overlap_99 rfl rfl rfl ?_
            refine go_aload_n (i := 1) (pc' := 101) dX14_overlap_100 rfl rfl rfl ?_
            refine go_aload_n (i := 2) (pc' := 102) dX14_overlap_101 rfl rfl rfl ?_
            obtain ⟨v133, σ134, e135, hf⟩ := bd_some hf
            refine go_invV (As := [_, _]) (pc' := 105) dX14_overlap_102 rfl cf_X14_overlap_220 rfl (R.ob (R.at rfl (by decide))) rfl rfl (Nat.le_of_ble_eq_true rfl) (c_X14_goAlong R e135) (fun q136v h137 q136 => ?_)
            obtain ⟨rfl, R⟩ := q136
            refine go_aload_n (i := 0) (pc' := 106) dX14_overlap_105 rfl rfl rfl ?_
            refine go_getS (pc' := 109) dX14_overlap_106 rfl gf_LandBaseModel_168 R (R.at rfl (by decide)) (by decide) rfl ?_
            refine go_if_ne (pc' := 112) (tgt := 121) dX14_overlap_109 (by decide) rfl (fun c138 => ?_) (fun c138 => ?_)
            · have hf := ie c138 hf
              refine go_iconst (v := 1) (pc' := 122) dX14_overlap_121 rfl (by decide) ?_
              refine go_goto (pc' := 0) (tgt := 126) dX14_overlap_122 (by decide) ?_
              obtain rfl := Option.some.inj hf
              exact Go.ret (v := some (.int _)) dX14_overlap_126 ⟨_, rfl⟩ ⟨rfl, rfl, R⟩
            · have hf := it c138 hf
              refine go_aload_n (i := 0) (pc' := 113) dX14_overlap_112 rfl rfl rfl ?_
              refine go_aload_n (i := 1) (pc' := 114) dX14_overlap_113 rfl rfl rfl ?_
              refine go_aload_n (i := 2) (pc' := 115) dX14_overlap_114 rfl rfl rfl ?_
              obtain ⟨v139, σ140, e141, hf⟩ := bd_some hf
              refine go_invV (As := [_, _]) (pc' := 118) dX14_overlap_115 rfl cf_X14_overlap_224 rfl (R.ob (R.at rfl (by decide))) rfl rfl (Nat.le_of_ble_eq_true rfl) (c_X14_crossInside R e141) (fun q142v h143 q142 => ?_)
              obtain ⟨rfl, R⟩ := q142
              refine go_if_eq (pc' := 121) (tgt := 125) dX14_overlap_118 (by decide) rfl (fun c144 => ?_) (fun c144 => ?_)
              · have hf := it c144 hf
                refine go_iconst (v := 0) (pc' := 126) dX14_overlap_125 rfl (by decide) ?_
                obtain rfl := Option.some.inj hf
                exact Go.ret (v := some (.int _)) dX14_overlap_126 ⟨_, rfl⟩ ⟨rfl, rfl, R⟩
              · have hf := ie c144 hf
                refine go_iconst (v := 1) (pc' := 122) dX14_overlap_121 rfl (by decide) ?_
                refine go_goto (pc' := 0) (tgt := 126) dX14_overlap_122 (by decide) ?_
                obtain rfl := Option.some.inj hf
                exact Go.ret (v := some (.int _)) dX14_overlap_126 ⟨_, rfl⟩ ⟨rfl, rfl, R⟩
          · have hf := it c132 hf
            refine go_aload_n (i := 0) (pc' := 93) dX14_overlap_92 rfl rfl rfl ?_
            refine go_aload_n (i := 2) (pc' := 94) dX14_overlap_93 rfl rfl rfl ?_
            refine go_aload_n (i := 1) (pc' := 95) dX14_overlap_94 rfl rfl rfl ?_
            obtain ⟨v145, σ146, e147, hf⟩ := bd_some hf
            refine go_invV (As := [_, _]) (pc' := 98) dX14_overlap_95 rfl cf_X14_overlap_217 rfl (R.ob (R.at rfl (by decide))) rfl rfl (Nat.le_of_ble_eq_true rfl) (c_X14_overlap0 R e147) (fun q148v h149 q148 => ?_)
            obtain ⟨rfl, R⟩ := q148
            obtain ⟨g150, hf⟩ := gd_some hf
            obtain rfl := Option.some.inj hf
            exact Go.ret (v := some (.int _)) dX14_overlap_98 ⟨_, rfl⟩ ⟨(nb g150), rfl, R⟩
      · have hf := it c108 hf
        refine go_aload_n (i := 1) (pc' := 51) dX14_overlap_50 rfl rfl rfl ?_
        refine go_aload_n (i := 2) (pc' := 52) dX14_overlap_51 rfl rfl rfl ?_
        refine go_getS (pc' := 55) dX14_overlap_52 rfl gf_LandBaseModel_30 R (g2.at R) (by decide) rfl ?_
        refine go_iconst (v := 0) (pc' := 56) dX14_overlap_55 rfl (by decide) ?_
        obtain ⟨g151, hf⟩ := gd_some hf
        refine go_ialoadS (pc' := 57) dX14_overlap_56 rfl R (g2.x R) g151 ?_
        refine go_aload_n (i := 2) (pc' := 58) dX14_overlap_57 rfl rfl rfl ?_
        refine go_getS (pc' := 61) dX14_overlap_58 rfl gf_LandBaseModel_36 R (g2.at R) (by decide) rfl ?_
        refine go_iconst (v := 0) (pc' := 62) dX14_overlap_61 rfl (by decide) ?_
        obtain ⟨g152, hf⟩ := gd_some hf
        refine go_ialoadS (pc' := 63) dX14_overlap_62 rfl R (g2.y R) g152 ?_
        obtain ⟨v153, σ154, e155, hf⟩ := bd_some hf
        refine go_invS (As := [_, _, _]) (pc' := 66) dX14_overlap_63 rfl cf_X14_overlap_197 rfl rfl (Nat.le_of_ble_eq_true rfl) (c_X14_locate R e155) (fun q156v h157 q156 => ?_)
        obtain ⟨rfl, R⟩ := q156
        refine go_iconst (v := 1) (pc' := 67) dX14_overlap_66 rfl (by decide) ?_
        refine go_icmp_ne (pc' := 70) (tgt := 74) dX14_overlap_67 (by decide) rfl (fun c158 => ?_) (fun c158 => ?_)
        · have hf := ie c158 hf
          refine go_iconst (v := 0) (pc' := 75) dX14_overlap_74 rfl (by decide) ?_
          obtain rfl := Option.some.inj hf
          exact Go.ret (v := some (.int _)) dX14_overlap_75 ⟨_, rfl⟩ ⟨rfl, rfl, R⟩
        · have hf := it c158 hf
          refine go_iconst (v := 1) (pc' := 71) dX14_overlap_70 rfl (by decide) ?_
          refine go_goto (pc' := 0) (tgt := 75) dX14_overlap_71 (by decide) ?_
          obtain rfl := Option.some.inj hf
          exact Go.ret (v := some (.int _)) dX14_overlap_75 ⟨_, rfl⟩ ⟨rfl, rfl, R⟩
    · have hf := it c107 hf
      refine go_aload_n (i := 2) (pc' := 18) dX14_overlap_17 rfl rfl rfl ?_
      refine go_aload_n (i := 1) (pc' := 19) dX14_overlap_18 rfl rfl rfl ?_
      refine go_getS (pc' := 22) dX14_overlap_19 rfl gf_LandBaseModel_30 R (g1.at R) (by decide) rfl ?_
      refine go_iconst (v := 0) (pc' := 23) dX14_overlap_22 rfl (by decide) ?_
      obtain ⟨g159, hf⟩ := gd_some hf
      refine go_ialoadS (pc' := 24) dX14_overlap_23 rfl R (g1.x R) g159 ?_
      refine go_aload_n (i := 1) (pc' := 25) dX14_overlap_24 rfl rfl rfl ?_
      refine go_getS (pc' := 28) dX14_overlap_25 rfl gf_LandBaseModel_36 R (g1.at R) (by decide) rfl ?_
      refine go_iconst (v := 0) (pc' := 29) dX14_overlap_28 rfl (by decide) ?_
      obtain ⟨g160, hf⟩ := gd_some hf
      refine go_ialoadS (pc' := 30) dX14_overlap_29 rfl R (g1.y R) g160 ?_
      obtain ⟨v161, σ162, e163, hf⟩ := bd_some hf
      refine go_invS (As := [_, _, _]) (pc' := 33) dX14_overlap_30 rfl cf_X14_overlap_197 rfl rfl (Nat.le_of_ble_eq_true rfl) (c_X14_locate R e163) (fun q164v h165 q164 => ?_)
      obtain ⟨rfl, R⟩ := q164
      refine go_iconst (v := 1) (pc' := 34) dX14_overlap_33 rfl (by decide) ?_
      refine go_icmp_ne (pc' := 37) (tgt := 41) dX14_overlap_34 (by decide) rfl (fun c166 => ?_) (fun c166 => ?_)
      · have hf := ie c166 hf
        refine go_iconst (v := 0) (pc' := 42) dX14_overlap_41 rfl (by decide) ?_
        obtain rfl := Option.some.inj hf
        exact Go.ret (v := some (.int _)) dX14_overlap_42 ⟨_, rfl⟩ ⟨rfl, rfl, R⟩
      · have hf := it c166 hf
        refine go_iconst (v := 1) (pc' := 38) dX14_overlap_37 rfl (by decide) ?_
        refine go_goto (pc' := 0) (tgt := 42) dX14_overlap_38 (by decide) ?_
        obtain rfl := Option.some.inj hf
        exact Go.ret (v := some (.int _)) dX14_overlap_42 ⟨_, rfl⟩ ⟨rfl, rfl, R⟩
  · have hf := it c106 hf
    refine go_iconst (v := 0) (pc' := 9) dX14_overlap_8 rfl (by decide) ?_
    obtain rfl := Option.some.inj hf
    exact Go.ret (v := some (.int _)) dX14_overlap_9 ⟨_, rfl⟩ ⟨rfl, rfl, R⟩
def f_X14_isWithin (n : Nat) (a1 : Nat) (a2 : Nat) (σ : xσ) : Option (Int32 × xσ) := gd (okM a1) (gd (okM a2) (if (sI σ a1 1) = 0 then gd (inb 0 40) (gd (inb 0 40) (bd (f_X14_locate n a2 (sI σ (a1 + 2) (0 : Int32).toNatClampNeg) (sI σ (a1 + 3) (0 : Int32).toNatClampNeg) σ) (fun v124 σ125 => if v124 = 1 then some (1, σ125) else some (0, σ125)))) else if (sI σ a2 1) < (sI σ a1 1) then some (0, σ) else bd (f_X14_overlap n a1 a2 σ) (fun v103 σ104 => if v103 = 0 then some (0, σ104) else bd (f_X14_goAlong n a1 a2 σ104) (fun v109 σ110 => if (sI σ110 233 5) = 0 then if (sI σ110 a1 1) = 1 then some (1, σ110) else bd (f_X14_goAlong n a2 a1 σ110) (fun v116 σ117 => if (sI σ117 233 4) = 0 then some (1, σ117) else some (0, σ117)) else some (0, σ110)))))
set_option maxRecDepth 100000 in
set_option maxHeartbeats 4000000 in
theorem c_X14_isWithin {G : xG} {n : Nat} {σ : xσ} {h : xH} {a1 : Nat} {a2 : Nat} {v1 : Int32} {σ1 : xσ} (R : Rl n σ h) (hf : f_X14_isWithin n a1 a2 σ = some (v1, σ1)) : Ca G mX14_isWithin [.ref 233, .ref a1, .ref a2] h (fun v h' => v = some (.int v1) ∧ Rl n σ1 h') := by
  refine Ca.of rfl (Nat.le_of_ble_eq_true rfl) ?_
  generalize hr : (v1, σ1) = r at hf
  suffices q : Go G mX14_isWithin 0 (xent (xMl mX14_isWithin) [.ref 233, .ref a1, .ref a2]) [] h (fun v h' => xRok (xRt mX14_isWithin) v ∧ v = some (.int r.1) ∧ Rl n r.2 h') by
    subst hr
    exact q
  clear hr
  rw [f_X14_isWithin] at hf
  obtain ⟨g1, hf⟩ := gd_some hf
  obtain ⟨g2, hf⟩ := gd_some hf
  refine go_aload_n (i := 1) (pc' := 1) dX14_isWithin_0 rfl rfl rfl ?_
  refine go_getS (pc' := 4) dX14_isWithin_1 rfl gf_LandBaseModel_75 R (g1.at R) (by decide) rfl ?_
  refine go_if_ne (pc' := 7) (tgt := 33) dX14_isWithin_4 (by decide) rfl (fun c101 => ?_) (fun c101 => ?_)
  · have hf := ie c101 hf
    refine go_aload_n (i := 2) (pc' := 34) dX14_isWithin_33 rfl rfl rfl ?_
    refine go_getS (pc' := 37) dX14_isWithin_34 rfl gf_LandBaseModel_75 R (g2.at R) (by decide) rfl ?_
    refine go_aload_n (i := 1) (pc' := 38) dX14_isWithin_37 rfl rfl rfl ?_
    refine go_getS (pc' := 41) dX14_isWithin_38 rfl gf_LandBaseModel_75 R (g1.at R) (by decide) rfl ?_
    refine go_icmp_lt (pc' := 44) (tgt := 53) dX14_isWithin_41 (by decide) rfl (fun c102 => ?_) (fun c102 => ?_)
    · have hf := it c102 hf
      refine go_iconst (v := 0) (pc' := 54) dX14_isWithin_53 rfl (by decide) ?_
      obtain rfl := Option.some.inj hf
      exact Go.ret (v := some (.int _)) dX14_isWithin_54 ⟨_, rfl⟩ ⟨rfl, rfl, R⟩
    · have hf := ie c102 hf
      refine go_aload_n (i := 0) (pc' := 45) dX14_isWithin_44 rfl rfl rfl ?_
      refine go_aload_n (i := 1) (pc' := 46) dX14_isWithin_45 rfl rfl rfl ?_
      refine go_aload_n (i := 2) (pc' := 47) dX14_isWithin_46 rfl rfl rfl ?_
      obtain ⟨v103, σ104, e105, hf⟩ := bd_some hf
      refine go_invV (As := [_, _]) (pc' := 50) dX14_isWithin_47 rfl cf_X14_isWithin_217 rfl (R.ob (R.at rfl (by decide))) rfl rfl (Nat.le_of_ble_eq_true rfl) (c_X14_overlap R e105) (fun q106v h107 q106 => ?_)
      obtain ⟨rfl, R⟩ := q106
      refine go_if_ne (pc' := 53) (tgt := 55) dX14_isWithin_50 (by decide) rfl (fun c108 => ?_) (fun c108 => ?_)
      · have hf := ie c108 hf
        refine go_aload_n (i := 0) (pc' := 56) dX14_isWithin_55 rfl rfl rfl ?_
        refine go_aload_n (i := 1) (pc' := 57) dX14_isWithin_56 rfl rfl rfl ?_
        refine go_aload_n (i := 2) (pc' := 58) dX14_isWithin_57 rfl rfl rfl ?_
        obtain ⟨v109, σ110, e111, hf⟩ := bd_some hf
        refine go_invV (As := [_, _]) (pc' := 61) dX14_isWithin_58 rfl cf_X14_isWithin_220 rfl (R.ob (R.at rfl (by decide))) rfl rfl (Nat.le_of_ble_eq_true rfl) (c_X14_goAlong R e111) (fun q112v h113 q112 => ?_)
        obtain ⟨rfl, R⟩ := q112
        refine go_aload_n (i := 0) (pc' := 62) dX14_isWithin_61 rfl rfl rfl ?_
        refine go_getS (pc' := 65) dX14_isWithin_62 rfl gf_LandBaseModel_171 R (R.at rfl (by decide)) (by decide) rfl ?_
        refine go_if_eq (pc' := 68) (tgt := 70) dX14_isWithin_65 (by decide) rfl (fun c114 => ?_) (fun c114 => ?_)
        · have hf := it c114 hf
          refine go_aload_n (i := 1) (pc' := 71) dX14_isWithin_70 rfl rfl rfl ?_
          refine go_getS (pc' := 74) dX14_isWithin_71 rfl gf_LandBaseModel_75 R (g1.at R) (by decide) rfl ?_
          refine go_iconst (v := 1) (pc' := 75) dX14_isWithin_74 rfl (by decide) ?_
          refine go_icmp_ne (pc' := 78) (tgt := 80) dX14_isWithin_75 (by decide) rfl (fun c115 => ?_) (fun c115 => ?_)
          · have hf := ie c115 hf
            refine go_aload_n (i := 0) (pc' := 81) dX14_isWithin_80 rfl rfl rfl ?_
            refine go_aload_n (i := 2) (pc' := 82) dX14_isWithin_81 rfl rfl rfl ?_
            refine go_aload_n (i := 1) (pc' := 83) dX14_isWithin_82 rfl rfl rfl ?_
            obtain ⟨v116, σ117, e118, hf⟩ := bd_some hf
            refine go_invV (As := [_, _]) (pc' := 86) dX14_isWithin_83 rfl cf_X14_isWithin_220 rfl (R.ob (R.at rfl (by decide))) rfl rfl (Nat.le_of_ble_eq_true rfl) (c_X14_goAlong R e118) (fun q119v h120 q119 => ?_)
            obtain ⟨rfl, R⟩ := q119
            refine go_aload_n (i := 0) (pc' := 87) dX14_isWithin_86 rfl rfl rfl ?_
            refine go_getS (pc' := 90) dX14_isWithin_87 rfl gf_LandBaseModel_168 R (R.at rfl (by decide)) (by decide) rfl ?_
            refine go_if_ne (pc' := 93) (tgt := 97) dX14_isWithin_90 (by decide) rfl (fun c121 => ?_) (fun c121 => ?_)
            · have hf := ie c121 hf
              refine go_iconst (v := 0) (pc' := 98) dX14_isWithin_97 rfl (by decide) ?_
              obtain rfl := Option.some.inj hf
              exact Go.ret (v := some (.int _)) dX14_isWithin_98 ⟨_, rfl⟩ ⟨rfl, rfl, R⟩
            · have hf := it c121 hf
              refine go_iconst (v := 1) (pc' := 94) dX14_isWithin_93 rfl (by decide) ?_
              refine go_goto (pc' := 0) (tgt := 98) dX14_isWithin_94 (by decide) ?_
              obtain rfl := Option.some.inj hf
              exact Go.ret (v := some (.int _)) dX14_isWithin_98 ⟨_, rfl⟩ ⟨rfl, rfl, R⟩
          · have hf := it c115 hf
            refine go_iconst (v := 1) (pc' := 79) dX14_isWithin_78 rfl (by decide) ?_
            obtain rfl := Option.some.inj hf
            exact Go.ret (v := some (.int _)) dX14_isWithin_79 ⟨_, rfl⟩ ⟨rfl, rfl, R⟩
        · have hf := ie c114 hf
          refine go_iconst (v := 0) (pc' := 69) dX14_isWithin_68 rfl (by decide) ?_
          obtain rfl := Option.some.inj hf
          exact Go.ret (v := some (.int _)) dX14_isWithin_69 ⟨_, rfl⟩ ⟨rfl, rfl, R⟩
      · have hf := it c108 hf
        refine go_iconst (v := 0) (pc' := 54) dX14_isWithin_53 rfl (by decide) ?_
        obtain rfl := Option.some.inj hf
        exact Go.ret (v := some (.int _)) dX14_isWithin_54 ⟨_, rfl⟩ ⟨rfl, rfl, R⟩
  · have hf := it c101 hf
    refine go_aload_n (i := 2) (pc' := 8) dX14_isWithin_7 rfl rfl rfl ?_
    refine go_aload_n (i := 1) (pc' := 9) dX14_isWithin_8 rfl rfl rfl ?_
    refine go_getS (pc' := 12) dX14_isWithin_9 rfl gf_LandBaseModel_30 R (g1.at R) (by decide) rfl ?_
    refine go_iconst (v := 0) (pc' := 13) dX14_isWithin_12 rfl (by decide) ?_
    obtain ⟨g122, hf⟩ := gd_some hf
    refine go_ialoadS (pc' := 14) dX14_isWithin_13 rfl R (g1.x R) g122 ?_
    refine go_aload_n (i := 1) (pc' := 15) dX14_isWithin_14 rfl rfl rfl ?_
    refine go_getS (pc' := 18) dX14_isWithin_15 rfl gf_LandBaseModel_36 R (g1.at R) (by decide) rfl ?_
    refine go_iconst (v := 0) (pc' := 19) dX14_isWithin_18 rfl (by decide) ?_
    obtain ⟨g123, hf⟩ := gd_some hf
    refine go_ialoadS (pc' := 20) dX14_isWithin_19 rfl R (g1.y R) g123 ?_
    obtain ⟨v124, σ125, e126, hf⟩ := bd_some hf
    refine go_invS (As := [_, _, _]) (pc' := 23) dX14_isWithin_20 rfl cf_X14_isWithin_197 rfl rfl (Nat.le_of_ble_eq_true rfl) (c_X14_locate R e126) (fun q127v h128 q127 => ?_)
    obtain ⟨rfl, R⟩ := q127
    refine go_iconst (v := 1) (pc' := 24) dX14_isWithin_23 rfl (by decide) ?_
    refine go_icmp_ne (pc' := 27) (tgt := 31) dX14_isWithin_24 (by decide) rfl (fun c129 => ?_) (fun c129 => ?_)
    · have hf := ie c129 hf
      refine go_iconst (v := 0) (pc' := 32) dX14_isWithin_31 rfl (by decide) ?_
      obtain rfl := Option.some.inj hf
      exact Go.ret (v := some (.int _)) dX14_isWithin_32 ⟨_, rfl⟩ ⟨rfl, rfl, R⟩
    · have hf := it c129 hf
      refine go_iconst (v := 1) (pc' := 28) dX14_isWithin_27 rfl (by decide) ?_
      refine go_goto (pc' := 0) (tgt := 32) dX14_isWithin_28 (by decide) ?_
      obtain rfl := Option.some.inj hf
      exact Go.ret (v := some (.int _)) dX14_isWithin_32 ⟨_, rfl⟩ ⟨rfl, rfl, R⟩
def f_X14_relates (n : Nat) (x1 : Int32) (a2 : Nat) (a3 : Nat) (σ : xσ) : Option (Int32 × xσ) := gd (okM a2) (gd (okM a3) (if x1 = 0 then bd (f_X14_intersect n a2 a3 σ) (fun v102 σ103 => gd (v102 = 0 ∨ v102 = 1) (some (v102, σ103))) else if x1 = 1 then bd (f_X14_intersect n a2 a3 σ) (fun v109 σ110 => if v109 = 0 then some (1, σ110) else some (0, σ110)) else if x1 = 2 then bd (f_X14_intersect n a2 a3 σ) (fun v116 σ117 => if v116 = 0 then some (0, σ117) else bd (f_X14_overlap n a2 a3 σ117) (fun v122 σ123 => if v122 = 0 then some (1, σ123) else some (0, σ123))) else if x1 = 3 then bd (f_X14_isWithin n a2 a3 σ) (fun v129 σ130 => gd (v129 = 0 ∨ v129 = 1) (some (v129, σ130))) else bd (f_X14_isWithin n a3 a2 σ) (fun v135 σ136 => gd (v135 = 0 ∨ v135 = 1) (some (v135, σ136)))))
set_option maxRecDepth 100000 in
set_option maxHeartbeats 4000000 in
theorem c_X14_relates {G : xG} {n : Nat} {σ : xσ} {h : xH} {x1 : Int32} {a2 : Nat} {a3 : Nat} {v1 : Int32} {σ1 : xσ} (R : Rl n σ h) (hf : f_X14_relates n x1 a2 a3 σ = some (v1, σ1)) : Ca G mX14_relates [.ref 233, .int x1, .ref a2, .ref a3] h (fun v h' => v = some (.int v1) ∧ Rl n σ1 h') := by
  refine Ca.of rfl (Nat.le_of_ble_eq_true rfl) ?_
  generalize hr : (v1, σ1) = r at hf
  suffices q : Go G mX14_relates 0 (xent (xMl mX14_relates) [.ref 233, .int x1, .ref a2, .ref a3]) [] h (fun v h' => xRok (xRt mX14_relates) v ∧ v = some (.int r.1) ∧ Rl n r.2 h') by
    subst hr
    exact q
  clear hr
  rw [f_X14_relates] at hf
  obtain ⟨g2, hf⟩ := gd_some hf
  obtain ⟨g3, hf⟩ := gd_some hf
  refine go_iload_n (i := 1) (pc' := 1) dX14_relates_0 rfl rfl rfl ?_
  by_cases c101 : x1 = 0
  · have hf := it c101 hf
    refine go_tableIn (pc' := 0) (off := 31) (tgt := 32) dX14_relates_1 (by rw [c101]; decide) (by rw [c101]; decide) (by rw [c101]; rfl) (by decide) ?_
    refine go_aload_n (i := 2) (pc' := 33) dX14_relates_32 rfl rfl rfl ?_
    refine go_aload_n (i := 3) (pc' := 34) dX14_relates_33 rfl rfl rfl ?_
    obtain ⟨v102, σ103, e104, hf⟩ := bd_some hf
    refine go_invS (As := [_, _]) (pc' := 37) dX14_relates_34 rfl cf_X14_relates_213 rfl rfl (Nat.le_of_ble_eq_true rfl) (c_X14_intersect R e104) (fun q105v h106 q105 => ?_)
    obtain ⟨rfl, R⟩ := q105
    obtain ⟨g107, hf⟩ := gd_some hf
    obtain rfl := Option.some.inj hf
    exact Go.ret (v := some (.int _)) dX14_relates_37 ⟨_, rfl⟩ ⟨(nb g107), rfl, R⟩
  have hf := ie c101 hf
  by_cases c108 : x1 = 1
  · have hf := it c108 hf
    refine go_tableIn (pc' := 0) (off := 37) (tgt := 38) dX14_relates_1 (by rw [c108]; decide) (by rw [c108]; decide) (by rw [c108]; rfl) (by decide) ?_
    refine go_aload_n (i := 2) (pc' := 39) dX14_relates_38 rfl rfl rfl ?_
    refine go_aload_n (i := 3) (pc' := 40) dX14_relates_39 rfl rfl rfl ?_
    obtain ⟨v109, σ110, e111, hf⟩ := bd_some hf
    refine go_invS (As := [_, _]) (pc' := 43) dX14_relates_40 rfl cf_X14_relates_213 rfl rfl (Nat.le_of_ble_eq_true rfl) (c_X14_intersect R e111) (fun q112v h113 q112 => ?_)
    obtain ⟨rfl, R⟩ := q112
    refine go_if_ne (pc' := 46) (tgt := 50) dX14_relates_43 (by decide) rfl (fun c114 => ?_) (fun c114 => ?_)
    · have hf := ie c114 hf
      refine go_iconst (v := 0) (pc' := 51) dX14_relates_50 rfl (by decide) ?_
      obtain rfl := Option.some.inj hf
      exact Go.ret (v := some (.int _)) dX14_relates_51 ⟨_, rfl⟩ ⟨rfl, rfl, R⟩
    · have hf := it c114 hf
      refine go_iconst (v := 1) (pc' := 47) dX14_relates_46 rfl (by decide) ?_
      refine go_goto (pc' := 0) (tgt := 51) dX14_relates_47 (by decide) ?_
      obtain rfl := Option.some.inj hf
      exact Go.ret (v := some (.int _)) dX14_relates_51 ⟨_, rfl⟩ ⟨rfl, rfl, R⟩
  have hf := ie c108 hf
  by_cases c115 : x1 = 2
  · have hf := it c115 hf
    refine go_tableIn (pc' := 0) (off := 51) (tgt := 52) dX14_relates_1 (by rw [c115]; decide) (by rw [c115]; decide) (by rw [c115]; rfl) (by decide) ?_
    refine go_aload_n (i := 2) (pc' := 53) dX14_relates_52 rfl rfl rfl ?_
    refine go_aload_n (i := 3) (pc' := 54) dX14_relates_53 rfl rfl rfl ?_
    obtain ⟨v116, σ117, e118, hf⟩ := bd_some hf
    refine go_invS (As := [_, _]) (pc' := 57) dX14_relates_54 rfl cf_X14_relates_213 rfl rfl (Nat.le_of_ble_eq_true rfl) (c_X14_intersect R e118) (fun q119v h120 q119 => ?_)
    obtain ⟨rfl, R⟩ := q119
    refine go_if_eq (pc' := 60) (tgt := 73) dX14_relates_57 (by decide) rfl (fun c121 => ?_) (fun c121 => ?_)
    · have hf := it c121 hf
      refine go_iconst (v := 0) (pc' := 74) dX14_relates_73 rfl (by decide) ?_
      obtain rfl := Option.some.inj hf
      exact Go.ret (v := some (.int _)) dX14_relates_74 ⟨_, rfl⟩ ⟨rfl, rfl, R⟩
    · have hf := ie c121 hf
      refine go_aload_n (i := 0) (pc' := 61) dX14_relates_60 rfl rfl rfl ?_
      refine go_aload_n (i := 2) (pc' := 62) dX14_relates_61 rfl rfl rfl ?_
      refine go_aload_n (i := 3) (pc' := 63) dX14_relates_62 rfl rfl rfl ?_
      obtain ⟨v122, σ123, e124, hf⟩ := bd_some hf
      refine go_invV (As := [_, _]) (pc' := 66) dX14_relates_63 rfl cf_X14_relates_217 rfl (R.ob (R.at rfl (by decide))) rfl rfl (Nat.le_of_ble_eq_true rfl) (c_X14_overlap R e124) (fun q125v h126 q125 => ?_)
      obtain ⟨rfl, R⟩ := q125
      refine go_if_ne (pc' := 69) (tgt := 73) dX14_relates_66 (by decide) rfl (fun c127 => ?_) (fun c127 => ?_)
      · have hf := ie c127 hf
        refine go_iconst (v := 0) (pc' := 74) dX14_relates_73 rfl (by decide) ?_
        obtain rfl := Option.some.inj hf
        exact Go.ret (v := some (.int _)) dX14_relates_74 ⟨_, rfl⟩ ⟨rfl, rfl, R⟩
      · have hf := it c127 hf
        refine go_iconst (v := 1) (pc' := 70) dX14_relates_69 rfl (by decide) ?_
        refine go_goto (pc' := 0) (tgt := 74) dX14_relates_70 (by decide) ?_
        obtain rfl := Option.some.inj hf
        exact Go.ret (v := some (.int _)) dX14_relates_74 ⟨_, rfl⟩ ⟨rfl, rfl, R⟩
  have hf := ie c115 hf
  by_cases c128 : x1 = 3
  · have hf := it c128 hf
    refine go_tableIn (pc' := 0) (off := 74) (tgt := 75) dX14_relates_1 (by rw [c128]; decide) (by rw [c128]; decide) (by rw [c128]; rfl) (by decide) ?_
    refine go_aload_n (i := 0) (pc' := 76) dX14_relates_75 rfl rfl rfl ?_
    refine go_aload_n (i := 2) (pc' := 77) dX14_relates_76 rfl rfl rfl ?_
    refine go_aload_n (i := 3) (pc' := 78) dX14_relates_77 rfl rfl rfl ?_
    obtain ⟨v129, σ130, e131, hf⟩ := bd_some hf
    refine go_invV (As := [_, _]) (pc' := 81) dX14_relates_78 rfl cf_X14_relates_235 rfl (R.ob (R.at rfl (by decide))) rfl rfl (Nat.le_of_ble_eq_true rfl) (c_X14_isWithin R e131) (fun q132v h133 q132 => ?_)
    obtain ⟨rfl, R⟩ := q132
    obtain ⟨g134, hf⟩ := gd_some hf
    obtain rfl := Option.some.inj hf
    exact Go.ret (v := some (.int _)) dX14_relates_81 ⟨_, rfl⟩ ⟨(nb g134), rfl, R⟩
  have hf := ie c128 hf
  refine go_tableOut (pc' := 0) (tgt := 82) dX14_relates_1 (sw_out 0 3 (fun v h1 h2 h3 => ?_)) (by decide) ?_
  · rcases (show v = 0 ∨ v = 1 ∨ v = 2 ∨ v = 3 by omega) with rfl | rfl | rfl | rfl
    · exact c101 h3
    · exact c108 h3
    · exact c115 h3
    · exact c128 h3
  · refine go_aload_n (i := 0) (pc' := 83) dX14_relates_82 rfl rfl rfl ?_
    refine go_aload_n (i := 3) (pc' := 84) dX14_relates_83 rfl rfl rfl ?_
    refine go_aload_n (i := 2) (pc' := 85) dX14_relates_84 rfl rfl rfl ?_
    obtain ⟨v135, σ136, e137, hf⟩ := bd_some hf
    refine go_invV (As := [_, _]) (pc' := 88) dX14_relates_85 rfl cf_X14_relates_235 rfl (R.ob (R.at rfl (by decide))) rfl rfl (Nat.le_of_ble_eq_true rfl) (c_X14_isWithin R e137) (fun q138v h139 q138 => ?_)
    obtain ⟨rfl, R⟩ := q138
    obtain ⟨g140, hf⟩ := gd_some hf
    obtain rfl := Option.some.inj hf
    exact Go.ret (v := some (.int _)) dX14_relates_88 ⟨_, rfl⟩ ⟨(nb g140), rfl, R⟩
def l_X14_takeRing_12 (n : Nat) : Nat → Nat → Nat → Int32 → Int32 → xσ → Option (Unit × xσ)
  | 0, _, _, _, _, _ => none
  | f + 1, a0, a1, x2, x4, σ => gd (inb x2 8) (if (sI σ (a1 + 1) x2.toNatClampNeg) ≤ x4 then bd (f_X12_endRing n a0 σ) (fun v103 σ104 => some ((), σ104)) else gd (inb x4 40) (gd (inb x4 40) (bd (f_X12_add n a0 (sI σ (a1 + 2) x4.toNatClampNeg) (sI σ (a1 + 3) x4.toNatClampNeg) σ) (fun v110 σ111 => (l_X14_takeRing_12 n f) a0 a1 x2 (x4 + 1) σ111))))
set_option maxRecDepth 100000 in
set_option maxHeartbeats 4000000 in
theorem t_X14_takeRing_12 {G : xG} {n : Nat} : ∀ (f : Nat) {a0 : Nat} {a1 : Nat} {x2 : Int32} {x4 : Int32} {σ : xσ} {h : xH} {r : Unit × xσ} {d3 : Option Value}, Rl n σ h → okM a0 → okM a1 → l_X14_takeRing_12 n f a0 a1 x2 x4 σ = some r → Go G mX14_takeRing 12 [some (.ref a0), some (.ref a1), some (.int x2), d3, some (.int x4)] [] h (fun v h' => xRok (xRt mX14_takeRing) v ∧ v = none ∧ Rl n r.2 h') := by
  intro f
  induction f with
  | zero =>
    intros
    rename _ = some _ => hf
    rw [l_X14_takeRing_12] at hf
    cases hf
  | succ f ih =>
    intro a0 a1 x2 x4 σ h r d3 R g0 g1 hf
    rw [l_X14_takeRing_12] at hf
    refine go_iload (pc' := 14) dX14_takeRing_12 rfl rfl ?_
    refine go_aload_n (i := 1) (pc' := 15) dX14_takeRing_14 rfl rfl rfl ?_
    refine go_getS (pc' := 18) dX14_takeRing_15 rfl gf_LandBaseModel_68 R (g1.at R) (by decide) rfl ?_
    refine go_iload_n (i := 2) (pc' := 19) dX14_takeRing_18 rfl rfl rfl ?_
    obtain ⟨g101, hf⟩ := gd_some hf
    refine go_ialoadS (pc' := 20) dX14_takeRing_19 rfl R (g1.e R) g101 ?_
    refine go_icmp_ge (pc' := 23) (tgt := 47) dX14_takeRing_20 (by decide) rfl (fun c102 => ?_) (fun c102 => ?_)
    · have hf := it c102 hf
      refine go_aload_n (i := 0) (pc' := 48) dX14_takeRing_47 rfl rfl rfl ?_
      obtain ⟨v103, σ104, e105, hf⟩ := bd_some hf
      refine go_invV (As := []) (pc' := 51) dX14_takeRing_48 rfl cf_X14_takeRing_246 rfl (R.ob (g0.at R)) rfl rfl (Nat.le_of_ble_eq_true rfl) (c_X12_endRing R e105) (fun q106v h107 q106 => ?_)
      obtain ⟨rfl, R⟩ := q106
      obtain rfl := Option.some.inj hf
      exact Go.ret (v := none) dX14_takeRing_51 rfl ⟨trivial, rfl, R⟩
    · have hf := ie c102 hf
      refine go_aload_n (i := 0) (pc' := 24) dX14_takeRing_23 rfl rfl rfl ?_
      refine go_aload_n (i := 1) (pc' := 25) dX14_takeRing_24 rfl rfl rfl ?_
      refine go_getS (pc' := 28) dX14_takeRing_25 rfl gf_LandBaseModel_30 R (g1.at R) (by decide) rfl ?_
      refine go_iload (pc' := 30) dX14_takeRing_28 rfl rfl ?_
      obtain ⟨g108, hf⟩ := gd_some hf
      refine go_ialoadS (pc' := 31) dX14_takeRing_30 rfl R (g1.x R) g108 ?_
      refine go_aload_n (i := 1) (pc' := 32) dX14_takeRing_31 rfl rfl rfl ?_
      refine go_getS (pc' := 35) dX14_takeRing_32 rfl gf_LandBaseModel_36 R (g1.at R) (by decide) rfl ?_
      refine go_iload (pc' := 37) dX14_takeRing_35 rfl rfl ?_
      obtain ⟨g109, hf⟩ := gd_some hf
      refine go_ialoadS (pc' := 38) dX14_takeRing_37 rfl R (g1.y R) g109 ?_
      obtain ⟨v110, σ111, e112, hf⟩ := bd_some hf
      refine go_invV (As := [_, _]) (pc' := 41) dX14_takeRing_38 rfl cf_X14_takeRing_242 rfl (R.ob (g0.at R)) rfl rfl (Nat.le_of_ble_eq_true rfl) (c_X12_add R e112) (fun q113v h114 q113 => ?_)
      obtain ⟨rfl, R⟩ := q113
      refine go_iincC (kk := 1) (pc' := 44) dX14_takeRing_41 rfl rfl (by decide) (by decide) rfl ?_
      refine go_goto (pc' := 0) (tgt := 12) dX14_takeRing_44 (by decide) ?_
      exact ih R g0 g1 hf
def f_X14_takeRing (n : Nat) (a0 : Nat) (a1 : Nat) (x2 : Int32) (x3 : Int32) (σ : xσ) : Option (Unit × xσ) := gd (okM a0) (gd (okM a1) (bd (f_X12_begin n a0 x3 σ) (fun v101 σ102 => bd (f_X12_beginOf n a1 x2 σ102) (fun v106 σ107 => l_X14_takeRing_12 n xFU a0 a1 x2 v106 σ107))))
set_option maxRecDepth 100000 in
set_option maxHeartbeats 4000000 in
theorem c_X14_takeRing {G : xG} {n : Nat} {σ : xσ} {h : xH} {a0 : Nat} {a1 : Nat} {x2 : Int32} {x3 : Int32} {v1 : Unit} {σ1 : xσ} (R : Rl n σ h) (hf : f_X14_takeRing n a0 a1 x2 x3 σ = some (v1, σ1)) : Ca G mX14_takeRing [.ref a0, .ref a1, .int x2, .int x3] h (fun v h' => v = none ∧ Rl n σ1 h') := by
  refine Ca.of rfl (Nat.le_of_ble_eq_true rfl) ?_
  generalize hr : (v1, σ1) = r at hf
  suffices q : Go G mX14_takeRing 0 (xent (xMl mX14_takeRing) [.ref a0, .ref a1, .int x2, .int x3]) [] h (fun v h' => xRok (xRt mX14_takeRing) v ∧ v = none ∧ Rl n r.2 h') by
    subst hr
    exact q
  clear hr
  rw [f_X14_takeRing] at hf
  obtain ⟨g0, hf⟩ := gd_some hf
  obtain ⟨g1, hf⟩ := gd_some hf
  refine go_aload_n (i := 0) (pc' := 1) dX14_takeRing_0 rfl rfl rfl ?_
  refine go_iload_n (i := 3) (pc' := 2) dX14_takeRing_1 rfl rfl rfl ?_
  obtain ⟨v101, σ102, e103, hf⟩ := bd_some hf
  refine go_invV (As := [_]) (pc' := 5) dX14_takeRing_2 rfl cf_X14_takeRing_238 rfl (R.ob (g0.at R)) rfl rfl (Nat.le_of_ble_eq_true rfl) (c_X12_begin R e103) (fun q104v h105 q104 => ?_)
  obtain ⟨rfl, R⟩ := q104
  refine go_aload_n (i := 1) (pc' := 6) dX14_takeRing_5 rfl rfl rfl ?_
  refine go_iload_n (i := 2) (pc' := 7) dX14_takeRing_6 rfl rfl rfl ?_
  obtain ⟨v106, σ107, e108, hf⟩ := bd_some hf
  refine go_invV (As := [_]) (pc' := 10) dX14_takeRing_7 rfl cf_X14_takeRing_64 rfl (R.ob (g1.at R)) rfl rfl (Nat.le_of_ble_eq_true rfl) (c_X12_beginOf R e108) (fun q109v h110 q109 => ?_)
  obtain ⟨rfl, R⟩ := q109
  refine go_istoreE rfl (pc' := 12) dX14_takeRing_10 rfl (by decide) rfl ?_
  exact t_X14_takeRing_12 xFU R g0 g1 hf
def l_X14_hasSteps_2 (n : Nat) : Nat → Nat → Int32 → xσ → Option (Int32 × xσ)
  | 0, _, _, _ => none
  | f + 1, a0, x1, σ => if (sI σ a0 2) ≤ (x1 + 1) then some (1, σ) else bd (f_X12_isWay n a0 x1 σ) (fun v102 σ103 => if v102 = 0 then (l_X14_hasSteps_2 n f) a0 (x1 + 1) σ103 else bd (f_X12_isLike n a0 x1 (x1 + 1) σ103) (fun v108 σ109 => if v108 = 0 then (l_X14_hasSteps_2 n f) a0 (x1 + 1) σ109 else some (0, σ109)))
set_option maxRecDepth 100000 in
set_option maxHeartbeats 4000000 in
theorem t_X14_hasSteps_2 {G : xG} {n : Nat} : ∀ (f : Nat) {a0 : Nat} {x1 : Int32} {σ : xσ} {h : xH} {r : Int32 × xσ}, Rl n σ h → okM a0 → l_X14_hasSteps_2 n f a0 x1 σ = some r → Go G mX14_hasSteps 2 [some (.ref a0), some (.int x1)] [] h (fun v h' => xRok (xRt mX14_hasSteps) v ∧ v = some (.int r.1) ∧ Rl n r.2 h') := by
  intro f
  induction f with
  | zero =>
    intros
    rename _ = some _ => hf
    rw [l_X14_hasSteps_2] at hf
    cases hf
  | succ f ih =>
    intro a0 x1 σ h r  R g0 hf
    rw [l_X14_hasSteps_2] at hf
    refine go_iload_n (i := 1) (pc' := 3) dX14_hasSteps_2 rfl rfl rfl ?_
    refine go_iconst (v := 1) (pc' := 4) dX14_hasSteps_3 rfl (by decide) ?_
    refine go_iadd (pc' := 5) dX14_hasSteps_4 rfl ?_
    refine go_aload_n (i := 0) (pc' := 6) dX14_hasSteps_5 rfl rfl rfl ?_
    refine go_getS (pc' := 9) dX14_hasSteps_6 rfl gf_LandBaseModel_79 R (g0.at R) (by decide) rfl ?_
    refine go_icmp_ge (pc' := 12) (tgt := 39) dX14_hasSteps_9 (by decide) rfl (fun c101 => ?_) (fun c101 => ?_)
    · have hf := it c101 hf
      refine go_iconst (v := 1) (pc' := 40) dX14_hasSteps_39 rfl (by decide) ?_
      obtain rfl := Option.some.inj hf
      exact Go.ret (v := some (.int _)) dX14_hasSteps_40 ⟨_, rfl⟩ ⟨rfl, rfl, R⟩
    · have hf := ie c101 hf
      refine go_aload_n (i := 0) (pc' := 13) dX14_hasSteps_12 rfl rfl rfl ?_
      refine go_iload_n (i := 1) (pc' := 14) dX14_hasSteps_13 rfl rfl rfl ?_
      obtain ⟨v102, σ103, e104, hf⟩ := bd_some hf
      refine go_invV (As := [_]) (pc' := 17) dX14_hasSteps_14 rfl cf_X14_hasSteps_82 rfl (R.ob (g0.at R)) rfl rfl (Nat.le_of_ble_eq_true rfl) (c_X12_isWay R e104) (fun q105v h106 q105 => ?_)
      obtain ⟨rfl, R⟩ := q105
      refine go_if_eq (pc' := 20) (tgt := 33) dX14_hasSteps_17 (by decide) rfl (fun c107 => ?_) (fun c107 => ?_)
      · have hf := it c107 hf
        refine go_iincC (kk := 1) (pc' := 36) dX14_hasSteps_33 rfl rfl (by decide) (by decide) rfl ?_
        refine go_goto (pc' := 0) (tgt := 2) dX14_hasSteps_36 (by decide) ?_
        exact ih R g0 hf
      · have hf := ie c107 hf
        refine go_aload_n (i := 0) (pc' := 21) dX14_hasSteps_20 rfl rfl rfl ?_
        refine go_iload_n (i := 1) (pc' := 22) dX14_hasSteps_21 rfl rfl rfl ?_
        refine go_iload_n (i := 1) (pc' := 23) dX14_hasSteps_22 rfl rfl rfl ?_
        refine go_iconst (v := 1) (pc' := 24) dX14_hasSteps_23 rfl (by decide) ?_
        refine go_iadd (pc' := 25) dX14_hasSteps_24 rfl ?_
        obtain ⟨v108, σ109, e110, hf⟩ := bd_some hf
        refine go_invV (As := [_, _]) (pc' := 28) dX14_hasSteps_25 rfl cf_X14_hasSteps_250 rfl (R.ob (g0.at R)) rfl rfl (Nat.le_of_ble_eq_true rfl) (c_X12_isLike R e110) (fun q111v h112 q111 => ?_)
        obtain ⟨rfl, R⟩ := q111
        refine go_if_eq (pc' := 31) (tgt := 33) dX14_hasSteps_28 (by decide) rfl (fun c113 => ?_) (fun c113 => ?_)
        · have hf := it c113 hf
          refine go_iincC (kk := 1) (pc' := 36) dX14_hasSteps_33 rfl rfl (by decide) (by decide) rfl ?_
          refine go_goto (pc' := 0) (tgt := 2) dX14_hasSteps_36 (by decide) ?_
          exact ih R g0 hf
        · have hf := ie c113 hf
          refine go_iconst (v := 0) (pc' := 32) dX14_hasSteps_31 rfl (by decide) ?_
          obtain rfl := Option.some.inj hf
          exact Go.ret (v := some (.int _)) dX14_hasSteps_32 ⟨_, rfl⟩ ⟨rfl, rfl, R⟩
def f_X14_hasSteps (n : Nat) (a0 : Nat) (σ : xσ) : Option (Int32 × xσ) := gd (okM a0) (l_X14_hasSteps_2 n xFU a0 0 σ)
set_option maxRecDepth 100000 in
set_option maxHeartbeats 4000000 in
theorem c_X14_hasSteps {G : xG} {n : Nat} {σ : xσ} {h : xH} {a0 : Nat} {v1 : Int32} {σ1 : xσ} (R : Rl n σ h) (hf : f_X14_hasSteps n a0 σ = some (v1, σ1)) : Ca G mX14_hasSteps [.ref a0] h (fun v h' => v = some (.int v1) ∧ Rl n σ1 h') := by
  refine Ca.of rfl (Nat.le_of_ble_eq_true rfl) ?_
  generalize hr : (v1, σ1) = r at hf
  suffices q : Go G mX14_hasSteps 0 (xent (xMl mX14_hasSteps) [.ref a0]) [] h (fun v h' => xRok (xRt mX14_hasSteps) v ∧ v = some (.int r.1) ∧ Rl n r.2 h') by
    subst hr
    exact q
  clear hr
  rw [f_X14_hasSteps] at hf
  obtain ⟨g0, hf⟩ := gd_some hf
  refine go_iconst (v := 0) (pc' := 1) dX14_hasSteps_0 rfl (by decide) ?_
  refine go_istore_nE rfl (i := 1) (pc' := 2) dX14_hasSteps_1 rfl rfl (by decide) rfl ?_
  exact t_X14_hasSteps_2 xFU R g0 hf

/-! methods as functions, by program (gen/dcmall.py) -/
def b_X14_move_95 (n : Nat) (k39 : Int32 → Int32 → Nat → Int32 → Int32 → xσ → Option (Unit × xσ)) (x2 : Int32) (x3 : Int32) (a5 : Nat) (x7 : Int32) (xs0 : Int32) (σ : xσ) : Option (Unit × xσ) := k39 x2 x3 a5 xs0 (x7 + 1) σ
set_option maxRecDepth 100000 in
set_option maxHeartbeats 4000000 in
theorem t_X14_move_95 {G : xG} {n : Nat} {k39 : Int32 → Int32 → Nat → Int32 → Int32 → xσ → Option (Unit × xσ)} (hk39 : ∀ {x2 : Int32} {x3 : Int32} {a5 : Nat} {x6 : Int32} {x7 : Int32} {σ : xσ} {h : xH} {r : Unit × xσ} {d1 : Option Value} {d4 : Option Value}, Rl n σ h → okM a5 → k39 x2 x3 a5 x6 x7 σ = some r → Go G mX14_move 39 [some (.ref 233), d1, some (.int x2), some (.int x3), d4, some (.ref a5), some (.int x6), some (.int x7)] [] h (fun v h' => xRok (xRt mX14_move) v ∧ v = none ∧ Rl n r.2 h')) {x2 : Int32} {x3 : Int32} {a5 : Nat} {x7 : Int32} {xs0 : Int32} {σ : xσ} {h : xH} {r : Unit × xσ} {d1 : Option Value} {d4 : Option Value} {d6 : Option Value} : Rl n σ h → okM a5 → b_X14_move_95 n k39 x2 x3 a5 x7 xs0 σ = some r → Go G mX14_move 95 [some (.ref 233), d1, some (.int x2), some (.int x3), d4, some (.ref a5), d6, some (.int x7)] [.int xs0] h (fun v h' => xRok (xRt mX14_move) v ∧ v = none ∧ Rl n r.2 h') := by
  intro R g5 hf
  rw [b_X14_move_95] at hf
  refine go_istoreE rfl (pc' := 97) dX14_move_95 rfl (by decide) rfl ?_
  refine go_iincC (kk := 1) (pc' := 100) dX14_move_97 rfl rfl (by decide) (by decide) rfl ?_
  refine go_goto (pc' := 0) (tgt := 39) dX14_move_100 (by decide) ?_
  exact hk39 R g5 hf
def l_X14_move_136 (n : Nat) : Nat → Int32 → Int32 → Nat → Int32 → xσ → Option (Unit × xσ)
  | 0, _, _, _, _, _ => none
  | f + 1, x2, x3, a5, x7, σ => if (sI σ a5 2) ≤ x7 then bd (f_X14_changed n 16 σ) (fun v102 σ103 => some ((), σ103)) else gd (inb x7 40) (gd (inb x7 40) (st (wI σ (a5 + 2) x7.toNatClampNeg ((sI σ (a5 + 2) x7.toNatClampNeg) + x2)) (fun σ109 => gd (inb x7 40) (gd (inb x7 40) (st (wI σ109 (a5 + 3) x7.toNatClampNeg ((sI σ109 (a5 + 3) x7.toNatClampNeg) + x3)) (fun σ114 => (l_X14_move_136 n f) x2 x3 a5 (x7 + 1) σ114))))))
set_option maxRecDepth 100000 in
set_option maxHeartbeats 4000000 in
theorem t_X14_move_136 {G : xG} {n : Nat} : ∀ (f : Nat) {x2 : Int32} {x3 : Int32} {a5 : Nat} {x7 : Int32} {σ : xσ} {h : xH} {r : Unit × xσ} {d1 : Option Value} {d4 : Option Value} {d6 : Option Value}, Rl n σ h → okM a5 → l_X14_move_136 n f x2 x3 a5 x7 σ = some r → Go G mX14_move 136 [some (.ref 233), d1, some (.int x2), some (.int x3), d4, some (.ref a5), d6, some (.int x7)] [] h (fun v h' => xRok (xRt mX14_move) v ∧ v = none ∧ Rl n r.2 h') := by
  intro f
  induction f with
  | zero =>
    intros
    rename _ = some _ => hf
    rw [l_X14_move_136] at hf
    cases hf
  | succ f ih =>
    intro x2 x3 a5 x7 σ h r d1 d4 d6 R g5 hf
    rw [l_X14_move_136] at hf
    refine go_iload (pc' := 138) dX14_move_136 rfl rfl ?_
    refine go_aload (pc' := 140) dX14_move_138 rfl rfl ?_
    refine go_getS (pc' := 143) dX14_move_140 rfl gf_LandBaseModel_79 R (g5.at R) (by decide) rfl ?_
    refine go_icmp_ge (pc' := 146) (tgt := 176) dX14_move_143 (by decide) rfl (fun c101 => ?_) (fun c101 => ?_)
    · have hf := it c101 hf
      refine go_aload_n (i := 0) (pc' := 177) dX14_move_176 rfl rfl rfl ?_
      refine go_bipush (v := 16) (pc' := 179) dX14_move_177 rfl (by decide) ?_
      obtain ⟨v102, σ103, e104, hf⟩ := bd_some hf
      refine go_invV (As := [_]) (pc' := 182) dX14_move_179 rfl cf_X14_move_590 rfl (R.ob (R.at rfl (by decide))) rfl rfl (Nat.le_of_ble_eq_true rfl) (c_X14_changed R e104) (fun q105v h106 q105 => ?_)
      obtain ⟨rfl, R⟩ := q105
      obtain rfl := Option.some.inj hf
      exact Go.ret (v := none) dX14_move_182 rfl ⟨trivial, rfl, R⟩
    · have hf := ie c101 hf
      refine go_aload (pc' := 148) dX14_move_146 rfl rfl ?_
      refine go_getS (pc' := 151) dX14_move_148 rfl gf_LandBaseModel_30 R (g5.at R) (by decide) rfl ?_
      refine go_iload (pc' := 153) dX14_move_151 rfl rfl ?_
      refine go_dup2_11 (pc' := 154) dX14_move_153 rfl rfl rfl ?_
      obtain ⟨g107, hf⟩ := gd_some hf
      refine go_ialoadS (pc' := 155) dX14_move_154 rfl R (g5.x R) g107 ?_
      refine go_iload_n (i := 2) (pc' := 156) dX14_move_155 rfl rfl rfl ?_
      refine go_iadd (pc' := 157) dX14_move_156 rfl ?_
      obtain ⟨g108, hf⟩ := gd_some hf
      obtain ⟨σ109, e110, hf⟩ := st_some hf
      refine go_iastoreS (pc' := 158) dX14_move_157 rfl R (g5.x R) g108 (fun h111 R => ?_)
      have R := Rl.cast e110 R
      refine go_aload (pc' := 160) dX14_move_158 rfl rfl ?_
      refine go_getS (pc' := 163) dX14_move_160 rfl gf_LandBaseModel_36 R (g5.at R) (by decide) rfl ?_
      refine go_iload (pc' := 165) dX14_move_163 rfl rfl ?_
      refine go_dup2_11 (pc' := 166) dX14_move_165 rfl rfl rfl ?_
      obtain ⟨g112, hf⟩ := gd_some hf
      refine go_ialoadS (pc' := 167) dX14_move_166 rfl R (g5.y R) g112 ?_
      refine go_iload_n (i := 3) (pc' := 168) dX14_move_167 rfl rfl rfl ?_
      refine go_iadd (pc' := 169) dX14_move_168 rfl ?_
      obtain ⟨g113, hf⟩ := gd_some hf
      obtain ⟨σ114, e115, hf⟩ := st_some hf
      refine go_iastoreS (pc' := 170) dX14_move_169 rfl R (g5.y R) g113 (fun h116 R => ?_)
      have R := Rl.cast e115 R
      refine go_iincC (kk := 1) (pc' := 173) dX14_move_170 rfl rfl (by decide) (by decide) rfl ?_
      refine go_goto (pc' := 0) (tgt := 136) dX14_move_173 (by decide) ?_
      exact ih R g5 hf
def l_X14_move_39 (n : Nat) : Nat → Int32 → Int32 → Nat → Int32 → Int32 → xσ → Option (Unit × xσ)
  | 0, _, _, _, _, _, _ => none
  | f + 1, x2, x3, a5, x6, x7, σ => if (sI σ a5 2) ≤ x7 then if x6 = 0 then bd (f_X14_put n 5 σ) (fun v114 σ115 => some ((), σ115)) else bd (f_X14_hasRoom n 16 σ) (fun v103 σ104 => if v103 = 0 then bd (f_X14_put n 4 σ104) (fun v109 σ110 => some ((), σ110)) else l_X14_move_136 n xFU x2 x3 a5 0 σ104) else if x6 = 0 then b_X14_move_95 n (l_X14_move_39 n f) x2 x3 a5 x7 0 σ else gd (inb x7 40) (bd (f_X14_isNumber n (((sI σ (a5 + 2) x7.toNatClampNeg).toInt64) + (x2.toInt64)) σ) (fun v121 σ122 => if v121 = 0 then b_X14_move_95 n (l_X14_move_39 n f) x2 x3 a5 x7 0 σ122 else gd (inb x7 40) (bd (f_X14_isNumber n (((sI σ122 (a5 + 3) x7.toNatClampNeg).toInt64) + (x3.toInt64)) σ122) (fun v128 σ129 => if v128 = 0 then b_X14_move_95 n (l_X14_move_39 n f) x2 x3 a5 x7 0 σ129 else b_X14_move_95 n (l_X14_move_39 n f) x2 x3 a5 x7 1 σ129))))
set_option maxRecDepth 100000 in
set_option maxHeartbeats 4000000 in
theorem t_X14_move_39 {G : xG} {n : Nat} : ∀ (f : Nat) {x2 : Int32} {x3 : Int32} {a5 : Nat} {x6 : Int32} {x7 : Int32} {σ : xσ} {h : xH} {r : Unit × xσ} {d1 : Option Value} {d4 : Option Value}, Rl n σ h → okM a5 → l_X14_move_39 n f x2 x3 a5 x6 x7 σ = some r → Go G mX14_move 39 [some (.ref 233), d1, some (.int x2), some (.int x3), d4, some (.ref a5), some (.int x6), some (.int x7)] [] h (fun v h' => xRok (xRt mX14_move) v ∧ v = none ∧ Rl n r.2 h') := by
  intro f
  induction f with
  | zero =>
    intros
    rename _ = some _ => hf
    rw [l_X14_move_39] at hf
    cases hf
  | succ f ih =>
    intro x2 x3 a5 x6 x7 σ h r d1 d4 R g5 hf
    rw [l_X14_move_39] at hf
    refine go_iload (pc' := 41) dX14_move_39 rfl rfl ?_
    refine go_aload (pc' := 43) dX14_move_41 rfl rfl ?_
    refine go_getS (pc' := 46) dX14_move_43 rfl gf_LandBaseModel_79 R (g5.at R) (by decide) rfl ?_
    refine go_icmp_ge (pc' := 49) (tgt := 103) dX14_move_46 (by decide) rfl (fun c101 => ?_) (fun c101 => ?_)
    · have hf := it c101 hf
      refine go_iload (pc' := 105) dX14_move_103 rfl rfl ?_
      refine go_if_ne (pc' := 108) (tgt := 116) dX14_move_105 (by decide) rfl (fun c102 => ?_) (fun c102 => ?_)
      · have hf := ie c102 hf
        refine go_aload_n (i := 0) (pc' := 117) dX14_move_116 rfl rfl rfl ?_
        refine go_bipush (v := 16) (pc' := 119) dX14_move_117 rfl (by decide) ?_
        obtain ⟨v103, σ104, e105, hf⟩ := bd_some hf
        refine go_invV (As := [_]) (pc' := 122) dX14_move_119 rfl cf_X14_move_584 rfl (R.ob (R.at rfl (by decide))) rfl rfl (Nat.le_of_ble_eq_true rfl) (c_X14_hasRoom R e105) (fun q106v h107 q106 => ?_)
        obtain ⟨rfl, R⟩ := q106
        refine go_if_ne (pc' := 125) (tgt := 133) dX14_move_122 (by decide) rfl (fun c108 => ?_) (fun c108 => ?_)
        · have hf := ie c108 hf
          refine go_iconst (v := 0) (pc' := 134) dX14_move_133 rfl (by decide) ?_
          refine go_istoreE rfl (pc' := 136) dX14_move_134 rfl (by decide) rfl ?_
          exact t_X14_move_136 xFU R g5 hf
        · have hf := it c108 hf
          refine go_aload_n (i := 0) (pc' := 126) dX14_move_125 rfl rfl rfl ?_
          refine go_iconst (v := 4) (pc' := 127) dX14_move_126 rfl (by decide) ?_
          obtain ⟨v109, σ110, e111, hf⟩ := bd_some hf
          refine go_invV (As := [_]) (pc' := 130) dX14_move_127 rfl cf_X14_move_557 rfl (R.ob (R.at rfl (by decide))) rfl rfl (Nat.le_of_ble_eq_true rfl) (c_X14_put R e111) (fun q112v h113 q112 => ?_)
          obtain ⟨rfl, R⟩ := q112
          refine go_goto (pc' := 0) (tgt := 182) dX14_move_130 (by decide) ?_
          obtain rfl := Option.some.inj hf
          exact Go.ret (v := none) dX14_move_182 rfl ⟨trivial, rfl, R⟩
      · have hf := it c102 hf
        refine go_aload_n (i := 0) (pc' := 109) dX14_move_108 rfl rfl rfl ?_
        refine go_iconst (v := 5) (pc' := 110) dX14_move_109 rfl (by decide) ?_
        obtain ⟨v114, σ115, e116, hf⟩ := bd_some hf
        refine go_invV (As := [_]) (pc' := 113) dX14_move_110 rfl cf_X14_move_557 rfl (R.ob (R.at rfl (by decide))) rfl rfl (Nat.le_of_ble_eq_true rfl) (c_X14_put R e116) (fun q117v h118 q117 => ?_)
        obtain ⟨rfl, R⟩ := q117
        refine go_goto (pc' := 0) (tgt := 182) dX14_move_113 (by decide) ?_
        obtain rfl := Option.some.inj hf
        exact Go.ret (v := none) dX14_move_182 rfl ⟨trivial, rfl, R⟩
    · have hf := ie c101 hf
      refine go_iload (pc' := 51) dX14_move_49 rfl rfl ?_
      refine go_if_eq (pc' := 54) (tgt := 94) dX14_move_51 (by decide) rfl (fun c119 => ?_) (fun c119 => ?_)
      · have hf := it c119 hf
        refine go_iconst (v := 0) (pc' := 95) dX14_move_94 rfl (by decide) ?_
        exact t_X14_move_95 @ih R g5 hf
      · have hf := ie c119 hf
        refine go_aload (pc' := 56) dX14_move_54 rfl rfl ?_
        refine go_getS (pc' := 59) dX14_move_56 rfl gf_LandBaseModel_30 R (g5.at R) (by decide) rfl ?_
        refine go_iload (pc' := 61) dX14_move_59 rfl rfl ?_
        obtain ⟨g120, hf⟩ := gd_some hf
        refine go_ialoadS (pc' := 62) dX14_move_61 rfl R (g5.x R) g120 ?_
        refine go_i2l (pc' := 63) dX14_move_62 rfl rfl ?_
        refine go_iload_n (i := 2) (pc' := 64) dX14_move_63 rfl rfl rfl ?_
        refine go_i2l (pc' := 65) dX14_move_64 rfl rfl ?_
        refine go_ladd (pc' := 66) dX14_move_65 rfl ?_
        obtain ⟨v121, σ122, e123, hf⟩ := bd_some hf
        refine go_invS (As := [_]) (pc' := 69) dX14_move_66 rfl cf_X14_move_600 rfl rfl (Nat.le_of_ble_eq_true rfl) (c_X14_isNumber R e123) (fun q124v h125 q124 => ?_)
        obtain ⟨rfl, R⟩ := q124
        refine go_if_eq (pc' := 72) (tgt := 94) dX14_move_69 (by decide) rfl (fun c126 => ?_) (fun c126 => ?_)
        · have hf := it c126 hf
          refine go_iconst (v := 0) (pc' := 95) dX14_move_94 rfl (by decide) ?_
          exact t_X14_move_95 @ih R g5 hf
        · have hf := ie c126 hf
          refine go_aload (pc' := 74) dX14_move_72 rfl rfl ?_
          refine go_getS (pc' := 77) dX14_move_74 rfl gf_LandBaseModel_36 R (g5.at R) (by decide) rfl ?_
          refine go_iload (pc' := 79) dX14_move_77 rfl rfl ?_
          obtain ⟨g127, hf⟩ := gd_some hf
          refine go_ialoadS (pc' := 80) dX14_move_79 rfl R (g5.y R) g127 ?_
          refine go_i2l (pc' := 81) dX14_move_80 rfl rfl ?_
          refine go_iload_n (i := 3) (pc' := 82) dX14_move_81 rfl rfl rfl ?_
          refine go_i2l (pc' := 83) dX14_move_82 rfl rfl ?_
          refine go_ladd (pc' := 84) dX14_move_83 rfl ?_
          obtain ⟨v128, σ129, e130, hf⟩ := bd_some hf
          refine go_invS (As := [_]) (pc' := 87) dX14_move_84 rfl cf_X14_move_600 rfl rfl (Nat.le_of_ble_eq_true rfl) (c_X14_isNumber R e130) (fun q131v h132 q131 => ?_)
          obtain ⟨rfl, R⟩ := q131
          refine go_if_eq (pc' := 90) (tgt := 94) dX14_move_87 (by decide) rfl (fun c133 => ?_) (fun c133 => ?_)
          · have hf := it c133 hf
            refine go_iconst (v := 0) (pc' := 95) dX14_move_94 rfl (by decide) ?_
            exact t_X14_move_95 @ih R g5 hf
          · have hf := ie c133 hf
            refine go_iconst (v := 1) (pc' := 91) dX14_move_90 rfl (by decide) ?_
            refine go_goto (pc' := 0) (tgt := 95) dX14_move_91 (by decide) ?_
            exact t_X14_move_95 @ih R g5 hf
def f_X14_move (n : Nat) (x1 : Int32) (x2 : Int32) (x3 : Int32) (σ : xσ) : Option (Unit × xσ) := bd (f_X13_find n 259 x1 σ) (fun v101 σ102 => if 0 ≤ v101 then gd (inb v101 200) (nn (sR σ102 260 v101.toNatClampNeg) (fun a108 => gd (okM a108) (l_X14_move_39 n xFU x2 x3 a108 1 0 σ102))) else bd (f_X14_put n 2 σ102) (fun v111 σ112 => some ((), σ112)))
set_option maxRecDepth 100000 in
set_option maxHeartbeats 4000000 in
theorem c_X14_move {G : xG} {n : Nat} {σ : xσ} {h : xH} {x1 : Int32} {x2 : Int32} {x3 : Int32} {v1 : Unit} {σ1 : xσ} (R : Rl n σ h) (hf : f_X14_move n x1 x2 x3 σ = some (v1, σ1)) : Ca G mX14_move [.ref 233, .int x1, .int x2, .int x3] h (fun v h' => v = none ∧ Rl n σ1 h') := by
  refine Ca.of rfl (Nat.le_of_ble_eq_true rfl) ?_
  generalize hr : (v1, σ1) = r at hf
  suffices q : Go G mX14_move 0 (xent (xMl mX14_move) [.ref 233, .int x1, .int x2, .int x3]) [] h (fun v h' => xRok (xRt mX14_move) v ∧ v = none ∧ Rl n r.2 h') by
    subst hr
    exact q
  clear hr
  rw [f_X14_move] at hf
  refine go_aload_n (i := 0) (pc' := 1) dX14_move_0 rfl rfl rfl ?_
  refine go_getS (pc' := 4) dX14_move_1 rfl gf_LandBaseModel_351 R (R.at rfl (by decide)) (by decide) rfl ?_
  refine go_iload_n (i := 1) (pc' := 5) dX14_move_4 rfl rfl rfl ?_
  obtain ⟨v101, σ102, e103, hf⟩ := bd_some hf
  refine go_invV (As := [_]) (pc' := 8) dX14_move_5 rfl cf_X14_move_573 rfl (R.ob (R.at rfl (by decide))) rfl rfl (Nat.le_of_ble_eq_true rfl) (c_X13_find R e103) (fun q104v h105 q104 => ?_)
  obtain ⟨rfl, R⟩ := q104
  refine go_istoreE rfl (pc' := 10) dX14_move_8 rfl (by decide) rfl ?_
  refine go_iload (pc' := 12) dX14_move_10 rfl rfl ?_
  refine go_if_ge (pc' := 15) (tgt := 21) dX14_move_12 (by decide) rfl (fun c106 => ?_) (fun c106 => ?_)
  · have hf := it c106 hf
    refine go_aload_n (i := 0) (pc' := 22) dX14_move_21 rfl rfl rfl ?_
    refine go_getS (pc' := 25) dX14_move_22 rfl gf_LandBaseModel_351 R (R.at rfl (by decide)) (by decide) rfl ?_
    refine go_getS (pc' := 28) dX14_move_25 rfl gf_LandBaseModel_596 R (R.at rfl (by decide)) (by decide) rfl ?_
    refine go_iload (pc' := 30) dX14_move_28 rfl rfl ?_
    obtain ⟨g107, hf⟩ := gd_some hf
    obtain ⟨a108, e109, hf⟩ := nn_some hf
    obtain ⟨g110, hf⟩ := gd_some hf
    refine go_aaloadS (pc' := 31) dX14_move_30 rfl (by decide) R (R.aa rfl (by decide)) g107 e109 ?_
    refine go_astore (pc' := 33) dX14_move_31 rfl (by decide) rfl ?_
    refine go_iconst (v := 1) (pc' := 34) dX14_move_33 rfl (by decide) ?_
    refine go_istoreE rfl (pc' := 36) dX14_move_34 rfl (by decide) rfl ?_
    refine go_iconst (v := 0) (pc' := 37) dX14_move_36 rfl (by decide) ?_
    refine go_istoreE rfl (pc' := 39) dX14_move_37 rfl (by decide) rfl ?_
    exact t_X14_move_39 xFU R g110 hf
  · have hf := ie c106 hf
    refine go_aload_n (i := 0) (pc' := 16) dX14_move_15 rfl rfl rfl ?_
    refine go_iconst (v := 2) (pc' := 17) dX14_move_16 rfl (by decide) ?_
    obtain ⟨v111, σ112, e113, hf⟩ := bd_some hf
    refine go_invV (As := [_]) (pc' := 20) dX14_move_17 rfl cf_X14_move_557 rfl (R.ob (R.at rfl (by decide))) rfl rfl (Nat.le_of_ble_eq_true rfl) (c_X14_put R e113) (fun q114v h115 q114 => ?_)
    obtain ⟨rfl, R⟩ := q114
    obtain rfl := Option.some.inj hf
    exact Go.ret (v := none) dX14_move_20 rfl ⟨trivial, rfl, R⟩
def f_X14_draw (n : Nat) (x1 : Int32) (σ : xσ) : Option (Int32 × xσ) := st (wI σ 233 56 (((sI σ 233 56) * ((1103515245))) + 12345)) (fun σ101 => gd (¬ x1 = 0) (some ((((sI σ101 233 56).toUInt32 >>> ((8 : Int32).toUInt32 &&& Int32.toUInt32 31)).toInt32) - (((sI σ101 233 56).toUInt32 >>> ((8 : Int32).toUInt32 &&& Int32.toUInt32 31)).toInt32) / x1 * x1, σ101)))
set_option maxRecDepth 100000 in
set_option maxHeartbeats 4000000 in
theorem c_X14_draw {G : xG} {n : Nat} {σ : xσ} {h : xH} {x1 : Int32} {v1 : Int32} {σ1 : xσ} (R : Rl n σ h) (hf : f_X14_draw n x1 σ = some (v1, σ1)) : Ca G mX14_draw [.ref 233, .int x1] h (fun v h' => v = some (.int v1) ∧ Rl n σ1 h') := by
  refine Ca.of rfl (Nat.le_of_ble_eq_true rfl) ?_
  generalize hr : (v1, σ1) = r at hf
  suffices q : Go G mX14_draw 0 (xent (xMl mX14_draw) [.ref 233, .int x1]) [] h (fun v h' => xRok (xRt mX14_draw) v ∧ v = some (.int r.1) ∧ Rl n r.2 h') by
    subst hr
    exact q
  clear hr
  rw [f_X14_draw] at hf
  refine go_aload_n (i := 0) (pc' := 1) dX14_draw_0 rfl rfl rfl ?_
  refine go_aload_n (i := 0) (pc' := 2) dX14_draw_1 rfl rfl rfl ?_
  refine go_getS (pc' := 5) dX14_draw_2 rfl gf_LandBaseModel_604 R (R.at rfl (by decide)) (by decide) rfl ?_
  refine go_ldcw (pc' := 8) dX14_draw_5 rfl wd_1535 ?_
  refine go_imul (pc' := 9) dX14_draw_8 rfl ?_
  refine go_sipush (v := 12345) (pc' := 12) dX14_draw_9 rfl (by decide) ?_
  refine go_iadd (pc' := 13) dX14_draw_12 rfl ?_
  obtain ⟨σ101, e102, hf⟩ := st_some hf
  refine go_putI (pc' := 16) dX14_draw_13 rfl pf_LandBaseModel_604 R (R.at rfl (by decide)) (by decide) rfl rfl rfl (fun h103 R => ?_)
  have R := Rl.cast e102 R
  refine go_aload_n (i := 0) (pc' := 17) dX14_draw_16 rfl rfl rfl ?_
  refine go_getS (pc' := 20) dX14_draw_17 rfl gf_LandBaseModel_604 R (R.at rfl (by decide)) (by decide) rfl ?_
  refine go_bipush (v := 8) (pc' := 22) dX14_draw_20 rfl (by decide) ?_
  refine go_iushr (pc' := 23) dX14_draw_22 rfl rfl ?_
  refine go_iload_n (i := 1) (pc' := 24) dX14_draw_23 rfl rfl rfl ?_
  obtain ⟨g104, hf⟩ := gd_some hf
  refine go_irem (pc' := 25) dX14_draw_24 rfl g104 ?_
  obtain rfl := Option.some.inj hf
  exact Go.ret (v := some (.int _)) dX14_draw_25 ⟨_, rfl⟩ ⟨rfl, rfl, R⟩
def b_X14_made_165 (n : Nat) (σ : xσ) : Option (Unit × xσ) := bd (f_X12_endRing n 1865 σ) (fun v101 σ102 => some ((), σ102))
set_option maxRecDepth 100000 in
set_option maxHeartbeats 4000000 in
theorem t_X14_made_165 {G : xG} {n : Nat} {σ : xσ} {h : xH} {r : Unit × xσ} {d1 : Option Value} {d2 : Option Value} {d3 : Option Value} {d4 : Option Value} {d5 : Option Value} {d6 : Option Value} {d7 : Option Value} {d8 : Option Value} : Rl n σ h → b_X14_made_165 n σ = some r → Go G mX14_made 165 [some (.ref 233), d1, d2, d3, d4, d5, d6, d7, d8] [] h (fun v h' => xRok (xRt mX14_made) v ∧ v = none ∧ Rl n r.2 h') := by
  intro R hf
  rw [b_X14_made_165] at hf
  refine go_aload_n (i := 0) (pc' := 166) dX14_made_165 rfl rfl rfl ?_
  refine go_getS (pc' := 169) dX14_made_166 rfl gf_LandBaseModel_432 R (R.at rfl (by decide)) (by decide) rfl ?_
  obtain ⟨v101, σ102, e103, hf⟩ := bd_some hf
  refine go_invV (As := []) (pc' := 172) dX14_made_169 rfl cf_X14_made_246 rfl (R.ob (R.at rfl (by decide))) rfl rfl (Nat.le_of_ble_eq_true rfl) (c_X12_endRing R e103) (fun q104v h105 q104 => ?_)
  obtain ⟨rfl, R⟩ := q104
  obtain rfl := Option.some.inj hf
  exact Go.ret (v := none) dX14_made_172 rfl ⟨trivial, rfl, R⟩
def b_X14_made_89 (n : Nat) (x1 : Int32) (x4 : Int32) (x5 : Int32) (x6 : Int32) (σ : xσ) : Option (Unit × xσ) := if x1 = 2 then bd (f_X14_draw n ((x4 / 16) + 1) σ) (fun v107 σ108 => st (v107 + 1) (fun x112 => bd (f_X12_add n 1865 (x5 + x112) x6 σ108) (fun v114 σ115 => bd (f_X12_add n 1865 (x5 + x112) (x6 + x112) σ115) (fun v119 σ120 => bd (f_X12_add n 1865 x5 (x6 + x112) σ120) (fun v124 σ125 => bd (f_X12_add n 1865 x5 x6 σ125) (fun v129 σ130 => b_X14_made_165 n σ130)))))) else bd (f_X12_endRing n 1865 σ) (fun v102 σ103 => some ((), σ103))
set_option maxRecDepth 100000 in
set_option maxHeartbeats 4000000 in
theorem t_X14_made_89 {G : xG} {n : Nat} {x1 : Int32} {x4 : Int32} {x5 : Int32} {x6 : Int32} {σ : xσ} {h : xH} {r : Unit × xσ} {d2 : Option Value} {d3 : Option Value} {d7 : Option Value} {d8 : Option Value} : Rl n σ h → b_X14_made_89 n x1 x4 x5 x6 σ = some r → Go G mX14_made 89 [some (.ref 233), some (.int x1), d2, d3, some (.int x4), some (.int x5), some (.int x6), d7, d8] [] h (fun v h' => xRok (xRt mX14_made) v ∧ v = none ∧ Rl n r.2 h') := by
  intro R hf
  rw [b_X14_made_89] at hf
  refine go_iload_n (i := 1) (pc' := 90) dX14_made_89 rfl rfl rfl ?_
  refine go_iconst (v := 2) (pc' := 91) dX14_made_90 rfl (by decide) ?_
  refine go_icmp_ne (pc' := 94) (tgt := 165) dX14_made_91 (by decide) rfl (fun c101 => ?_) (fun c101 => ?_)
  · have hf := ie c101 hf
    refine go_aload_n (i := 0) (pc' := 166) dX14_made_165 rfl rfl rfl ?_
    refine go_getS (pc' := 169) dX14_made_166 rfl gf_LandBaseModel_432 R (R.at rfl (by decide)) (by decide) rfl ?_
    obtain ⟨v102, σ103, e104, hf⟩ := bd_some hf
    refine go_invV (As := []) (pc' := 172) dX14_made_169 rfl cf_X14_made_246 rfl (R.ob (R.at rfl (by decide))) rfl rfl (Nat.le_of_ble_eq_true rfl) (c_X12_endRing R e104) (fun q105v h106 q105 => ?_)
    obtain ⟨rfl, R⟩ := q105
    obtain rfl := Option.some.inj hf
    exact Go.ret (v := none) dX14_made_172 rfl ⟨trivial, rfl, R⟩
  · have hf := it c101 hf
    refine go_aload_n (i := 0) (pc' := 95) dX14_made_94 rfl rfl rfl ?_
    refine go_iload (pc' := 97) dX14_made_95 rfl rfl ?_
    refine go_bipush (v := 16) (pc' := 99) dX14_made_97 rfl (by decide) ?_
    refine go_idiv (pc' := 100) dX14_made_99 rfl (by decide) ?_
    refine go_iconst (v := 1) (pc' := 101) dX14_made_100 rfl (by decide) ?_
    refine go_iadd (pc' := 102) dX14_made_101 rfl ?_
    obtain ⟨v107, σ108, e109, hf⟩ := bd_some hf
    refine go_invV (As := [_]) (pc' := 105) dX14_made_102 rfl cf_X14_made_614 rfl (R.ob (R.at rfl (by decide))) rfl rfl (Nat.le_of_ble_eq_true rfl) (c_X14_draw R e109) (fun q110v h111 q110 => ?_)
    obtain ⟨rfl, R⟩ := q110
    refine go_iconst (v := 1) (pc' := 106) dX14_made_105 rfl (by decide) ?_
    refine go_iadd (pc' := 107) dX14_made_106 rfl ?_
    obtain ⟨x112, e113, hf⟩ := st_some hf
    refine go_istoreE e113 (pc' := 109) dX14_made_107 rfl (by decide) rfl ?_
    refine go_aload_n (i := 0) (pc' := 110) dX14_made_109 rfl rfl rfl ?_
    refine go_getS (pc' := 113) dX14_made_110 rfl gf_LandBaseModel_432 R (R.at rfl (by decide)) (by decide) rfl ?_
    refine go_iload (pc' := 115) dX14_made_113 rfl rfl ?_
    refine go_iload (pc' := 117) dX14_made_115 rfl rfl ?_
    refine go_iadd (pc' := 118) dX14_made_117 rfl ?_
    refine go_iload (pc' := 120) dX14_made_118 rfl rfl ?_
    obtain ⟨v114, σ115, e116, hf⟩ := bd_some hf
    refine go_invV (As := [_, _]) (pc' := 123) dX14_made_120 rfl cf_X14_made_242 rfl (R.ob (R.at rfl (by decide))) rfl rfl (Nat.le_of_ble_eq_true rfl) (c_X12_add R e116) (fun q117v h118 q117 => ?_)
    obtain ⟨rfl, R⟩ := q117
    refine go_aload_n (i := 0) (pc' := 124) dX14_made_123 rfl rfl rfl ?_
    refine go_getS (pc' := 127) dX14_made_124 rfl gf_LandBaseModel_432 R (R.at rfl (by decide)) (by decide) rfl ?_
    refine go_iload (pc' := 129) dX14_made_127 rfl rfl ?_
    refine go_iload (pc' := 131) dX14_made_129 rfl rfl ?_
    refine go_iadd (pc' := 132) dX14_made_131 rfl ?_
    refine go_iload (pc' := 134) dX14_made_132 rfl rfl ?_
    refine go_iload (pc' := 136) dX14_made_134 rfl rfl ?_
    refine go_iadd (pc' := 137) dX14_made_136 rfl ?_
    obtain ⟨v119, σ120, e121, hf⟩ := bd_some hf
    refine go_invV (As := [_, _]) (pc' := 140) dX14_made_137 rfl cf_X14_made_242 rfl (R.ob (R.at rfl (by decide))) rfl rfl (Nat.le_of_ble_eq_true rfl) (c_X12_add R e121) (fun q122v h123 q122 => ?_)
    obtain ⟨rfl, R⟩ := q122
    refine go_aload_n (i := 0) (pc' := 141) dX14_made_140 rfl rfl rfl ?_
    refine go_getS (pc' := 144) dX14_made_141 rfl gf_LandBaseModel_432 R (R.at rfl (by decide)) (by decide) rfl ?_
    refine go_iload (pc' := 146) dX14_made_144 rfl rfl ?_
    refine go_iload (pc' := 148) dX14_made_146 rfl rfl ?_
    refine go_iload (pc' := 150) dX14_made_148 rfl rfl ?_
    refine go_iadd (pc' := 151) dX14_made_150 rfl ?_
    obtain ⟨v124, σ125, e126, hf⟩ := bd_some hf
    refine go_invV (As := [_, _]) (pc' := 154) dX14_made_151 rfl cf_X14_made_242 rfl (R.ob (R.at rfl (by decide))) rfl rfl (Nat.le_of_ble_eq_true rfl) (c_X12_add R e126) (fun q127v h128 q127 => ?_)
    obtain ⟨rfl, R⟩ := q127
    refine go_aload_n (i := 0) (pc' := 155) dX14_made_154 rfl rfl rfl ?_
    refine go_getS (pc' := 158) dX14_made_155 rfl gf_LandBaseModel_432 R (R.at rfl (by decide)) (by decide) rfl ?_
    refine go_iload (pc' := 160) dX14_made_158 rfl rfl ?_
    refine go_iload (pc' := 162) dX14_made_160 rfl rfl ?_
    obtain ⟨v129, σ130, e131, hf⟩ := bd_some hf
    refine go_invV (As := [_, _]) (pc' := 165) dX14_made_162 rfl cf_X14_made_242 rfl (R.ob (R.at rfl (by decide))) rfl rfl (Nat.le_of_ble_eq_true rfl) (c_X12_add R e131) (fun q132v h133 q132 => ?_)
    obtain ⟨rfl, R⟩ := q132
    exact t_X14_made_165 R hf
def f_X14_made (n : Nat) (x1 : Int32) (x2 : Int32) (x3 : Int32) (x4 : Int32) (σ : xσ) : Option (Unit × xσ) := bd (f_X14_draw n x4 σ) (fun v101 σ102 => st (x2 + v101) (fun x106 => bd (f_X14_draw n x4 σ102) (fun v108 σ109 => st (x3 + v108) (fun x113 => bd (f_X12_begin n 1865 x1 σ109) (fun v115 σ116 => bd (f_X12_add n 1865 x106 x113 σ116) (fun v120 σ121 => if x1 = 1 then bd (f_X14_draw n ((x4 / 16) + 1) σ121) (fun v159 σ160 => bd (f_X14_draw n ((x4 / 16) + 1) σ160) (fun v164 σ165 => bd (f_X12_add n 1865 ((x106 + v159) + 1) (x113 + v164) σ165) (fun v169 σ170 => b_X14_made_89 n x1 x4 x106 x113 σ170))) else if x1 = 2 then bd (f_X14_draw n ((x4 / 16) + 1) σ121) (fun v132 σ133 => st (v132 + 1) (fun x137 => bd (f_X12_add n 1865 (x106 + x137) x113 σ133) (fun v139 σ140 => bd (f_X12_add n 1865 (x106 + x137) (x113 + x137) σ140) (fun v144 σ145 => bd (f_X12_add n 1865 x106 (x113 + x137) σ145) (fun v149 σ150 => bd (f_X12_add n 1865 x106 x113 σ150) (fun v154 σ155 => b_X14_made_165 n σ155)))))) else bd (f_X12_endRing n 1865 σ121) (fun v127 σ128 => some ((), σ128))))))))
set_option maxRecDepth 100000 in
set_option maxHeartbeats 4000000 in
theorem c_X14_made {G : xG} {n : Nat} {σ : xσ} {h : xH} {x1 : Int32} {x2 : Int32} {x3 : Int32} {x4 : Int32} {v1 : Unit} {σ1 : xσ} (R : Rl n σ h) (hf : f_X14_made n x1 x2 x3 x4 σ = some (v1, σ1)) : Ca G mX14_made [.ref 233, .int x1, .int x2, .int x3, .int x4] h (fun v h' => v = none ∧ Rl n σ1 h') := by
  refine Ca.of rfl (Nat.le_of_ble_eq_true rfl) ?_
  generalize hr : (v1, σ1) = r at hf
  suffices q : Go G mX14_made 0 (xent (xMl mX14_made) [.ref 233, .int x1, .int x2, .int x3, .int x4]) [] h (fun v h' => xRok (xRt mX14_made) v ∧ v = none ∧ Rl n r.2 h') by
    subst hr
    exact q
  clear hr
  rw [f_X14_made] at hf
  refine go_iload_n (i := 2) (pc' := 1) dX14_made_0 rfl rfl rfl ?_
  refine go_aload_n (i := 0) (pc' := 2) dX14_made_1 rfl rfl rfl ?_
  refine go_iload (pc' := 4) dX14_made_2 rfl rfl ?_
  obtain ⟨v101, σ102, e103, hf⟩ := bd_some hf
  refine go_invV (As := [_]) (pc' := 7) dX14_made_4 rfl cf_X14_made_614 rfl (R.ob (R.at rfl (by decide))) rfl rfl (Nat.le_of_ble_eq_true rfl) (c_X14_draw R e103) (fun q104v h105 q104 => ?_)
  obtain ⟨rfl, R⟩ := q104
  refine go_iadd (pc' := 8) dX14_made_7 rfl ?_
  obtain ⟨x106, e107, hf⟩ := st_some hf
  refine go_istoreE e107 (pc' := 10) dX14_made_8 rfl (by decide) rfl ?_
  refine go_iload_n (i := 3) (pc' := 11) dX14_made_10 rfl rfl rfl ?_
  refine go_aload_n (i := 0) (pc' := 12) dX14_made_11 rfl rfl rfl ?_
  refine go_iload (pc' := 14) dX14_made_12 rfl rfl ?_
  obtain ⟨v108, σ109, e110, hf⟩ := bd_some hf
  refine go_invV (As := [_]) (pc' := 17) dX14_made_14 rfl cf_X14_made_614 rfl (R.ob (R.at rfl (by decide))) rfl rfl (Nat.le_of_ble_eq_true rfl) (c_X14_draw R e110) (fun q111v h112 q111 => ?_)
  obtain ⟨rfl, R⟩ := q111
  refine go_iadd (pc' := 18) dX14_made_17 rfl ?_
  obtain ⟨x113, e114, hf⟩ := st_some hf
  refine go_istoreE e114 (pc' := 20) dX14_made_18 rfl (by decide) rfl ?_
  refine go_aload_n (i := 0) (pc' := 21) dX14_made_20 rfl rfl rfl ?_
  refine go_getS (pc' := 24) dX14_made_21 rfl gf_LandBaseModel_432 R (R.at rfl (by decide)) (by decide) rfl ?_
  refine go_iload_n (i := 1) (pc' := 25) dX14_made_24 rfl rfl rfl ?_
  obtain ⟨v115, σ116, e117, hf⟩ := bd_some hf
  refine go_invV (As := [_]) (pc' := 28) dX14_made_25 rfl cf_X14_made_238 rfl (R.ob (R.at rfl (by decide))) rfl rfl (Nat.le_of_ble_eq_true rfl) (c_X12_begin R e117) (fun q118v h119 q118 => ?_)
  obtain ⟨rfl, R⟩ := q118
  refine go_aload_n (i := 0) (pc' := 29) dX14_made_28 rfl rfl rfl ?_
  refine go_getS (pc' := 32) dX14_made_29 rfl gf_LandBaseModel_432 R (R.at rfl (by decide)) (by decide) rfl ?_
  refine go_iload (pc' := 34) dX14_made_32 rfl rfl ?_
  refine go_iload (pc' := 36) dX14_made_34 rfl rfl ?_
  obtain ⟨v120, σ121, e122, hf⟩ := bd_some hf
  refine go_invV (As := [_, _]) (pc' := 39) dX14_made_36 rfl cf_X14_made_242 rfl (R.ob (R.at rfl (by decide))) rfl rfl (Nat.le_of_ble_eq_true rfl) (c_X12_add R e122) (fun q123v h124 q123 => ?_)
  obtain ⟨rfl, R⟩ := q123
  refine go_iload_n (i := 1) (pc' := 40) dX14_made_39 rfl rfl rfl ?_
  refine go_iconst (v := 1) (pc' := 41) dX14_made_40 rfl (by decide) ?_
  refine go_icmp_ne (pc' := 44) (tgt := 89) dX14_made_41 (by decide) rfl (fun c125 => ?_) (fun c125 => ?_)
  · have hf := ie c125 hf
    refine go_iload_n (i := 1) (pc' := 90) dX14_made_89 rfl rfl rfl ?_
    refine go_iconst (v := 2) (pc' := 91) dX14_made_90 rfl (by decide) ?_
    refine go_icmp_ne (pc' := 94) (tgt := 165) dX14_made_91 (by decide) rfl (fun c126 => ?_) (fun c126 => ?_)
    · have hf := ie c126 hf
      refine go_aload_n (i := 0) (pc' := 166) dX14_made_165 rfl rfl rfl ?_
      refine go_getS (pc' := 169) dX14_made_166 rfl gf_LandBaseModel_432 R (R.at rfl (by decide)) (by decide) rfl ?_
      obtain ⟨v127, σ128, e129, hf⟩ := bd_some hf
      refine go_invV (As := []) (pc' := 172) dX14_made_169 rfl cf_X14_made_246 rfl (R.ob (R.at rfl (by decide))) rfl rfl (Nat.le_of_ble_eq_true rfl) (c_X12_endRing R e129) (fun q130v h131 q130 => ?_)
      obtain ⟨rfl, R⟩ := q130
      obtain rfl := Option.some.inj hf
      exact Go.ret (v := none) dX14_made_172 rfl ⟨trivial, rfl, R⟩
    · have hf := it c126 hf
      refine go_aload_n (i := 0) (pc' := 95) dX14_made_94 rfl rfl rfl ?_
      refine go_iload (pc' := 97) dX14_made_95 rfl rfl ?_
      refine go_bipush (v := 16) (pc' := 99) dX14_made_97 rfl (by decide) ?_
      refine go_idiv (pc' := 100) dX14_made_99 rfl (by decide) ?_
      refine go_iconst (v := 1) (pc' := 101) dX14_made_100 rfl (by decide) ?_
      refine go_iadd (pc' := 102) dX14_made_101 rfl ?_
      obtain ⟨v132, σ133, e134, hf⟩ := bd_some hf
      refine go_invV (As := [_]) (pc' := 105) dX14_made_102 rfl cf_X14_made_614 rfl (R.ob (R.at rfl (by decide))) rfl rfl (Nat.le_of_ble_eq_true rfl) (c_X14_draw R e134) (fun q135v h136 q135 => ?_)
      obtain ⟨rfl, R⟩ := q135
      refine go_iconst (v := 1) (pc' := 106) dX14_made_105 rfl (by decide) ?_
      refine go_iadd (pc' := 107) dX14_made_106 rfl ?_
      obtain ⟨x137, e138, hf⟩ := st_some hf
      refine go_istoreE e138 (pc' := 109) dX14_made_107 rfl (by decide) rfl ?_
      refine go_aload_n (i := 0) (pc' := 110) dX14_made_109 rfl rfl rfl ?_
      refine go_getS (pc' := 113) dX14_made_110 rfl gf_LandBaseModel_432 R (R.at rfl (by decide)) (by decide) rfl ?_
      refine go_iload (pc' := 115) dX14_made_113 rfl rfl ?_
      refine go_iload (pc' := 117) dX14_made_115 rfl rfl ?_
      refine go_iadd (pc' := 118) dX14_made_117 rfl ?_
      refine go_iload (pc' := 120) dX14_made_118 rfl rfl ?_
      obtain ⟨v139, σ140, e141, hf⟩ := bd_some hf
      refine go_invV (As := [_, _]) (pc' := 123) dX14_made_120 rfl cf_X14_made_242 rfl (R.ob (R.at rfl (by decide))) rfl rfl (Nat.le_of_ble_eq_true rfl) (c_X12_add R e141) (fun q142v h143 q142 => ?_)
      obtain ⟨rfl, R⟩ := q142
      refine go_aload_n (i := 0) (pc' := 124) dX14_made_123 rfl rfl rfl ?_
      refine go_getS (pc' := 127) dX14_made_124 rfl gf_LandBaseModel_432 R (R.at rfl (by decide)) (by decide) rfl ?_
      refine go_iload (pc' := 129) dX14_made_127 rfl rfl ?_
      refine go_iload (pc' := 131) dX14_made_129 rfl rfl ?_
      refine go_iadd (pc' := 132) dX14_made_131 rfl ?_
      refine go_iload (pc' := 134) dX14_made_132 rfl rfl ?_
      refine go_iload (pc' := 136) dX14_made_134 rfl rfl ?_
      refine go_iadd (pc' := 137) dX14_made_136 rfl ?_
      obtain ⟨v144, σ145, e146, hf⟩ := bd_some hf
      refine go_invV (As := [_, _]) (pc' := 140) dX14_made_137 rfl cf_X14_made_242 rfl (R.ob (R.at rfl (by decide))) rfl rfl (Nat.le_of_ble_eq_true rfl) (c_X12_add R e146) (fun q147v h148 q147 => ?_)
      obtain ⟨rfl, R⟩ := q147
      refine go_aload_n (i := 0) (pc' := 141) dX14_made_140 rfl rfl rfl ?_
      refine go_getS (pc' := 144) dX14_made_141 rfl gf_LandBaseModel_432 R (R.at rfl (by decide)) (by decide) rfl ?_
      refine go_iload (pc' := 146) dX14_made_144 rfl rfl ?_
      refine go_iload (pc' := 148) dX14_made_146 rfl rfl ?_
      refine go_iload (pc' := 150) dX14_made_148 rfl rfl ?_
      refine go_iadd (pc' := 151) dX14_made_150 rfl ?_
      obtain ⟨v149, σ150, e151, hf⟩ := bd_some hf
      refine go_invV (As := [_, _]) (pc' := 154) dX14_made_151 rfl cf_X14_made_242 rfl (R.ob (R.at rfl (by decide))) rfl rfl (Nat.le_of_ble_eq_true rfl) (c_X12_add R e151) (fun q152v h153 q152 => ?_)
      obtain ⟨rfl, R⟩ := q152
      refine go_aload_n (i := 0) (pc' := 155) dX14_made_154 rfl rfl rfl ?_
      refine go_getS (pc' := 158) dX14_made_155 rfl gf_LandBaseModel_432 R (R.at rfl (by decide)) (by decide) rfl ?_
      refine go_iload (pc' := 160) dX14_made_158 rfl rfl ?_
      refine go_iload (pc' := 162) dX14_made_160 rfl rfl ?_
      obtain ⟨v154, σ155, e156, hf⟩ := bd_some hf
      refine go_invV (As := [_, _]) (pc' := 165) dX14_made_162 rfl cf_X14_made_242 rfl (R.ob (R.at rfl (by decide))) rfl rfl (Nat.le_of_ble_eq_true rfl) (c_X12_add R e156) (fun q157v h158 q157 => ?_)
      obtain ⟨rfl, R⟩ := q157
      exact t_X14_made_165 R hf
  · have hf := it c125 hf
    refine go_aload_n (i := 0) (pc' := 45) dX14_made_44 rfl rfl rfl ?_
    refine go_iload (pc' := 47) dX14_made_45 rfl rfl ?_
    refine go_bipush (v := 16) (pc' := 49) dX14_made_47 rfl (by decide) ?_
    refine go_idiv (pc' := 50) dX14_made_49 rfl (by decide) ?_
    refine go_iconst (v := 1) (pc' := 51) dX14_made_50 rfl (by decide) ?_
    refine go_iadd (pc' := 52) dX14_made_51 rfl ?_
    obtain ⟨v159, σ160, e161, hf⟩ := bd_some hf
    refine go_invV (As := [_]) (pc' := 55) dX14_made_52 rfl cf_X14_made_614 rfl (R.ob (R.at rfl (by decide))) rfl rfl (Nat.le_of_ble_eq_true rfl) (c_X14_draw R e161) (fun q162v h163 q162 => ?_)
    obtain ⟨rfl, R⟩ := q162
    refine go_istoreE rfl (pc' := 57) dX14_made_55 rfl (by decide) rfl ?_
    refine go_aload_n (i := 0) (pc' := 58) dX14_made_57 rfl rfl rfl ?_
    refine go_iload (pc' := 60) dX14_made_58 rfl rfl ?_
    refine go_bipush (v := 16) (pc' := 62) dX14_made_60 rfl (by decide) ?_
    refine go_idiv (pc' := 63) dX14_made_62 rfl (by decide) ?_
    refine go_iconst (v := 1) (pc' := 64) dX14_made_63 rfl (by decide) ?_
    refine go_iadd (pc' := 65) dX14_made_64 rfl ?_
    obtain ⟨v164, σ165, e166, hf⟩ := bd_some hf
    refine go_invV (As := [_]) (pc' := 68) dX14_made_65 rfl cf_X14_made_614 rfl (R.ob (R.at rfl (by decide))) rfl rfl (Nat.le_of_ble_eq_true rfl) (c_X14_draw R e166) (fun q167v h168 q167 => ?_)
    obtain ⟨rfl, R⟩ := q167
    refine go_istoreE rfl (pc' := 70) dX14_made_68 rfl (by decide) rfl ?_
    refine go_aload_n (i := 0) (pc' := 71) dX14_made_70 rfl rfl rfl ?_
    refine go_getS (pc' := 74) dX14_made_71 rfl gf_LandBaseModel_432 R (R.at rfl (by decide)) (by decide) rfl ?_
    refine go_iload (pc' := 76) dX14_made_74 rfl rfl ?_
    refine go_iload (pc' := 78) dX14_made_76 rfl rfl ?_
    refine go_iadd (pc' := 79) dX14_made_78 rfl ?_
    refine go_iconst (v := 1) (pc' := 80) dX14_made_79 rfl (by decide) ?_
    refine go_iadd (pc' := 81) dX14_made_80 rfl ?_
    refine go_iload (pc' := 83) dX14_made_81 rfl rfl ?_
    refine go_iload (pc' := 85) dX14_made_83 rfl rfl ?_
    refine go_iadd (pc' := 86) dX14_made_85 rfl ?_
    obtain ⟨v169, σ170, e171, hf⟩ := bd_some hf
    refine go_invV (As := [_, _]) (pc' := 89) dX14_made_86 rfl cf_X14_made_242 rfl (R.ob (R.at rfl (by decide))) rfl rfl (Nat.le_of_ble_eq_true rfl) (c_X12_add R e171) (fun q172v h173 q172 => ?_)
    obtain ⟨rfl, R⟩ := q172
    exact t_X14_made_89 R hf
def l_X14_fill_180 (n : Nat) : Nat → Int32 → Int32 → Int32 → Int32 → Int32 → Int32 → Int32 → xσ → Option (Unit × xσ)
  | 0, _, _, _, _, _, _, _, _ => none
  | f + 1, x1, x2, x3, x4, x5, x6, x9, σ => if x2 ≤ x9 then bd (f_X14_changed n 32 σ) (fun v102 σ103 => some ((), σ103)) else bd (f_X14_made n x3 x4 x5 x6 σ) (fun v107 σ108 => bd (f_X13_add n 259 (x1 + x9) 1865 σ108) (fun v112 σ113 => (l_X14_fill_180 n f) x1 x2 x3 x4 x5 x6 (x9 + 1) σ113))
set_option maxRecDepth 100000 in
set_option maxHeartbeats 4000000 in
theorem t_X14_fill_180 {G : xG} {n : Nat} : ∀ (f : Nat) {x1 : Int32} {x2 : Int32} {x3 : Int32} {x4 : Int32} {x5 : Int32} {x6 : Int32} {x9 : Int32} {σ : xσ} {h : xH} {r : Unit × xσ} {d7 : Option Value} {d8 : Option Value}, Rl n σ h → l_X14_fill_180 n f x1 x2 x3 x4 x5 x6 x9 σ = some r → Go G mX14_fill 180 [some (.ref 233), some (.int x1), some (.int x2), some (.int x3), some (.int x4), some (.int x5), some (.int x6), d7, d8, some (.int x9)] [] h (fun v h' => xRok (xRt mX14_fill) v ∧ v = none ∧ Rl n r.2 h') := by
  intro f
  induction f with
  | zero =>
    intros
    rename _ = some _ => hf
    rw [l_X14_fill_180] at hf
    cases hf
  | succ f ih =>
    intro x1 x2 x3 x4 x5 x6 x9 σ h r d7 d8 R hf
    rw [l_X14_fill_180] at hf
    refine go_iload (pc' := 182) dX14_fill_180 rfl rfl ?_
    refine go_iload_n (i := 2) (pc' := 183) dX14_fill_182 rfl rfl rfl ?_
    refine go_icmp_ge (pc' := 186) (tgt := 218) dX14_fill_183 (by decide) rfl (fun c101 => ?_) (fun c101 => ?_)
    · have hf := it c101 hf
      refine go_aload_n (i := 0) (pc' := 219) dX14_fill_218 rfl rfl rfl ?_
      refine go_bipush (v := 32) (pc' := 221) dX14_fill_219 rfl (by decide) ?_
      obtain ⟨v102, σ103, e104, hf⟩ := bd_some hf
      refine go_invV (As := [_]) (pc' := 224) dX14_fill_221 rfl cf_X14_fill_590 rfl (R.ob (R.at rfl (by decide))) rfl rfl (Nat.le_of_ble_eq_true rfl) (c_X14_changed R e104) (fun q105v h106 q105 => ?_)
      obtain ⟨rfl, R⟩ := q105
      obtain rfl := Option.some.inj hf
      exact Go.ret (v := none) dX14_fill_224 rfl ⟨trivial, rfl, R⟩
    · have hf := ie c101 hf
      refine go_aload_n (i := 0) (pc' := 187) dX14_fill_186 rfl rfl rfl ?_
      refine go_iload_n (i := 3) (pc' := 188) dX14_fill_187 rfl rfl rfl ?_
      refine go_iload (pc' := 190) dX14_fill_188 rfl rfl ?_
      refine go_iload (pc' := 192) dX14_fill_190 rfl rfl ?_
      refine go_iload (pc' := 194) dX14_fill_192 rfl rfl ?_
      obtain ⟨v107, σ108, e109, hf⟩ := bd_some hf
      refine go_invV (As := [_, _, _, _]) (pc' := 197) dX14_fill_194 rfl cf_X14_fill_611 rfl (R.ob (R.at rfl (by decide))) rfl rfl (Nat.le_of_ble_eq_true rfl) (c_X14_made R e109) (fun q110v h111 q110 => ?_)
      obtain ⟨rfl, R⟩ := q110
      refine go_aload_n (i := 0) (pc' := 198) dX14_fill_197 rfl rfl rfl ?_
      refine go_getS (pc' := 201) dX14_fill_198 rfl gf_LandBaseModel_351 R (R.at rfl (by decide)) (by decide) rfl ?_
      refine go_iload_n (i := 1) (pc' := 202) dX14_fill_201 rfl rfl rfl ?_
      refine go_iload (pc' := 204) dX14_fill_202 rfl rfl ?_
      refine go_iadd (pc' := 205) dX14_fill_204 rfl ?_
      refine go_aload_n (i := 0) (pc' := 206) dX14_fill_205 rfl rfl rfl ?_
      refine go_getS (pc' := 209) dX14_fill_206 rfl gf_LandBaseModel_432 R (R.at rfl (by decide)) (by decide) rfl ?_
      obtain ⟨v112, σ113, e114, hf⟩ := bd_some hf
      refine go_invV (As := [_, _]) (pc' := 212) dX14_fill_209 rfl cf_X14_fill_587 rfl (R.ob (R.at rfl (by decide))) rfl rfl (Nat.le_of_ble_eq_true rfl) (c_X13_add R e114) (fun q115v h116 q115 => ?_)
      obtain ⟨rfl, R⟩ := q115
      refine go_iincC (kk := 1) (pc' := 215) dX14_fill_212 rfl rfl (by decide) (by decide) rfl ?_
      refine go_goto (pc' := 0) (tgt := 180) dX14_fill_215 (by decide) ?_
      exact ih R hf
def l_X14_fill_109 (n : Nat) : Nat → Int32 → Int32 → Int32 → Int32 → Int32 → Int32 → Int32 → Int32 → xσ → Option (Unit × xσ)
  | 0, _, _, _, _, _, _, _, _, _ => none
  | f + 1, x1, x2, x3, x4, x5, x6, x7, x9, σ => if x2 ≤ x9 then if 200 < ((sI σ 259 1) + x2) then bd (f_X14_put n 4 σ) (fun v103 σ104 => some ((), σ104)) else bd (f_X14_hasRoom n 32 σ) (fun v108 σ109 => if v108 = 0 then bd (f_X14_put n 4 σ109) (fun v117 σ118 => some ((), σ118)) else st (wI σ109 233 56 x7) (fun σ114 => l_X14_fill_180 n xFU x1 x2 x3 x4 x5 x6 0 σ114)) else bd (f_X13_find n 259 (x1 + x9) σ) (fun v122 σ123 => if v122 < 0 then (l_X14_fill_109 n f) x1 x2 x3 x4 x5 x6 x7 (x9 + 1) σ123 else bd (f_X14_put n 1 σ123) (fun v128 σ129 => some ((), σ129)))
set_option maxRecDepth 100000 in
set_option maxHeartbeats 4000000 in
theorem t_X14_fill_109 {G : xG} {n : Nat} : ∀ (f : Nat) {x1 : Int32} {x2 : Int32} {x3 : Int32} {x4 : Int32} {x5 : Int32} {x6 : Int32} {x7 : Int32} {x9 : Int32} {σ : xσ} {h : xH} {r : Unit × xσ} {d8 : Option Value}, Rl n σ h → l_X14_fill_109 n f x1 x2 x3 x4 x5 x6 x7 x9 σ = some r → Go G mX14_fill 109 [some (.ref 233), some (.int x1), some (.int x2), some (.int x3), some (.int x4), some (.int x5), some (.int x6), some (.int x7), d8, some (.int x9)] [] h (fun v h' => xRok (xRt mX14_fill) v ∧ v = none ∧ Rl n r.2 h') := by
  intro f
  induction f with
  | zero =>
    intros
    rename _ = some _ => hf
    rw [l_X14_fill_109] at hf
    cases hf
  | succ f ih =>
    intro x1 x2 x3 x4 x5 x6 x7 x9 σ h r d8 R hf
    rw [l_X14_fill_109] at hf
    refine go_iload (pc' := 111) dX14_fill_109 rfl rfl ?_
    refine go_iload_n (i := 2) (pc' := 112) dX14_fill_111 rfl rfl rfl ?_
    refine go_icmp_ge (pc' := 115) (tgt := 141) dX14_fill_112 (by decide) rfl (fun c101 => ?_) (fun c101 => ?_)
    · have hf := it c101 hf
      refine go_aload_n (i := 0) (pc' := 142) dX14_fill_141 rfl rfl rfl ?_
      refine go_getS (pc' := 145) dX14_fill_142 rfl gf_LandBaseModel_351 R (R.at rfl (by decide)) (by decide) rfl ?_
      refine go_getS (pc' := 148) dX14_fill_145 rfl gf_LandBaseModel_581 R (R.at rfl (by decide)) (by decide) rfl ?_
      refine go_iload_n (i := 2) (pc' := 149) dX14_fill_148 rfl rfl rfl ?_
      refine go_iadd (pc' := 150) dX14_fill_149 rfl ?_
      refine go_sipush (v := 200) (pc' := 153) dX14_fill_150 rfl (by decide) ?_
      refine go_icmp_gt (pc' := 156) (tgt := 165) dX14_fill_153 (by decide) rfl (fun c102 => ?_) (fun c102 => ?_)
      · have hf := it c102 hf
        refine go_aload_n (i := 0) (pc' := 166) dX14_fill_165 rfl rfl rfl ?_
        refine go_iconst (v := 4) (pc' := 167) dX14_fill_166 rfl (by decide) ?_
        obtain ⟨v103, σ104, e105, hf⟩ := bd_some hf
        refine go_invV (As := [_]) (pc' := 170) dX14_fill_167 rfl cf_X14_fill_557 rfl (R.ob (R.at rfl (by decide))) rfl rfl (Nat.le_of_ble_eq_true rfl) (c_X14_put R e105) (fun q106v h107 q106 => ?_)
        obtain ⟨rfl, R⟩ := q106
        obtain rfl := Option.some.inj hf
        exact Go.ret (v := none) dX14_fill_170 rfl ⟨trivial, rfl, R⟩
      · have hf := ie c102 hf
        refine go_aload_n (i := 0) (pc' := 157) dX14_fill_156 rfl rfl rfl ?_
        refine go_bipush (v := 32) (pc' := 159) dX14_fill_157 rfl (by decide) ?_
        obtain ⟨v108, σ109, e110, hf⟩ := bd_some hf
        refine go_invV (As := [_]) (pc' := 162) dX14_fill_159 rfl cf_X14_fill_584 rfl (R.ob (R.at rfl (by decide))) rfl rfl (Nat.le_of_ble_eq_true rfl) (c_X14_hasRoom R e110) (fun q111v h112 q111 => ?_)
        obtain ⟨rfl, R⟩ := q111
        refine go_if_ne (pc' := 165) (tgt := 171) dX14_fill_162 (by decide) rfl (fun c113 => ?_) (fun c113 => ?_)
        · have hf := ie c113 hf
          refine go_aload_n (i := 0) (pc' := 172) dX14_fill_171 rfl rfl rfl ?_
          refine go_iload (pc' := 174) dX14_fill_172 rfl rfl ?_
          obtain ⟨σ114, e115, hf⟩ := st_some hf
          refine go_putI (pc' := 177) dX14_fill_174 rfl pf_LandBaseModel_604 R (R.at rfl (by decide)) (by decide) rfl rfl rfl (fun h116 R => ?_)
          have R := Rl.cast e115 R
          refine go_iconst (v := 0) (pc' := 178) dX14_fill_177 rfl (by decide) ?_
          refine go_istoreE rfl (pc' := 180) dX14_fill_178 rfl (by decide) rfl ?_
          exact t_X14_fill_180 xFU R hf
        · have hf := it c113 hf
          refine go_aload_n (i := 0) (pc' := 166) dX14_fill_165 rfl rfl rfl ?_
          refine go_iconst (v := 4) (pc' := 167) dX14_fill_166 rfl (by decide) ?_
          obtain ⟨v117, σ118, e119, hf⟩ := bd_some hf
          refine go_invV (As := [_]) (pc' := 170) dX14_fill_167 rfl cf_X14_fill_557 rfl (R.ob (R.at rfl (by decide))) rfl rfl (Nat.le_of_ble_eq_true rfl) (c_X14_put R e119) (fun q120v h121 q120 => ?_)
          obtain ⟨rfl, R⟩ := q120
          obtain rfl := Option.some.inj hf
          exact Go.ret (v := none) dX14_fill_170 rfl ⟨trivial, rfl, R⟩
    · have hf := ie c101 hf
      refine go_aload_n (i := 0) (pc' := 116) dX14_fill_115 rfl rfl rfl ?_
      refine go_getS (pc' := 119) dX14_fill_116 rfl gf_LandBaseModel_351 R (R.at rfl (by decide)) (by decide) rfl ?_
      refine go_iload_n (i := 1) (pc' := 120) dX14_fill_119 rfl rfl rfl ?_
      refine go_iload (pc' := 122) dX14_fill_120 rfl rfl ?_
      refine go_iadd (pc' := 123) dX14_fill_122 rfl ?_
      obtain ⟨v122, σ123, e124, hf⟩ := bd_some hf
      refine go_invV (As := [_]) (pc' := 126) dX14_fill_123 rfl cf_X14_fill_573 rfl (R.ob (R.at rfl (by decide))) rfl rfl (Nat.le_of_ble_eq_true rfl) (c_X13_find R e124) (fun q125v h126 q125 => ?_)
      obtain ⟨rfl, R⟩ := q125
      refine go_if_lt (pc' := 129) (tgt := 135) dX14_fill_126 (by decide) rfl (fun c127 => ?_) (fun c127 => ?_)
      · have hf := it c127 hf
        refine go_iincC (kk := 1) (pc' := 138) dX14_fill_135 rfl rfl (by decide) (by decide) rfl ?_
        refine go_goto (pc' := 0) (tgt := 109) dX14_fill_138 (by decide) ?_
        exact ih R hf
      · have hf := ie c127 hf
        refine go_aload_n (i := 0) (pc' := 130) dX14_fill_129 rfl rfl rfl ?_
        refine go_iconst (v := 1) (pc' := 131) dX14_fill_130 rfl (by decide) ?_
        obtain ⟨v128, σ129, e130, hf⟩ := bd_some hf
        refine go_invV (As := [_]) (pc' := 134) dX14_fill_131 rfl cf_X14_fill_557 rfl (R.ob (R.at rfl (by decide))) rfl rfl (Nat.le_of_ble_eq_true rfl) (c_X14_put R e130) (fun q131v h132 q131 => ?_)
        obtain ⟨rfl, R⟩ := q131
        obtain rfl := Option.some.inj hf
        exact Go.ret (v := none) dX14_fill_134 rfl ⟨trivial, rfl, R⟩
def b_X14_fill_49 (n : Nat) (x1 : Int32) (x2 : Int32) (x3 : Int32) (x4 : Int32) (x5 : Int32) (x6 : Int32) (x7 : Int32) (xs0 : Int32) (σ : xσ) : Option (Unit × xσ) := if xs0 = 0 then bd (f_X14_put n 5 σ) (fun v102 σ103 => some ((), σ103)) else bd (f_X14_isNumber n ((((x4.toInt64) + (x6.toInt64)) + ((x6 / 16).toInt64)) + ((1 : Int64))) σ) (fun v107 σ108 => if v107 = 0 then bd (f_X14_put n 5 σ108) (fun v113 σ114 => some ((), σ114)) else bd (f_X14_isNumber n ((((x5.toInt64) + (x6.toInt64)) + ((x6 / 16).toInt64)) + ((1 : Int64))) σ108) (fun v118 σ119 => if v118 = 0 then bd (f_X14_put n 5 σ119) (fun v124 σ125 => some ((), σ125)) else l_X14_fill_109 n xFU x1 x2 x3 x4 x5 x6 x7 0 σ119))
set_option maxRecDepth 100000 in
set_option maxHeartbeats 4000000 in
theorem t_X14_fill_49 {G : xG} {n : Nat} {x1 : Int32} {x2 : Int32} {x3 : Int32} {x4 : Int32} {x5 : Int32} {x6 : Int32} {x7 : Int32} {xs0 : Int32} {σ : xσ} {h : xH} {r : Unit × xσ} {d8 : Option Value} {d9 : Option Value} : Rl n σ h → b_X14_fill_49 n x1 x2 x3 x4 x5 x6 x7 xs0 σ = some r → Go G mX14_fill 49 [some (.ref 233), some (.int x1), some (.int x2), some (.int x3), some (.int x4), some (.int x5), some (.int x6), some (.int x7), d8, d9] [.int xs0] h (fun v h' => xRok (xRt mX14_fill) v ∧ v = none ∧ Rl n r.2 h') := by
  intro R hf
  rw [b_X14_fill_49] at hf
  refine go_istoreE rfl (pc' := 51) dX14_fill_49 rfl (by decide) rfl ?_
  refine go_iload (pc' := 53) dX14_fill_51 rfl rfl ?_
  refine go_if_eq (pc' := 56) (tgt := 100) dX14_fill_53 (by decide) rfl (fun c101 => ?_) (fun c101 => ?_)
  · have hf := it c101 hf
    refine go_aload_n (i := 0) (pc' := 101) dX14_fill_100 rfl rfl rfl ?_
    refine go_iconst (v := 5) (pc' := 102) dX14_fill_101 rfl (by decide) ?_
    obtain ⟨v102, σ103, e104, hf⟩ := bd_some hf
    refine go_invV (As := [_]) (pc' := 105) dX14_fill_102 rfl cf_X14_fill_557 rfl (R.ob (R.at rfl (by decide))) rfl rfl (Nat.le_of_ble_eq_true rfl) (c_X14_put R e104) (fun q105v h106 q105 => ?_)
    obtain ⟨rfl, R⟩ := q105
    obtain rfl := Option.some.inj hf
    exact Go.ret (v := none) dX14_fill_105 rfl ⟨trivial, rfl, R⟩
  · have hf := ie c101 hf
    refine go_iload (pc' := 58) dX14_fill_56 rfl rfl ?_
    refine go_i2l (pc' := 59) dX14_fill_58 rfl rfl ?_
    refine go_iload (pc' := 61) dX14_fill_59 rfl rfl ?_
    refine go_i2l (pc' := 62) dX14_fill_61 rfl rfl ?_
    refine go_ladd (pc' := 63) dX14_fill_62 rfl ?_
    refine go_iload (pc' := 65) dX14_fill_63 rfl rfl ?_
    refine go_bipush (v := 16) (pc' := 67) dX14_fill_65 rfl (by decide) ?_
    refine go_idiv (pc' := 68) dX14_fill_67 rfl (by decide) ?_
    refine go_i2l (pc' := 69) dX14_fill_68 rfl rfl ?_
    refine go_ladd (pc' := 70) dX14_fill_69 rfl ?_
    refine go_lconst (v := 1) (pc' := 71) dX14_fill_70 rfl (by decide) ?_
    refine go_ladd (pc' := 72) dX14_fill_71 rfl ?_
    obtain ⟨v107, σ108, e109, hf⟩ := bd_some hf
    refine go_invS (As := [_]) (pc' := 75) dX14_fill_72 rfl cf_X14_fill_600 rfl rfl (Nat.le_of_ble_eq_true rfl) (c_X14_isNumber R e109) (fun q110v h111 q110 => ?_)
    obtain ⟨rfl, R⟩ := q110
    refine go_if_eq (pc' := 78) (tgt := 100) dX14_fill_75 (by decide) rfl (fun c112 => ?_) (fun c112 => ?_)
    · have hf := it c112 hf
      refine go_aload_n (i := 0) (pc' := 101) dX14_fill_100 rfl rfl rfl ?_
      refine go_iconst (v := 5) (pc' := 102) dX14_fill_101 rfl (by decide) ?_
      obtain ⟨v113, σ114, e115, hf⟩ := bd_some hf
      refine go_invV (As := [_]) (pc' := 105) dX14_fill_102 rfl cf_X14_fill_557 rfl (R.ob (R.at rfl (by decide))) rfl rfl (Nat.le_of_ble_eq_true rfl) (c_X14_put R e115) (fun q116v h117 q116 => ?_)
      obtain ⟨rfl, R⟩ := q116
      obtain rfl := Option.some.inj hf
      exact Go.ret (v := none) dX14_fill_105 rfl ⟨trivial, rfl, R⟩
    · have hf := ie c112 hf
      refine go_iload (pc' := 80) dX14_fill_78 rfl rfl ?_
      refine go_i2l (pc' := 81) dX14_fill_80 rfl rfl ?_
      refine go_iload (pc' := 83) dX14_fill_81 rfl rfl ?_
      refine go_i2l (pc' := 84) dX14_fill_83 rfl rfl ?_
      refine go_ladd (pc' := 85) dX14_fill_84 rfl ?_
      refine go_iload (pc' := 87) dX14_fill_85 rfl rfl ?_
      refine go_bipush (v := 16) (pc' := 89) dX14_fill_87 rfl (by decide) ?_
      refine go_idiv (pc' := 90) dX14_fill_89 rfl (by decide) ?_
      refine go_i2l (pc' := 91) dX14_fill_90 rfl rfl ?_
      refine go_ladd (pc' := 92) dX14_fill_91 rfl ?_
      refine go_lconst (v := 1) (pc' := 93) dX14_fill_92 rfl (by decide) ?_
      refine go_ladd (pc' := 94) dX14_fill_93 rfl ?_
      obtain ⟨v118, σ119, e120, hf⟩ := bd_some hf
      refine go_invS (As := [_]) (pc' := 97) dX14_fill_94 rfl cf_X14_fill_600 rfl rfl (Nat.le_of_ble_eq_true rfl) (c_X14_isNumber R e120) (fun q121v h122 q121 => ?_)
      obtain ⟨rfl, R⟩ := q121
      refine go_if_ne (pc' := 100) (tgt := 106) dX14_fill_97 (by decide) rfl (fun c123 => ?_) (fun c123 => ?_)
      · have hf := ie c123 hf
        refine go_iconst (v := 0) (pc' := 107) dX14_fill_106 rfl (by decide) ?_
        refine go_istoreE rfl (pc' := 109) dX14_fill_107 rfl (by decide) rfl ?_
        exact t_X14_fill_109 xFU R hf
      · have hf := it c123 hf
        refine go_aload_n (i := 0) (pc' := 101) dX14_fill_100 rfl rfl rfl ?_
        refine go_iconst (v := 5) (pc' := 102) dX14_fill_101 rfl (by decide) ?_
        obtain ⟨v124, σ125, e126, hf⟩ := bd_some hf
        refine go_invV (As := [_]) (pc' := 105) dX14_fill_102 rfl cf_X14_fill_557 rfl (R.ob (R.at rfl (by decide))) rfl rfl (Nat.le_of_ble_eq_true rfl) (c_X14_put R e126) (fun q127v h128 q127 => ?_)
        obtain ⟨rfl, R⟩ := q127
        obtain rfl := Option.some.inj hf
        exact Go.ret (v := none) dX14_fill_105 rfl ⟨trivial, rfl, R⟩
def f_X14_fill (n : Nat) (x1 : Int32) (x2 : Int32) (x3 : Int32) (x4 : Int32) (x5 : Int32) (x6 : Int32) (x7 : Int32) (σ : xσ) : Option (Unit × xσ) := if x1 < 1 then b_X14_fill_49 n x1 x2 x3 x4 x5 x6 x7 0 σ else if x2 < 1 then b_X14_fill_49 n x1 x2 x3 x4 x5 x6 x7 0 σ else if 100 < x2 then b_X14_fill_49 n x1 x2 x3 x4 x5 x6 x7 0 σ else if 0 < (lg_cmp (((x1.toInt64) + (x2.toInt64)) - ((1 : Int64))) ((9999 : Int64))) then b_X14_fill_49 n x1 x2 x3 x4 x5 x6 x7 0 σ else if x6 < 1 then b_X14_fill_49 n x1 x2 x3 x4 x5 x6 x7 0 σ else if ((1000000000)) < x6 then b_X14_fill_49 n x1 x2 x3 x4 x5 x6 x7 0 σ else b_X14_fill_49 n x1 x2 x3 x4 x5 x6 x7 1 σ
set_option maxRecDepth 100000 in
set_option maxHeartbeats 4000000 in
theorem c_X14_fill {G : xG} {n : Nat} {σ : xσ} {h : xH} {x1 : Int32} {x2 : Int32} {x3 : Int32} {x4 : Int32} {x5 : Int32} {x6 : Int32} {x7 : Int32} {v1 : Unit} {σ1 : xσ} (R : Rl n σ h) (hf : f_X14_fill n x1 x2 x3 x4 x5 x6 x7 σ = some (v1, σ1)) : Ca G mX14_fill [.ref 233, .int x1, .int x2, .int x3, .int x4, .int x5, .int x6, .int x7] h (fun v h' => v = none ∧ Rl n σ1 h') := by
  refine Ca.of rfl (Nat.le_of_ble_eq_true rfl) ?_
  generalize hr : (v1, σ1) = r at hf
  suffices q : Go G mX14_fill 0 (xent (xMl mX14_fill) [.ref 233, .int x1, .int x2, .int x3, .int x4, .int x5, .int x6, .int x7]) [] h (fun v h' => xRok (xRt mX14_fill) v ∧ v = none ∧ Rl n r.2 h') by
    subst hr
    exact q
  clear hr
  rw [f_X14_fill] at hf
  refine go_iload_n (i := 1) (pc' := 1) dX14_fill_0 rfl rfl rfl ?_
  refine go_iconst (v := 1) (pc' := 2) dX14_fill_1 rfl (by decide) ?_
  refine go_icmp_lt (pc' := 5) (tgt := 48) dX14_fill_2 (by decide) rfl (fun c101 => ?_) (fun c101 => ?_)
  · have hf := it c101 hf
    refine go_iconst (v := 0) (pc' := 49) dX14_fill_48 rfl (by decide) ?_
    exact t_X14_fill_49 R hf
  · have hf := ie c101 hf
    refine go_iload_n (i := 2) (pc' := 6) dX14_fill_5 rfl rfl rfl ?_
    refine go_iconst (v := 1) (pc' := 7) dX14_fill_6 rfl (by decide) ?_
    refine go_icmp_lt (pc' := 10) (tgt := 48) dX14_fill_7 (by decide) rfl (fun c102 => ?_) (fun c102 => ?_)
    · have hf := it c102 hf
      refine go_iconst (v := 0) (pc' := 49) dX14_fill_48 rfl (by decide) ?_
      exact t_X14_fill_49 R hf
    · have hf := ie c102 hf
      refine go_iload_n (i := 2) (pc' := 11) dX14_fill_10 rfl rfl rfl ?_
      refine go_bipush (v := 100) (pc' := 13) dX14_fill_11 rfl (by decide) ?_
      refine go_icmp_gt (pc' := 16) (tgt := 48) dX14_fill_13 (by decide) rfl (fun c103 => ?_) (fun c103 => ?_)
      · have hf := it c103 hf
        refine go_iconst (v := 0) (pc' := 49) dX14_fill_48 rfl (by decide) ?_
        exact t_X14_fill_49 R hf
      · have hf := ie c103 hf
        refine go_iload_n (i := 1) (pc' := 17) dX14_fill_16 rfl rfl rfl ?_
        refine go_i2l (pc' := 18) dX14_fill_17 rfl rfl ?_
        refine go_iload_n (i := 2) (pc' := 19) dX14_fill_18 rfl rfl rfl ?_
        refine go_i2l (pc' := 20) dX14_fill_19 rfl rfl ?_
        refine go_ladd (pc' := 21) dX14_fill_20 rfl ?_
        refine go_lconst (v := 1) (pc' := 22) dX14_fill_21 rfl (by decide) ?_
        refine go_lsub (pc' := 23) dX14_fill_22 rfl ?_
        refine go_ldc2 (pc' := 26) dX14_fill_23 rfl wd_1525 ?_
        refine go_lcmp (pc' := 27) dX14_fill_26 rfl ?_
        refine go_if_gt (pc' := 30) (tgt := 48) dX14_fill_27 (by decide) rfl (fun c104 => ?_) (fun c104 => ?_)
        · have hf := it c104 hf
          refine go_iconst (v := 0) (pc' := 49) dX14_fill_48 rfl (by decide) ?_
          exact t_X14_fill_49 R hf
        · have hf := ie c104 hf
          refine go_iload (pc' := 32) dX14_fill_30 rfl rfl ?_
          refine go_iconst (v := 1) (pc' := 33) dX14_fill_32 rfl (by decide) ?_
          refine go_icmp_lt (pc' := 36) (tgt := 48) dX14_fill_33 (by decide) rfl (fun c105 => ?_) (fun c105 => ?_)
          · have hf := it c105 hf
            refine go_iconst (v := 0) (pc' := 49) dX14_fill_48 rfl (by decide) ?_
            exact t_X14_fill_49 R hf
          · have hf := ie c105 hf
            refine go_iload (pc' := 38) dX14_fill_36 rfl rfl ?_
            refine go_ldcw (pc' := 41) dX14_fill_38 rfl wd_1526 ?_
            refine go_icmp_gt (pc' := 44) (tgt := 48) dX14_fill_41 (by decide) rfl (fun c106 => ?_) (fun c106 => ?_)
            · have hf := it c106 hf
              refine go_iconst (v := 0) (pc' := 49) dX14_fill_48 rfl (by decide) ?_
              exact t_X14_fill_49 R hf
            · have hf := ie c106 hf
              refine go_iconst (v := 1) (pc' := 45) dX14_fill_44 rfl (by decide) ?_
              refine go_goto (pc' := 0) (tgt := 49) dX14_fill_45 (by decide) ?_
              exact t_X14_fill_49 R hf
def l_X14_readFill_82 (n : Nat) : Nat → Int32 → Int32 → xσ → Option (Unit × xσ)
  | 0, _, _, _ => none
  | f + 1, x1, x2, σ => if 6 ≤ x2 then bd (f_X14_expect n 59 σ) (fun v102 σ103 => if (sI σ103 233 48) = 0 then gd (inb 0 8) (gd (inb 1 8) (gd (inb 2 8) (gd (inb 3 8) (gd (inb 4 8) (gd (inb 5 8) (bd (f_X14_fill n (sI σ103 1869 (0 : Int32).toNatClampNeg) (sI σ103 1869 (1 : Int32).toNatClampNeg) x1 (sI σ103 1869 (2 : Int32).toNatClampNeg) (sI σ103 1869 (3 : Int32).toNatClampNeg) (sI σ103 1869 (4 : Int32).toNatClampNeg) (sI σ103 1869 (5 : Int32).toNatClampNeg) σ103) (fun v114 σ115 => some ((), σ115)))))))) else some ((), σ103)) else bd (f_X14_readInt n σ) (fun v119 σ120 => gd (inb x2 8) (st (wI σ120 1869 x2.toNatClampNeg v119) (fun σ125 => (l_X14_readFill_82 n f) x1 (x2 + 1) σ125)))
set_option maxRecDepth 100000 in
set_option maxHeartbeats 4000000 in
theorem t_X14_readFill_82 {G : xG} {n : Nat} : ∀ (f : Nat) {x1 : Int32} {x2 : Int32} {σ : xσ} {h : xH} {r : Unit × xσ}, Rl n σ h → l_X14_readFill_82 n f x1 x2 σ = some r → Go G mX14_readFill 82 [some (.ref 233), some (.int x1), some (.int x2)] [] h (fun v h' => xRok (xRt mX14_readFill) v ∧ v = none ∧ Rl n r.2 h') := by
  intro f
  induction f with
  | zero =>
    intros
    rename _ = some _ => hf
    rw [l_X14_readFill_82] at hf
    cases hf
  | succ f ih =>
    intro x1 x2 σ h r  R hf
    rw [l_X14_readFill_82] at hf
    refine go_iload_n (i := 2) (pc' := 83) dX14_readFill_82 rfl rfl rfl ?_
    refine go_bipush (v := 6) (pc' := 85) dX14_readFill_83 rfl (by decide) ?_
    refine go_icmp_ge (pc' := 88) (tgt := 104) dX14_readFill_85 (by decide) rfl (fun c101 => ?_) (fun c101 => ?_)
    · have hf := it c101 hf
      refine go_aload_n (i := 0) (pc' := 105) dX14_readFill_104 rfl rfl rfl ?_
      refine go_bipush (v := 59) (pc' := 107) dX14_readFill_105 rfl (by decide) ?_
      obtain ⟨v102, σ103, e104, hf⟩ := bd_some hf
      refine go_invV (As := [_]) (pc' := 110) dX14_readFill_107 rfl cf_X14_readFill_435 rfl (R.ob (R.at rfl (by decide))) rfl rfl (Nat.le_of_ble_eq_true rfl) (c_X14_expect R e104) (fun q105v h106 q105 => ?_)
      obtain ⟨rfl, R⟩ := q105
      refine go_aload_n (i := 0) (pc' := 111) dX14_readFill_110 rfl rfl rfl ?_
      refine go_getS (pc' := 114) dX14_readFill_111 rfl gf_LandBaseModel_365 R (R.at rfl (by decide)) (by decide) rfl ?_
      refine go_if_ne (pc' := 117) (tgt := 158) dX14_readFill_114 (by decide) rfl (fun c107 => ?_) (fun c107 => ?_)
      · have hf := ie c107 hf
        obtain rfl := Option.some.inj hf
        exact Go.ret (v := none) dX14_readFill_158 rfl ⟨trivial, rfl, R⟩
      · have hf := it c107 hf
        refine go_aload_n (i := 0) (pc' := 118) dX14_readFill_117 rfl rfl rfl ?_
        refine go_aload_n (i := 0) (pc' := 119) dX14_readFill_118 rfl rfl rfl ?_
        refine go_getS (pc' := 122) dX14_readFill_119 rfl gf_LandBaseModel_471 R (R.at rfl (by decide)) (by decide) rfl ?_
        refine go_iconst (v := 0) (pc' := 123) dX14_readFill_122 rfl (by decide) ?_
        obtain ⟨g108, hf⟩ := gd_some hf
        refine go_ialoadS (pc' := 124) dX14_readFill_123 rfl R (R.aa rfl (by decide)) g108 ?_
        refine go_aload_n (i := 0) (pc' := 125) dX14_readFill_124 rfl rfl rfl ?_
        refine go_getS (pc' := 128) dX14_readFill_125 rfl gf_LandBaseModel_471 R (R.at rfl (by decide)) (by decide) rfl ?_
        refine go_iconst (v := 1) (pc' := 129) dX14_readFill_128 rfl (by decide) ?_
        obtain ⟨g109, hf⟩ := gd_some hf
        refine go_ialoadS (pc' := 130) dX14_readFill_129 rfl R (R.aa rfl (by decide)) g109 ?_
        refine go_iload_n (i := 1) (pc' := 131) dX14_readFill_130 rfl rfl rfl ?_
        refine go_aload_n (i := 0) (pc' := 132) dX14_readFill_131 rfl rfl rfl ?_
        refine go_getS (pc' := 135) dX14_readFill_132 rfl gf_LandBaseModel_471 R (R.at rfl (by decide)) (by decide) rfl ?_
        refine go_iconst (v := 2) (pc' := 136) dX14_readFill_135 rfl (by decide) ?_
        obtain ⟨g110, hf⟩ := gd_some hf
        refine go_ialoadS (pc' := 137) dX14_readFill_136 rfl R (R.aa rfl (by decide)) g110 ?_
        refine go_aload_n (i := 0) (pc' := 138) dX14_readFill_137 rfl rfl rfl ?_
        refine go_getS (pc' := 141) dX14_readFill_138 rfl gf_LandBaseModel_471 R (R.at rfl (by decide)) (by decide) rfl ?_
        refine go_iconst (v := 3) (pc' := 142) dX14_readFill_141 rfl (by decide) ?_
        obtain ⟨g111, hf⟩ := gd_some hf
        refine go_ialoadS (pc' := 143) dX14_readFill_142 rfl R (R.aa rfl (by decide)) g111 ?_
        refine go_aload_n (i := 0) (pc' := 144) dX14_readFill_143 rfl rfl rfl ?_
        refine go_getS (pc' := 147) dX14_readFill_144 rfl gf_LandBaseModel_471 R (R.at rfl (by decide)) (by decide) rfl ?_
        refine go_iconst (v := 4) (pc' := 148) dX14_readFill_147 rfl (by decide) ?_
        obtain ⟨g112, hf⟩ := gd_some hf
        refine go_ialoadS (pc' := 149) dX14_readFill_148 rfl R (R.aa rfl (by decide)) g112 ?_
        refine go_aload_n (i := 0) (pc' := 150) dX14_readFill_149 rfl rfl rfl ?_
        refine go_getS (pc' := 153) dX14_readFill_150 rfl gf_LandBaseModel_471 R (R.at rfl (by decide)) (by decide) rfl ?_
        refine go_iconst (v := 5) (pc' := 154) dX14_readFill_153 rfl (by decide) ?_
        obtain ⟨g113, hf⟩ := gd_some hf
        refine go_ialoadS (pc' := 155) dX14_readFill_154 rfl R (R.aa rfl (by decide)) g113 ?_
        obtain ⟨v114, σ115, e116, hf⟩ := bd_some hf
        refine go_invV (As := [_, _, _, _, _, _, _]) (pc' := 158) dX14_readFill_155 rfl cf_X14_readFill_569 rfl (R.ob (R.at rfl (by decide))) rfl rfl (Nat.le_of_ble_eq_true rfl) (c_X14_fill R e116) (fun q117v h118 q117 => ?_)
        obtain ⟨rfl, R⟩ := q117
        obtain rfl := Option.some.inj hf
        exact Go.ret (v := none) dX14_readFill_158 rfl ⟨trivial, rfl, R⟩
    · have hf := ie c101 hf
      refine go_aload_n (i := 0) (pc' := 89) dX14_readFill_88 rfl rfl rfl ?_
      refine go_getS (pc' := 92) dX14_readFill_89 rfl gf_LandBaseModel_471 R (R.at rfl (by decide)) (by decide) rfl ?_
      refine go_iload_n (i := 2) (pc' := 93) dX14_readFill_92 rfl rfl rfl ?_
      refine go_aload_n (i := 0) (pc' := 94) dX14_readFill_93 rfl rfl rfl ?_
      obtain ⟨v119, σ120, e121, hf⟩ := bd_some hf
      refine go_invV (As := []) (pc' := 97) dX14_readFill_94 rfl cf_X14_readFill_426 rfl (R.ob (R.at rfl (by decide))) rfl rfl (Nat.le_of_ble_eq_true rfl) (c_X14_readInt R e121) (fun q122v h123 q122 => ?_)
      obtain ⟨rfl, R⟩ := q122
      obtain ⟨g124, hf⟩ := gd_some hf
      obtain ⟨σ125, e126, hf⟩ := st_some hf
      refine go_iastoreS (pc' := 98) dX14_readFill_97 rfl R (R.aa rfl (by decide)) g124 (fun h127 R => ?_)
      have R := Rl.cast e126 R
      refine go_iincC (kk := 1) (pc' := 101) dX14_readFill_98 rfl rfl (by decide) (by decide) rfl ?_
      refine go_goto (pc' := 0) (tgt := 82) dX14_readFill_101 (by decide) ?_
      exact ih R hf
def b_X14_readFill_68 (n : Nat) (x1 : Int32) (σ : xσ) : Option (Unit × xσ) := if (sI σ 233 48) = 0 then bd (f_X14_next n σ) (fun v102 σ103 => l_X14_readFill_82 n xFU x1 2 σ103) else some ((), σ)
set_option maxRecDepth 100000 in
set_option maxHeartbeats 4000000 in
theorem t_X14_readFill_68 {G : xG} {n : Nat} {x1 : Int32} {σ : xσ} {h : xH} {r : Unit × xσ} {d2 : Option Value} : Rl n σ h → b_X14_readFill_68 n x1 σ = some r → Go G mX14_readFill 68 [some (.ref 233), some (.int x1), d2] [] h (fun v h' => xRok (xRt mX14_readFill) v ∧ v = none ∧ Rl n r.2 h') := by
  intro R hf
  rw [b_X14_readFill_68] at hf
  refine go_aload_n (i := 0) (pc' := 69) dX14_readFill_68 rfl rfl rfl ?_
  refine go_getS (pc' := 72) dX14_readFill_69 rfl gf_LandBaseModel_365 R (R.at rfl (by decide)) (by decide) rfl ?_
  refine go_if_eq (pc' := 75) (tgt := 76) dX14_readFill_72 (by decide) rfl (fun c101 => ?_) (fun c101 => ?_)
  · have hf := it c101 hf
    refine go_aload_n (i := 0) (pc' := 77) dX14_readFill_76 rfl rfl rfl ?_
    obtain ⟨v102, σ103, e104, hf⟩ := bd_some hf
    refine go_invV (As := []) (pc' := 80) dX14_readFill_77 rfl cf_X14_readFill_423 rfl (R.ob (R.at rfl (by decide))) rfl rfl (Nat.le_of_ble_eq_true rfl) (c_X14_next R e104) (fun q105v h106 q105 => ?_)
    obtain ⟨rfl, R⟩ := q105
    refine go_iconst (v := 2) (pc' := 81) dX14_readFill_80 rfl (by decide) ?_
    refine go_istore_nE rfl (i := 2) (pc' := 82) dX14_readFill_81 rfl rfl (by decide) rfl ?_
    exact t_X14_readFill_82 xFU R hf
  · have hf := ie c101 hf
    obtain rfl := Option.some.inj hf
    exact Go.ret (v := none) dX14_readFill_75 rfl ⟨trivial, rfl, R⟩
def b_X14_readFill_52 (n : Nat) (xs0 : Int32) (σ : xσ) : Option (Unit × xσ) := if (sI σ 233 48) = 0 then if 0 ≤ xs0 then if (sI σ 233 48) = 0 then bd (f_X14_next n σ) (fun v110 σ111 => l_X14_readFill_82 n xFU xs0 2 σ111) else some ((), σ) else bd (f_X14_refuse n σ) (fun v115 σ116 => b_X14_readFill_68 n xs0 σ116) else if (sI σ 233 48) = 0 then bd (f_X14_next n σ) (fun v103 σ104 => l_X14_readFill_82 n xFU xs0 2 σ104) else some ((), σ)
set_option maxRecDepth 100000 in
set_option maxHeartbeats 4000000 in
theorem t_X14_readFill_52 {G : xG} {n : Nat} {xs0 : Int32} {σ : xσ} {h : xH} {r : Unit × xσ} {d1 : Option Value} {d2 : Option Value} : Rl n σ h → b_X14_readFill_52 n xs0 σ = some r → Go G mX14_readFill 52 [some (.ref 233), d1, d2] [.int xs0] h (fun v h' => xRok (xRt mX14_readFill) v ∧ v = none ∧ Rl n r.2 h') := by
  intro R hf
  rw [b_X14_readFill_52] at hf
  refine go_istore_nE rfl (i := 1) (pc' := 53) dX14_readFill_52 rfl rfl (by decide) rfl ?_
  refine go_aload_n (i := 0) (pc' := 54) dX14_readFill_53 rfl rfl rfl ?_
  refine go_getS (pc' := 57) dX14_readFill_54 rfl gf_LandBaseModel_365 R (R.at rfl (by decide)) (by decide) rfl ?_
  refine go_if_ne (pc' := 60) (tgt := 68) dX14_readFill_57 (by decide) rfl (fun c101 => ?_) (fun c101 => ?_)
  · have hf := ie c101 hf
    refine go_aload_n (i := 0) (pc' := 69) dX14_readFill_68 rfl rfl rfl ?_
    refine go_getS (pc' := 72) dX14_readFill_69 rfl gf_LandBaseModel_365 R (R.at rfl (by decide)) (by decide) rfl ?_
    refine go_if_eq (pc' := 75) (tgt := 76) dX14_readFill_72 (by decide) rfl (fun c102 => ?_) (fun c102 => ?_)
    · have hf := it c102 hf
      refine go_aload_n (i := 0) (pc' := 77) dX14_readFill_76 rfl rfl rfl ?_
      obtain ⟨v103, σ104, e105, hf⟩ := bd_some hf
      refine go_invV (As := []) (pc' := 80) dX14_readFill_77 rfl cf_X14_readFill_423 rfl (R.ob (R.at rfl (by decide))) rfl rfl (Nat.le_of_ble_eq_true rfl) (c_X14_next R e105) (fun q106v h107 q106 => ?_)
      obtain ⟨rfl, R⟩ := q106
      refine go_iconst (v := 2) (pc' := 81) dX14_readFill_80 rfl (by decide) ?_
      refine go_istore_nE rfl (i := 2) (pc' := 82) dX14_readFill_81 rfl rfl (by decide) rfl ?_
      exact t_X14_readFill_82 xFU R hf
    · have hf := ie c102 hf
      obtain rfl := Option.some.inj hf
      exact Go.ret (v := none) dX14_readFill_75 rfl ⟨trivial, rfl, R⟩
  · have hf := it c101 hf
    refine go_iload_n (i := 1) (pc' := 61) dX14_readFill_60 rfl rfl rfl ?_
    refine go_if_ge (pc' := 64) (tgt := 68) dX14_readFill_61 (by decide) rfl (fun c108 => ?_) (fun c108 => ?_)
    · have hf := it c108 hf
      refine go_aload_n (i := 0) (pc' := 69) dX14_readFill_68 rfl rfl rfl ?_
      refine go_getS (pc' := 72) dX14_readFill_69 rfl gf_LandBaseModel_365 R (R.at rfl (by decide)) (by decide) rfl ?_
      refine go_if_eq (pc' := 75) (tgt := 76) dX14_readFill_72 (by decide) rfl (fun c109 => ?_) (fun c109 => ?_)
      · have hf := it c109 hf
        refine go_aload_n (i := 0) (pc' := 77) dX14_readFill_76 rfl rfl rfl ?_
        obtain ⟨v110, σ111, e112, hf⟩ := bd_some hf
        refine go_invV (As := []) (pc' := 80) dX14_readFill_77 rfl cf_X14_readFill_423 rfl (R.ob (R.at rfl (by decide))) rfl rfl (Nat.le_of_ble_eq_true rfl) (c_X14_next R e112) (fun q113v h114 q113 => ?_)
        obtain ⟨rfl, R⟩ := q113
        refine go_iconst (v := 2) (pc' := 81) dX14_readFill_80 rfl (by decide) ?_
        refine go_istore_nE rfl (i := 2) (pc' := 82) dX14_readFill_81 rfl rfl (by decide) rfl ?_
        exact t_X14_readFill_82 xFU R hf
      · have hf := ie c109 hf
        obtain rfl := Option.some.inj hf
        exact Go.ret (v := none) dX14_readFill_75 rfl ⟨trivial, rfl, R⟩
    · have hf := ie c108 hf
      refine go_aload_n (i := 0) (pc' := 65) dX14_readFill_64 rfl rfl rfl ?_
      obtain ⟨v115, σ116, e117, hf⟩ := bd_some hf
      refine go_invV (As := []) (pc' := 68) dX14_readFill_65 rfl cf_X14_readFill_420 rfl (R.ob (R.at rfl (by decide))) rfl rfl (Nat.le_of_ble_eq_true rfl) (c_X14_refuse R e117) (fun q118v h119 q118 => ?_)
      obtain ⟨rfl, R⟩ := q118
      exact t_X14_readFill_68 R hf
def f_X14_readFill (n : Nat)  (σ : xσ) : Option (Unit × xσ) := bd (f_X14_next n σ) (fun v101 σ102 => bd (f_X14_readInts n 2 σ102) (fun v106 σ107 => bd (f_X14_isWord n 11 σ107) (fun v111 σ112 => if v111 = 0 then bd (f_X14_isWord n 12 σ112) (fun v117 σ118 => if v117 = 0 then bd (f_X14_isWord n 13 σ118) (fun v123 σ124 => if v123 = 0 then b_X14_readFill_52 n ((-1)) σ124 else b_X14_readFill_52 n 2 σ124) else b_X14_readFill_52 n 1 σ118) else b_X14_readFill_52 n 0 σ112)))
set_option maxRecDepth 100000 in
set_option maxHeartbeats 4000000 in
theorem c_X14_readFill {G : xG} {n : Nat} {σ : xσ} {h : xH}  {v1 : Unit} {σ1 : xσ} (R : Rl n σ h) (hf : f_X14_readFill n σ = some (v1, σ1)) : Ca G mX14_readFill [.ref 233] h (fun v h' => v = none ∧ Rl n σ1 h') := by
  refine Ca.of rfl (Nat.le_of_ble_eq_true rfl) ?_
  generalize hr : (v1, σ1) = r at hf
  suffices q : Go G mX14_readFill 0 (xent (xMl mX14_readFill) [.ref 233]) [] h (fun v h' => xRok (xRt mX14_readFill) v ∧ v = none ∧ Rl n r.2 h') by
    subst hr
    exact q
  clear hr
  rw [f_X14_readFill] at hf
  refine go_aload_n (i := 0) (pc' := 1) dX14_readFill_0 rfl rfl rfl ?_
  obtain ⟨v101, σ102, e103, hf⟩ := bd_some hf
  refine go_invV (As := []) (pc' := 4) dX14_readFill_1 rfl cf_X14_readFill_423 rfl (R.ob (R.at rfl (by decide))) rfl rfl (Nat.le_of_ble_eq_true rfl) (c_X14_next R e103) (fun q104v h105 q104 => ?_)
  obtain ⟨rfl, R⟩ := q104
  refine go_aload_n (i := 0) (pc' := 5) dX14_readFill_4 rfl rfl rfl ?_
  refine go_iconst (v := 2) (pc' := 6) dX14_readFill_5 rfl (by decide) ?_
  obtain ⟨v106, σ107, e108, hf⟩ := bd_some hf
  refine go_invV (As := [_]) (pc' := 9) dX14_readFill_6 rfl cf_X14_readFill_496 rfl (R.ob (R.at rfl (by decide))) rfl rfl (Nat.le_of_ble_eq_true rfl) (c_X14_readInts R e108) (fun q109v h110 q109 => ?_)
  obtain ⟨rfl, R⟩ := q109
  refine go_aload_n (i := 0) (pc' := 10) dX14_readFill_9 rfl rfl rfl ?_
  refine go_ldcSw (j := 11) (pc' := 13) dX14_readFill_10 rfl rfl ?_
  obtain ⟨v111, σ112, e113, hf⟩ := bd_some hf
  refine go_invV (As := [_]) (pc' := 16) dX14_readFill_13 rfl cf_X14_readFill_446 rfl (R.ob (R.at rfl (by decide))) rfl rfl (Nat.le_of_ble_eq_true rfl) (c_X14_isWord R e113) (fun q114v h115 q114 => ?_)
  obtain ⟨rfl, R⟩ := q114
  refine go_if_eq (pc' := 19) (tgt := 23) dX14_readFill_16 (by decide) rfl (fun c116 => ?_) (fun c116 => ?_)
  · have hf := it c116 hf
    refine go_aload_n (i := 0) (pc' := 24) dX14_readFill_23 rfl rfl rfl ?_
    refine go_ldcSw (j := 12) (pc' := 27) dX14_readFill_24 rfl rfl ?_
    obtain ⟨v117, σ118, e119, hf⟩ := bd_some hf
    refine go_invV (As := [_]) (pc' := 30) dX14_readFill_27 rfl cf_X14_readFill_446 rfl (R.ob (R.at rfl (by decide))) rfl rfl (Nat.le_of_ble_eq_true rfl) (c_X14_isWord R e119) (fun q120v h121 q120 => ?_)
    obtain ⟨rfl, R⟩ := q120
    refine go_if_eq (pc' := 33) (tgt := 37) dX14_readFill_30 (by decide) rfl (fun c122 => ?_) (fun c122 => ?_)
    · have hf := it c122 hf
      refine go_aload_n (i := 0) (pc' := 38) dX14_readFill_37 rfl rfl rfl ?_
      refine go_ldcSw (j := 13) (pc' := 41) dX14_readFill_38 rfl rfl ?_
      obtain ⟨v123, σ124, e125, hf⟩ := bd_some hf
      refine go_invV (As := [_]) (pc' := 44) dX14_readFill_41 rfl cf_X14_readFill_446 rfl (R.ob (R.at rfl (by decide))) rfl rfl (Nat.le_of_ble_eq_true rfl) (c_X14_isWord R e125) (fun q126v h127 q126 => ?_)
      obtain ⟨rfl, R⟩ := q126
      refine go_if_eq (pc' := 47) (tgt := 51) dX14_readFill_44 (by decide) rfl (fun c128 => ?_) (fun c128 => ?_)
      · have hf := it c128 hf
        refine go_iconst (v := (-1)) (pc' := 52) dX14_readFill_51 rfl (by decide) ?_
        exact t_X14_readFill_52 R hf
      · have hf := ie c128 hf
        refine go_iconst (v := 2) (pc' := 48) dX14_readFill_47 rfl (by decide) ?_
        refine go_goto (pc' := 0) (tgt := 52) dX14_readFill_48 (by decide) ?_
        exact t_X14_readFill_52 R hf
    · have hf := ie c122 hf
      refine go_iconst (v := 1) (pc' := 34) dX14_readFill_33 rfl (by decide) ?_
      refine go_goto (pc' := 0) (tgt := 52) dX14_readFill_34 (by decide) ?_
      exact t_X14_readFill_52 R hf
  · have hf := ie c116 hf
    refine go_iconst (v := 0) (pc' := 20) dX14_readFill_19 rfl (by decide) ?_
    refine go_goto (pc' := 0) (tgt := 52) dX14_readFill_20 (by decide) ?_
    exact t_X14_readFill_52 R hf
def f_X14_beginAnswers (n : Nat)  (σ : xσ) : Option (Unit × xσ) := st (wI σ 233 57 0) (fun σ101 => some ((), σ101))
set_option maxRecDepth 100000 in
set_option maxHeartbeats 4000000 in
theorem c_X14_beginAnswers {G : xG} {n : Nat} {σ : xσ} {h : xH}  {v1 : Unit} {σ1 : xσ} (R : Rl n σ h) (hf : f_X14_beginAnswers n σ = some (v1, σ1)) : Ca G mX14_beginAnswers [.ref 233] h (fun v h' => v = none ∧ Rl n σ1 h') := by
  refine Ca.of rfl (Nat.le_of_ble_eq_true rfl) ?_
  generalize hr : (v1, σ1) = r at hf
  suffices q : Go G mX14_beginAnswers 0 (xent (xMl mX14_beginAnswers) [.ref 233]) [] h (fun v h' => xRok (xRt mX14_beginAnswers) v ∧ v = none ∧ Rl n r.2 h') by
    subst hr
    exact q
  clear hr
  rw [f_X14_beginAnswers] at hf
  refine go_aload_n (i := 0) (pc' := 1) dX14_beginAnswers_0 rfl rfl rfl ?_
  refine go_iconst (v := 0) (pc' := 2) dX14_beginAnswers_1 rfl (by decide) ?_
  obtain ⟨σ101, e102, hf⟩ := st_some hf
  refine go_putI (pc' := 5) dX14_beginAnswers_2 rfl pf_LandBaseModel_617 R (R.at rfl (by decide)) (by decide) rfl rfl rfl (fun h103 R => ?_)
  have R := Rl.cast e102 R
  obtain rfl := Option.some.inj hf
  exact Go.ret (v := none) dX14_beginAnswers_5 rfl ⟨trivial, rfl, R⟩
def f_X14_answer (n : Nat) (x1 : Int32) (σ : xσ) : Option (Unit × xσ) := gd (inb (((sI σ 233 44) + 2) + (sI σ 233 57)) 30000) (st (wI σ 1864 (((sI σ 233 44) + 2) + (sI σ 233 57)).toNatClampNeg x1) (fun σ102 => st (wI σ102 233 57 ((sI σ102 233 57) + 1)) (fun σ105 => some ((), σ105))))
set_option maxRecDepth 100000 in
set_option maxHeartbeats 4000000 in
theorem c_X14_answer {G : xG} {n : Nat} {σ : xσ} {h : xH} {x1 : Int32} {v1 : Unit} {σ1 : xσ} (R : Rl n σ h) (hf : f_X14_answer n x1 σ = some (v1, σ1)) : Ca G mX14_answer [.ref 233, .int x1] h (fun v h' => v = none ∧ Rl n σ1 h') := by
  refine Ca.of rfl (Nat.le_of_ble_eq_true rfl) ?_
  generalize hr : (v1, σ1) = r at hf
  suffices q : Go G mX14_answer 0 (xent (xMl mX14_answer) [.ref 233, .int x1]) [] h (fun v h' => xRok (xRt mX14_answer) v ∧ v = none ∧ Rl n r.2 h') by
    subst hr
    exact q
  clear hr
  rw [f_X14_answer] at hf
  refine go_aload_n (i := 0) (pc' := 1) dX14_answer_0 rfl rfl rfl ?_
  refine go_getS (pc' := 4) dX14_answer_1 rfl gf_LandBaseModel_359 R (R.at rfl (by decide)) (by decide) rfl ?_
  refine go_aload_n (i := 0) (pc' := 5) dX14_answer_4 rfl rfl rfl ?_
  refine go_getS (pc' := 8) dX14_answer_5 rfl gf_LandBaseModel_362 R (R.at rfl (by decide)) (by decide) rfl ?_
  refine go_iconst (v := 2) (pc' := 9) dX14_answer_8 rfl (by decide) ?_
  refine go_iadd (pc' := 10) dX14_answer_9 rfl ?_
  refine go_aload_n (i := 0) (pc' := 11) dX14_answer_10 rfl rfl rfl ?_
  refine go_getS (pc' := 14) dX14_answer_11 rfl gf_LandBaseModel_617 R (R.at rfl (by decide)) (by decide) rfl ?_
  refine go_iadd (pc' := 15) dX14_answer_14 rfl ?_
  refine go_iload_n (i := 1) (pc' := 16) dX14_answer_15 rfl rfl rfl ?_
  obtain ⟨g101, hf⟩ := gd_some hf
  obtain ⟨σ102, e103, hf⟩ := st_some hf
  refine go_iastoreS (pc' := 17) dX14_answer_16 rfl R (R.aa rfl (by decide)) g101 (fun h104 R => ?_)
  have R := Rl.cast e103 R
  refine go_aload_n (i := 0) (pc' := 18) dX14_answer_17 rfl rfl rfl ?_
  refine go_dup (pc' := 19) dX14_answer_18 rfl rfl ?_
  refine go_getS (pc' := 22) dX14_answer_19 rfl gf_LandBaseModel_617 R (R.at rfl (by decide)) (by decide) rfl ?_
  refine go_iconst (v := 1) (pc' := 23) dX14_answer_22 rfl (by decide) ?_
  refine go_iadd (pc' := 24) dX14_answer_23 rfl ?_
  obtain ⟨σ105, e106, hf⟩ := st_some hf
  refine go_putI (pc' := 27) dX14_answer_24 rfl pf_LandBaseModel_617 R (R.at rfl (by decide)) (by decide) rfl rfl rfl (fun h107 R => ?_)
  have R := Rl.cast e106 R
  obtain rfl := Option.some.inj hf
  exact Go.ret (v := none) dX14_answer_27 rfl ⟨trivial, rfl, R⟩
def f_X14_endAnswers (n : Nat) (x1 : Int32) (σ : xσ) : Option (Unit × xσ) := if (((sI σ 233 44) + 2) + (sI σ 233 57)) ≤ 19000 then gd (inb (sI σ 233 44) 30000) (st (wI σ 1864 (sI σ 233 44).toNatClampNeg 0) (fun σ103 => gd (¬ x1 = 0) (gd (inb ((sI σ103 233 44) + 1) 30000) (st (wI σ103 1864 ((sI σ103 233 44) + 1).toNatClampNeg ((sI σ103 233 57) / x1)) (fun σ108 => st (wI σ108 233 44 ((sI σ108 233 44) + (2 + (sI σ108 233 57)))) (fun σ111 => some ((), σ111))))))) else bd (f_X14_put n 7 σ) (fun v114 σ115 => some ((), σ115))
set_option maxRecDepth 100000 in
set_option maxHeartbeats 4000000 in
theorem c_X14_endAnswers {G : xG} {n : Nat} {σ : xσ} {h : xH} {x1 : Int32} {v1 : Unit} {σ1 : xσ} (R : Rl n σ h) (hf : f_X14_endAnswers n x1 σ = some (v1, σ1)) : Ca G mX14_endAnswers [.ref 233, .int x1] h (fun v h' => v = none ∧ Rl n σ1 h') := by
  refine Ca.of rfl (Nat.le_of_ble_eq_true rfl) ?_
  generalize hr : (v1, σ1) = r at hf
  suffices q : Go G mX14_endAnswers 0 (xent (xMl mX14_endAnswers) [.ref 233, .int x1]) [] h (fun v h' => xRok (xRt mX14_endAnswers) v ∧ v = none ∧ Rl n r.2 h') by
    subst hr
    exact q
  clear hr
  rw [f_X14_endAnswers] at hf
  refine go_aload_n (i := 0) (pc' := 1) dX14_endAnswers_0 rfl rfl rfl ?_
  refine go_getS (pc' := 4) dX14_endAnswers_1 rfl gf_LandBaseModel_362 R (R.at rfl (by decide)) (by decide) rfl ?_
  refine go_iconst (v := 2) (pc' := 5) dX14_endAnswers_4 rfl (by decide) ?_
  refine go_iadd (pc' := 6) dX14_endAnswers_5 rfl ?_
  refine go_aload_n (i := 0) (pc' := 7) dX14_endAnswers_6 rfl rfl rfl ?_
  refine go_getS (pc' := 10) dX14_endAnswers_7 rfl gf_LandBaseModel_617 R (R.at rfl (by decide)) (by decide) rfl ?_
  refine go_iadd (pc' := 11) dX14_endAnswers_10 rfl ?_
  refine go_sipush (v := 19000) (pc' := 14) dX14_endAnswers_11 rfl (by decide) ?_
  refine go_icmp_le (pc' := 17) (tgt := 24) dX14_endAnswers_14 (by decide) rfl (fun c101 => ?_) (fun c101 => ?_)
  · have hf := it c101 hf
    refine go_aload_n (i := 0) (pc' := 25) dX14_endAnswers_24 rfl rfl rfl ?_
    refine go_getS (pc' := 28) dX14_endAnswers_25 rfl gf_LandBaseModel_359 R (R.at rfl (by decide)) (by decide) rfl ?_
    refine go_aload_n (i := 0) (pc' := 29) dX14_endAnswers_28 rfl rfl rfl ?_
    refine go_getS (pc' := 32) dX14_endAnswers_29 rfl gf_LandBaseModel_362 R (R.at rfl (by decide)) (by decide) rfl ?_
    refine go_iconst (v := 0) (pc' := 33) dX14_endAnswers_32 rfl (by decide) ?_
    obtain ⟨g102, hf⟩ := gd_some hf
    obtain ⟨σ103, e104, hf⟩ := st_some hf
    refine go_iastoreS (pc' := 34) dX14_endAnswers_33 rfl R (R.aa rfl (by decide)) g102 (fun h105 R => ?_)
    have R := Rl.cast e104 R
    refine go_aload_n (i := 0) (pc' := 35) dX14_endAnswers_34 rfl rfl rfl ?_
    refine go_getS (pc' := 38) dX14_endAnswers_35 rfl gf_LandBaseModel_359 R (R.at rfl (by decide)) (by decide) rfl ?_
    refine go_aload_n (i := 0) (pc' := 39) dX14_endAnswers_38 rfl rfl rfl ?_
    refine go_getS (pc' := 42) dX14_endAnswers_39 rfl gf_LandBaseModel_362 R (R.at rfl (by decide)) (by decide) rfl ?_
    refine go_iconst (v := 1) (pc' := 43) dX14_endAnswers_42 rfl (by decide) ?_
    refine go_iadd (pc' := 44) dX14_endAnswers_43 rfl ?_
    refine go_aload_n (i := 0) (pc' := 45) dX14_endAnswers_44 rfl rfl rfl ?_
    refine go_getS (pc' := 48) dX14_endAnswers_45 rfl gf_LandBaseModel_617 R (R.at rfl (by decide)) (by decide) rfl ?_
    refine go_iload_n (i := 1) (pc' := 49) dX14_endAnswers_48 rfl rfl rfl ?_
    obtain ⟨g106, hf⟩ := gd_some hf
    refine go_idiv (pc' := 50) dX14_endAnswers_49 rfl g106 ?_
    obtain ⟨g107, hf⟩ := gd_some hf
    obtain ⟨σ108, e109, hf⟩ := st_some hf
    refine go_iastoreS (pc' := 51) dX14_endAnswers_50 rfl R (R.aa rfl (by decide)) g107 (fun h110 R => ?_)
    have R := Rl.cast e109 R
    refine go_aload_n (i := 0) (pc' := 52) dX14_endAnswers_51 rfl rfl rfl ?_
    refine go_dup (pc' := 53) dX14_endAnswers_52 rfl rfl ?_
    refine go_getS (pc' := 56) dX14_endAnswers_53 rfl gf_LandBaseModel_362 R (R.at rfl (by decide)) (by decide) rfl ?_
    refine go_iconst (v := 2) (pc' := 57) dX14_endAnswers_56 rfl (by decide) ?_
    refine go_aload_n (i := 0) (pc' := 58) dX14_endAnswers_57 rfl rfl rfl ?_
    refine go_getS (pc' := 61) dX14_endAnswers_58 rfl gf_LandBaseModel_617 R (R.at rfl (by decide)) (by decide) rfl ?_
    refine go_iadd (pc' := 62) dX14_endAnswers_61 rfl ?_
    refine go_iadd (pc' := 63) dX14_endAnswers_62 rfl ?_
    obtain ⟨σ111, e112, hf⟩ := st_some hf
    refine go_putI (pc' := 66) dX14_endAnswers_63 rfl pf_LandBaseModel_362 R (R.at rfl (by decide)) (by decide) rfl rfl rfl (fun h113 R => ?_)
    have R := Rl.cast e112 R
    obtain rfl := Option.some.inj hf
    exact Go.ret (v := none) dX14_endAnswers_66 rfl ⟨trivial, rfl, R⟩
  · have hf := ie c101 hf
    refine go_aload_n (i := 0) (pc' := 18) dX14_endAnswers_17 rfl rfl rfl ?_
    refine go_bipush (v := 7) (pc' := 20) dX14_endAnswers_18 rfl (by decide) ?_
    obtain ⟨v114, σ115, e116, hf⟩ := bd_some hf
    refine go_invV (As := [_]) (pc' := 23) dX14_endAnswers_20 rfl cf_X14_endAnswers_557 rfl (R.ob (R.at rfl (by decide))) rfl rfl (Nat.le_of_ble_eq_true rfl) (c_X14_put R e116) (fun q117v h118 q117 => ?_)
    obtain ⟨rfl, R⟩ := q117
    obtain rfl := Option.some.inj hf
    exact Go.ret (v := none) dX14_endAnswers_23 rfl ⟨trivial, rfl, R⟩
def b_X14_find_88 (n : Nat) (k40 : Int32 → Int32 → xσ → Option (Unit × xσ)) (x1 : Int32) (x2 : Int32) (σ : xσ) : Option (Unit × xσ) := k40 x1 (x2 + 1) σ
set_option maxRecDepth 100000 in
set_option maxHeartbeats 4000000 in
theorem t_X14_find_88 {G : xG} {n : Nat} {k40 : Int32 → Int32 → xσ → Option (Unit × xσ)} (hk40 : ∀ {x1 : Int32} {x2 : Int32} {σ : xσ} {h : xH} {r : Unit × xσ}, Rl n σ h → k40 x1 x2 σ = some r → Go G mX14_find 40 [some (.ref 233), some (.int x1), some (.int x2)] [] h (fun v h' => xRok (xRt mX14_find) v ∧ v = none ∧ Rl n r.2 h')) {x1 : Int32} {x2 : Int32} {σ : xσ} {h : xH} {r : Unit × xσ} : Rl n σ h → b_X14_find_88 n k40 x1 x2 σ = some r → Go G mX14_find 88 [some (.ref 233), some (.int x1), some (.int x2)] [] h (fun v h' => xRok (xRt mX14_find) v ∧ v = none ∧ Rl n r.2 h') := by
  intro R hf
  rw [b_X14_find_88] at hf
  refine go_iincC (kk := 1) (pc' := 91) dX14_find_88 rfl rfl (by decide) (by decide) rfl ?_
  refine go_goto (pc' := 0) (tgt := 40) dX14_find_91 (by decide) ?_
  exact hk40 R hf
def l_X14_find_40 (n : Nat) : Nat → Int32 → Int32 → xσ → Option (Unit × xσ)
  | 0, _, _, _ => none
  | f + 1, x1, x2, σ => if (sI σ 259 1) ≤ x2 then bd (f_X14_endAnswers n 1 σ) (fun v102 σ103 => some ((), σ103)) else gd (inb x2 200) (nn (sR σ 260 x2.toNatClampNeg) (fun a108 => gd (okM a108) (bd (f_X14_relates n x1 a108 1865 σ) (fun v111 σ112 => if v111 = 0 then (l_X14_find_40 n f) x1 (x2 + 1) σ112 else gd (inb x2 200) (nn (sR σ112 260 x2.toNatClampNeg) (fun a118 => gd (okM a118) (bd (f_X14_answer n (sI σ112 a118 0) σ112) (fun v121 σ122 => b_X14_find_88 n (l_X14_find_40 n f) x1 x2 σ122))))))))
set_option maxRecDepth 100000 in
set_option maxHeartbeats 4000000 in
theorem t_X14_find_40 {G : xG} {n : Nat} : ∀ (f : Nat) {x1 : Int32} {x2 : Int32} {σ : xσ} {h : xH} {r : Unit × xσ}, Rl n σ h → l_X14_find_40 n f x1 x2 σ = some r → Go G mX14_find 40 [some (.ref 233), some (.int x1), some (.int x2)] [] h (fun v h' => xRok (xRt mX14_find) v ∧ v = none ∧ Rl n r.2 h') := by
  intro f
  induction f with
  | zero =>
    intros
    rename _ = some _ => hf
    rw [l_X14_find_40] at hf
    cases hf
  | succ f ih =>
    intro x1 x2 σ h r  R hf
    rw [l_X14_find_40] at hf
    refine go_iload_n (i := 2) (pc' := 41) dX14_find_40 rfl rfl rfl ?_
    refine go_aload_n (i := 0) (pc' := 42) dX14_find_41 rfl rfl rfl ?_
    refine go_getS (pc' := 45) dX14_find_42 rfl gf_LandBaseModel_351 R (R.at rfl (by decide)) (by decide) rfl ?_
    refine go_getS (pc' := 48) dX14_find_45 rfl gf_LandBaseModel_581 R (R.at rfl (by decide)) (by decide) rfl ?_
    refine go_icmp_ge (pc' := 51) (tgt := 94) dX14_find_48 (by decide) rfl (fun c101 => ?_) (fun c101 => ?_)
    · have hf := it c101 hf
      refine go_aload_n (i := 0) (pc' := 95) dX14_find_94 rfl rfl rfl ?_
      refine go_iconst (v := 1) (pc' := 96) dX14_find_95 rfl (by decide) ?_
      obtain ⟨v102, σ103, e104, hf⟩ := bd_some hf
      refine go_invV (As := [_]) (pc' := 99) dX14_find_96 rfl cf_X14_find_633 rfl (R.ob (R.at rfl (by decide))) rfl rfl (Nat.le_of_ble_eq_true rfl) (c_X14_endAnswers R e104) (fun q105v h106 q105 => ?_)
      obtain ⟨rfl, R⟩ := q105
      obtain rfl := Option.some.inj hf
      exact Go.ret (v := none) dX14_find_99 rfl ⟨trivial, rfl, R⟩
    · have hf := ie c101 hf
      refine go_aload_n (i := 0) (pc' := 52) dX14_find_51 rfl rfl rfl ?_
      refine go_iload_n (i := 1) (pc' := 53) dX14_find_52 rfl rfl rfl ?_
      refine go_aload_n (i := 0) (pc' := 54) dX14_find_53 rfl rfl rfl ?_
      refine go_getS (pc' := 57) dX14_find_54 rfl gf_LandBaseModel_351 R (R.at rfl (by decide)) (by decide) rfl ?_
      refine go_getS (pc' := 60) dX14_find_57 rfl gf_LandBaseModel_596 R (R.at rfl (by decide)) (by decide) rfl ?_
      refine go_iload_n (i := 2) (pc' := 61) dX14_find_60 rfl rfl rfl ?_
      obtain ⟨g107, hf⟩ := gd_some hf
      obtain ⟨a108, e109, hf⟩ := nn_some hf
      obtain ⟨g110, hf⟩ := gd_some hf
      refine go_aaloadS (pc' := 62) dX14_find_61 rfl (by decide) R (R.aa rfl (by decide)) g107 e109 ?_
      refine go_aload_n (i := 0) (pc' := 63) dX14_find_62 rfl rfl rfl ?_
      refine go_getS (pc' := 66) dX14_find_63 rfl gf_LandBaseModel_432 R (R.at rfl (by decide)) (by decide) rfl ?_
      obtain ⟨v111, σ112, e113, hf⟩ := bd_some hf
      refine go_invV (As := [_, _, _]) (pc' := 69) dX14_find_66 rfl cf_X14_find_623 rfl (R.ob (R.at rfl (by decide))) rfl rfl (Nat.le_of_ble_eq_true rfl) (c_X14_relates R e113) (fun q114v h115 q114 => ?_)
      obtain ⟨rfl, R⟩ := q114
      refine go_if_eq (pc' := 72) (tgt := 88) dX14_find_69 (by decide) rfl (fun c116 => ?_) (fun c116 => ?_)
      · have hf := it c116 hf
        refine go_iincC (kk := 1) (pc' := 91) dX14_find_88 rfl rfl (by decide) (by decide) rfl ?_
        refine go_goto (pc' := 0) (tgt := 40) dX14_find_91 (by decide) ?_
        exact ih R hf
      · have hf := ie c116 hf
        refine go_aload_n (i := 0) (pc' := 73) dX14_find_72 rfl rfl rfl ?_
        refine go_aload_n (i := 0) (pc' := 74) dX14_find_73 rfl rfl rfl ?_
        refine go_getS (pc' := 77) dX14_find_74 rfl gf_LandBaseModel_351 R (R.at rfl (by decide)) (by decide) rfl ?_
        refine go_getS (pc' := 80) dX14_find_77 rfl gf_LandBaseModel_596 R (R.at rfl (by decide)) (by decide) rfl ?_
        refine go_iload_n (i := 2) (pc' := 81) dX14_find_80 rfl rfl rfl ?_
        obtain ⟨g117, hf⟩ := gd_some hf
        obtain ⟨a118, e119, hf⟩ := nn_some hf
        obtain ⟨g120, hf⟩ := gd_some hf
        refine go_aaloadS (pc' := 82) dX14_find_81 rfl (by decide) R (R.aa rfl (by decide)) g117 e119 ?_
        refine go_getS (pc' := 85) dX14_find_82 rfl gf_LandBaseModel_627 R (g120.at R) (by decide) rfl ?_
        obtain ⟨v121, σ122, e123, hf⟩ := bd_some hf
        refine go_invV (As := [_]) (pc' := 88) dX14_find_85 rfl cf_X14_find_630 rfl (R.ob (R.at rfl (by decide))) rfl rfl (Nat.le_of_ble_eq_true rfl) (c_X14_answer R e123) (fun q124v h125 q124 => ?_)
        obtain ⟨rfl, R⟩ := q124
        exact t_X14_find_88 @ih R hf
def f_X14_find (n : Nat) (x1 : Int32) (σ : xσ) : Option (Unit × xσ) := bd (f_X14_isTooGreat n σ) (fun v101 σ102 => if v101 = 0 then bd (f_X14_isValid n 1865 σ102) (fun v107 σ108 => if v107 = 0 then bd (f_X14_put n 3 σ108) (fun v118 σ119 => some ((), σ119)) else bd (f_X14_beginAnswers n σ108) (fun v113 σ114 => l_X14_find_40 n xFU x1 0 σ114)) else bd (f_X14_put n 4 σ102) (fun v123 σ124 => some ((), σ124)))
set_option maxRecDepth 100000 in
set_option maxHeartbeats 4000000 in
theorem c_X14_find {G : xG} {n : Nat} {σ : xσ} {h : xH} {x1 : Int32} {v1 : Unit} {σ1 : xσ} (R : Rl n σ h) (hf : f_X14_find n x1 σ = some (v1, σ1)) : Ca G mX14_find [.ref 233, .int x1] h (fun v h' => v = none ∧ Rl n σ1 h') := by
  refine Ca.of rfl (Nat.le_of_ble_eq_true rfl) ?_
  generalize hr : (v1, σ1) = r at hf
  suffices q : Go G mX14_find 0 (xent (xMl mX14_find) [.ref 233, .int x1]) [] h (fun v h' => xRok (xRt mX14_find) v ∧ v = none ∧ Rl n r.2 h') by
    subst hr
    exact q
  clear hr
  rw [f_X14_find] at hf
  refine go_aload_n (i := 0) (pc' := 1) dX14_find_0 rfl rfl rfl ?_
  obtain ⟨v101, σ102, e103, hf⟩ := bd_some hf
  refine go_invV (As := []) (pc' := 4) dX14_find_1 rfl cf_X14_find_575 rfl (R.ob (R.at rfl (by decide))) rfl rfl (Nat.le_of_ble_eq_true rfl) (c_X14_isTooGreat R e103) (fun q104v h105 q104 => ?_)
  obtain ⟨rfl, R⟩ := q104
  refine go_if_eq (pc' := 7) (tgt := 15) dX14_find_4 (by decide) rfl (fun c106 => ?_) (fun c106 => ?_)
  · have hf := it c106 hf
    refine go_aload_n (i := 0) (pc' := 16) dX14_find_15 rfl rfl rfl ?_
    refine go_aload_n (i := 0) (pc' := 17) dX14_find_16 rfl rfl rfl ?_
    refine go_getS (pc' := 20) dX14_find_17 rfl gf_LandBaseModel_432 R (R.at rfl (by decide)) (by decide) rfl ?_
    obtain ⟨v107, σ108, e109, hf⟩ := bd_some hf
    refine go_invV (As := [_]) (pc' := 23) dX14_find_20 rfl cf_X14_find_578 rfl (R.ob (R.at rfl (by decide))) rfl rfl (Nat.le_of_ble_eq_true rfl) (c_X14_isValid R e109) (fun q110v h111 q110 => ?_)
    obtain ⟨rfl, R⟩ := q110
    refine go_if_ne (pc' := 26) (tgt := 34) dX14_find_23 (by decide) rfl (fun c112 => ?_) (fun c112 => ?_)
    · have hf := ie c112 hf
      refine go_aload_n (i := 0) (pc' := 35) dX14_find_34 rfl rfl rfl ?_
      obtain ⟨v113, σ114, e115, hf⟩ := bd_some hf
      refine go_invV (As := []) (pc' := 38) dX14_find_35 rfl cf_X14_find_620 rfl (R.ob (R.at rfl (by decide))) rfl rfl (Nat.le_of_ble_eq_true rfl) (c_X14_beginAnswers R e115) (fun q116v h117 q116 => ?_)
      obtain ⟨rfl, R⟩ := q116
      refine go_iconst (v := 0) (pc' := 39) dX14_find_38 rfl (by decide) ?_
      refine go_istore_nE rfl (i := 2) (pc' := 40) dX14_find_39 rfl rfl (by decide) rfl ?_
      exact t_X14_find_40 xFU R hf
    · have hf := it c112 hf
      refine go_aload_n (i := 0) (pc' := 27) dX14_find_26 rfl rfl rfl ?_
      refine go_iconst (v := 3) (pc' := 28) dX14_find_27 rfl (by decide) ?_
      obtain ⟨v118, σ119, e120, hf⟩ := bd_some hf
      refine go_invV (As := [_]) (pc' := 31) dX14_find_28 rfl cf_X14_find_557 rfl (R.ob (R.at rfl (by decide))) rfl rfl (Nat.le_of_ble_eq_true rfl) (c_X14_put R e120) (fun q121v h122 q121 => ?_)
      obtain ⟨rfl, R⟩ := q121
      refine go_goto (pc' := 0) (tgt := 99) dX14_find_31 (by decide) ?_
      obtain rfl := Option.some.inj hf
      exact Go.ret (v := none) dX14_find_99 rfl ⟨trivial, rfl, R⟩
  · have hf := ie c106 hf
    refine go_aload_n (i := 0) (pc' := 8) dX14_find_7 rfl rfl rfl ?_
    refine go_iconst (v := 4) (pc' := 9) dX14_find_8 rfl (by decide) ?_
    obtain ⟨v123, σ124, e125, hf⟩ := bd_some hf
    refine go_invV (As := [_]) (pc' := 12) dX14_find_9 rfl cf_X14_find_557 rfl (R.ob (R.at rfl (by decide))) rfl rfl (Nat.le_of_ble_eq_true rfl) (c_X14_put R e125) (fun q126v h127 q126 => ?_)
    obtain ⟨rfl, R⟩ := q126
    refine go_goto (pc' := 0) (tgt := 99) dX14_find_12 (by decide) ?_
    obtain rfl := Option.some.inj hf
    exact Go.ret (v := none) dX14_find_99 rfl ⟨trivial, rfl, R⟩
def b_X14_windowOf_209 (n : Nat) (k160 : Int32 → xσ → Option (Unit × xσ)) (x6 : Int32) (σ : xσ) : Option (Unit × xσ) := k160 (x6 + 1) σ
set_option maxRecDepth 100000 in
set_option maxHeartbeats 4000000 in
theorem t_X14_windowOf_209 {G : xG} {n : Nat} {k160 : Int32 → xσ → Option (Unit × xσ)} (hk160 : ∀ {x6 : Int32} {σ : xσ} {h : xH} {r : Unit × xσ} {d1 : Option Value} {d2 : Option Value} {d3 : Option Value} {d4 : Option Value} {d5 : Option Value}, Rl n σ h → k160 x6 σ = some r → Go G mX14_windowOf 160 [some (.ref 233), d1, d2, d3, d4, d5, some (.int x6)] [] h (fun v h' => xRok (xRt mX14_windowOf) v ∧ v = none ∧ Rl n r.2 h')) {x6 : Int32} {σ : xσ} {h : xH} {r : Unit × xσ} {d1 : Option Value} {d2 : Option Value} {d3 : Option Value} {d4 : Option Value} {d5 : Option Value} : Rl n σ h → b_X14_windowOf_209 n k160 x6 σ = some r → Go G mX14_windowOf 209 [some (.ref 233), d1, d2, d3, d4, d5, some (.int x6)] [] h (fun v h' => xRok (xRt mX14_windowOf) v ∧ v = none ∧ Rl n r.2 h') := by
  intro R hf
  rw [b_X14_windowOf_209] at hf
  refine go_iincC (kk := 1) (pc' := 212) dX14_windowOf_209 rfl rfl (by decide) (by decide) rfl ?_
  refine go_goto (pc' := 0) (tgt := 160) dX14_windowOf_212 (by decide) ?_
  exact hk160 R hf
def l_X14_windowOf_160 (n : Nat) : Nat → Int32 → xσ → Option (Unit × xσ)
  | 0, _, _ => none
  | f + 1, x6, σ => if (sI σ 259 1) ≤ x6 then bd (f_X14_endAnswers n 1 σ) (fun v102 σ103 => some ((), σ103)) else gd (inb x6 200) (nn (sR σ 260 x6.toNatClampNeg) (fun a108 => gd (okM a108) (bd (f_X14_intersect n a108 1870 σ) (fun v111 σ112 => if v111 = 0 then (l_X14_windowOf_160 n f) (x6 + 1) σ112 else gd (inb x6 200) (nn (sR σ112 260 x6.toNatClampNeg) (fun a118 => gd (okM a118) (bd (f_X14_answer n (sI σ112 a118 0) σ112) (fun v121 σ122 => b_X14_windowOf_209 n (l_X14_windowOf_160 n f) x6 σ122))))))))
set_option maxRecDepth 100000 in
set_option maxHeartbeats 4000000 in
theorem t_X14_windowOf_160 {G : xG} {n : Nat} : ∀ (f : Nat) {x6 : Int32} {σ : xσ} {h : xH} {r : Unit × xσ} {d1 : Option Value} {d2 : Option Value} {d3 : Option Value} {d4 : Option Value} {d5 : Option Value}, Rl n σ h → l_X14_windowOf_160 n f x6 σ = some r → Go G mX14_windowOf 160 [some (.ref 233), d1, d2, d3, d4, d5, some (.int x6)] [] h (fun v h' => xRok (xRt mX14_windowOf) v ∧ v = none ∧ Rl n r.2 h') := by
  intro f
  induction f with
  | zero =>
    intros
    rename _ = some _ => hf
    rw [l_X14_windowOf_160] at hf
    cases hf
  | succ f ih =>
    intro x6 σ h r d1 d2 d3 d4 d5 R hf
    rw [l_X14_windowOf_160] at hf
    refine go_iload (pc' := 162) dX14_windowOf_160 rfl rfl ?_
    refine go_aload_n (i := 0) (pc' := 163) dX14_windowOf_162 rfl rfl rfl ?_
    refine go_getS (pc' := 166) dX14_windowOf_163 rfl gf_LandBaseModel_351 R (R.at rfl (by decide)) (by decide) rfl ?_
    refine go_getS (pc' := 169) dX14_windowOf_166 rfl gf_LandBaseModel_581 R (R.at rfl (by decide)) (by decide) rfl ?_
    refine go_icmp_ge (pc' := 172) (tgt := 215) dX14_windowOf_169 (by decide) rfl (fun c101 => ?_) (fun c101 => ?_)
    · have hf := it c101 hf
      refine go_aload_n (i := 0) (pc' := 216) dX14_windowOf_215 rfl rfl rfl ?_
      refine go_iconst (v := 1) (pc' := 217) dX14_windowOf_216 rfl (by decide) ?_
      obtain ⟨v102, σ103, e104, hf⟩ := bd_some hf
      refine go_invV (As := [_]) (pc' := 220) dX14_windowOf_217 rfl cf_X14_windowOf_633 rfl (R.ob (R.at rfl (by decide))) rfl rfl (Nat.le_of_ble_eq_true rfl) (c_X14_endAnswers R e104) (fun q105v h106 q105 => ?_)
      obtain ⟨rfl, R⟩ := q105
      obtain rfl := Option.some.inj hf
      exact Go.ret (v := none) dX14_windowOf_220 rfl ⟨trivial, rfl, R⟩
    · have hf := ie c101 hf
      refine go_aload_n (i := 0) (pc' := 173) dX14_windowOf_172 rfl rfl rfl ?_
      refine go_getS (pc' := 176) dX14_windowOf_173 rfl gf_LandBaseModel_351 R (R.at rfl (by decide)) (by decide) rfl ?_
      refine go_getS (pc' := 179) dX14_windowOf_176 rfl gf_LandBaseModel_596 R (R.at rfl (by decide)) (by decide) rfl ?_
      refine go_iload (pc' := 181) dX14_windowOf_179 rfl rfl ?_
      obtain ⟨g107, hf⟩ := gd_some hf
      obtain ⟨a108, e109, hf⟩ := nn_some hf
      obtain ⟨g110, hf⟩ := gd_some hf
      refine go_aaloadS (pc' := 182) dX14_windowOf_181 rfl (by decide) R (R.aa rfl (by decide)) g107 e109 ?_
      refine go_aload_n (i := 0) (pc' := 183) dX14_windowOf_182 rfl rfl rfl ?_
      refine go_getS (pc' := 186) dX14_windowOf_183 rfl gf_LandBaseModel_474 R (R.at rfl (by decide)) (by decide) rfl ?_
      obtain ⟨v111, σ112, e113, hf⟩ := bd_some hf
      refine go_invS (As := [_, _]) (pc' := 189) dX14_windowOf_186 rfl cf_X14_windowOf_213 rfl rfl (Nat.le_of_ble_eq_true rfl) (c_X14_intersect R e113) (fun q114v h115 q114 => ?_)
      obtain ⟨rfl, R⟩ := q114
      refine go_if_eq (pc' := 192) (tgt := 209) dX14_windowOf_189 (by decide) rfl (fun c116 => ?_) (fun c116 => ?_)
      · have hf := it c116 hf
        refine go_iincC (kk := 1) (pc' := 212) dX14_windowOf_209 rfl rfl (by decide) (by decide) rfl ?_
        refine go_goto (pc' := 0) (tgt := 160) dX14_windowOf_212 (by decide) ?_
        exact ih R hf
      · have hf := ie c116 hf
        refine go_aload_n (i := 0) (pc' := 193) dX14_windowOf_192 rfl rfl rfl ?_
        refine go_aload_n (i := 0) (pc' := 194) dX14_windowOf_193 rfl rfl rfl ?_
        refine go_getS (pc' := 197) dX14_windowOf_194 rfl gf_LandBaseModel_351 R (R.at rfl (by decide)) (by decide) rfl ?_
        refine go_getS (pc' := 200) dX14_windowOf_197 rfl gf_LandBaseModel_596 R (R.at rfl (by decide)) (by decide) rfl ?_
        refine go_iload (pc' := 202) dX14_windowOf_200 rfl rfl ?_
        obtain ⟨g117, hf⟩ := gd_some hf
        obtain ⟨a118, e119, hf⟩ := nn_some hf
        obtain ⟨g120, hf⟩ := gd_some hf
        refine go_aaloadS (pc' := 203) dX14_windowOf_202 rfl (by decide) R (R.aa rfl (by decide)) g117 e119 ?_
        refine go_getS (pc' := 206) dX14_windowOf_203 rfl gf_LandBaseModel_627 R (g120.at R) (by decide) rfl ?_
        obtain ⟨v121, σ122, e123, hf⟩ := bd_some hf
        refine go_invV (As := [_]) (pc' := 209) dX14_windowOf_206 rfl cf_X14_windowOf_630 rfl (R.ob (R.at rfl (by decide))) rfl rfl (Nat.le_of_ble_eq_true rfl) (c_X14_answer R e123) (fun q124v h125 q124 => ?_)
        obtain ⟨rfl, R⟩ := q124
        exact t_X14_windowOf_209 @ih R hf
def b_X14_windowOf_146 (n : Nat) (σ : xσ) : Option (Unit × xσ) := bd (f_X12_endRing n 1870 σ) (fun v101 σ102 => bd (f_X14_beginAnswers n σ102) (fun v106 σ107 => l_X14_windowOf_160 n xFU 0 σ107))
set_option maxRecDepth 100000 in
set_option maxHeartbeats 4000000 in
theorem t_X14_windowOf_146 {G : xG} {n : Nat} {σ : xσ} {h : xH} {r : Unit × xσ} {d1 : Option Value} {d2 : Option Value} {d3 : Option Value} {d4 : Option Value} {d5 : Option Value} {d6 : Option Value} : Rl n σ h → b_X14_windowOf_146 n σ = some r → Go G mX14_windowOf 146 [some (.ref 233), d1, d2, d3, d4, d5, d6] [] h (fun v h' => xRok (xRt mX14_windowOf) v ∧ v = none ∧ Rl n r.2 h') := by
  intro R hf
  rw [b_X14_windowOf_146] at hf
  refine go_aload_n (i := 0) (pc' := 147) dX14_windowOf_146 rfl rfl rfl ?_
  refine go_getS (pc' := 150) dX14_windowOf_147 rfl gf_LandBaseModel_474 R (R.at rfl (by decide)) (by decide) rfl ?_
  obtain ⟨v101, σ102, e103, hf⟩ := bd_some hf
  refine go_invV (As := []) (pc' := 153) dX14_windowOf_150 rfl cf_X14_windowOf_246 rfl (R.ob (R.at rfl (by decide))) rfl rfl (Nat.le_of_ble_eq_true rfl) (c_X12_endRing R e103) (fun q104v h105 q104 => ?_)
  obtain ⟨rfl, R⟩ := q104
  refine go_aload_n (i := 0) (pc' := 154) dX14_windowOf_153 rfl rfl rfl ?_
  obtain ⟨v106, σ107, e108, hf⟩ := bd_some hf
  refine go_invV (As := []) (pc' := 157) dX14_windowOf_154 rfl cf_X14_windowOf_620 rfl (R.ob (R.at rfl (by decide))) rfl rfl (Nat.le_of_ble_eq_true rfl) (c_X14_beginAnswers R e108) (fun q109v h110 q109 => ?_)
  obtain ⟨rfl, R⟩ := q109
  refine go_iconst (v := 0) (pc' := 158) dX14_windowOf_157 rfl (by decide) ?_
  refine go_istoreE rfl (pc' := 160) dX14_windowOf_158 rfl (by decide) rfl ?_
  exact t_X14_windowOf_160 xFU R hf
def b_X14_windowOf_97 (n : Nat) (x1 : Int32) (x2 : Int32) (x3 : Int32) (x4 : Int32) (σ : xσ) : Option (Unit × xσ) := if (sI σ 1870 1) = 2 then bd (f_X12_add n 1870 x3 x2 σ) (fun v112 σ113 => bd (f_X12_add n 1870 x3 x4 σ113) (fun v117 σ118 => bd (f_X12_add n 1870 x1 x4 σ118) (fun v122 σ123 => bd (f_X12_add n 1870 x1 x2 σ123) (fun v127 σ128 => b_X14_windowOf_146 n σ128)))) else bd (f_X12_endRing n 1870 σ) (fun v102 σ103 => bd (f_X14_beginAnswers n σ103) (fun v107 σ108 => l_X14_windowOf_160 n xFU 0 σ108))
set_option maxRecDepth 100000 in
set_option maxHeartbeats 4000000 in
theorem t_X14_windowOf_97 {G : xG} {n : Nat} {x1 : Int32} {x2 : Int32} {x3 : Int32} {x4 : Int32} {σ : xσ} {h : xH} {r : Unit × xσ} {d5 : Option Value} {d6 : Option Value} : Rl n σ h → b_X14_windowOf_97 n x1 x2 x3 x4 σ = some r → Go G mX14_windowOf 97 [some (.ref 233), some (.int x1), some (.int x2), some (.int x3), some (.int x4), d5, d6] [] h (fun v h' => xRok (xRt mX14_windowOf) v ∧ v = none ∧ Rl n r.2 h') := by
  intro R hf
  rw [b_X14_windowOf_97] at hf
  refine go_aload_n (i := 0) (pc' := 98) dX14_windowOf_97 rfl rfl rfl ?_
  refine go_getS (pc' := 101) dX14_windowOf_98 rfl gf_LandBaseModel_474 R (R.at rfl (by decide)) (by decide) rfl ?_
  refine go_getS (pc' := 104) dX14_windowOf_101 rfl gf_LandBaseModel_75 R (R.at rfl (by decide)) (by decide) rfl ?_
  refine go_iconst (v := 2) (pc' := 105) dX14_windowOf_104 rfl (by decide) ?_
  refine go_icmp_ne (pc' := 108) (tgt := 146) dX14_windowOf_105 (by decide) rfl (fun c101 => ?_) (fun c101 => ?_)
  · have hf := ie c101 hf
    refine go_aload_n (i := 0) (pc' := 147) dX14_windowOf_146 rfl rfl rfl ?_
    refine go_getS (pc' := 150) dX14_windowOf_147 rfl gf_LandBaseModel_474 R (R.at rfl (by decide)) (by decide) rfl ?_
    obtain ⟨v102, σ103, e104, hf⟩ := bd_some hf
    refine go_invV (As := []) (pc' := 153) dX14_windowOf_150 rfl cf_X14_windowOf_246 rfl (R.ob (R.at rfl (by decide))) rfl rfl (Nat.le_of_ble_eq_true rfl) (c_X12_endRing R e104) (fun q105v h106 q105 => ?_)
    obtain ⟨rfl, R⟩ := q105
    refine go_aload_n (i := 0) (pc' := 154) dX14_windowOf_153 rfl rfl rfl ?_
    obtain ⟨v107, σ108, e109, hf⟩ := bd_some hf
    refine go_invV (As := []) (pc' := 157) dX14_windowOf_154 rfl cf_X14_windowOf_620 rfl (R.ob (R.at rfl (by decide))) rfl rfl (Nat.le_of_ble_eq_true rfl) (c_X14_beginAnswers R e109) (fun q110v h111 q110 => ?_)
    obtain ⟨rfl, R⟩ := q110
    refine go_iconst (v := 0) (pc' := 158) dX14_windowOf_157 rfl (by decide) ?_
    refine go_istoreE rfl (pc' := 160) dX14_windowOf_158 rfl (by decide) rfl ?_
    exact t_X14_windowOf_160 xFU R hf
  · have hf := it c101 hf
    refine go_aload_n (i := 0) (pc' := 109) dX14_windowOf_108 rfl rfl rfl ?_
    refine go_getS (pc' := 112) dX14_windowOf_109 rfl gf_LandBaseModel_474 R (R.at rfl (by decide)) (by decide) rfl ?_
    refine go_iload_n (i := 3) (pc' := 113) dX14_windowOf_112 rfl rfl rfl ?_
    refine go_iload_n (i := 2) (pc' := 114) dX14_windowOf_113 rfl rfl rfl ?_
    obtain ⟨v112, σ113, e114, hf⟩ := bd_some hf
    refine go_invV (As := [_, _]) (pc' := 117) dX14_windowOf_114 rfl cf_X14_windowOf_242 rfl (R.ob (R.at rfl (by decide))) rfl rfl (Nat.le_of_ble_eq_true rfl) (c_X12_add R e114) (fun q115v h116 q115 => ?_)
    obtain ⟨rfl, R⟩ := q115
    refine go_aload_n (i := 0) (pc' := 118) dX14_windowOf_117 rfl rfl rfl ?_
    refine go_getS (pc' := 121) dX14_windowOf_118 rfl gf_LandBaseModel_474 R (R.at rfl (by decide)) (by decide) rfl ?_
    refine go_iload_n (i := 3) (pc' := 122) dX14_windowOf_121 rfl rfl rfl ?_
    refine go_iload (pc' := 124) dX14_windowOf_122 rfl rfl ?_
    obtain ⟨v117, σ118, e119, hf⟩ := bd_some hf
    refine go_invV (As := [_, _]) (pc' := 127) dX14_windowOf_124 rfl cf_X14_windowOf_242 rfl (R.ob (R.at rfl (by decide))) rfl rfl (Nat.le_of_ble_eq_true rfl) (c_X12_add R e119) (fun q120v h121 q120 => ?_)
    obtain ⟨rfl, R⟩ := q120
    refine go_aload_n (i := 0) (pc' := 128) dX14_windowOf_127 rfl rfl rfl ?_
    refine go_getS (pc' := 131) dX14_windowOf_128 rfl gf_LandBaseModel_474 R (R.at rfl (by decide)) (by decide) rfl ?_
    refine go_iload_n (i := 1) (pc' := 132) dX14_windowOf_131 rfl rfl rfl ?_
    refine go_iload (pc' := 134) dX14_windowOf_132 rfl rfl ?_
    obtain ⟨v122, σ123, e124, hf⟩ := bd_some hf
    refine go_invV (As := [_, _]) (pc' := 137) dX14_windowOf_134 rfl cf_X14_windowOf_242 rfl (R.ob (R.at rfl (by decide))) rfl rfl (Nat.le_of_ble_eq_true rfl) (c_X12_add R e124) (fun q125v h126 q125 => ?_)
    obtain ⟨rfl, R⟩ := q125
    refine go_aload_n (i := 0) (pc' := 138) dX14_windowOf_137 rfl rfl rfl ?_
    refine go_getS (pc' := 141) dX14_windowOf_138 rfl gf_LandBaseModel_474 R (R.at rfl (by decide)) (by decide) rfl ?_
    refine go_iload_n (i := 1) (pc' := 142) dX14_windowOf_141 rfl rfl rfl ?_
    refine go_iload_n (i := 2) (pc' := 143) dX14_windowOf_142 rfl rfl rfl ?_
    obtain ⟨v127, σ128, e129, hf⟩ := bd_some hf
    refine go_invV (As := [_, _]) (pc' := 146) dX14_windowOf_143 rfl cf_X14_windowOf_242 rfl (R.ob (R.at rfl (by decide))) rfl rfl (Nat.le_of_ble_eq_true rfl) (c_X12_add R e129) (fun q130v h131 q130 => ?_)
    obtain ⟨rfl, R⟩ := q130
    exact t_X14_windowOf_146 R hf
def b_X14_windowOf_64 (n : Nat) (x1 : Int32) (x2 : Int32) (x3 : Int32) (x4 : Int32) (xs0 : Int32) (σ : xσ) : Option (Unit × xσ) := bd (f_X12_begin n 1870 xs0 σ) (fun v101 σ102 => bd (f_X12_add n 1870 x1 x2 σ102) (fun v106 σ107 => if (sI σ107 1870 1) = 1 then bd (f_X12_add n 1870 x3 x4 σ107) (fun v143 σ144 => b_X14_windowOf_97 n x1 x2 x3 x4 σ144) else if (sI σ107 1870 1) = 2 then bd (f_X12_add n 1870 x3 x2 σ107) (fun v123 σ124 => bd (f_X12_add n 1870 x3 x4 σ124) (fun v128 σ129 => bd (f_X12_add n 1870 x1 x4 σ129) (fun v133 σ134 => bd (f_X12_add n 1870 x1 x2 σ134) (fun v138 σ139 => b_X14_windowOf_146 n σ139)))) else bd (f_X12_endRing n 1870 σ107) (fun v113 σ114 => bd (f_X14_beginAnswers n σ114) (fun v118 σ119 => l_X14_windowOf_160 n xFU 0 σ119))))
set_option maxRecDepth 100000 in
set_option maxHeartbeats 4000000 in
theorem t_X14_windowOf_64 {G : xG} {n : Nat} {x1 : Int32} {x2 : Int32} {x3 : Int32} {x4 : Int32} {xs0 : Int32} {σ : xσ} {h : xH} {r : Unit × xσ} {d5 : Option Value} {d6 : Option Value} : Rl n σ h → b_X14_windowOf_64 n x1 x2 x3 x4 xs0 σ = some r → Go G mX14_windowOf 64 [some (.ref 233), some (.int x1), some (.int x2), some (.int x3), some (.int x4), d5, d6] [.int xs0, .ref 1870] h (fun v h' => xRok (xRt mX14_windowOf) v ∧ v = none ∧ Rl n r.2 h') := by
  intro R hf
  rw [b_X14_windowOf_64] at hf
  obtain ⟨v101, σ102, e103, hf⟩ := bd_some hf
  refine go_invV (As := [_]) (pc' := 67) dX14_windowOf_64 rfl cf_X14_windowOf_238 rfl (R.ob (R.at rfl (by decide))) rfl rfl (Nat.le_of_ble_eq_true rfl) (c_X12_begin R e103) (fun q104v h105 q104 => ?_)
  obtain ⟨rfl, R⟩ := q104
  refine go_aload_n (i := 0) (pc' := 68) dX14_windowOf_67 rfl rfl rfl ?_
  refine go_getS (pc' := 71) dX14_windowOf_68 rfl gf_LandBaseModel_474 R (R.at rfl (by decide)) (by decide) rfl ?_
  refine go_iload_n (i := 1) (pc' := 72) dX14_windowOf_71 rfl rfl rfl ?_
  refine go_iload_n (i := 2) (pc' := 73) dX14_windowOf_72 rfl rfl rfl ?_
  obtain ⟨v106, σ107, e108, hf⟩ := bd_some hf
  refine go_invV (As := [_, _]) (pc' := 76) dX14_windowOf_73 rfl cf_X14_windowOf_242 rfl (R.ob (R.at rfl (by decide))) rfl rfl (Nat.le_of_ble_eq_true rfl) (c_X12_add R e108) (fun q109v h110 q109 => ?_)
  obtain ⟨rfl, R⟩ := q109
  refine go_aload_n (i := 0) (pc' := 77) dX14_windowOf_76 rfl rfl rfl ?_
  refine go_getS (pc' := 80) dX14_windowOf_77 rfl gf_LandBaseModel_474 R (R.at rfl (by decide)) (by decide) rfl ?_
  refine go_getS (pc' := 83) dX14_windowOf_80 rfl gf_LandBaseModel_75 R (R.at rfl (by decide)) (by decide) rfl ?_
  refine go_iconst (v := 1) (pc' := 84) dX14_windowOf_83 rfl (by decide) ?_
  refine go_icmp_ne (pc' := 87) (tgt := 97) dX14_windowOf_84 (by decide) rfl (fun c111 => ?_) (fun c111 => ?_)
  · have hf := ie c111 hf
    refine go_aload_n (i := 0) (pc' := 98) dX14_windowOf_97 rfl rfl rfl ?_
    refine go_getS (pc' := 101) dX14_windowOf_98 rfl gf_LandBaseModel_474 R (R.at rfl (by decide)) (by decide) rfl ?_
    refine go_getS (pc' := 104) dX14_windowOf_101 rfl gf_LandBaseModel_75 R (R.at rfl (by decide)) (by decide) rfl ?_
    refine go_iconst (v := 2) (pc' := 105) dX14_windowOf_104 rfl (by decide) ?_
    refine go_icmp_ne (pc' := 108) (tgt := 146) dX14_windowOf_105 (by decide) rfl (fun c112 => ?_) (fun c112 => ?_)
    · have hf := ie c112 hf
      refine go_aload_n (i := 0) (pc' := 147) dX14_windowOf_146 rfl rfl rfl ?_
      refine go_getS (pc' := 150) dX14_windowOf_147 rfl gf_LandBaseModel_474 R (R.at rfl (by decide)) (by decide) rfl ?_
      obtain ⟨v113, σ114, e115, hf⟩ := bd_some hf
      refine go_invV (As := []) (pc' := 153) dX14_windowOf_150 rfl cf_X14_windowOf_246 rfl (R.ob (R.at rfl (by decide))) rfl rfl (Nat.le_of_ble_eq_true rfl) (c_X12_endRing R e115) (fun q116v h117 q116 => ?_)
      obtain ⟨rfl, R⟩ := q116
      refine go_aload_n (i := 0) (pc' := 154) dX14_windowOf_153 rfl rfl rfl ?_
      obtain ⟨v118, σ119, e120, hf⟩ := bd_some hf
      refine go_invV (As := []) (pc' := 157) dX14_windowOf_154 rfl cf_X14_windowOf_620 rfl (R.ob (R.at rfl (by decide))) rfl rfl (Nat.le_of_ble_eq_true rfl) (c_X14_beginAnswers R e120) (fun q121v h122 q121 => ?_)
      obtain ⟨rfl, R⟩ := q121
      refine go_iconst (v := 0) (pc' := 158) dX14_windowOf_157 rfl (by decide) ?_
      refine go_istoreE rfl (pc' := 160) dX14_windowOf_158 rfl (by decide) rfl ?_
      exact t_X14_windowOf_160 xFU R hf
    · have hf := it c112 hf
      refine go_aload_n (i := 0) (pc' := 109) dX14_windowOf_108 rfl rfl rfl ?_
      refine go_getS (pc' := 112) dX14_windowOf_109 rfl gf_LandBaseModel_474 R (R.at rfl (by decide)) (by decide) rfl ?_
      refine go_iload_n (i := 3) (pc' := 113) dX14_windowOf_112 rfl rfl rfl ?_
      refine go_iload_n (i := 2) (pc' := 114) dX14_windowOf_113 rfl rfl rfl ?_
      obtain ⟨v123, σ124, e125, hf⟩ := bd_some hf
      refine go_invV (As := [_, _]) (pc' := 117) dX14_windowOf_114 rfl cf_X14_windowOf_242 rfl (R.ob (R.at rfl (by decide))) rfl rfl (Nat.le_of_ble_eq_true rfl) (c_X12_add R e125) (fun q126v h127 q126 => ?_)
      obtain ⟨rfl, R⟩ := q126
      refine go_aload_n (i := 0) (pc' := 118) dX14_windowOf_117 rfl rfl rfl ?_
      refine go_getS (pc' := 121) dX14_windowOf_118 rfl gf_LandBaseModel_474 R (R.at rfl (by decide)) (by decide) rfl ?_
      refine go_iload_n (i := 3) (pc' := 122) dX14_windowOf_121 rfl rfl rfl ?_
      refine go_iload (pc' := 124) dX14_windowOf_122 rfl rfl ?_
      obtain ⟨v128, σ129, e130, hf⟩ := bd_some hf
      refine go_invV (As := [_, _]) (pc' := 127) dX14_windowOf_124 rfl cf_X14_windowOf_242 rfl (R.ob (R.at rfl (by decide))) rfl rfl (Nat.le_of_ble_eq_true rfl) (c_X12_add R e130) (fun q131v h132 q131 => ?_)
      obtain ⟨rfl, R⟩ := q131
      refine go_aload_n (i := 0) (pc' := 128) dX14_windowOf_127 rfl rfl rfl ?_
      refine go_getS (pc' := 131) dX14_windowOf_128 rfl gf_LandBaseModel_474 R (R.at rfl (by decide)) (by decide) rfl ?_
      refine go_iload_n (i := 1) (pc' := 132) dX14_windowOf_131 rfl rfl rfl ?_
      refine go_iload (pc' := 134) dX14_windowOf_132 rfl rfl ?_
      obtain ⟨v133, σ134, e135, hf⟩ := bd_some hf
      refine go_invV (As := [_, _]) (pc' := 137) dX14_windowOf_134 rfl cf_X14_windowOf_242 rfl (R.ob (R.at rfl (by decide))) rfl rfl (Nat.le_of_ble_eq_true rfl) (c_X12_add R e135) (fun q136v h137 q136 => ?_)
      obtain ⟨rfl, R⟩ := q136
      refine go_aload_n (i := 0) (pc' := 138) dX14_windowOf_137 rfl rfl rfl ?_
      refine go_getS (pc' := 141) dX14_windowOf_138 rfl gf_LandBaseModel_474 R (R.at rfl (by decide)) (by decide) rfl ?_
      refine go_iload_n (i := 1) (pc' := 142) dX14_windowOf_141 rfl rfl rfl ?_
      refine go_iload_n (i := 2) (pc' := 143) dX14_windowOf_142 rfl rfl rfl ?_
      obtain ⟨v138, σ139, e140, hf⟩ := bd_some hf
      refine go_invV (As := [_, _]) (pc' := 146) dX14_windowOf_143 rfl cf_X14_windowOf_242 rfl (R.ob (R.at rfl (by decide))) rfl rfl (Nat.le_of_ble_eq_true rfl) (c_X12_add R e140) (fun q141v h142 q141 => ?_)
      obtain ⟨rfl, R⟩ := q141
      exact t_X14_windowOf_146 R hf
  · have hf := it c111 hf
    refine go_aload_n (i := 0) (pc' := 88) dX14_windowOf_87 rfl rfl rfl ?_
    refine go_getS (pc' := 91) dX14_windowOf_88 rfl gf_LandBaseModel_474 R (R.at rfl (by decide)) (by decide) rfl ?_
    refine go_iload_n (i := 3) (pc' := 92) dX14_windowOf_91 rfl rfl rfl ?_
    refine go_iload (pc' := 94) dX14_windowOf_92 rfl rfl ?_
    obtain ⟨v143, σ144, e145, hf⟩ := bd_some hf
    refine go_invV (As := [_, _]) (pc' := 97) dX14_windowOf_94 rfl cf_X14_windowOf_242 rfl (R.ob (R.at rfl (by decide))) rfl rfl (Nat.le_of_ble_eq_true rfl) (c_X12_add R e145) (fun q146v h147 q146 => ?_)
    obtain ⟨rfl, R⟩ := q146
    exact t_X14_windowOf_97 R hf
def b_X14_windowOf_33 (n : Nat) (x1 : Int32) (x2 : Int32) (x3 : Int32) (x4 : Int32) (xs0 : Int32) (σ : xσ) : Option (Unit × xσ) := if x1 = x3 then if x2 = x4 then b_X14_windowOf_64 n x1 x2 x3 x4 0 σ else if xs0 = 0 then b_X14_windowOf_64 n x1 x2 x3 x4 2 σ else b_X14_windowOf_64 n x1 x2 x3 x4 1 σ else if xs0 = 0 then b_X14_windowOf_64 n x1 x2 x3 x4 2 σ else b_X14_windowOf_64 n x1 x2 x3 x4 1 σ
set_option maxRecDepth 100000 in
set_option maxHeartbeats 4000000 in
theorem t_X14_windowOf_33 {G : xG} {n : Nat} {x1 : Int32} {x2 : Int32} {x3 : Int32} {x4 : Int32} {xs0 : Int32} {σ : xσ} {h : xH} {r : Unit × xσ} {d5 : Option Value} {d6 : Option Value} : Rl n σ h → b_X14_windowOf_33 n x1 x2 x3 x4 xs0 σ = some r → Go G mX14_windowOf 33 [some (.ref 233), some (.int x1), some (.int x2), some (.int x3), some (.int x4), d5, d6] [.int xs0] h (fun v h' => xRok (xRt mX14_windowOf) v ∧ v = none ∧ Rl n r.2 h') := by
  intro R hf
  rw [b_X14_windowOf_33] at hf
  refine go_istoreE rfl (pc' := 35) dX14_windowOf_33 rfl (by decide) rfl ?_
  refine go_aload_n (i := 0) (pc' := 36) dX14_windowOf_35 rfl rfl rfl ?_
  refine go_getS (pc' := 39) dX14_windowOf_36 rfl gf_LandBaseModel_474 R (R.at rfl (by decide)) (by decide) rfl ?_
  refine go_iload_n (i := 1) (pc' := 40) dX14_windowOf_39 rfl rfl rfl ?_
  refine go_iload_n (i := 3) (pc' := 41) dX14_windowOf_40 rfl rfl rfl ?_
  refine go_icmp_ne (pc' := 44) (tgt := 54) dX14_windowOf_41 (by decide) rfl (fun c101 => ?_) (fun c101 => ?_)
  · have hf := ie c101 hf
    refine go_iload (pc' := 56) dX14_windowOf_54 rfl rfl ?_
    refine go_if_eq (pc' := 59) (tgt := 63) dX14_windowOf_56 (by decide) rfl (fun c102 => ?_) (fun c102 => ?_)
    · have hf := it c102 hf
      refine go_iconst (v := 2) (pc' := 64) dX14_windowOf_63 rfl (by decide) ?_
      exact t_X14_windowOf_64 R hf
    · have hf := ie c102 hf
      refine go_iconst (v := 1) (pc' := 60) dX14_windowOf_59 rfl (by decide) ?_
      refine go_goto (pc' := 0) (tgt := 64) dX14_windowOf_60 (by decide) ?_
      exact t_X14_windowOf_64 R hf
  · have hf := it c101 hf
    refine go_iload_n (i := 2) (pc' := 45) dX14_windowOf_44 rfl rfl rfl ?_
    refine go_iload (pc' := 47) dX14_windowOf_45 rfl rfl ?_
    refine go_icmp_ne (pc' := 50) (tgt := 54) dX14_windowOf_47 (by decide) rfl (fun c103 => ?_) (fun c103 => ?_)
    · have hf := ie c103 hf
      refine go_iload (pc' := 56) dX14_windowOf_54 rfl rfl ?_
      refine go_if_eq (pc' := 59) (tgt := 63) dX14_windowOf_56 (by decide) rfl (fun c104 => ?_) (fun c104 => ?_)
      · have hf := it c104 hf
        refine go_iconst (v := 2) (pc' := 64) dX14_windowOf_63 rfl (by decide) ?_
        exact t_X14_windowOf_64 R hf
      · have hf := ie c104 hf
        refine go_iconst (v := 1) (pc' := 60) dX14_windowOf_59 rfl (by decide) ?_
        refine go_goto (pc' := 0) (tgt := 64) dX14_windowOf_60 (by decide) ?_
        exact t_X14_windowOf_64 R hf
    · have hf := it c103 hf
      refine go_iconst (v := 0) (pc' := 51) dX14_windowOf_50 rfl (by decide) ?_
      refine go_goto (pc' := 0) (tgt := 64) dX14_windowOf_51 (by decide) ?_
      exact t_X14_windowOf_64 R hf
def f_X14_windowOf (n : Nat) (x1 : Int32) (x2 : Int32) (x3 : Int32) (x4 : Int32) (σ : xσ) : Option (Unit × xσ) := if x3 < x1 then bd (f_X14_put n 5 σ) (fun v102 σ103 => some ((), σ103)) else if x2 ≤ x4 then if x1 = x3 then b_X14_windowOf_33 n x1 x2 x3 x4 1 σ else if x2 = x4 then b_X14_windowOf_33 n x1 x2 x3 x4 1 σ else b_X14_windowOf_33 n x1 x2 x3 x4 0 σ else bd (f_X14_put n 5 σ) (fun v110 σ111 => some ((), σ111))
set_option maxRecDepth 100000 in
set_option maxHeartbeats 4000000 in
theorem c_X14_windowOf {G : xG} {n : Nat} {σ : xσ} {h : xH} {x1 : Int32} {x2 : Int32} {x3 : Int32} {x4 : Int32} {v1 : Unit} {σ1 : xσ} (R : Rl n σ h) (hf : f_X14_windowOf n x1 x2 x3 x4 σ = some (v1, σ1)) : Ca G mX14_windowOf [.ref 233, .int x1, .int x2, .int x3, .int x4] h (fun v h' => v = none ∧ Rl n σ1 h') := by
  refine Ca.of rfl (Nat.le_of_ble_eq_true rfl) ?_
  generalize hr : (v1, σ1) = r at hf
  suffices q : Go G mX14_windowOf 0 (xent (xMl mX14_windowOf) [.ref 233, .int x1, .int x2, .int x3, .int x4]) [] h (fun v h' => xRok (xRt mX14_windowOf) v ∧ v = none ∧ Rl n r.2 h') by
    subst hr
    exact q
  clear hr
  rw [f_X14_windowOf] at hf
  refine go_iload_n (i := 3) (pc' := 1) dX14_windowOf_0 rfl rfl rfl ?_
  refine go_iload_n (i := 1) (pc' := 2) dX14_windowOf_1 rfl rfl rfl ?_
  refine go_icmp_lt (pc' := 5) (tgt := 11) dX14_windowOf_2 (by decide) rfl (fun c101 => ?_) (fun c101 => ?_)
  · have hf := it c101 hf
    refine go_aload_n (i := 0) (pc' := 12) dX14_windowOf_11 rfl rfl rfl ?_
    refine go_iconst (v := 5) (pc' := 13) dX14_windowOf_12 rfl (by decide) ?_
    obtain ⟨v102, σ103, e104, hf⟩ := bd_some hf
    refine go_invV (As := [_]) (pc' := 16) dX14_windowOf_13 rfl cf_X14_windowOf_557 rfl (R.ob (R.at rfl (by decide))) rfl rfl (Nat.le_of_ble_eq_true rfl) (c_X14_put R e104) (fun q105v h106 q105 => ?_)
    obtain ⟨rfl, R⟩ := q105
    obtain rfl := Option.some.inj hf
    exact Go.ret (v := none) dX14_windowOf_16 rfl ⟨trivial, rfl, R⟩
  · have hf := ie c101 hf
    refine go_iload (pc' := 7) dX14_windowOf_5 rfl rfl ?_
    refine go_iload_n (i := 2) (pc' := 8) dX14_windowOf_7 rfl rfl rfl ?_
    refine go_icmp_ge (pc' := 11) (tgt := 17) dX14_windowOf_8 (by decide) rfl (fun c107 => ?_) (fun c107 => ?_)
    · have hf := it c107 hf
      refine go_iload_n (i := 1) (pc' := 18) dX14_windowOf_17 rfl rfl rfl ?_
      refine go_iload_n (i := 3) (pc' := 19) dX14_windowOf_18 rfl rfl rfl ?_
      refine go_icmp_eq (pc' := 22) (tgt := 28) dX14_windowOf_19 (by decide) rfl (fun c108 => ?_) (fun c108 => ?_)
      · have hf := it c108 hf
        refine go_iconst (v := 1) (pc' := 29) dX14_windowOf_28 rfl (by decide) ?_
        refine go_goto (pc' := 0) (tgt := 33) dX14_windowOf_29 (by decide) ?_
        exact t_X14_windowOf_33 R hf
      · have hf := ie c108 hf
        refine go_iload_n (i := 2) (pc' := 23) dX14_windowOf_22 rfl rfl rfl ?_
        refine go_iload (pc' := 25) dX14_windowOf_23 rfl rfl ?_
        refine go_icmp_ne (pc' := 28) (tgt := 32) dX14_windowOf_25 (by decide) rfl (fun c109 => ?_) (fun c109 => ?_)
        · have hf := ie c109 hf
          refine go_iconst (v := 0) (pc' := 33) dX14_windowOf_32 rfl (by decide) ?_
          exact t_X14_windowOf_33 R hf
        · have hf := it c109 hf
          refine go_iconst (v := 1) (pc' := 29) dX14_windowOf_28 rfl (by decide) ?_
          refine go_goto (pc' := 0) (tgt := 33) dX14_windowOf_29 (by decide) ?_
          exact t_X14_windowOf_33 R hf
    · have hf := ie c107 hf
      refine go_aload_n (i := 0) (pc' := 12) dX14_windowOf_11 rfl rfl rfl ?_
      refine go_iconst (v := 5) (pc' := 13) dX14_windowOf_12 rfl (by decide) ?_
      obtain ⟨v110, σ111, e112, hf⟩ := bd_some hf
      refine go_invV (As := [_]) (pc' := 16) dX14_windowOf_13 rfl cf_X14_windowOf_557 rfl (R.ob (R.at rfl (by decide))) rfl rfl (Nat.le_of_ble_eq_true rfl) (c_X14_put R e112) (fun q113v h114 q113 => ?_)
      obtain ⟨rfl, R⟩ := q113
      obtain rfl := Option.some.inj hf
      exact Go.ret (v := none) dX14_windowOf_16 rfl ⟨trivial, rfl, R⟩
def l_X14_near_60 (n : Nat) (k21 : Int32 → Int32 → Int32 → Int32 → xσ → Option (Unit × xσ)) : Nat → Int32 → Int32 → Int32 → Int32 → Int32 → xσ → Option (Unit × xσ)
  | 0, _, _, _, _, _, _ => none
  | f + 1, x1, x2, x3, x4, x5, σ => if x5 ≤ 0 then gd (inb x5 200) (st (wI σ 1875 x5.toNatClampNeg x4) (fun σ103 => k21 x1 x2 x3 (x4 + 1) σ103)) else gd (inb (x5 - 1) 200) (gd (inb (sI σ 1875 (x5 - 1).toNatClampNeg) 200) (nn (sR σ 1874 (sI σ 1875 (x5 - 1).toNatClampNeg).toNatClampNeg) (fun a108 => gd (okE a108) (gd (inb x4 200) (nn (sR σ 1874 x4.toNatClampNeg) (fun a112 => gd (okE a112) (bd (f_X14_compare__ n a108 a112 σ) (fun v115 σ116 => if v115 ≤ 0 then gd (inb x5 200) (st (wI σ116 1875 x5.toNatClampNeg x4) (fun σ122 => k21 x1 x2 x3 (x4 + 1) σ122)) else gd (inb (x5 - 1) 200) (gd (inb x5 200) (st (wI σ116 1875 x5.toNatClampNeg (sI σ116 1875 (x5 - 1).toNatClampNeg)) (fun σ127 => (l_X14_near_60 n k21 f) x1 x2 x3 x4 (x5 + (-1)) σ127)))))))))))
set_option maxRecDepth 100000 in
set_option maxHeartbeats 4000000 in
theorem t_X14_near_60 {G : xG} {n : Nat} {k21 : Int32 → Int32 → Int32 → Int32 → xσ → Option (Unit × xσ)} (hk21 : ∀ {x1 : Int32} {x2 : Int32} {x3 : Int32} {x4 : Int32} {σ : xσ} {h : xH} {r : Unit × xσ} {d5 : Option Value}, Rl n σ h → k21 x1 x2 x3 x4 σ = some r → Go G mX14_near 21 [some (.ref 233), some (.int x1), some (.int x2), some (.int x3), some (.int x4), d5] [] h (fun v h' => xRok (xRt mX14_near) v ∧ v = none ∧ Rl n r.2 h')) : ∀ (f : Nat) {x1 : Int32} {x2 : Int32} {x3 : Int32} {x4 : Int32} {x5 : Int32} {σ : xσ} {h : xH} {r : Unit × xσ}, Rl n σ h → l_X14_near_60 n k21 f x1 x2 x3 x4 x5 σ = some r → Go G mX14_near 60 [some (.ref 233), some (.int x1), some (.int x2), some (.int x3), some (.int x4), some (.int x5)] [] h (fun v h' => xRok (xRt mX14_near) v ∧ v = none ∧ Rl n r.2 h') := by
  intro f
  induction f with
  | zero =>
    intros
    rename _ = some _ => hf
    rw [l_X14_near_60] at hf
    cases hf
  | succ f ih =>
    intro x1 x2 x3 x4 x5 σ h r  R hf
    rw [l_X14_near_60] at hf
    refine go_iload (pc' := 62) dX14_near_60 rfl rfl ?_
    refine go_if_le (pc' := 65) (tgt := 115) dX14_near_62 (by decide) rfl (fun c101 => ?_) (fun c101 => ?_)
    · have hf := it c101 hf
      refine go_aload_n (i := 0) (pc' := 116) dX14_near_115 rfl rfl rfl ?_
      refine go_getS (pc' := 119) dX14_near_116 rfl gf_LandBaseModel_481 R (R.at rfl (by decide)) (by decide) rfl ?_
      refine go_iload (pc' := 121) dX14_near_119 rfl rfl ?_
      refine go_iload (pc' := 123) dX14_near_121 rfl rfl ?_
      obtain ⟨g102, hf⟩ := gd_some hf
      obtain ⟨σ103, e104, hf⟩ := st_some hf
      refine go_iastoreS (pc' := 124) dX14_near_123 rfl R (R.aa rfl (by decide)) g102 (fun h105 R => ?_)
      have R := Rl.cast e104 R
      refine go_iincC (kk := 1) (pc' := 127) dX14_near_124 rfl rfl (by decide) (by decide) rfl ?_
      refine go_goto (pc' := 0) (tgt := 21) dX14_near_127 (by decide) ?_
      exact hk21 R hf
    · have hf := ie c101 hf
      refine go_aload_n (i := 0) (pc' := 66) dX14_near_65 rfl rfl rfl ?_
      refine go_aload_n (i := 0) (pc' := 67) dX14_near_66 rfl rfl rfl ?_
      refine go_getS (pc' := 70) dX14_near_67 rfl gf_LandBaseModel_477 R (R.at rfl (by decide)) (by decide) rfl ?_
      refine go_aload_n (i := 0) (pc' := 71) dX14_near_70 rfl rfl rfl ?_
      refine go_getS (pc' := 74) dX14_near_71 rfl gf_LandBaseModel_481 R (R.at rfl (by decide)) (by decide) rfl ?_
      refine go_iload (pc' := 76) dX14_near_74 rfl rfl ?_
      refine go_iconst (v := 1) (pc' := 77) dX14_near_76 rfl (by decide) ?_
      refine go_isub (pc' := 78) dX14_near_77 rfl ?_
      obtain ⟨g106, hf⟩ := gd_some hf
      refine go_ialoadS (pc' := 79) dX14_near_78 rfl R (R.aa rfl (by decide)) g106 ?_
      obtain ⟨g107, hf⟩ := gd_some hf
      obtain ⟨a108, e109, hf⟩ := nn_some hf
      obtain ⟨g110, hf⟩ := gd_some hf
      refine go_aaloadS (pc' := 80) dX14_near_79 rfl (by decide) R (R.aa rfl (by decide)) g107 e109 ?_
      refine go_aload_n (i := 0) (pc' := 81) dX14_near_80 rfl rfl rfl ?_
      refine go_getS (pc' := 84) dX14_near_81 rfl gf_LandBaseModel_477 R (R.at rfl (by decide)) (by decide) rfl ?_
      refine go_iload (pc' := 86) dX14_near_84 rfl rfl ?_
      obtain ⟨g111, hf⟩ := gd_some hf
      obtain ⟨a112, e113, hf⟩ := nn_some hf
      obtain ⟨g114, hf⟩ := gd_some hf
      refine go_aaloadS (pc' := 87) dX14_near_86 rfl (by decide) R (R.aa rfl (by decide)) g111 e113 ?_
      obtain ⟨v115, σ116, e117, hf⟩ := bd_some hf
      refine go_invV (As := [_, _]) (pc' := 90) dX14_near_87 rfl cf_X14_near_315 rfl (R.ob (R.at rfl (by decide))) rfl rfl (Nat.le_of_ble_eq_true rfl) (c_X14_compare__ R e117) (fun q118v h119 q118 => ?_)
      obtain ⟨rfl, R⟩ := q118
      refine go_if_le (pc' := 93) (tgt := 115) dX14_near_90 (by decide) rfl (fun c120 => ?_) (fun c120 => ?_)
      · have hf := it c120 hf
        refine go_aload_n (i := 0) (pc' := 116) dX14_near_115 rfl rfl rfl ?_
        refine go_getS (pc' := 119) dX14_near_116 rfl gf_LandBaseModel_481 R (R.at rfl (by decide)) (by decide) rfl ?_
        refine go_iload (pc' := 121) dX14_near_119 rfl rfl ?_
        refine go_iload (pc' := 123) dX14_near_121 rfl rfl ?_
        obtain ⟨g121, hf⟩ := gd_some hf
        obtain ⟨σ122, e123, hf⟩ := st_some hf
        refine go_iastoreS (pc' := 124) dX14_near_123 rfl R (R.aa rfl (by decide)) g121 (fun h124 R => ?_)
        have R := Rl.cast e123 R
        refine go_iincC (kk := 1) (pc' := 127) dX14_near_124 rfl rfl (by decide) (by decide) rfl ?_
        refine go_goto (pc' := 0) (tgt := 21) dX14_near_127 (by decide) ?_
        exact hk21 R hf
      · have hf := ie c120 hf
        refine go_aload_n (i := 0) (pc' := 94) dX14_near_93 rfl rfl rfl ?_
        refine go_getS (pc' := 97) dX14_near_94 rfl gf_LandBaseModel_481 R (R.at rfl (by decide)) (by decide) rfl ?_
        refine go_iload (pc' := 99) dX14_near_97 rfl rfl ?_
        refine go_aload_n (i := 0) (pc' := 100) dX14_near_99 rfl rfl rfl ?_
        refine go_getS (pc' := 103) dX14_near_100 rfl gf_LandBaseModel_481 R (R.at rfl (by decide)) (by decide) rfl ?_
        refine go_iload (pc' := 105) dX14_near_103 rfl rfl ?_
        refine go_iconst (v := 1) (pc' := 106) dX14_near_105 rfl (by decide) ?_
        refine go_isub (pc' := 107) dX14_near_106 rfl ?_
        obtain ⟨g125, hf⟩ := gd_some hf
        refine go_ialoadS (pc' := 108) dX14_near_107 rfl R (R.aa rfl (by decide)) g125 ?_
        obtain ⟨g126, hf⟩ := gd_some hf
        obtain ⟨σ127, e128, hf⟩ := st_some hf
        refine go_iastoreS (pc' := 109) dX14_near_108 rfl R (R.aa rfl (by decide)) g126 (fun h129 R => ?_)
        have R := Rl.cast e128 R
        refine go_iincC (kk := (-1)) (pc' := 112) dX14_near_109 rfl rfl (by decide) (by decide) rfl ?_
        refine go_goto (pc' := 0) (tgt := 60) dX14_near_112 (by decide) ?_
        exact ih R hf
def l_X14_near_137 (n : Nat) : Nat → Int32 → Int32 → xσ → Option (Unit × xσ)
  | 0, _, _, _ => none
  | f + 1, x1, x4, σ => if (sI σ 259 1) ≤ x4 then bd (f_X14_endAnswers n 1 σ) (fun v102 σ103 => some ((), σ103)) else if x1 ≤ x4 then bd (f_X14_endAnswers n 1 σ) (fun v108 σ109 => some ((), σ109)) else gd (inb x4 200) (gd (inb (sI σ 1875 x4.toNatClampNeg) 200) (nn (sR σ 260 (sI σ 1875 x4.toNatClampNeg).toNatClampNeg) (fun a115 => gd (okM a115) (bd (f_X14_answer n (sI σ a115 0) σ) (fun v118 σ119 => (l_X14_near_137 n f) x1 (x4 + 1) σ119)))))
set_option maxRecDepth 100000 in
set_option maxHeartbeats 4000000 in
theorem t_X14_near_137 {G : xG} {n : Nat} : ∀ (f : Nat) {x1 : Int32} {x4 : Int32} {σ : xσ} {h : xH} {r : Unit × xσ} {d2 : Option Value} {d3 : Option Value} {d5 : Option Value}, Rl n σ h → l_X14_near_137 n f x1 x4 σ = some r → Go G mX14_near 137 [some (.ref 233), some (.int x1), d2, d3, some (.int x4), d5] [] h (fun v h' => xRok (xRt mX14_near) v ∧ v = none ∧ Rl n r.2 h') := by
  intro f
  induction f with
  | zero =>
    intros
    rename _ = some _ => hf
    rw [l_X14_near_137] at hf
    cases hf
  | succ f ih =>
    intro x1 x4 σ h r d2 d3 d5 R hf
    rw [l_X14_near_137] at hf
    refine go_iload (pc' := 139) dX14_near_137 rfl rfl ?_
    refine go_aload_n (i := 0) (pc' := 140) dX14_near_139 rfl rfl rfl ?_
    refine go_getS (pc' := 143) dX14_near_140 rfl gf_LandBaseModel_351 R (R.at rfl (by decide)) (by decide) rfl ?_
    refine go_getS (pc' := 146) dX14_near_143 rfl gf_LandBaseModel_581 R (R.at rfl (by decide)) (by decide) rfl ?_
    refine go_icmp_ge (pc' := 149) (tgt := 183) dX14_near_146 (by decide) rfl (fun c101 => ?_) (fun c101 => ?_)
    · have hf := it c101 hf
      refine go_aload_n (i := 0) (pc' := 184) dX14_near_183 rfl rfl rfl ?_
      refine go_iconst (v := 1) (pc' := 185) dX14_near_184 rfl (by decide) ?_
      obtain ⟨v102, σ103, e104, hf⟩ := bd_some hf
      refine go_invV (As := [_]) (pc' := 188) dX14_near_185 rfl cf_X14_near_633 rfl (R.ob (R.at rfl (by decide))) rfl rfl (Nat.le_of_ble_eq_true rfl) (c_X14_endAnswers R e104) (fun q105v h106 q105 => ?_)
      obtain ⟨rfl, R⟩ := q105
      obtain rfl := Option.some.inj hf
      exact Go.ret (v := none) dX14_near_188 rfl ⟨trivial, rfl, R⟩
    · have hf := ie c101 hf
      refine go_iload (pc' := 151) dX14_near_149 rfl rfl ?_
      refine go_iload_n (i := 1) (pc' := 152) dX14_near_151 rfl rfl rfl ?_
      refine go_icmp_ge (pc' := 155) (tgt := 183) dX14_near_152 (by decide) rfl (fun c107 => ?_) (fun c107 => ?_)
      · have hf := it c107 hf
        refine go_aload_n (i := 0) (pc' := 184) dX14_near_183 rfl rfl rfl ?_
        refine go_iconst (v := 1) (pc' := 185) dX14_near_184 rfl (by decide) ?_
        obtain ⟨v108, σ109, e110, hf⟩ := bd_some hf
        refine go_invV (As := [_]) (pc' := 188) dX14_near_185 rfl cf_X14_near_633 rfl (R.ob (R.at rfl (by decide))) rfl rfl (Nat.le_of_ble_eq_true rfl) (c_X14_endAnswers R e110) (fun q111v h112 q111 => ?_)
        obtain ⟨rfl, R⟩ := q111
        obtain rfl := Option.some.inj hf
        exact Go.ret (v := none) dX14_near_188 rfl ⟨trivial, rfl, R⟩
      · have hf := ie c107 hf
        refine go_aload_n (i := 0) (pc' := 156) dX14_near_155 rfl rfl rfl ?_
        refine go_aload_n (i := 0) (pc' := 157) dX14_near_156 rfl rfl rfl ?_
        refine go_getS (pc' := 160) dX14_near_157 rfl gf_LandBaseModel_351 R (R.at rfl (by decide)) (by decide) rfl ?_
        refine go_getS (pc' := 163) dX14_near_160 rfl gf_LandBaseModel_596 R (R.at rfl (by decide)) (by decide) rfl ?_
        refine go_aload_n (i := 0) (pc' := 164) dX14_near_163 rfl rfl rfl ?_
        refine go_getS (pc' := 167) dX14_near_164 rfl gf_LandBaseModel_481 R (R.at rfl (by decide)) (by decide) rfl ?_
        refine go_iload (pc' := 169) dX14_near_167 rfl rfl ?_
        obtain ⟨g113, hf⟩ := gd_some hf
        refine go_ialoadS (pc' := 170) dX14_near_169 rfl R (R.aa rfl (by decide)) g113 ?_
        obtain ⟨g114, hf⟩ := gd_some hf
        obtain ⟨a115, e116, hf⟩ := nn_some hf
        obtain ⟨g117, hf⟩ := gd_some hf
        refine go_aaloadS (pc' := 171) dX14_near_170 rfl (by decide) R (R.aa rfl (by decide)) g114 e116 ?_
        refine go_getS (pc' := 174) dX14_near_171 rfl gf_LandBaseModel_627 R (g117.at R) (by decide) rfl ?_
        obtain ⟨v118, σ119, e120, hf⟩ := bd_some hf
        refine go_invV (As := [_]) (pc' := 177) dX14_near_174 rfl cf_X14_near_630 rfl (R.ob (R.at rfl (by decide))) rfl rfl (Nat.le_of_ble_eq_true rfl) (c_X14_answer R e120) (fun q121v h122 q121 => ?_)
        obtain ⟨rfl, R⟩ := q121
        refine go_iincC (kk := 1) (pc' := 180) dX14_near_177 rfl rfl (by decide) (by decide) rfl ?_
        refine go_goto (pc' := 0) (tgt := 137) dX14_near_180 (by decide) ?_
        exact ih R hf
def l_X14_near_21 (n : Nat) : Nat → Int32 → Int32 → Int32 → Int32 → xσ → Option (Unit × xσ)
  | 0, _, _, _, _, _ => none
  | f + 1, x1, x2, x3, x4, σ => if (sI σ 259 1) ≤ x4 then bd (f_X14_beginAnswers n σ) (fun v102 σ103 => l_X14_near_137 n xFU x1 0 σ103) else gd (inb x4 200) (nn (sR σ 260 x4.toNatClampNeg) (fun a108 => gd (okM a108) (gd (inb x4 200) (nn (sR σ 1874 x4.toNatClampNeg) (fun a112 => gd (okE a112) (bd (f_X14_distance n a108 x2 x3 a112 σ) (fun v115 σ116 => l_X14_near_60 n (l_X14_near_21 n f) xFU x1 x2 x3 x4 x4 σ116)))))))
set_option maxRecDepth 100000 in
set_option maxHeartbeats 4000000 in
theorem t_X14_near_21 {G : xG} {n : Nat} : ∀ (f : Nat) {x1 : Int32} {x2 : Int32} {x3 : Int32} {x4 : Int32} {σ : xσ} {h : xH} {r : Unit × xσ} {d5 : Option Value}, Rl n σ h → l_X14_near_21 n f x1 x2 x3 x4 σ = some r → Go G mX14_near 21 [some (.ref 233), some (.int x1), some (.int x2), some (.int x3), some (.int x4), d5] [] h (fun v h' => xRok (xRt mX14_near) v ∧ v = none ∧ Rl n r.2 h') := by
  intro f
  induction f with
  | zero =>
    intros
    rename _ = some _ => hf
    rw [l_X14_near_21] at hf
    cases hf
  | succ f ih =>
    intro x1 x2 x3 x4 σ h r d5 R hf
    rw [l_X14_near_21] at hf
    refine go_iload (pc' := 23) dX14_near_21 rfl rfl ?_
    refine go_aload_n (i := 0) (pc' := 24) dX14_near_23 rfl rfl rfl ?_
    refine go_getS (pc' := 27) dX14_near_24 rfl gf_LandBaseModel_351 R (R.at rfl (by decide)) (by decide) rfl ?_
    refine go_getS (pc' := 30) dX14_near_27 rfl gf_LandBaseModel_581 R (R.at rfl (by decide)) (by decide) rfl ?_
    refine go_icmp_ge (pc' := 33) (tgt := 130) dX14_near_30 (by decide) rfl (fun c101 => ?_) (fun c101 => ?_)
    · have hf := it c101 hf
      refine go_aload_n (i := 0) (pc' := 131) dX14_near_130 rfl rfl rfl ?_
      obtain ⟨v102, σ103, e104, hf⟩ := bd_some hf
      refine go_invV (As := []) (pc' := 134) dX14_near_131 rfl cf_X14_near_620 rfl (R.ob (R.at rfl (by decide))) rfl rfl (Nat.le_of_ble_eq_true rfl) (c_X14_beginAnswers R e104) (fun q105v h106 q105 => ?_)
      obtain ⟨rfl, R⟩ := q105
      refine go_iconst (v := 0) (pc' := 135) dX14_near_134 rfl (by decide) ?_
      refine go_istoreE rfl (pc' := 137) dX14_near_135 rfl (by decide) rfl ?_
      exact t_X14_near_137 xFU R hf
    · have hf := ie c101 hf
      refine go_aload_n (i := 0) (pc' := 34) dX14_near_33 rfl rfl rfl ?_
      refine go_aload_n (i := 0) (pc' := 35) dX14_near_34 rfl rfl rfl ?_
      refine go_getS (pc' := 38) dX14_near_35 rfl gf_LandBaseModel_351 R (R.at rfl (by decide)) (by decide) rfl ?_
      refine go_getS (pc' := 41) dX14_near_38 rfl gf_LandBaseModel_596 R (R.at rfl (by decide)) (by decide) rfl ?_
      refine go_iload (pc' := 43) dX14_near_41 rfl rfl ?_
      obtain ⟨g107, hf⟩ := gd_some hf
      obtain ⟨a108, e109, hf⟩ := nn_some hf
      obtain ⟨g110, hf⟩ := gd_some hf
      refine go_aaloadS (pc' := 44) dX14_near_43 rfl (by decide) R (R.aa rfl (by decide)) g107 e109 ?_
      refine go_iload_n (i := 2) (pc' := 45) dX14_near_44 rfl rfl rfl ?_
      refine go_iload_n (i := 3) (pc' := 46) dX14_near_45 rfl rfl rfl ?_
      refine go_aload_n (i := 0) (pc' := 47) dX14_near_46 rfl rfl rfl ?_
      refine go_getS (pc' := 50) dX14_near_47 rfl gf_LandBaseModel_477 R (R.at rfl (by decide)) (by decide) rfl ?_
      refine go_iload (pc' := 52) dX14_near_50 rfl rfl ?_
      obtain ⟨g111, hf⟩ := gd_some hf
      obtain ⟨a112, e113, hf⟩ := nn_some hf
      obtain ⟨g114, hf⟩ := gd_some hf
      refine go_aaloadS (pc' := 53) dX14_near_52 rfl (by decide) R (R.aa rfl (by decide)) g111 e113 ?_
      obtain ⟨v115, σ116, e117, hf⟩ := bd_some hf
      refine go_invV (As := [_, _, _, _]) (pc' := 56) dX14_near_53 rfl cf_X14_near_636 rfl (R.ob (R.at rfl (by decide))) rfl rfl (Nat.le_of_ble_eq_true rfl) (c_X14_distance R e117) (fun q118v h119 q118 => ?_)
      obtain ⟨rfl, R⟩ := q118
      refine go_iload (pc' := 58) dX14_near_56 rfl rfl ?_
      refine go_istoreE rfl (pc' := 60) dX14_near_58 rfl (by decide) rfl ?_
      exact t_X14_near_60 @ih xFU R hf
def f_X14_near (n : Nat) (x1 : Int32) (x2 : Int32) (x3 : Int32) (σ : xσ) : Option (Unit × xσ) := if x1 < 1 then bd (f_X14_put n 5 σ) (fun v102 σ103 => some ((), σ103)) else if x1 ≤ 200 then l_X14_near_21 n xFU x1 x2 x3 0 σ else bd (f_X14_put n 5 σ) (fun v108 σ109 => some ((), σ109))
set_option maxRecDepth 100000 in
set_option maxHeartbeats 4000000 in
theorem c_X14_near {G : xG} {n : Nat} {σ : xσ} {h : xH} {x1 : Int32} {x2 : Int32} {x3 : Int32} {v1 : Unit} {σ1 : xσ} (R : Rl n σ h) (hf : f_X14_near n x1 x2 x3 σ = some (v1, σ1)) : Ca G mX14_near [.ref 233, .int x1, .int x2, .int x3] h (fun v h' => v = none ∧ Rl n σ1 h') := by
  refine Ca.of rfl (Nat.le_of_ble_eq_true rfl) ?_
  generalize hr : (v1, σ1) = r at hf
  suffices q : Go G mX14_near 0 (xent (xMl mX14_near) [.ref 233, .int x1, .int x2, .int x3]) [] h (fun v h' => xRok (xRt mX14_near) v ∧ v = none ∧ Rl n r.2 h') by
    subst hr
    exact q
  clear hr
  rw [f_X14_near] at hf
  refine go_iload_n (i := 1) (pc' := 1) dX14_near_0 rfl rfl rfl ?_
  refine go_iconst (v := 1) (pc' := 2) dX14_near_1 rfl (by decide) ?_
  refine go_icmp_lt (pc' := 5) (tgt := 12) dX14_near_2 (by decide) rfl (fun c101 => ?_) (fun c101 => ?_)
  · have hf := it c101 hf
    refine go_aload_n (i := 0) (pc' := 13) dX14_near_12 rfl rfl rfl ?_
    refine go_iconst (v := 5) (pc' := 14) dX14_near_13 rfl (by decide) ?_
    obtain ⟨v102, σ103, e104, hf⟩ := bd_some hf
    refine go_invV (As := [_]) (pc' := 17) dX14_near_14 rfl cf_X14_near_557 rfl (R.ob (R.at rfl (by decide))) rfl rfl (Nat.le_of_ble_eq_true rfl) (c_X14_put R e104) (fun q105v h106 q105 => ?_)
    obtain ⟨rfl, R⟩ := q105
    obtain rfl := Option.some.inj hf
    exact Go.ret (v := none) dX14_near_17 rfl ⟨trivial, rfl, R⟩
  · have hf := ie c101 hf
    refine go_iload_n (i := 1) (pc' := 6) dX14_near_5 rfl rfl rfl ?_
    refine go_sipush (v := 200) (pc' := 9) dX14_near_6 rfl (by decide) ?_
    refine go_icmp_le (pc' := 12) (tgt := 18) dX14_near_9 (by decide) rfl (fun c107 => ?_) (fun c107 => ?_)
    · have hf := it c107 hf
      refine go_iconst (v := 0) (pc' := 19) dX14_near_18 rfl (by decide) ?_
      refine go_istoreE rfl (pc' := 21) dX14_near_19 rfl (by decide) rfl ?_
      exact t_X14_near_21 xFU R hf
    · have hf := ie c107 hf
      refine go_aload_n (i := 0) (pc' := 13) dX14_near_12 rfl rfl rfl ?_
      refine go_iconst (v := 5) (pc' := 14) dX14_near_13 rfl (by decide) ?_
      obtain ⟨v108, σ109, e110, hf⟩ := bd_some hf
      refine go_invV (As := [_]) (pc' := 17) dX14_near_14 rfl cf_X14_near_557 rfl (R.ob (R.at rfl (by decide))) rfl rfl (Nat.le_of_ble_eq_true rfl) (c_X14_put R e110) (fun q111v h112 q111 => ?_)
      obtain ⟨rfl, R⟩ := q111
      obtain rfl := Option.some.inj hf
      exact Go.ret (v := none) dX14_near_17 rfl ⟨trivial, rfl, R⟩
def b_X14_joinOf_180 (n : Nat) (k51 : Int32 → Int32 → Int32 → Int32 → Int32 → Int32 → xσ → Option (Unit × xσ)) (k78 : Int32 → Int32 → Int32 → Int32 → Int32 → Int32 → Nat → Int32 → xσ → Option (Unit × xσ)) (x1 : Int32) (x2 : Int32) (x3 : Int32) (x4 : Int32) (x5 : Int32) (x6 : Int32) (a7 : Nat) (x8 : Int32) (σ : xσ) : Option (Unit × xσ) := k78 x1 x2 x3 x4 x5 x6 a7 (x8 + 1) σ
set_option maxRecDepth 100000 in
set_option maxHeartbeats 4000000 in
theorem t_X14_joinOf_180 {G : xG} {n : Nat} {k51 : Int32 → Int32 → Int32 → Int32 → Int32 → Int32 → xσ → Option (Unit × xσ)} {k78 : Int32 → Int32 → Int32 → Int32 → Int32 → Int32 → Nat → Int32 → xσ → Option (Unit × xσ)} (hk51 : ∀ {x1 : Int32} {x2 : Int32} {x3 : Int32} {x4 : Int32} {x5 : Int32} {x6 : Int32} {σ : xσ} {h : xH} {r : Unit × xσ} {d7 : Option Value} {d8 : Option Value} {d9 : Option Value}, Rl n σ h → k51 x1 x2 x3 x4 x5 x6 σ = some r → Go G mX14_joinOf 51 [some (.ref 233), some (.int x1), some (.int x2), some (.int x3), some (.int x4), some (.int x5), some (.int x6), d7, d8, d9] [] h (fun v h' => xRok (xRt mX14_joinOf) v ∧ v = none ∧ Rl n r.2 h')) (hk78 : ∀ {x1 : Int32} {x2 : Int32} {x3 : Int32} {x4 : Int32} {x5 : Int32} {x6 : Int32} {a7 : Nat} {x8 : Int32} {σ : xσ} {h : xH} {r : Unit × xσ} {d9 : Option Value}, Rl n σ h → okM a7 → k78 x1 x2 x3 x4 x5 x6 a7 x8 σ = some r → Go G mX14_joinOf 78 [some (.ref 233), some (.int x1), some (.int x2), some (.int x3), some (.int x4), some (.int x5), some (.int x6), some (.ref a7), some (.int x8), d9] [] h (fun v h' => xRok (xRt mX14_joinOf) v ∧ v = none ∧ Rl n r.2 h')) {x1 : Int32} {x2 : Int32} {x3 : Int32} {x4 : Int32} {x5 : Int32} {x6 : Int32} {a7 : Nat} {x8 : Int32} {σ : xσ} {h : xH} {r : Unit × xσ} {d9 : Option Value} : Rl n σ h → okM a7 → b_X14_joinOf_180 n k51 k78 x1 x2 x3 x4 x5 x6 a7 x8 σ = some r → Go G mX14_joinOf 180 [some (.ref 233), some (.int x1), some (.int x2), some (.int x3), some (.int x4), some (.int x5), some (.int x6), some (.ref a7), some (.int x8), d9] [] h (fun v h' => xRok (xRt mX14_joinOf) v ∧ v = none ∧ Rl n r.2 h') := by
  intro R g7 hf
  rw [b_X14_joinOf_180] at hf
  refine go_iincC (kk := 1) (pc' := 183) dX14_joinOf_180 rfl rfl (by decide) (by decide) rfl ?_
  refine go_goto (pc' := 0) (tgt := 78) dX14_joinOf_183 (by decide) ?_
  exact hk78 R g7 hf
def l_X14_joinOf_78 (n : Nat) (k51 : Int32 → Int32 → Int32 → Int32 → Int32 → Int32 → xσ → Option (Unit × xσ)) : Nat → Int32 → Int32 → Int32 → Int32 → Int32 → Int32 → Nat → Int32 → xσ → Option (Unit × xσ)
  | 0, _, _, _, _, _, _, _, _, _ => none
  | f + 1, x1, x2, x3, x4, x5, x6, a7, x8, σ => if (sI σ 259 1) ≤ x8 then k51 x1 x2 x3 x4 x5 (x6 + 1) σ else if (sI σ a7 0) < x2 then k51 x1 x2 x3 x4 x5 (x6 + 1) σ else if x3 < (sI σ a7 0) then k51 x1 x2 x3 x4 x5 (x6 + 1) σ else gd (inb x8 200) (nn (sR σ 260 x8.toNatClampNeg) (fun a105 => gd (okM a105) (if x6 = x8 then (l_X14_joinOf_78 n k51 f) x1 x2 x3 x4 x5 x6 a7 (x8 + 1) σ else if (sI σ a105 0) < x4 then (l_X14_joinOf_78 n k51 f) x1 x2 x3 x4 x5 x6 a7 (x8 + 1) σ else if x5 < (sI σ a105 0) then (l_X14_joinOf_78 n k51 f) x1 x2 x3 x4 x5 x6 a7 (x8 + 1) σ else bd (f_X14_relates n x1 a7 a105 σ) (fun v111 σ112 => if v111 = 0 then b_X14_joinOf_180 n k51 (l_X14_joinOf_78 n k51 f) x1 x2 x3 x4 x5 x6 a7 x8 σ112 else bd (f_X14_answer n (sI σ112 a7 0) σ112) (fun v117 σ118 => bd (f_X14_answer n (sI σ118 a105 0) σ118) (fun v122 σ123 => b_X14_joinOf_180 n k51 (l_X14_joinOf_78 n k51 f) x1 x2 x3 x4 x5 x6 a7 x8 σ123))))))
set_option maxRecDepth 100000 in
set_option maxHeartbeats 4000000 in
theorem t_X14_joinOf_78 {G : xG} {n : Nat} {k51 : Int32 → Int32 → Int32 → Int32 → Int32 → Int32 → xσ → Option (Unit × xσ)} (hk51 : ∀ {x1 : Int32} {x2 : Int32} {x3 : Int32} {x4 : Int32} {x5 : Int32} {x6 : Int32} {σ : xσ} {h : xH} {r : Unit × xσ} {d7 : Option Value} {d8 : Option Value} {d9 : Option Value}, Rl n σ h → k51 x1 x2 x3 x4 x5 x6 σ = some r → Go G mX14_joinOf 51 [some (.ref 233), some (.int x1), some (.int x2), some (.int x3), some (.int x4), some (.int x5), some (.int x6), d7, d8, d9] [] h (fun v h' => xRok (xRt mX14_joinOf) v ∧ v = none ∧ Rl n r.2 h')) : ∀ (f : Nat) {x1 : Int32} {x2 : Int32} {x3 : Int32} {x4 : Int32} {x5 : Int32} {x6 : Int32} {a7 : Nat} {x8 : Int32} {σ : xσ} {h : xH} {r : Unit × xσ} {d9 : Option Value}, Rl n σ h → okM a7 → l_X14_joinOf_78 n k51 f x1 x2 x3 x4 x5 x6 a7 x8 σ = some r → Go G mX14_joinOf 78 [some (.ref 233), some (.int x1), some (.int x2), some (.int x3), some (.int x4), some (.int x5), some (.int x6), some (.ref a7), some (.int x8), d9] [] h (fun v h' => xRok (xRt mX14_joinOf) v ∧ v = none ∧ Rl n r.2 h') := by
  intro f
  induction f with
  | zero =>
    intros
    rename _ = some _ => hf
    rw [l_X14_joinOf_78] at hf
    cases hf
  | succ f ih =>
    intro x1 x2 x3 x4 x5 x6 a7 x8 σ h r d9 R g7 hf
    rw [l_X14_joinOf_78] at hf
    refine go_iload (pc' := 80) dX14_joinOf_78 rfl rfl ?_
    refine go_aload_n (i := 0) (pc' := 81) dX14_joinOf_80 rfl rfl rfl ?_
    refine go_getS (pc' := 84) dX14_joinOf_81 rfl gf_LandBaseModel_351 R (R.at rfl (by decide)) (by decide) rfl ?_
    refine go_getS (pc' := 87) dX14_joinOf_84 rfl gf_LandBaseModel_581 R (R.at rfl (by decide)) (by decide) rfl ?_
    refine go_icmp_ge (pc' := 90) (tgt := 186) dX14_joinOf_87 (by decide) rfl (fun c101 => ?_) (fun c101 => ?_)
    · have hf := it c101 hf
      refine go_iincC (kk := 1) (pc' := 189) dX14_joinOf_186 rfl rfl (by decide) (by decide) rfl ?_
      refine go_goto (pc' := 0) (tgt := 51) dX14_joinOf_189 (by decide) ?_
      exact hk51 R hf
    · have hf := ie c101 hf
      refine go_aload (pc' := 92) dX14_joinOf_90 rfl rfl ?_
      refine go_getS (pc' := 95) dX14_joinOf_92 rfl gf_LandBaseModel_627 R (g7.at R) (by decide) rfl ?_
      refine go_iload_n (i := 2) (pc' := 96) dX14_joinOf_95 rfl rfl rfl ?_
      refine go_icmp_lt (pc' := 99) (tgt := 186) dX14_joinOf_96 (by decide) rfl (fun c102 => ?_) (fun c102 => ?_)
      · have hf := it c102 hf
        refine go_iincC (kk := 1) (pc' := 189) dX14_joinOf_186 rfl rfl (by decide) (by decide) rfl ?_
        refine go_goto (pc' := 0) (tgt := 51) dX14_joinOf_189 (by decide) ?_
        exact hk51 R hf
      · have hf := ie c102 hf
        refine go_aload (pc' := 101) dX14_joinOf_99 rfl rfl ?_
        refine go_getS (pc' := 104) dX14_joinOf_101 rfl gf_LandBaseModel_627 R (g7.at R) (by decide) rfl ?_
        refine go_iload_n (i := 3) (pc' := 105) dX14_joinOf_104 rfl rfl rfl ?_
        refine go_icmp_gt (pc' := 108) (tgt := 186) dX14_joinOf_105 (by decide) rfl (fun c103 => ?_) (fun c103 => ?_)
        · have hf := it c103 hf
          refine go_iincC (kk := 1) (pc' := 189) dX14_joinOf_186 rfl rfl (by decide) (by decide) rfl ?_
          refine go_goto (pc' := 0) (tgt := 51) dX14_joinOf_189 (by decide) ?_
          exact hk51 R hf
        · have hf := ie c103 hf
          refine go_aload_n (i := 0) (pc' := 109) dX14_joinOf_108 rfl rfl rfl ?_
          refine go_getS (pc' := 112) dX14_joinOf_109 rfl gf_LandBaseModel_351 R (R.at rfl (by decide)) (by decide) rfl ?_
          refine go_getS (pc' := 115) dX14_joinOf_112 rfl gf_LandBaseModel_596 R (R.at rfl (by decide)) (by decide) rfl ?_
          refine go_iload (pc' := 117) dX14_joinOf_115 rfl rfl ?_
          obtain ⟨g104, hf⟩ := gd_some hf
          obtain ⟨a105, e106, hf⟩ := nn_some hf
          obtain ⟨g107, hf⟩ := gd_some hf
          refine go_aaloadS (pc' := 118) dX14_joinOf_117 rfl (by decide) R (R.aa rfl (by decide)) g104 e106 ?_
          refine go_astore (pc' := 120) dX14_joinOf_118 rfl (by decide) rfl ?_
          refine go_iload (pc' := 122) dX14_joinOf_120 rfl rfl ?_
          refine go_iload (pc' := 124) dX14_joinOf_122 rfl rfl ?_
          refine go_icmp_eq (pc' := 127) (tgt := 180) dX14_joinOf_124 (by decide) rfl (fun c108 => ?_) (fun c108 => ?_)
          · have hf := it c108 hf
            refine go_iincC (kk := 1) (pc' := 183) dX14_joinOf_180 rfl rfl (by decide) (by decide) rfl ?_
            refine go_goto (pc' := 0) (tgt := 78) dX14_joinOf_183 (by decide) ?_
            exact ih R g7 hf
          · have hf := ie c108 hf
            refine go_aload (pc' := 129) dX14_joinOf_127 rfl rfl ?_
            refine go_getS (pc' := 132) dX14_joinOf_129 rfl gf_LandBaseModel_627 R (g107.at R) (by decide) rfl ?_
            refine go_iload (pc' := 134) dX14_joinOf_132 rfl rfl ?_
            refine go_icmp_lt (pc' := 137) (tgt := 180) dX14_joinOf_134 (by decide) rfl (fun c109 => ?_) (fun c109 => ?_)
            · have hf := it c109 hf
              refine go_iincC (kk := 1) (pc' := 183) dX14_joinOf_180 rfl rfl (by decide) (by decide) rfl ?_
              refine go_goto (pc' := 0) (tgt := 78) dX14_joinOf_183 (by decide) ?_
              exact ih R g7 hf
            · have hf := ie c109 hf
              refine go_aload (pc' := 139) dX14_joinOf_137 rfl rfl ?_
              refine go_getS (pc' := 142) dX14_joinOf_139 rfl gf_LandBaseModel_627 R (g107.at R) (by decide) rfl ?_
              refine go_iload (pc' := 144) dX14_joinOf_142 rfl rfl ?_
              refine go_icmp_gt (pc' := 147) (tgt := 180) dX14_joinOf_144 (by decide) rfl (fun c110 => ?_) (fun c110 => ?_)
              · have hf := it c110 hf
                refine go_iincC (kk := 1) (pc' := 183) dX14_joinOf_180 rfl rfl (by decide) (by decide) rfl ?_
                refine go_goto (pc' := 0) (tgt := 78) dX14_joinOf_183 (by decide) ?_
                exact ih R g7 hf
              · have hf := ie c110 hf
                refine go_aload_n (i := 0) (pc' := 148) dX14_joinOf_147 rfl rfl rfl ?_
                refine go_iload_n (i := 1) (pc' := 149) dX14_joinOf_148 rfl rfl rfl ?_
                refine go_aload (pc' := 151) dX14_joinOf_149 rfl rfl ?_
                refine go_aload (pc' := 153) dX14_joinOf_151 rfl rfl ?_
                obtain ⟨v111, σ112, e113, hf⟩ := bd_some hf
                refine go_invV (As := [_, _, _]) (pc' := 156) dX14_joinOf_153 rfl cf_X14_joinOf_623 rfl (R.ob (R.at rfl (by decide))) rfl rfl (Nat.le_of_ble_eq_true rfl) (c_X14_relates R e113) (fun q114v h115 q114 => ?_)
                obtain ⟨rfl, R⟩ := q114
                refine go_if_ne (pc' := 159) (tgt := 162) dX14_joinOf_156 (by decide) rfl (fun c116 => ?_) (fun c116 => ?_)
                · have hf := ie c116 hf
                  refine go_aload_n (i := 0) (pc' := 163) dX14_joinOf_162 rfl rfl rfl ?_
                  refine go_aload (pc' := 165) dX14_joinOf_163 rfl rfl ?_
                  refine go_getS (pc' := 168) dX14_joinOf_165 rfl gf_LandBaseModel_627 R (g7.at R) (by decide) rfl ?_
                  obtain ⟨v117, σ118, e119, hf⟩ := bd_some hf
                  refine go_invV (As := [_]) (pc' := 171) dX14_joinOf_168 rfl cf_X14_joinOf_630 rfl (R.ob (R.at rfl (by decide))) rfl rfl (Nat.le_of_ble_eq_true rfl) (c_X14_answer R e119) (fun q120v h121 q120 => ?_)
                  obtain ⟨rfl, R⟩ := q120
                  refine go_aload_n (i := 0) (pc' := 172) dX14_joinOf_171 rfl rfl rfl ?_
                  refine go_aload (pc' := 174) dX14_joinOf_172 rfl rfl ?_
                  refine go_getS (pc' := 177) dX14_joinOf_174 rfl gf_LandBaseModel_627 R (g107.at R) (by decide) rfl ?_
                  obtain ⟨v122, σ123, e124, hf⟩ := bd_some hf
                  refine go_invV (As := [_]) (pc' := 180) dX14_joinOf_177 rfl cf_X14_joinOf_630 rfl (R.ob (R.at rfl (by decide))) rfl rfl (Nat.le_of_ble_eq_true rfl) (c_X14_answer R e124) (fun q125v h126 q125 => ?_)
                  obtain ⟨rfl, R⟩ := q125
                  exact t_X14_joinOf_180 @hk51 @ih R g7 hf
                · have hf := it c116 hf
                  refine go_goto (pc' := 0) (tgt := 180) dX14_joinOf_159 (by decide) ?_
                  exact t_X14_joinOf_180 @hk51 @ih R g7 hf
def l_X14_joinOf_51 (n : Nat) : Nat → Int32 → Int32 → Int32 → Int32 → Int32 → Int32 → xσ → Option (Unit × xσ)
  | 0, _, _, _, _, _, _, _ => none
  | f + 1, x1, x2, x3, x4, x5, x6, σ => if (sI σ 259 1) ≤ x6 then bd (f_X14_endAnswers n 2 σ) (fun v102 σ103 => some ((), σ103)) else gd (inb x6 200) (nn (sR σ 260 x6.toNatClampNeg) (fun a108 => gd (okM a108) (l_X14_joinOf_78 n (l_X14_joinOf_51 n f) xFU x1 x2 x3 x4 x5 x6 a108 0 σ)))
set_option maxRecDepth 100000 in
set_option maxHeartbeats 4000000 in
theorem t_X14_joinOf_51 {G : xG} {n : Nat} : ∀ (f : Nat) {x1 : Int32} {x2 : Int32} {x3 : Int32} {x4 : Int32} {x5 : Int32} {x6 : Int32} {σ : xσ} {h : xH} {r : Unit × xσ} {d7 : Option Value} {d8 : Option Value} {d9 : Option Value}, Rl n σ h → l_X14_joinOf_51 n f x1 x2 x3 x4 x5 x6 σ = some r → Go G mX14_joinOf 51 [some (.ref 233), some (.int x1), some (.int x2), some (.int x3), some (.int x4), some (.int x5), some (.int x6), d7, d8, d9] [] h (fun v h' => xRok (xRt mX14_joinOf) v ∧ v = none ∧ Rl n r.2 h') := by
  intro f
  induction f with
  | zero =>
    intros
    rename _ = some _ => hf
    rw [l_X14_joinOf_51] at hf
    cases hf
  | succ f ih =>
    intro x1 x2 x3 x4 x5 x6 σ h r d7 d8 d9 R hf
    rw [l_X14_joinOf_51] at hf
    refine go_iload (pc' := 53) dX14_joinOf_51 rfl rfl ?_
    refine go_aload_n (i := 0) (pc' := 54) dX14_joinOf_53 rfl rfl rfl ?_
    refine go_getS (pc' := 57) dX14_joinOf_54 rfl gf_LandBaseModel_351 R (R.at rfl (by decide)) (by decide) rfl ?_
    refine go_getS (pc' := 60) dX14_joinOf_57 rfl gf_LandBaseModel_581 R (R.at rfl (by decide)) (by decide) rfl ?_
    refine go_icmp_ge (pc' := 63) (tgt := 192) dX14_joinOf_60 (by decide) rfl (fun c101 => ?_) (fun c101 => ?_)
    · have hf := it c101 hf
      refine go_aload_n (i := 0) (pc' := 193) dX14_joinOf_192 rfl rfl rfl ?_
      refine go_iconst (v := 2) (pc' := 194) dX14_joinOf_193 rfl (by decide) ?_
      obtain ⟨v102, σ103, e104, hf⟩ := bd_some hf
      refine go_invV (As := [_]) (pc' := 197) dX14_joinOf_194 rfl cf_X14_joinOf_633 rfl (R.ob (R.at rfl (by decide))) rfl rfl (Nat.le_of_ble_eq_true rfl) (c_X14_endAnswers R e104) (fun q105v h106 q105 => ?_)
      obtain ⟨rfl, R⟩ := q105
      obtain rfl := Option.some.inj hf
      exact Go.ret (v := none) dX14_joinOf_197 rfl ⟨trivial, rfl, R⟩
    · have hf := ie c101 hf
      refine go_aload_n (i := 0) (pc' := 64) dX14_joinOf_63 rfl rfl rfl ?_
      refine go_getS (pc' := 67) dX14_joinOf_64 rfl gf_LandBaseModel_351 R (R.at rfl (by decide)) (by decide) rfl ?_
      refine go_getS (pc' := 70) dX14_joinOf_67 rfl gf_LandBaseModel_596 R (R.at rfl (by decide)) (by decide) rfl ?_
      refine go_iload (pc' := 72) dX14_joinOf_70 rfl rfl ?_
      obtain ⟨g107, hf⟩ := gd_some hf
      obtain ⟨a108, e109, hf⟩ := nn_some hf
      obtain ⟨g110, hf⟩ := gd_some hf
      refine go_aaloadS (pc' := 73) dX14_joinOf_72 rfl (by decide) R (R.aa rfl (by decide)) g107 e109 ?_
      refine go_astore (pc' := 75) dX14_joinOf_73 rfl (by decide) rfl ?_
      refine go_iconst (v := 0) (pc' := 76) dX14_joinOf_75 rfl (by decide) ?_
      refine go_istoreE rfl (pc' := 78) dX14_joinOf_76 rfl (by decide) rfl ?_
      exact t_X14_joinOf_78 @ih xFU R g110 hf
def f_X14_joinOf (n : Nat) (x1 : Int32) (x2 : Int32) (x3 : Int32) (x4 : Int32) (x5 : Int32) (σ : xσ) : Option (Unit × xσ) := if x3 < x2 then bd (f_X14_put n 5 σ) (fun v102 σ103 => some ((), σ103)) else if x5 < x4 then bd (f_X14_put n 5 σ) (fun v108 σ109 => some ((), σ109)) else if 0 < (lg_cmp ((x3.toInt64) - (x2.toInt64)) ((63 : Int64))) then bd (f_X14_put n 5 σ) (fun v114 σ115 => some ((), σ115)) else if (lg_cmp ((x5.toInt64) - (x4.toInt64)) ((63 : Int64))) ≤ 0 then bd (f_X14_beginAnswers n σ) (fun v120 σ121 => l_X14_joinOf_51 n xFU x1 x2 x3 x4 x5 0 σ121) else bd (f_X14_put n 5 σ) (fun v125 σ126 => some ((), σ126))
set_option maxRecDepth 100000 in
set_option maxHeartbeats 4000000 in
theorem c_X14_joinOf {G : xG} {n : Nat} {σ : xσ} {h : xH} {x1 : Int32} {x2 : Int32} {x3 : Int32} {x4 : Int32} {x5 : Int32} {v1 : Unit} {σ1 : xσ} (R : Rl n σ h) (hf : f_X14_joinOf n x1 x2 x3 x4 x5 σ = some (v1, σ1)) : Ca G mX14_joinOf [.ref 233, .int x1, .int x2, .int x3, .int x4, .int x5] h (fun v h' => v = none ∧ Rl n σ1 h') := by
  refine Ca.of rfl (Nat.le_of_ble_eq_true rfl) ?_
  generalize hr : (v1, σ1) = r at hf
  suffices q : Go G mX14_joinOf 0 (xent (xMl mX14_joinOf) [.ref 233, .int x1, .int x2, .int x3, .int x4, .int x5]) [] h (fun v h' => xRok (xRt mX14_joinOf) v ∧ v = none ∧ Rl n r.2 h') by
    subst hr
    exact q
  clear hr
  rw [f_X14_joinOf] at hf
  refine go_iload_n (i := 3) (pc' := 1) dX14_joinOf_0 rfl rfl rfl ?_
  refine go_iload_n (i := 2) (pc' := 2) dX14_joinOf_1 rfl rfl rfl ?_
  refine go_icmp_lt (pc' := 5) (tgt := 38) dX14_joinOf_2 (by decide) rfl (fun c101 => ?_) (fun c101 => ?_)
  · have hf := it c101 hf
    refine go_aload_n (i := 0) (pc' := 39) dX14_joinOf_38 rfl rfl rfl ?_
    refine go_iconst (v := 5) (pc' := 40) dX14_joinOf_39 rfl (by decide) ?_
    obtain ⟨v102, σ103, e104, hf⟩ := bd_some hf
    refine go_invV (As := [_]) (pc' := 43) dX14_joinOf_40 rfl cf_X14_joinOf_557 rfl (R.ob (R.at rfl (by decide))) rfl rfl (Nat.le_of_ble_eq_true rfl) (c_X14_put R e104) (fun q105v h106 q105 => ?_)
    obtain ⟨rfl, R⟩ := q105
    obtain rfl := Option.some.inj hf
    exact Go.ret (v := none) dX14_joinOf_43 rfl ⟨trivial, rfl, R⟩
  · have hf := ie c101 hf
    refine go_iload (pc' := 7) dX14_joinOf_5 rfl rfl ?_
    refine go_iload (pc' := 9) dX14_joinOf_7 rfl rfl ?_
    refine go_icmp_lt (pc' := 12) (tgt := 38) dX14_joinOf_9 (by decide) rfl (fun c107 => ?_) (fun c107 => ?_)
    · have hf := it c107 hf
      refine go_aload_n (i := 0) (pc' := 39) dX14_joinOf_38 rfl rfl rfl ?_
      refine go_iconst (v := 5) (pc' := 40) dX14_joinOf_39 rfl (by decide) ?_
      obtain ⟨v108, σ109, e110, hf⟩ := bd_some hf
      refine go_invV (As := [_]) (pc' := 43) dX14_joinOf_40 rfl cf_X14_joinOf_557 rfl (R.ob (R.at rfl (by decide))) rfl rfl (Nat.le_of_ble_eq_true rfl) (c_X14_put R e110) (fun q111v h112 q111 => ?_)
      obtain ⟨rfl, R⟩ := q111
      obtain rfl := Option.some.inj hf
      exact Go.ret (v := none) dX14_joinOf_43 rfl ⟨trivial, rfl, R⟩
    · have hf := ie c107 hf
      refine go_iload_n (i := 3) (pc' := 13) dX14_joinOf_12 rfl rfl rfl ?_
      refine go_i2l (pc' := 14) dX14_joinOf_13 rfl rfl ?_
      refine go_iload_n (i := 2) (pc' := 15) dX14_joinOf_14 rfl rfl rfl ?_
      refine go_i2l (pc' := 16) dX14_joinOf_15 rfl rfl ?_
      refine go_lsub (pc' := 17) dX14_joinOf_16 rfl ?_
      refine go_ldc2 (pc' := 20) dX14_joinOf_17 rfl wd_1635 ?_
      refine go_lcmp (pc' := 21) dX14_joinOf_20 rfl ?_
      refine go_if_gt (pc' := 24) (tgt := 38) dX14_joinOf_21 (by decide) rfl (fun c113 => ?_) (fun c113 => ?_)
      · have hf := it c113 hf
        refine go_aload_n (i := 0) (pc' := 39) dX14_joinOf_38 rfl rfl rfl ?_
        refine go_iconst (v := 5) (pc' := 40) dX14_joinOf_39 rfl (by decide) ?_
        obtain ⟨v114, σ115, e116, hf⟩ := bd_some hf
        refine go_invV (As := [_]) (pc' := 43) dX14_joinOf_40 rfl cf_X14_joinOf_557 rfl (R.ob (R.at rfl (by decide))) rfl rfl (Nat.le_of_ble_eq_true rfl) (c_X14_put R e116) (fun q117v h118 q117 => ?_)
        obtain ⟨rfl, R⟩ := q117
        obtain rfl := Option.some.inj hf
        exact Go.ret (v := none) dX14_joinOf_43 rfl ⟨trivial, rfl, R⟩
      · have hf := ie c113 hf
        refine go_iload (pc' := 26) dX14_joinOf_24 rfl rfl ?_
        refine go_i2l (pc' := 27) dX14_joinOf_26 rfl rfl ?_
        refine go_iload (pc' := 29) dX14_joinOf_27 rfl rfl ?_
        refine go_i2l (pc' := 30) dX14_joinOf_29 rfl rfl ?_
        refine go_lsub (pc' := 31) dX14_joinOf_30 rfl ?_
        refine go_ldc2 (pc' := 34) dX14_joinOf_31 rfl wd_1635 ?_
        refine go_lcmp (pc' := 35) dX14_joinOf_34 rfl ?_
        refine go_if_le (pc' := 38) (tgt := 44) dX14_joinOf_35 (by decide) rfl (fun c119 => ?_) (fun c119 => ?_)
        · have hf := it c119 hf
          refine go_aload_n (i := 0) (pc' := 45) dX14_joinOf_44 rfl rfl rfl ?_
          obtain ⟨v120, σ121, e122, hf⟩ := bd_some hf
          refine go_invV (As := []) (pc' := 48) dX14_joinOf_45 rfl cf_X14_joinOf_620 rfl (R.ob (R.at rfl (by decide))) rfl rfl (Nat.le_of_ble_eq_true rfl) (c_X14_beginAnswers R e122) (fun q123v h124 q123 => ?_)
          obtain ⟨rfl, R⟩ := q123
          refine go_iconst (v := 0) (pc' := 49) dX14_joinOf_48 rfl (by decide) ?_
          refine go_istoreE rfl (pc' := 51) dX14_joinOf_49 rfl (by decide) rfl ?_
          exact t_X14_joinOf_51 xFU R hf
        · have hf := ie c119 hf
          refine go_aload_n (i := 0) (pc' := 39) dX14_joinOf_38 rfl rfl rfl ?_
          refine go_iconst (v := 5) (pc' := 40) dX14_joinOf_39 rfl (by decide) ?_
          obtain ⟨v125, σ126, e127, hf⟩ := bd_some hf
          refine go_invV (As := [_]) (pc' := 43) dX14_joinOf_40 rfl cf_X14_joinOf_557 rfl (R.ob (R.at rfl (by decide))) rfl rfl (Nat.le_of_ble_eq_true rfl) (c_X14_put R e127) (fun q128v h129 q128 => ?_)
          obtain ⟨rfl, R⟩ := q128
          obtain rfl := Option.some.inj hf
          exact Go.ret (v := none) dX14_joinOf_43 rfl ⟨trivial, rfl, R⟩

/-! methods as functions, by program (gen/dcmall.py) -/
def b_X14_isLeftRound_96 (n : Nat) (k23 : Nat → Int32 → Int32 → Int32 → Int32 → xσ → Option (Int32 × xσ)) (a0 : Nat) (x2 : Int32) (x3 : Int32) (x4 : Int32) (x5 : Int32) (σ : xσ) : Option (Int32 × xσ) := k23 a0 x2 x3 x4 (x5 + 1) σ
set_option maxRecDepth 100000 in
set_option maxHeartbeats 4000000 in
theorem t_X14_isLeftRound_96 {G : xG} {n : Nat} {k23 : Nat → Int32 → Int32 → Int32 → Int32 → xσ → Option (Int32 × xσ)} (hk23 : ∀ {a0 : Nat} {x2 : Int32} {x3 : Int32} {x4 : Int32} {x5 : Int32} {σ : xσ} {h : xH} {r : Int32 × xσ} {d1 : Option Value} {d6 : Option Value} {d7 : Option Value}, Rl n σ h → okM a0 → k23 a0 x2 x3 x4 x5 σ = some r → Go G mX14_isLeftRound 23 [some (.ref a0), d1, some (.int x2), some (.int x3), some (.int x4), some (.int x5), d6, d7] [] h (fun v h' => xRok (xRt mX14_isLeftRound) v ∧ v = some (.int r.1) ∧ Rl n r.2 h')) {a0 : Nat} {x2 : Int32} {x3 : Int32} {x4 : Int32} {x5 : Int32} {σ : xσ} {h : xH} {r : Int32 × xσ} {d1 : Option Value} {d6 : Option Value} {d7 : Option Value} : Rl n σ h → okM a0 → b_X14_isLeftRound_96 n k23 a0 x2 x3 x4 x5 σ = some r → Go G mX14_isLeftRound 96 [some (.ref a0), d1, some (.int x2), some (.int x3), some (.int x4), some (.int x5), d6, d7] [] h (fun v h' => xRok (xRt mX14_isLeftRound) v ∧ v = some (.int r.1) ∧ Rl n r.2 h') := by
  intro R g0 hf
  rw [b_X14_isLeftRound_96] at hf
  refine go_iincC (kk := 1) (pc' := 99) dX14_isLeftRound_96 rfl rfl (by decide) (by decide) rfl ?_
  refine go_goto (pc' := 0) (tgt := 23) dX14_isLeftRound_99 (by decide) ?_
  exact hk23 R g0 hf
def l_X14_isLeftRound_23 (n : Nat) : Nat → Nat → Int32 → Int32 → Int32 → Int32 → xσ → Option (Int32 × xσ)
  | 0, _, _, _, _, _, _ => none
  | f + 1, a0, x2, x3, x4, x5, σ => if x3 ≤ x5 then gd (¬ x3 = 0) (st (x2 + (((x4 + x3) - 1) - ((x4 + x3) - 1) / x3 * x3)) (fun x103 => gd (¬ x3 = 0) (st (x2 + ((x4 + 1) - (x4 + 1) / x3 * x3)) (fun x106 => st (x2 + x4) (fun x108 => gd (inb x108 40) (gd (inb x103 40) (gd (inb x108 40) (gd (inb x103 40) (gd (inb x106 40) (gd (inb x108 40) (gd (inb x106 40) (gd (inb x108 40) (bd (f_X14_cross n (((sI σ (a0 + 2) x108.toNatClampNeg).toInt64) - ((sI σ (a0 + 2) x103.toNatClampNeg).toInt64)) (((sI σ (a0 + 3) x108.toNatClampNeg).toInt64) - ((sI σ (a0 + 3) x103.toNatClampNeg).toInt64)) (((sI σ (a0 + 2) x106.toNatClampNeg).toInt64) - ((sI σ (a0 + 2) x108.toNatClampNeg).toInt64)) (((sI σ (a0 + 3) x106.toNatClampNeg).toInt64) - ((sI σ (a0 + 3) x108.toNatClampNeg).toInt64)) σ) (fun v118 σ119 => if (lg_cmp v118 ((0 : Int64))) ≤ 0 then some (0, σ119) else some (1, σ119))))))))))))))) else gd (inb (x2 + x5) 40) (gd (inb (x2 + x4) 40) (if (sI σ (a0 + 3) (x2 + x5).toNatClampNeg) < (sI σ (a0 + 3) (x2 + x4).toNatClampNeg) then b_X14_isLeftRound_96 n (l_X14_isLeftRound_23 n f) a0 x2 x3 x5 x5 σ else gd (inb (x2 + x5) 40) (gd (inb (x2 + x4) 40) (if (sI σ (a0 + 3) (x2 + x5).toNatClampNeg) = (sI σ (a0 + 3) (x2 + x4).toNatClampNeg) then gd (inb (x2 + x5) 40) (gd (inb (x2 + x4) 40) (if (sI σ (a0 + 2) (x2 + x4).toNatClampNeg) ≤ (sI σ (a0 + 2) (x2 + x5).toNatClampNeg) then (l_X14_isLeftRound_23 n f) a0 x2 x3 x4 (x5 + 1) σ else b_X14_isLeftRound_96 n (l_X14_isLeftRound_23 n f) a0 x2 x3 x5 x5 σ)) else (l_X14_isLeftRound_23 n f) a0 x2 x3 x4 (x5 + 1) σ))))
set_option maxRecDepth 100000 in
set_option maxHeartbeats 4000000 in
theorem t_X14_isLeftRound_23 {G : xG} {n : Nat} : ∀ (f : Nat) {a0 : Nat} {x2 : Int32} {x3 : Int32} {x4 : Int32} {x5 : Int32} {σ : xσ} {h : xH} {r : Int32 × xσ} {d1 : Option Value} {d6 : Option Value} {d7 : Option Value}, Rl n σ h → okM a0 → l_X14_isLeftRound_23 n f a0 x2 x3 x4 x5 σ = some r → Go G mX14_isLeftRound 23 [some (.ref a0), d1, some (.int x2), some (.int x3), some (.int x4), some (.int x5), d6, d7] [] h (fun v h' => xRok (xRt mX14_isLeftRound) v ∧ v = some (.int r.1) ∧ Rl n r.2 h') := by
  intro f
  induction f with
  | zero =>
    intros
    rename _ = some _ => hf
    rw [l_X14_isLeftRound_23] at hf
    cases hf
  | succ f ih =>
    intro a0 x2 x3 x4 x5 σ h r d1 d6 d7 R g0 hf
    rw [l_X14_isLeftRound_23] at hf
    refine go_iload (pc' := 25) dX14_isLeftRound_23 rfl rfl ?_
    refine go_iload_n (i := 3) (pc' := 26) dX14_isLeftRound_25 rfl rfl rfl ?_
    refine go_icmp_ge (pc' := 29) (tgt := 102) dX14_isLeftRound_26 (by decide) rfl (fun c101 => ?_) (fun c101 => ?_)
    · have hf := it c101 hf
      refine go_iload_n (i := 2) (pc' := 103) dX14_isLeftRound_102 rfl rfl rfl ?_
      refine go_iload (pc' := 105) dX14_isLeftRound_103 rfl rfl ?_
      refine go_iload_n (i := 3) (pc' := 106) dX14_isLeftRound_105 rfl rfl rfl ?_
      refine go_iadd (pc' := 107) dX14_isLeftRound_106 rfl ?_
      refine go_iconst (v := 1) (pc' := 108) dX14_isLeftRound_107 rfl (by decide) ?_
      refine go_isub (pc' := 109) dX14_isLeftRound_108 rfl ?_
      refine go_iload_n (i := 3) (pc' := 110) dX14_isLeftRound_109 rfl rfl rfl ?_
      obtain ⟨g102, hf⟩ := gd_some hf
      refine go_irem (pc' := 111) dX14_isLeftRound_110 rfl g102 ?_
      refine go_iadd (pc' := 112) dX14_isLeftRound_111 rfl ?_
      obtain ⟨x103, e104, hf⟩ := st_some hf
      refine go_istoreE e104 (pc' := 114) dX14_isLeftRound_112 rfl (by decide) rfl ?_
      refine go_iload_n (i := 2) (pc' := 115) dX14_isLeftRound_114 rfl rfl rfl ?_
      refine go_iload (pc' := 117) dX14_isLeftRound_115 rfl rfl ?_
      refine go_iconst (v := 1) (pc' := 118) dX14_isLeftRound_117 rfl (by decide) ?_
      refine go_iadd (pc' := 119) dX14_isLeftRound_118 rfl ?_
      refine go_iload_n (i := 3) (pc' := 120) dX14_isLeftRound_119 rfl rfl rfl ?_
      obtain ⟨g105, hf⟩ := gd_some hf
      refine go_irem (pc' := 121) dX14_isLeftRound_120 rfl g105 ?_
      refine go_iadd (pc' := 122) dX14_isLeftRound_121 rfl ?_
      obtain ⟨x106, e107, hf⟩ := st_some hf
      refine go_istoreE e107 (pc' := 124) dX14_isLeftRound_122 rfl (by decide) rfl ?_
      refine go_iload_n (i := 2) (pc' := 125) dX14_isLeftRound_124 rfl rfl rfl ?_
      refine go_iload (pc' := 127) dX14_isLeftRound_125 rfl rfl ?_
      refine go_iadd (pc' := 128) dX14_isLeftRound_127 rfl ?_
      obtain ⟨x108, e109, hf⟩ := st_some hf
      refine go_istoreE e109 (pc' := 130) dX14_isLeftRound_128 rfl (by decide) rfl ?_
      refine go_aload_n (i := 0) (pc' := 131) dX14_isLeftRound_130 rfl rfl rfl ?_
      refine go_getS (pc' := 134) dX14_isLeftRound_131 rfl gf_LandBaseModel_30 R (g0.at R) (by decide) rfl ?_
      refine go_iload (pc' := 136) dX14_isLeftRound_134 rfl rfl ?_
      obtain ⟨g110, hf⟩ := gd_some hf
      refine go_ialoadS (pc' := 137) dX14_isLeftRound_136 rfl R (g0.x R) g110 ?_
      refine go_i2l (pc' := 138) dX14_isLeftRound_137 rfl rfl ?_
      refine go_aload_n (i := 0) (pc' := 139) dX14_isLeftRound_138 rfl rfl rfl ?_
      refine go_getS (pc' := 142) dX14_isLeftRound_139 rfl gf_LandBaseModel_30 R (g0.at R) (by decide) rfl ?_
      refine go_iload (pc' := 144) dX14_isLeftRound_142 rfl rfl ?_
      obtain ⟨g111, hf⟩ := gd_some hf
      refine go_ialoadS (pc' := 145) dX14_isLeftRound_144 rfl R (g0.x R) g111 ?_
      refine go_i2l (pc' := 146) dX14_isLeftRound_145 rfl rfl ?_
      refine go_lsub (pc' := 147) dX14_isLeftRound_146 rfl ?_
      refine go_aload_n (i := 0) (pc' := 148) dX14_isLeftRound_147 rfl rfl rfl ?_
      refine go_getS (pc' := 151) dX14_isLeftRound_148 rfl gf_LandBaseModel_36 R (g0.at R) (by decide) rfl ?_
      refine go_iload (pc' := 153) dX14_isLeftRound_151 rfl rfl ?_
      obtain ⟨g112, hf⟩ := gd_some hf
      refine go_ialoadS (pc' := 154) dX14_isLeftRound_153 rfl R (g0.y R) g112 ?_
      refine go_i2l (pc' := 155) dX14_isLeftRound_154 rfl rfl ?_
      refine go_aload_n (i := 0) (pc' := 156) dX14_isLeftRound_155 rfl rfl rfl ?_
      refine go_getS (pc' := 159) dX14_isLeftRound_156 rfl gf_LandBaseModel_36 R (g0.at R) (by decide) rfl ?_
      refine go_iload (pc' := 161) dX14_isLeftRound_159 rfl rfl ?_
      obtain ⟨g113, hf⟩ := gd_some hf
      refine go_ialoadS (pc' := 162) dX14_isLeftRound_161 rfl R (g0.y R) g113 ?_
      refine go_i2l (pc' := 163) dX14_isLeftRound_162 rfl rfl ?_
      refine go_lsub (pc' := 164) dX14_isLeftRound_163 rfl ?_
      refine go_aload_n (i := 0) (pc' := 165) dX14_isLeftRound_164 rfl rfl rfl ?_
      refine go_getS (pc' := 168) dX14_isLeftRound_165 rfl gf_LandBaseModel_30 R (g0.at R) (by decide) rfl ?_
      refine go_iload (pc' := 170) dX14_isLeftRound_168 rfl rfl ?_
      obtain ⟨g114, hf⟩ := gd_some hf
      refine go_ialoadS (pc' := 171) dX14_isLeftRound_170 rfl R (g0.x R) g114 ?_
      refine go_i2l (pc' := 172) dX14_isLeftRound_171 rfl rfl ?_
      refine go_aload_n (i := 0) (pc' := 173) dX14_isLeftRound_172 rfl rfl rfl ?_
      refine go_getS (pc' := 176) dX14_isLeftRound_173 rfl gf_LandBaseModel_30 R (g0.at R) (by decide) rfl ?_
      refine go_iload (pc' := 178) dX14_isLeftRound_176 rfl rfl ?_
      obtain ⟨g115, hf⟩ := gd_some hf
      refine go_ialoadS (pc' := 179) dX14_isLeftRound_178 rfl R (g0.x R) g115 ?_
      refine go_i2l (pc' := 180) dX14_isLeftRound_179 rfl rfl ?_
      refine go_lsub (pc' := 181) dX14_isLeftRound_180 rfl ?_
      refine go_aload_n (i := 0) (pc' := 182) dX14_isLeftRound_181 rfl rfl rfl ?_
      refine go_getS (pc' := 185) dX14_isLeftRound_182 rfl gf_LandBaseModel_36 R (g0.at R) (by decide) rfl ?_
      refine go_iload (pc' := 187) dX14_isLeftRound_185 rfl rfl ?_
      obtain ⟨g116, hf⟩ := gd_some hf
      refine go_ialoadS (pc' := 188) dX14_isLeftRound_187 rfl R (g0.y R) g116 ?_
      refine go_i2l (pc' := 189) dX14_isLeftRound_188 rfl rfl ?_
      refine go_aload_n (i := 0) (pc' := 190) dX14_isLeftRound_189 rfl rfl rfl ?_
      refine go_getS (pc' := 193) dX14_isLeftRound_190 rfl gf_LandBaseModel_36 R (g0.at R) (by decide) rfl ?_
      refine go_iload (pc' := 195) dX14_isLeftRound_193 rfl rfl ?_
      obtain ⟨g117, hf⟩ := gd_some hf
      refine go_ialoadS (pc' := 196) dX14_isLeftRound_195 rfl R (g0.y R) g117 ?_
      refine go_i2l (pc' := 197) dX14_isLeftRound_196 rfl rfl ?_
      refine go_lsub (pc' := 198) dX14_isLeftRound_197 rfl ?_
      obtain ⟨v118, σ119, e120, hf⟩ := bd_some hf
      refine go_invS (As := [_, _, _, _]) (pc' := 201) dX14_isLeftRound_198 rfl cf_X14_isLeftRound_39 rfl rfl (Nat.le_of_ble_eq_true rfl) (c_X14_cross R e120) (fun q121v h122 q121 => ?_)
      obtain ⟨rfl, R⟩ := q121
      refine go_lconst (v := 0) (pc' := 202) dX14_isLeftRound_201 rfl (by decide) ?_
      refine go_lcmp (pc' := 203) dX14_isLeftRound_202 rfl ?_
      refine go_if_le (pc' := 206) (tgt := 210) dX14_isLeftRound_203 (by decide) rfl (fun c123 => ?_) (fun c123 => ?_)
      · have hf := it c123 hf
        refine go_iconst (v := 0) (pc' := 211) dX14_isLeftRound_210 rfl (by decide) ?_
        obtain rfl := Option.some.inj hf
        exact Go.ret (v := some (.int _)) dX14_isLeftRound_211 ⟨_, rfl⟩ ⟨rfl, rfl, R⟩
      · have hf := ie c123 hf
        refine go_iconst (v := 1) (pc' := 207) dX14_isLeftRound_206 rfl (by decide) ?_
        refine go_goto (pc' := 0) (tgt := 211) dX14_isLeftRound_207 (by decide) ?_
        obtain rfl := Option.some.inj hf
        exact Go.ret (v := some (.int _)) dX14_isLeftRound_211 ⟨_, rfl⟩ ⟨rfl, rfl, R⟩
    · have hf := ie c101 hf
      refine go_aload_n (i := 0) (pc' := 30) dX14_isLeftRound_29 rfl rfl rfl ?_
      refine go_getS (pc' := 33) dX14_isLeftRound_30 rfl gf_LandBaseModel_36 R (g0.at R) (by decide) rfl ?_
      refine go_iload_n (i := 2) (pc' := 34) dX14_isLeftRound_33 rfl rfl rfl ?_
      refine go_iload (pc' := 36) dX14_isLeftRound_34 rfl rfl ?_
      refine go_iadd (pc' := 37) dX14_isLeftRound_36 rfl ?_
      obtain ⟨g124, hf⟩ := gd_some hf
      refine go_ialoadS (pc' := 38) dX14_isLeftRound_37 rfl R (g0.y R) g124 ?_
      refine go_aload_n (i := 0) (pc' := 39) dX14_isLeftRound_38 rfl rfl rfl ?_
      refine go_getS (pc' := 42) dX14_isLeftRound_39 rfl gf_LandBaseModel_36 R (g0.at R) (by decide) rfl ?_
      refine go_iload_n (i := 2) (pc' := 43) dX14_isLeftRound_42 rfl rfl rfl ?_
      refine go_iload (pc' := 45) dX14_isLeftRound_43 rfl rfl ?_
      refine go_iadd (pc' := 46) dX14_isLeftRound_45 rfl ?_
      obtain ⟨g125, hf⟩ := gd_some hf
      refine go_ialoadS (pc' := 47) dX14_isLeftRound_46 rfl R (g0.y R) g125 ?_
      refine go_icmp_lt (pc' := 50) (tgt := 92) dX14_isLeftRound_47 (by decide) rfl (fun c126 => ?_) (fun c126 => ?_)
      · have hf := it c126 hf
        refine go_iload (pc' := 94) dX14_isLeftRound_92 rfl rfl ?_
        refine go_istoreE rfl (pc' := 96) dX14_isLeftRound_94 rfl (by decide) rfl ?_
        exact t_X14_isLeftRound_96 @ih R g0 hf
      · have hf := ie c126 hf
        refine go_aload_n (i := 0) (pc' := 51) dX14_isLeftRound_50 rfl rfl rfl ?_
        refine go_getS (pc' := 54) dX14_isLeftRound_51 rfl gf_LandBaseModel_36 R (g0.at R) (by decide) rfl ?_
        refine go_iload_n (i := 2) (pc' := 55) dX14_isLeftRound_54 rfl rfl rfl ?_
        refine go_iload (pc' := 57) dX14_isLeftRound_55 rfl rfl ?_
        refine go_iadd (pc' := 58) dX14_isLeftRound_57 rfl ?_
        obtain ⟨g127, hf⟩ := gd_some hf
        refine go_ialoadS (pc' := 59) dX14_isLeftRound_58 rfl R (g0.y R) g127 ?_
        refine go_aload_n (i := 0) (pc' := 60) dX14_isLeftRound_59 rfl rfl rfl ?_
        refine go_getS (pc' := 63) dX14_isLeftRound_60 rfl gf_LandBaseModel_36 R (g0.at R) (by decide) rfl ?_
        refine go_iload_n (i := 2) (pc' := 64) dX14_isLeftRound_63 rfl rfl rfl ?_
        refine go_iload (pc' := 66) dX14_isLeftRound_64 rfl rfl ?_
        refine go_iadd (pc' := 67) dX14_isLeftRound_66 rfl ?_
        obtain ⟨g128, hf⟩ := gd_some hf
        refine go_ialoadS (pc' := 68) dX14_isLeftRound_67 rfl R (g0.y R) g128 ?_
        refine go_icmp_ne (pc' := 71) (tgt := 96) dX14_isLeftRound_68 (by decide) rfl (fun c129 => ?_) (fun c129 => ?_)
        · have hf := ie c129 hf
          refine go_iincC (kk := 1) (pc' := 99) dX14_isLeftRound_96 rfl rfl (by decide) (by decide) rfl ?_
          refine go_goto (pc' := 0) (tgt := 23) dX14_isLeftRound_99 (by decide) ?_
          exact ih R g0 hf
        · have hf := it c129 hf
          refine go_aload_n (i := 0) (pc' := 72) dX14_isLeftRound_71 rfl rfl rfl ?_
          refine go_getS (pc' := 75) dX14_isLeftRound_72 rfl gf_LandBaseModel_30 R (g0.at R) (by decide) rfl ?_
          refine go_iload_n (i := 2) (pc' := 76) dX14_isLeftRound_75 rfl rfl rfl ?_
          refine go_iload (pc' := 78) dX14_isLeftRound_76 rfl rfl ?_
          refine go_iadd (pc' := 79) dX14_isLeftRound_78 rfl ?_
          obtain ⟨g130, hf⟩ := gd_some hf
          refine go_ialoadS (pc' := 80) dX14_isLeftRound_79 rfl R (g0.x R) g130 ?_
          refine go_aload_n (i := 0) (pc' := 81) dX14_isLeftRound_80 rfl rfl rfl ?_
          refine go_getS (pc' := 84) dX14_isLeftRound_81 rfl gf_LandBaseModel_30 R (g0.at R) (by decide) rfl ?_
          refine go_iload_n (i := 2) (pc' := 85) dX14_isLeftRound_84 rfl rfl rfl ?_
          refine go_iload (pc' := 87) dX14_isLeftRound_85 rfl rfl ?_
          refine go_iadd (pc' := 88) dX14_isLeftRound_87 rfl ?_
          obtain ⟨g131, hf⟩ := gd_some hf
          refine go_ialoadS (pc' := 89) dX14_isLeftRound_88 rfl R (g0.x R) g131 ?_
          refine go_icmp_ge (pc' := 92) (tgt := 96) dX14_isLeftRound_89 (by decide) rfl (fun c132 => ?_) (fun c132 => ?_)
          · have hf := it c132 hf
            refine go_iincC (kk := 1) (pc' := 99) dX14_isLeftRound_96 rfl rfl (by decide) (by decide) rfl ?_
            refine go_goto (pc' := 0) (tgt := 23) dX14_isLeftRound_99 (by decide) ?_
            exact ih R g0 hf
          · have hf := ie c132 hf
            refine go_iload (pc' := 94) dX14_isLeftRound_92 rfl rfl ?_
            refine go_istoreE rfl (pc' := 96) dX14_isLeftRound_94 rfl (by decide) rfl ?_
            exact t_X14_isLeftRound_96 @ih R g0 hf
def f_X14_isLeftRound (n : Nat) (a0 : Nat) (x1 : Int32) (σ : xσ) : Option (Int32 × xσ) := gd (okM a0) (bd (f_X12_beginOf n a0 x1 σ) (fun v101 σ102 => gd (inb x1 8) (st (((sI σ102 (a0 + 1) x1.toNatClampNeg) - v101) - 1) (fun x107 => l_X14_isLeftRound_23 n xFU a0 v101 x107 0 1 σ102))))
set_option maxRecDepth 100000 in
set_option maxHeartbeats 4000000 in
theorem c_X14_isLeftRound {G : xG} {n : Nat} {σ : xσ} {h : xH} {a0 : Nat} {x1 : Int32} {v1 : Int32} {σ1 : xσ} (R : Rl n σ h) (hf : f_X14_isLeftRound n a0 x1 σ = some (v1, σ1)) : Ca G mX14_isLeftRound [.ref a0, .int x1] h (fun v h' => v = some (.int v1) ∧ Rl n σ1 h') := by
  refine Ca.of rfl (Nat.le_of_ble_eq_true rfl) ?_
  generalize hr : (v1, σ1) = r at hf
  suffices q : Go G mX14_isLeftRound 0 (xent (xMl mX14_isLeftRound) [.ref a0, .int x1]) [] h (fun v h' => xRok (xRt mX14_isLeftRound) v ∧ v = some (.int r.1) ∧ Rl n r.2 h') by
    subst hr
    exact q
  clear hr
  rw [f_X14_isLeftRound] at hf
  obtain ⟨g0, hf⟩ := gd_some hf
  refine go_aload_n (i := 0) (pc' := 1) dX14_isLeftRound_0 rfl rfl rfl ?_
  refine go_iload_n (i := 1) (pc' := 2) dX14_isLeftRound_1 rfl rfl rfl ?_
  obtain ⟨v101, σ102, e103, hf⟩ := bd_some hf
  refine go_invV (As := [_]) (pc' := 5) dX14_isLeftRound_2 rfl cf_X14_isLeftRound_64 rfl (R.ob (g0.at R)) rfl rfl (Nat.le_of_ble_eq_true rfl) (c_X12_beginOf R e103) (fun q104v h105 q104 => ?_)
  obtain ⟨rfl, R⟩ := q104
  refine go_istore_nE rfl (i := 2) (pc' := 6) dX14_isLeftRound_5 rfl rfl (by decide) rfl ?_
  refine go_aload_n (i := 0) (pc' := 7) dX14_isLeftRound_6 rfl rfl rfl ?_
  refine go_getS (pc' := 10) dX14_isLeftRound_7 rfl gf_LandBaseModel_68 R (g0.at R) (by decide) rfl ?_
  refine go_iload_n (i := 1) (pc' := 11) dX14_isLeftRound_10 rfl rfl rfl ?_
  obtain ⟨g106, hf⟩ := gd_some hf
  refine go_ialoadS (pc' := 12) dX14_isLeftRound_11 rfl R (g0.e R) g106 ?_
  refine go_iload_n (i := 2) (pc' := 13) dX14_isLeftRound_12 rfl rfl rfl ?_
  refine go_isub (pc' := 14) dX14_isLeftRound_13 rfl ?_
  refine go_iconst (v := 1) (pc' := 15) dX14_isLeftRound_14 rfl (by decide) ?_
  refine go_isub (pc' := 16) dX14_isLeftRound_15 rfl ?_
  obtain ⟨x107, e108, hf⟩ := st_some hf
  refine go_istore_nE e108 (i := 3) (pc' := 17) dX14_isLeftRound_16 rfl rfl (by decide) rfl ?_
  refine go_iconst (v := 0) (pc' := 18) dX14_isLeftRound_17 rfl (by decide) ?_
  refine go_istoreE rfl (pc' := 20) dX14_isLeftRound_18 rfl (by decide) rfl ?_
  refine go_iconst (v := 1) (pc' := 21) dX14_isLeftRound_20 rfl (by decide) ?_
  refine go_istoreE rfl (pc' := 23) dX14_isLeftRound_21 rfl (by decide) rfl ?_
  exact t_X14_isLeftRound_23 xFU R g0 hf
def b_X14_isInteriorLeft_14 (n : Nat) (xs0 : Int32) (xs1 : Int32) (σ : xσ) : Option (Int32 × xσ) := if xs1 = xs0 then some (1, σ) else some (0, σ)
set_option maxRecDepth 100000 in
set_option maxHeartbeats 4000000 in
theorem t_X14_isInteriorLeft_14 {G : xG} {n : Nat} {xs0 : Int32} {xs1 : Int32} {σ : xσ} {h : xH} {r : Int32 × xσ} {d0 : Option Value} {d1 : Option Value} : Rl n σ h → b_X14_isInteriorLeft_14 n xs0 xs1 σ = some r → Go G mX14_isInteriorLeft 14 [d0, d1] [.int xs0, .int xs1] h (fun v h' => xRok (xRt mX14_isInteriorLeft) v ∧ v = some (.int r.1) ∧ Rl n r.2 h') := by
  intro R hf
  rw [b_X14_isInteriorLeft_14] at hf
  refine go_icmp_ne (pc' := 17) (tgt := 21) dX14_isInteriorLeft_14 (by decide) rfl (fun c101 => ?_) (fun c101 => ?_)
  · have hf := ie c101 hf
    refine go_iconst (v := 0) (pc' := 22) dX14_isInteriorLeft_21 rfl (by decide) ?_
    obtain rfl := Option.some.inj hf
    exact Go.ret (v := some (.int _)) dX14_isInteriorLeft_22 ⟨_, rfl⟩ ⟨rfl, rfl, R⟩
  · have hf := it c101 hf
    refine go_iconst (v := 1) (pc' := 18) dX14_isInteriorLeft_17 rfl (by decide) ?_
    refine go_goto (pc' := 0) (tgt := 22) dX14_isInteriorLeft_18 (by decide) ?_
    obtain rfl := Option.some.inj hf
    exact Go.ret (v := some (.int _)) dX14_isInteriorLeft_22 ⟨_, rfl⟩ ⟨rfl, rfl, R⟩
def f_X14_isInteriorLeft (n : Nat) (a0 : Nat) (x1 : Int32) (σ : xσ) : Option (Int32 × xσ) := gd (okM a0) (bd (f_X14_isLeftRound n a0 x1 σ) (fun v101 σ102 => if x1 = 0 then b_X14_isInteriorLeft_14 n 1 v101 σ102 else b_X14_isInteriorLeft_14 n 0 v101 σ102))
set_option maxRecDepth 100000 in
set_option maxHeartbeats 4000000 in
theorem c_X14_isInteriorLeft {G : xG} {n : Nat} {σ : xσ} {h : xH} {a0 : Nat} {x1 : Int32} {v1 : Int32} {σ1 : xσ} (R : Rl n σ h) (hf : f_X14_isInteriorLeft n a0 x1 σ = some (v1, σ1)) : Ca G mX14_isInteriorLeft [.ref a0, .int x1] h (fun v h' => v = some (.int v1) ∧ Rl n σ1 h') := by
  refine Ca.of rfl (Nat.le_of_ble_eq_true rfl) ?_
  generalize hr : (v1, σ1) = r at hf
  suffices q : Go G mX14_isInteriorLeft 0 (xent (xMl mX14_isInteriorLeft) [.ref a0, .int x1]) [] h (fun v h' => xRok (xRt mX14_isInteriorLeft) v ∧ v = some (.int r.1) ∧ Rl n r.2 h') by
    subst hr
    exact q
  clear hr
  rw [f_X14_isInteriorLeft] at hf
  obtain ⟨g0, hf⟩ := gd_some hf
  refine go_aload_n (i := 0) (pc' := 1) dX14_isInteriorLeft_0 rfl rfl rfl ?_
  refine go_iload_n (i := 1) (pc' := 2) dX14_isInteriorLeft_1 rfl rfl rfl ?_
  obtain ⟨v101, σ102, e103, hf⟩ := bd_some hf
  refine go_invS (As := [_, _]) (pc' := 5) dX14_isInteriorLeft_2 rfl cf_X14_isInteriorLeft_90 rfl rfl (Nat.le_of_ble_eq_true rfl) (c_X14_isLeftRound R e103) (fun q104v h105 q104 => ?_)
  obtain ⟨rfl, R⟩ := q104
  refine go_iload_n (i := 1) (pc' := 6) dX14_isInteriorLeft_5 rfl rfl rfl ?_
  refine go_if_ne (pc' := 9) (tgt := 13) dX14_isInteriorLeft_6 (by decide) rfl (fun c106 => ?_) (fun c106 => ?_)
  · have hf := ie c106 hf
    refine go_iconst (v := 0) (pc' := 14) dX14_isInteriorLeft_13 rfl (by decide) ?_
    exact t_X14_isInteriorLeft_14 R hf
  · have hf := it c106 hf
    refine go_iconst (v := 1) (pc' := 10) dX14_isInteriorLeft_9 rfl (by decide) ?_
    refine go_goto (pc' := 0) (tgt := 14) dX14_isInteriorLeft_10 (by decide) ?_
    exact t_X14_isInteriorLeft_14 R hf
def l_X14_ringOf_2 (n : Nat) : Nat → Nat → Int32 → Int32 → xσ → Option (Int32 × xσ)
  | 0, _, _, _, _ => none
  | f + 1, a0, x1, x2, σ => gd (inb x2 8) (if x1 < (sI σ (a0 + 1) x2.toNatClampNeg) then some (x2, σ) else (l_X14_ringOf_2 n f) a0 x1 (x2 + 1) σ)
set_option maxRecDepth 100000 in
set_option maxHeartbeats 4000000 in
theorem t_X14_ringOf_2 {G : xG} {n : Nat} : ∀ (f : Nat) {a0 : Nat} {x1 : Int32} {x2 : Int32} {σ : xσ} {h : xH} {r : Int32 × xσ}, Rl n σ h → okM a0 → l_X14_ringOf_2 n f a0 x1 x2 σ = some r → Go G mX14_ringOf 2 [some (.ref a0), some (.int x1), some (.int x2)] [] h (fun v h' => xRok (xRt mX14_ringOf) v ∧ v = some (.int r.1) ∧ Rl n r.2 h') := by
  intro f
  induction f with
  | zero =>
    intros
    rename _ = some _ => hf
    rw [l_X14_ringOf_2] at hf
    cases hf
  | succ f ih =>
    intro a0 x1 x2 σ h r  R g0 hf
    rw [l_X14_ringOf_2] at hf
    refine go_aload_n (i := 0) (pc' := 3) dX14_ringOf_2 rfl rfl rfl ?_
    refine go_getS (pc' := 6) dX14_ringOf_3 rfl gf_LandBaseModel_68 R (g0.at R) (by decide) rfl ?_
    refine go_iload_n (i := 2) (pc' := 7) dX14_ringOf_6 rfl rfl rfl ?_
    obtain ⟨g101, hf⟩ := gd_some hf
    refine go_ialoadS (pc' := 8) dX14_ringOf_7 rfl R (g0.e R) g101 ?_
    refine go_iload_n (i := 1) (pc' := 9) dX14_ringOf_8 rfl rfl rfl ?_
    refine go_icmp_gt (pc' := 12) (tgt := 18) dX14_ringOf_9 (by decide) rfl (fun c102 => ?_) (fun c102 => ?_)
    · have hf := it c102 hf
      refine go_iload_n (i := 2) (pc' := 19) dX14_ringOf_18 rfl rfl rfl ?_
      obtain rfl := Option.some.inj hf
      exact Go.ret (v := some (.int _)) dX14_ringOf_19 ⟨_, rfl⟩ ⟨rfl, rfl, R⟩
    · have hf := ie c102 hf
      refine go_iincC (kk := 1) (pc' := 15) dX14_ringOf_12 rfl rfl (by decide) (by decide) rfl ?_
      refine go_goto (pc' := 0) (tgt := 2) dX14_ringOf_15 (by decide) ?_
      exact ih R g0 hf
def f_X14_ringOf (n : Nat) (a0 : Nat) (x1 : Int32) (σ : xσ) : Option (Int32 × xσ) := gd (okM a0) (l_X14_ringOf_2 n xFU a0 x1 0 σ)
set_option maxRecDepth 100000 in
set_option maxHeartbeats 4000000 in
theorem c_X14_ringOf {G : xG} {n : Nat} {σ : xσ} {h : xH} {a0 : Nat} {x1 : Int32} {v1 : Int32} {σ1 : xσ} (R : Rl n σ h) (hf : f_X14_ringOf n a0 x1 σ = some (v1, σ1)) : Ca G mX14_ringOf [.ref a0, .int x1] h (fun v h' => v = some (.int v1) ∧ Rl n σ1 h') := by
  refine Ca.of rfl (Nat.le_of_ble_eq_true rfl) ?_
  generalize hr : (v1, σ1) = r at hf
  suffices q : Go G mX14_ringOf 0 (xent (xMl mX14_ringOf) [.ref a0, .int x1]) [] h (fun v h' => xRok (xRt mX14_ringOf) v ∧ v = some (.int r.1) ∧ Rl n r.2 h') by
    subst hr
    exact q
  clear hr
  rw [f_X14_ringOf] at hf
  obtain ⟨g0, hf⟩ := gd_some hf
  refine go_iconst (v := 0) (pc' := 1) dX14_ringOf_0 rfl (by decide) ?_
  refine go_istore_nE rfl (i := 2) (pc' := 2) dX14_ringOf_1 rfl rfl (by decide) rfl ?_
  exact t_X14_ringOf_2 xFU R g0 hf
def b_X14_meetWays_378 (n : Nat) (xs0 : Int32) (σ : xσ) : Option (Unit × xσ) := gd (xs0 = 0 ∨ xs0 = 1) (st (wI σ 233 8 xs0) (fun σ102 => some ((), σ102)))
set_option maxRecDepth 100000 in
set_option maxHeartbeats 4000000 in
theorem t_X14_meetWays_378 {G : xG} {n : Nat} {xs0 : Int32} {σ : xσ} {h : xH} {r : Unit × xσ} {d0 : Option Value} {d1 : Option Value} {d2 : Option Value} {d3 : Option Value} {d4 : Option Value} {d5 : Option Value} {d6 : Option Value} {d7 : Option Value} {d8 : Option Value} {d9 : Option Value} {d10 : Option Value} {d11 : Option Value} {d12 : Option Value} {d13 : Option Value} {d14 : Option Value} {d15 : Option Value} {d16 : Option Value} : Rl n σ h → b_X14_meetWays_378 n xs0 σ = some r → Go G mX14_meetWays 378 [d0, d1, d2, d3, d4, d5, d6, d7, d8, d9, d10, d11, d12, d13, d14, d15, d16] [.int xs0, .ref 233] h (fun v h' => xRok (xRt mX14_meetWays) v ∧ v = none ∧ Rl n r.2 h') := by
  intro R hf
  rw [b_X14_meetWays_378] at hf
  obtain ⟨g101, hf⟩ := gd_some hf
  obtain ⟨σ102, e103, hf⟩ := st_some hf
  refine go_putI (pc' := 381) dX14_meetWays_378 rfl pf_LandBaseModel_102 R (R.at rfl (by decide)) (by decide) rfl (nb g101) (nf g101) (fun h104 R => ?_)
  have R := Rl.cast e103 R
  obtain rfl := Option.some.inj hf
  exact Go.ret (v := none) dX14_meetWays_381 rfl ⟨trivial, rfl, R⟩
def b_X14_meetWays_307 (n : Nat) (l5 : Int64) (l7 : Int64) (l9 : Int64) (l11 : Int64) (σ : xσ) : Option (Unit × xσ) := if (sI σ 233 9) = 0 then bd (f_X14_cross n l5 l7 l9 l11 σ) (fun v102 σ103 => if (lg_cmp v102 ((0 : Int64))) = 0 then b_X14_meetWays_378 n 0 σ103 else if (lg_cmp (sJ σ103 233 11) ((0 : Int64))) < 0 then b_X14_meetWays_378 n 0 σ103 else if 0 < (lg_cmp (sJ σ103 233 11) (sJ σ103 233 10)) then b_X14_meetWays_378 n 0 σ103 else if (lg_cmp (sJ σ103 233 12) ((0 : Int64))) < 0 then b_X14_meetWays_378 n 0 σ103 else if 0 < (lg_cmp (sJ σ103 233 12) (sJ σ103 233 10)) then b_X14_meetWays_378 n 0 σ103 else b_X14_meetWays_378 n 1 σ103) else some ((), σ)
set_option maxRecDepth 100000 in
set_option maxHeartbeats 4000000 in
theorem t_X14_meetWays_307 {G : xG} {n : Nat} {l5 : Int64} {l7 : Int64} {l9 : Int64} {l11 : Int64} {σ : xσ} {h : xH} {r : Unit × xσ} {d1 : Option Value} {d2 : Option Value} {d3 : Option Value} {d4 : Option Value} {d13 : Option Value} {d14 : Option Value} {d15 : Option Value} {d16 : Option Value} : Rl n σ h → b_X14_meetWays_307 n l5 l7 l9 l11 σ = some r → Go G mX14_meetWays 307 [some (.ref 233), d1, d2, d3, d4, some (.long l5), none, some (.long l7), none, some (.long l9), none, some (.long l11), none, d13, d14, d15, d16] [] h (fun v h' => xRok (xRt mX14_meetWays) v ∧ v = none ∧ Rl n r.2 h') := by
  intro R hf
  rw [b_X14_meetWays_307] at hf
  refine go_aload_n (i := 0) (pc' := 308) dX14_meetWays_307 rfl rfl rfl ?_
  refine go_getS (pc' := 311) dX14_meetWays_308 rfl gf_LandBaseModel_98 R (R.at rfl (by decide)) (by decide) rfl ?_
  refine go_if_ne (pc' := 314) (tgt := 381) dX14_meetWays_311 (by decide) rfl (fun c101 => ?_) (fun c101 => ?_)
  · have hf := ie c101 hf
    obtain rfl := Option.some.inj hf
    exact Go.ret (v := none) dX14_meetWays_381 rfl ⟨trivial, rfl, R⟩
  · have hf := it c101 hf
    refine go_aload_n (i := 0) (pc' := 315) dX14_meetWays_314 rfl rfl rfl ?_
    refine go_lload (pc' := 317) dX14_meetWays_315 rfl rfl ?_
    refine go_lload (pc' := 319) dX14_meetWays_317 rfl rfl ?_
    refine go_lload (pc' := 321) dX14_meetWays_319 rfl rfl ?_
    refine go_lload (pc' := 323) dX14_meetWays_321 rfl rfl ?_
    obtain ⟨v102, σ103, e104, hf⟩ := bd_some hf
    refine go_invS (As := [_, _, _, _]) (pc' := 326) dX14_meetWays_323 rfl cf_X14_meetWays_39 rfl rfl (Nat.le_of_ble_eq_true rfl) (c_X14_cross R e104) (fun q105v h106 q105 => ?_)
    obtain ⟨rfl, R⟩ := q105
    refine go_lconst (v := 0) (pc' := 327) dX14_meetWays_326 rfl (by decide) ?_
    refine go_lcmp (pc' := 328) dX14_meetWays_327 rfl ?_
    refine go_if_eq (pc' := 331) (tgt := 377) dX14_meetWays_328 (by decide) rfl (fun c107 => ?_) (fun c107 => ?_)
    · have hf := it c107 hf
      refine go_iconst (v := 0) (pc' := 378) dX14_meetWays_377 rfl (by decide) ?_
      exact t_X14_meetWays_378 R hf
    · have hf := ie c107 hf
      refine go_aload_n (i := 0) (pc' := 332) dX14_meetWays_331 rfl rfl rfl ?_
      refine go_getS (pc' := 335) dX14_meetWays_332 rfl gf_LandBaseModel_105 R (R.at rfl (by decide)) (by decide) rfl ?_
      refine go_lconst (v := 0) (pc' := 336) dX14_meetWays_335 rfl (by decide) ?_
      refine go_lcmp (pc' := 337) dX14_meetWays_336 rfl ?_
      refine go_if_lt (pc' := 340) (tgt := 377) dX14_meetWays_337 (by decide) rfl (fun c108 => ?_) (fun c108 => ?_)
      · have hf := it c108 hf
        refine go_iconst (v := 0) (pc' := 378) dX14_meetWays_377 rfl (by decide) ?_
        exact t_X14_meetWays_378 R hf
      · have hf := ie c108 hf
        refine go_aload_n (i := 0) (pc' := 341) dX14_meetWays_340 rfl rfl rfl ?_
        refine go_getS (pc' := 344) dX14_meetWays_341 rfl gf_LandBaseModel_105 R (R.at rfl (by decide)) (by decide) rfl ?_
        refine go_aload_n (i := 0) (pc' := 345) dX14_meetWays_344 rfl rfl rfl ?_
        refine go_getS (pc' := 348) dX14_meetWays_345 rfl gf_LandBaseModel_94 R (R.at rfl (by decide)) (by decide) rfl ?_
        refine go_lcmp (pc' := 349) dX14_meetWays_348 rfl ?_
        refine go_if_gt (pc' := 352) (tgt := 377) dX14_meetWays_349 (by decide) rfl (fun c109 => ?_) (fun c109 => ?_)
        · have hf := it c109 hf
          refine go_iconst (v := 0) (pc' := 378) dX14_meetWays_377 rfl (by decide) ?_
          exact t_X14_meetWays_378 R hf
        · have hf := ie c109 hf
          refine go_aload_n (i := 0) (pc' := 353) dX14_meetWays_352 rfl rfl rfl ?_
          refine go_getS (pc' := 356) dX14_meetWays_353 rfl gf_LandBaseModel_108 R (R.at rfl (by decide)) (by decide) rfl ?_
          refine go_lconst (v := 0) (pc' := 357) dX14_meetWays_356 rfl (by decide) ?_
          refine go_lcmp (pc' := 358) dX14_meetWays_357 rfl ?_
          refine go_if_lt (pc' := 361) (tgt := 377) dX14_meetWays_358 (by decide) rfl (fun c110 => ?_) (fun c110 => ?_)
          · have hf := it c110 hf
            refine go_iconst (v := 0) (pc' := 378) dX14_meetWays_377 rfl (by decide) ?_
            exact t_X14_meetWays_378 R hf
          · have hf := ie c110 hf
            refine go_aload_n (i := 0) (pc' := 362) dX14_meetWays_361 rfl rfl rfl ?_
            refine go_getS (pc' := 365) dX14_meetWays_362 rfl gf_LandBaseModel_108 R (R.at rfl (by decide)) (by decide) rfl ?_
            refine go_aload_n (i := 0) (pc' := 366) dX14_meetWays_365 rfl rfl rfl ?_
            refine go_getS (pc' := 369) dX14_meetWays_366 rfl gf_LandBaseModel_94 R (R.at rfl (by decide)) (by decide) rfl ?_
            refine go_lcmp (pc' := 370) dX14_meetWays_369 rfl ?_
            refine go_if_gt (pc' := 373) (tgt := 377) dX14_meetWays_370 (by decide) rfl (fun c111 => ?_) (fun c111 => ?_)
            · have hf := it c111 hf
              refine go_iconst (v := 0) (pc' := 378) dX14_meetWays_377 rfl (by decide) ?_
              exact t_X14_meetWays_378 R hf
            · have hf := ie c111 hf
              refine go_iconst (v := 1) (pc' := 374) dX14_meetWays_373 rfl (by decide) ?_
              refine go_goto (pc' := 0) (tgt := 378) dX14_meetWays_374 (by decide) ?_
              exact t_X14_meetWays_378 R hf
def b_X14_meetWays_271 (n : Nat) (l5 : Int64) (l7 : Int64) (l9 : Int64) (l11 : Int64) (σ : xσ) : Option (Unit × xσ) := if 0 ≤ (lg_cmp (sJ σ 233 10) ((0 : Int64))) then if (sI σ 233 9) = 0 then bd (f_X14_cross n l5 l7 l9 l11 σ) (fun v103 σ104 => if (lg_cmp v103 ((0 : Int64))) = 0 then b_X14_meetWays_378 n 0 σ104 else if (lg_cmp (sJ σ104 233 11) ((0 : Int64))) < 0 then b_X14_meetWays_378 n 0 σ104 else if 0 < (lg_cmp (sJ σ104 233 11) (sJ σ104 233 10)) then b_X14_meetWays_378 n 0 σ104 else if (lg_cmp (sJ σ104 233 12) ((0 : Int64))) < 0 then b_X14_meetWays_378 n 0 σ104 else if 0 < (lg_cmp (sJ σ104 233 12) (sJ σ104 233 10)) then b_X14_meetWays_378 n 0 σ104 else b_X14_meetWays_378 n 1 σ104) else some ((), σ) else st (wJ σ 233 10 (-(sJ σ 233 10))) (fun σ113 => st (wJ σ113 233 11 (-(sJ σ113 233 11))) (fun σ116 => st (wJ σ116 233 12 (-(sJ σ116 233 12))) (fun σ119 => b_X14_meetWays_307 n l5 l7 l9 l11 σ119)))
set_option maxRecDepth 100000 in
set_option maxHeartbeats 4000000 in
theorem t_X14_meetWays_271 {G : xG} {n : Nat} {l5 : Int64} {l7 : Int64} {l9 : Int64} {l11 : Int64} {σ : xσ} {h : xH} {r : Unit × xσ} {d1 : Option Value} {d2 : Option Value} {d3 : Option Value} {d4 : Option Value} {d13 : Option Value} {d14 : Option Value} {d15 : Option Value} {d16 : Option Value} : Rl n σ h → b_X14_meetWays_271 n l5 l7 l9 l11 σ = some r → Go G mX14_meetWays 271 [some (.ref 233), d1, d2, d3, d4, some (.long l5), none, some (.long l7), none, some (.long l9), none, some (.long l11), none, d13, d14, d15, d16] [] h (fun v h' => xRok (xRt mX14_meetWays) v ∧ v = none ∧ Rl n r.2 h') := by
  intro R hf
  rw [b_X14_meetWays_271] at hf
  refine go_aload_n (i := 0) (pc' := 272) dX14_meetWays_271 rfl rfl rfl ?_
  refine go_getS (pc' := 275) dX14_meetWays_272 rfl gf_LandBaseModel_94 R (R.at rfl (by decide)) (by decide) rfl ?_
  refine go_lconst (v := 0) (pc' := 276) dX14_meetWays_275 rfl (by decide) ?_
  refine go_lcmp (pc' := 277) dX14_meetWays_276 rfl ?_
  refine go_if_ge (pc' := 280) (tgt := 307) dX14_meetWays_277 (by decide) rfl (fun c101 => ?_) (fun c101 => ?_)
  · have hf := it c101 hf
    refine go_aload_n (i := 0) (pc' := 308) dX14_meetWays_307 rfl rfl rfl ?_
    refine go_getS (pc' := 311) dX14_meetWays_308 rfl gf_LandBaseModel_98 R (R.at rfl (by decide)) (by decide) rfl ?_
    refine go_if_ne (pc' := 314) (tgt := 381) dX14_meetWays_311 (by decide) rfl (fun c102 => ?_) (fun c102 => ?_)
    · have hf := ie c102 hf
      obtain rfl := Option.some.inj hf
      exact Go.ret (v := none) dX14_meetWays_381 rfl ⟨trivial, rfl, R⟩
    · have hf := it c102 hf
      refine go_aload_n (i := 0) (pc' := 315) dX14_meetWays_314 rfl rfl rfl ?_
      refine go_lload (pc' := 317) dX14_meetWays_315 rfl rfl ?_
      refine go_lload (pc' := 319) dX14_meetWays_317 rfl rfl ?_
      refine go_lload (pc' := 321) dX14_meetWays_319 rfl rfl ?_
      refine go_lload (pc' := 323) dX14_meetWays_321 rfl rfl ?_
      obtain ⟨v103, σ104, e105, hf⟩ := bd_some hf
      refine go_invS (As := [_, _, _, _]) (pc' := 326) dX14_meetWays_323 rfl cf_X14_meetWays_39 rfl rfl (Nat.le_of_ble_eq_true rfl) (c_X14_cross R e105) (fun q106v h107 q106 => ?_)
      obtain ⟨rfl, R⟩ := q106
      refine go_lconst (v := 0) (pc' := 327) dX14_meetWays_326 rfl (by decide) ?_
      refine go_lcmp (pc' := 328) dX14_meetWays_327 rfl ?_
      refine go_if_eq (pc' := 331) (tgt := 377) dX14_meetWays_328 (by decide) rfl (fun c108 => ?_) (fun c108 => ?_)
      · have hf := it c108 hf
        refine go_iconst (v := 0) (pc' := 378) dX14_meetWays_377 rfl (by decide) ?_
        exact t_X14_meetWays_378 R hf
      · have hf := ie c108 hf
        refine go_aload_n (i := 0) (pc' := 332) dX14_meetWays_331 rfl rfl rfl ?_
        refine go_getS (pc' := 335) dX14_meetWays_332 rfl gf_LandBaseModel_105 R (R.at rfl (by decide)) (by decide) rfl ?_
        refine go_lconst (v := 0) (pc' := 336) dX14_meetWays_335 rfl (by decide) ?_
        refine go_lcmp (pc' := 337) dX14_meetWays_336 rfl ?_
        refine go_if_lt (pc' := 340) (tgt := 377) dX14_meetWays_337 (by decide) rfl (fun c109 => ?_) (fun c109 => ?_)
        · have hf := it c109 hf
          refine go_iconst (v := 0) (pc' := 378) dX14_meetWays_377 rfl (by decide) ?_
          exact t_X14_meetWays_378 R hf
        · have hf := ie c109 hf
          refine go_aload_n (i := 0) (pc' := 341) dX14_meetWays_340 rfl rfl rfl ?_
          refine go_getS (pc' := 344) dX14_meetWays_341 rfl gf_LandBaseModel_105 R (R.at rfl (by decide)) (by decide) rfl ?_
          refine go_aload_n (i := 0) (pc' := 345) dX14_meetWays_344 rfl rfl rfl ?_
          refine go_getS (pc' := 348) dX14_meetWays_345 rfl gf_LandBaseModel_94 R (R.at rfl (by decide)) (by decide) rfl ?_
          refine go_lcmp (pc' := 349) dX14_meetWays_348 rfl ?_
          refine go_if_gt (pc' := 352) (tgt := 377) dX14_meetWays_349 (by decide) rfl (fun c110 => ?_) (fun c110 => ?_)
          · have hf := it c110 hf
            refine go_iconst (v := 0) (pc' := 378) dX14_meetWays_377 rfl (by decide) ?_
            exact t_X14_meetWays_378 R hf
          · have hf := ie c110 hf
            refine go_aload_n (i := 0) (pc' := 353) dX14_meetWays_352 rfl rfl rfl ?_
            refine go_getS (pc' := 356) dX14_meetWays_353 rfl gf_LandBaseModel_108 R (R.at rfl (by decide)) (by decide) rfl ?_
            refine go_lconst (v := 0) (pc' := 357) dX14_meetWays_356 rfl (by decide) ?_
            refine go_lcmp (pc' := 358) dX14_meetWays_357 rfl ?_
            refine go_if_lt (pc' := 361) (tgt := 377) dX14_meetWays_358 (by decide) rfl (fun c111 => ?_) (fun c111 => ?_)
            · have hf := it c111 hf
              refine go_iconst (v := 0) (pc' := 378) dX14_meetWays_377 rfl (by decide) ?_
              exact t_X14_meetWays_378 R hf
            · have hf := ie c111 hf
              refine go_aload_n (i := 0) (pc' := 362) dX14_meetWays_361 rfl rfl rfl ?_
              refine go_getS (pc' := 365) dX14_meetWays_362 rfl gf_LandBaseModel_108 R (R.at rfl (by decide)) (by decide) rfl ?_
              refine go_aload_n (i := 0) (pc' := 366) dX14_meetWays_365 rfl rfl rfl ?_
              refine go_getS (pc' := 369) dX14_meetWays_366 rfl gf_LandBaseModel_94 R (R.at rfl (by decide)) (by decide) rfl ?_
              refine go_lcmp (pc' := 370) dX14_meetWays_369 rfl ?_
              refine go_if_gt (pc' := 373) (tgt := 377) dX14_meetWays_370 (by decide) rfl (fun c112 => ?_) (fun c112 => ?_)
              · have hf := it c112 hf
                refine go_iconst (v := 0) (pc' := 378) dX14_meetWays_377 rfl (by decide) ?_
                exact t_X14_meetWays_378 R hf
              · have hf := ie c112 hf
                refine go_iconst (v := 1) (pc' := 374) dX14_meetWays_373 rfl (by decide) ?_
                refine go_goto (pc' := 0) (tgt := 378) dX14_meetWays_374 (by decide) ?_
                exact t_X14_meetWays_378 R hf
  · have hf := ie c101 hf
    refine go_aload_n (i := 0) (pc' := 281) dX14_meetWays_280 rfl rfl rfl ?_
    refine go_aload_n (i := 0) (pc' := 282) dX14_meetWays_281 rfl rfl rfl ?_
    refine go_getS (pc' := 285) dX14_meetWays_282 rfl gf_LandBaseModel_94 R (R.at rfl (by decide)) (by decide) rfl ?_
    refine go_lneg (pc' := 286) dX14_meetWays_285 rfl ?_
    obtain ⟨σ113, e114, hf⟩ := st_some hf
    refine go_putJ (pc' := 289) dX14_meetWays_286 rfl pf_LandBaseModel_94 R (R.at rfl (by decide)) (by decide) rfl rfl rfl (fun h115 R => ?_)
    have R := Rl.cast e114 R
    refine go_aload_n (i := 0) (pc' := 290) dX14_meetWays_289 rfl rfl rfl ?_
    refine go_aload_n (i := 0) (pc' := 291) dX14_meetWays_290 rfl rfl rfl ?_
    refine go_getS (pc' := 294) dX14_meetWays_291 rfl gf_LandBaseModel_105 R (R.at rfl (by decide)) (by decide) rfl ?_
    refine go_lneg (pc' := 295) dX14_meetWays_294 rfl ?_
    obtain ⟨σ116, e117, hf⟩ := st_some hf
    refine go_putJ (pc' := 298) dX14_meetWays_295 rfl pf_LandBaseModel_105 R (R.at rfl (by decide)) (by decide) rfl rfl rfl (fun h118 R => ?_)
    have R := Rl.cast e117 R
    refine go_aload_n (i := 0) (pc' := 299) dX14_meetWays_298 rfl rfl rfl ?_
    refine go_aload_n (i := 0) (pc' := 300) dX14_meetWays_299 rfl rfl rfl ?_
    refine go_getS (pc' := 303) dX14_meetWays_300 rfl gf_LandBaseModel_108 R (R.at rfl (by decide)) (by decide) rfl ?_
    refine go_lneg (pc' := 304) dX14_meetWays_303 rfl ?_
    obtain ⟨σ119, e120, hf⟩ := st_some hf
    refine go_putJ (pc' := 307) dX14_meetWays_304 rfl pf_LandBaseModel_108 R (R.at rfl (by decide)) (by decide) rfl rfl rfl (fun h121 R => ?_)
    have R := Rl.cast e120 R
    exact t_X14_meetWays_307 R hf
def b_X14_meetWays_234 (n : Nat) (l5 : Int64) (l7 : Int64) (l9 : Int64) (l11 : Int64) (ls0 : Int64) (ls1 : Int64) (σ : xσ) : Option (Unit × xσ) := st (wJ σ 233 12 (ls1 + ls0)) (fun σ101 => b_X14_meetWays_271 n l5 l7 l9 l11 σ101)
set_option maxRecDepth 100000 in
set_option maxHeartbeats 4000000 in
theorem t_X14_meetWays_234 {G : xG} {n : Nat} {l5 : Int64} {l7 : Int64} {l9 : Int64} {l11 : Int64} {ls0 : Int64} {ls1 : Int64} {σ : xσ} {h : xH} {r : Unit × xσ} {d1 : Option Value} {d2 : Option Value} {d3 : Option Value} {d4 : Option Value} {d13 : Option Value} {d14 : Option Value} {d15 : Option Value} {d16 : Option Value} : Rl n σ h → b_X14_meetWays_234 n l5 l7 l9 l11 ls0 ls1 σ = some r → Go G mX14_meetWays 234 [some (.ref 233), d1, d2, d3, d4, some (.long l5), none, some (.long l7), none, some (.long l9), none, some (.long l11), none, d13, d14, d15, d16] [.long ls0, .long ls1, .ref 233] h (fun v h' => xRok (xRt mX14_meetWays) v ∧ v = none ∧ Rl n r.2 h') := by
  intro R hf
  rw [b_X14_meetWays_234] at hf
  refine go_ladd (pc' := 235) dX14_meetWays_234 rfl ?_
  obtain ⟨σ101, e102, hf⟩ := st_some hf
  refine go_putJ (pc' := 238) dX14_meetWays_235 rfl pf_LandBaseModel_108 R (R.at rfl (by decide)) (by decide) rfl rfl rfl (fun h103 R => ?_)
  have R := Rl.cast e102 R
  refine go_goto (pc' := 0) (tgt := 271) dX14_meetWays_238 (by decide) ?_
  exact t_X14_meetWays_271 R hf
def b_X14_meetWays_212 (n : Nat) (l5 : Int64) (l7 : Int64) (l9 : Int64) (l11 : Int64) (ls0 : Int64) (σ : xσ) : Option (Unit × xσ) := st (wJ σ 233 11 ls0) (fun σ101 => if (lg_cmp l5 ((0 : Int64))) = 0 then b_X14_meetWays_234 n l5 l7 l9 l11 l11 (sJ σ101 233 11) σ101 else b_X14_meetWays_234 n l5 l7 l9 l11 l9 (sJ σ101 233 11) σ101)
set_option maxRecDepth 100000 in
set_option maxHeartbeats 4000000 in
theorem t_X14_meetWays_212 {G : xG} {n : Nat} {l5 : Int64} {l7 : Int64} {l9 : Int64} {l11 : Int64} {ls0 : Int64} {σ : xσ} {h : xH} {r : Unit × xσ} {d1 : Option Value} {d2 : Option Value} {d3 : Option Value} {d4 : Option Value} {d13 : Option Value} {d14 : Option Value} {d15 : Option Value} {d16 : Option Value} : Rl n σ h → b_X14_meetWays_212 n l5 l7 l9 l11 ls0 σ = some r → Go G mX14_meetWays 212 [some (.ref 233), d1, d2, d3, d4, some (.long l5), none, some (.long l7), none, some (.long l9), none, some (.long l11), none, d13, d14, d15, d16] [.long ls0, .ref 233] h (fun v h' => xRok (xRt mX14_meetWays) v ∧ v = none ∧ Rl n r.2 h') := by
  intro R hf
  rw [b_X14_meetWays_212] at hf
  obtain ⟨σ101, e102, hf⟩ := st_some hf
  refine go_putJ (pc' := 215) dX14_meetWays_212 rfl pf_LandBaseModel_105 R (R.at rfl (by decide)) (by decide) rfl rfl rfl (fun h103 R => ?_)
  have R := Rl.cast e102 R
  refine go_aload_n (i := 0) (pc' := 216) dX14_meetWays_215 rfl rfl rfl ?_
  refine go_aload_n (i := 0) (pc' := 217) dX14_meetWays_216 rfl rfl rfl ?_
  refine go_getS (pc' := 220) dX14_meetWays_217 rfl gf_LandBaseModel_105 R (R.at rfl (by decide)) (by decide) rfl ?_
  refine go_lload (pc' := 222) dX14_meetWays_220 rfl rfl ?_
  refine go_lconst (v := 0) (pc' := 223) dX14_meetWays_222 rfl (by decide) ?_
  refine go_lcmp (pc' := 224) dX14_meetWays_223 rfl ?_
  refine go_if_eq (pc' := 227) (tgt := 232) dX14_meetWays_224 (by decide) rfl (fun c104 => ?_) (fun c104 => ?_)
  · have hf := it c104 hf
    refine go_lload (pc' := 234) dX14_meetWays_232 rfl rfl ?_
    exact t_X14_meetWays_234 R hf
  · have hf := ie c104 hf
    refine go_lload (pc' := 229) dX14_meetWays_227 rfl rfl ?_
    refine go_goto (pc' := 0) (tgt := 234) dX14_meetWays_229 (by decide) ?_
    exact t_X14_meetWays_234 R hf
def b_X14_meetWays_194 (n : Nat) (l5 : Int64) (l7 : Int64) (l9 : Int64) (l11 : Int64) (l13 : Int64) (l15 : Int64) (ls0 : Int64) (σ : xσ) : Option (Unit × xσ) := st (wJ σ 233 10 ls0) (fun σ101 => if (lg_cmp l5 ((0 : Int64))) = 0 then b_X14_meetWays_212 n l5 l7 l9 l11 l15 σ101 else b_X14_meetWays_212 n l5 l7 l9 l11 l13 σ101)
set_option maxRecDepth 100000 in
set_option maxHeartbeats 4000000 in
theorem t_X14_meetWays_194 {G : xG} {n : Nat} {l5 : Int64} {l7 : Int64} {l9 : Int64} {l11 : Int64} {l13 : Int64} {l15 : Int64} {ls0 : Int64} {σ : xσ} {h : xH} {r : Unit × xσ} {d1 : Option Value} {d2 : Option Value} {d3 : Option Value} {d4 : Option Value} : Rl n σ h → b_X14_meetWays_194 n l5 l7 l9 l11 l13 l15 ls0 σ = some r → Go G mX14_meetWays 194 [some (.ref 233), d1, d2, d3, d4, some (.long l5), none, some (.long l7), none, some (.long l9), none, some (.long l11), none, some (.long l13), none, some (.long l15), none] [.long ls0, .ref 233] h (fun v h' => xRok (xRt mX14_meetWays) v ∧ v = none ∧ Rl n r.2 h') := by
  intro R hf
  rw [b_X14_meetWays_194] at hf
  obtain ⟨σ101, e102, hf⟩ := st_some hf
  refine go_putJ (pc' := 197) dX14_meetWays_194 rfl pf_LandBaseModel_94 R (R.at rfl (by decide)) (by decide) rfl rfl rfl (fun h103 R => ?_)
  have R := Rl.cast e102 R
  refine go_aload_n (i := 0) (pc' := 198) dX14_meetWays_197 rfl rfl rfl ?_
  refine go_lload (pc' := 200) dX14_meetWays_198 rfl rfl ?_
  refine go_lconst (v := 0) (pc' := 201) dX14_meetWays_200 rfl (by decide) ?_
  refine go_lcmp (pc' := 202) dX14_meetWays_201 rfl ?_
  refine go_if_eq (pc' := 205) (tgt := 210) dX14_meetWays_202 (by decide) rfl (fun c104 => ?_) (fun c104 => ?_)
  · have hf := it c104 hf
    refine go_lload (pc' := 212) dX14_meetWays_210 rfl rfl ?_
    exact t_X14_meetWays_212 R hf
  · have hf := ie c104 hf
    refine go_lload (pc' := 207) dX14_meetWays_205 rfl rfl ?_
    refine go_goto (pc' := 0) (tgt := 212) dX14_meetWays_207 (by decide) ?_
    exact t_X14_meetWays_212 R hf
def b_X14_meetWays_162 (n : Nat) (l5 : Int64) (l7 : Int64) (l9 : Int64) (l11 : Int64) (l13 : Int64) (l15 : Int64) (xs0 : Int32) (σ : xσ) : Option (Unit × xσ) := gd (xs0 = 0 ∨ xs0 = 1) (st (wI σ 233 9 xs0) (fun σ102 => if (lg_cmp (sJ σ102 233 10) ((0 : Int64))) = 0 then st (wI σ102 233 8 0) (fun σ122 => if (lg_cmp l5 ((0 : Int64))) = 0 then b_X14_meetWays_194 n l5 l7 l9 l11 l13 l15 l7 σ122 else b_X14_meetWays_194 n l5 l7 l9 l11 l13 l15 l5 σ122) else bd (f_X14_cross n l13 l15 l9 l11 σ102) (fun v106 σ107 => st (wJ σ107 233 11 v106) (fun σ111 => bd (f_X14_cross n l13 l15 l5 l7 σ111) (fun v114 σ115 => st (wJ σ115 233 12 v114) (fun σ119 => b_X14_meetWays_271 n l5 l7 l9 l11 σ119))))))
set_option maxRecDepth 100000 in
set_option maxHeartbeats 4000000 in
theorem t_X14_meetWays_162 {G : xG} {n : Nat} {l5 : Int64} {l7 : Int64} {l9 : Int64} {l11 : Int64} {l13 : Int64} {l15 : Int64} {xs0 : Int32} {σ : xσ} {h : xH} {r : Unit × xσ} {d1 : Option Value} {d2 : Option Value} {d3 : Option Value} {d4 : Option Value} : Rl n σ h → b_X14_meetWays_162 n l5 l7 l9 l11 l13 l15 xs0 σ = some r → Go G mX14_meetWays 162 [some (.ref 233), d1, d2, d3, d4, some (.long l5), none, some (.long l7), none, some (.long l9), none, some (.long l11), none, some (.long l13), none, some (.long l15), none] [.int xs0, .ref 233] h (fun v h' => xRok (xRt mX14_meetWays) v ∧ v = none ∧ Rl n r.2 h') := by
  intro R hf
  rw [b_X14_meetWays_162] at hf
  obtain ⟨g101, hf⟩ := gd_some hf
  obtain ⟨σ102, e103, hf⟩ := st_some hf
  refine go_putI (pc' := 165) dX14_meetWays_162 rfl pf_LandBaseModel_98 R (R.at rfl (by decide)) (by decide) rfl (nb g101) (nf g101) (fun h104 R => ?_)
  have R := Rl.cast e103 R
  refine go_aload_n (i := 0) (pc' := 166) dX14_meetWays_165 rfl rfl rfl ?_
  refine go_getS (pc' := 169) dX14_meetWays_166 rfl gf_LandBaseModel_94 R (R.at rfl (by decide)) (by decide) rfl ?_
  refine go_lconst (v := 0) (pc' := 170) dX14_meetWays_169 rfl (by decide) ?_
  refine go_lcmp (pc' := 171) dX14_meetWays_170 rfl ?_
  refine go_if_ne (pc' := 174) (tgt := 241) dX14_meetWays_171 (by decide) rfl (fun c105 => ?_) (fun c105 => ?_)
  · have hf := ie c105 hf
    refine go_aload_n (i := 0) (pc' := 242) dX14_meetWays_241 rfl rfl rfl ?_
    refine go_lload (pc' := 244) dX14_meetWays_242 rfl rfl ?_
    refine go_lload (pc' := 246) dX14_meetWays_244 rfl rfl ?_
    refine go_lload (pc' := 248) dX14_meetWays_246 rfl rfl ?_
    refine go_lload (pc' := 250) dX14_meetWays_248 rfl rfl ?_
    obtain ⟨v106, σ107, e108, hf⟩ := bd_some hf
    refine go_invS (As := [_, _, _, _]) (pc' := 253) dX14_meetWays_250 rfl cf_X14_meetWays_39 rfl rfl (Nat.le_of_ble_eq_true rfl) (c_X14_cross R e108) (fun q109v h110 q109 => ?_)
    obtain ⟨rfl, R⟩ := q109
    obtain ⟨σ111, e112, hf⟩ := st_some hf
    refine go_putJ (pc' := 256) dX14_meetWays_253 rfl pf_LandBaseModel_105 R (R.at rfl (by decide)) (by decide) rfl rfl rfl (fun h113 R => ?_)
    have R := Rl.cast e112 R
    refine go_aload_n (i := 0) (pc' := 257) dX14_meetWays_256 rfl rfl rfl ?_
    refine go_lload (pc' := 259) dX14_meetWays_257 rfl rfl ?_
    refine go_lload (pc' := 261) dX14_meetWays_259 rfl rfl ?_
    refine go_lload (pc' := 263) dX14_meetWays_261 rfl rfl ?_
    refine go_lload (pc' := 265) dX14_meetWays_263 rfl rfl ?_
    obtain ⟨v114, σ115, e116, hf⟩ := bd_some hf
    refine go_invS (As := [_, _, _, _]) (pc' := 268) dX14_meetWays_265 rfl cf_X14_meetWays_39 rfl rfl (Nat.le_of_ble_eq_true rfl) (c_X14_cross R e116) (fun q117v h118 q117 => ?_)
    obtain ⟨rfl, R⟩ := q117
    obtain ⟨σ119, e120, hf⟩ := st_some hf
    refine go_putJ (pc' := 271) dX14_meetWays_268 rfl pf_LandBaseModel_108 R (R.at rfl (by decide)) (by decide) rfl rfl rfl (fun h121 R => ?_)
    have R := Rl.cast e120 R
    exact t_X14_meetWays_271 R hf
  · have hf := it c105 hf
    refine go_aload_n (i := 0) (pc' := 175) dX14_meetWays_174 rfl rfl rfl ?_
    refine go_iconst (v := 0) (pc' := 176) dX14_meetWays_175 rfl (by decide) ?_
    obtain ⟨σ122, e123, hf⟩ := st_some hf
    refine go_putI (pc' := 179) dX14_meetWays_176 rfl pf_LandBaseModel_102 R (R.at rfl (by decide)) (by decide) rfl rfl rfl (fun h124 R => ?_)
    have R := Rl.cast e123 R
    refine go_aload_n (i := 0) (pc' := 180) dX14_meetWays_179 rfl rfl rfl ?_
    refine go_lload (pc' := 182) dX14_meetWays_180 rfl rfl ?_
    refine go_lconst (v := 0) (pc' := 183) dX14_meetWays_182 rfl (by decide) ?_
    refine go_lcmp (pc' := 184) dX14_meetWays_183 rfl ?_
    refine go_if_eq (pc' := 187) (tgt := 192) dX14_meetWays_184 (by decide) rfl (fun c125 => ?_) (fun c125 => ?_)
    · have hf := it c125 hf
      refine go_lload (pc' := 194) dX14_meetWays_192 rfl rfl ?_
      exact t_X14_meetWays_194 R hf
    · have hf := ie c125 hf
      refine go_lload (pc' := 189) dX14_meetWays_187 rfl rfl ?_
      refine go_goto (pc' := 0) (tgt := 194) dX14_meetWays_189 (by decide) ?_
      exact t_X14_meetWays_194 R hf
def f_X14_meetWays (n : Nat) (a1 : Nat) (x2 : Int32) (a3 : Nat) (x4 : Int32) (σ : xσ) : Option (Unit × xσ) := gd (okM a1) (gd (okM a3) (gd (inb (x2 + 1) 40) (gd (inb x2 40) (st (((sI σ (a1 + 2) (x2 + 1).toNatClampNeg).toInt64) - ((sI σ (a1 + 2) x2.toNatClampNeg).toInt64)) (fun l103 => gd (inb (x2 + 1) 40) (gd (inb x2 40) (st (((sI σ (a1 + 3) (x2 + 1).toNatClampNeg).toInt64) - ((sI σ (a1 + 3) x2.toNatClampNeg).toInt64)) (fun l107 => gd (inb (x4 + 1) 40) (gd (inb x4 40) (st (((sI σ (a3 + 2) (x4 + 1).toNatClampNeg).toInt64) - ((sI σ (a3 + 2) x4.toNatClampNeg).toInt64)) (fun l111 => gd (inb (x4 + 1) 40) (gd (inb x4 40) (st (((sI σ (a3 + 3) (x4 + 1).toNatClampNeg).toInt64) - ((sI σ (a3 + 3) x4.toNatClampNeg).toInt64)) (fun l115 => gd (inb x4 40) (gd (inb x2 40) (st (((sI σ (a3 + 2) x4.toNatClampNeg).toInt64) - ((sI σ (a1 + 2) x2.toNatClampNeg).toInt64)) (fun l119 => gd (inb x4 40) (gd (inb x2 40) (st (((sI σ (a3 + 3) x4.toNatClampNeg).toInt64) - ((sI σ (a1 + 3) x2.toNatClampNeg).toInt64)) (fun l123 => bd (f_X14_cross n l103 l107 l111 l115 σ) (fun v125 σ126 => st (wJ σ126 233 10 v125) (fun σ130 => if (lg_cmp (sJ σ130 233 10) ((0 : Int64))) = 0 then bd (f_X14_cross n l103 l107 l119 l123 σ130) (fun v134 σ135 => if (lg_cmp v134 ((0 : Int64))) = 0 then b_X14_meetWays_162 n l103 l107 l111 l115 l119 l123 1 σ135 else b_X14_meetWays_162 n l103 l107 l111 l115 l119 l123 0 σ135) else b_X14_meetWays_162 n l103 l107 l111 l115 l119 l123 0 σ130))))))))))))))))))))))
set_option maxRecDepth 100000 in
set_option maxHeartbeats 4000000 in
theorem c_X14_meetWays {G : xG} {n : Nat} {σ : xσ} {h : xH} {a1 : Nat} {x2 : Int32} {a3 : Nat} {x4 : Int32} {v1 : Unit} {σ1 : xσ} (R : Rl n σ h) (hf : f_X14_meetWays n a1 x2 a3 x4 σ = some (v1, σ1)) : Ca G mX14_meetWays [.ref 233, .ref a1, .int x2, .ref a3, .int x4] h (fun v h' => v = none ∧ Rl n σ1 h') := by
  refine Ca.of rfl (Nat.le_of_ble_eq_true rfl) ?_
  generalize hr : (v1, σ1) = r at hf
  suffices q : Go G mX14_meetWays 0 (xent (xMl mX14_meetWays) [.ref 233, .ref a1, .int x2, .ref a3, .int x4]) [] h (fun v h' => xRok (xRt mX14_meetWays) v ∧ v = none ∧ Rl n r.2 h') by
    subst hr
    exact q
  clear hr
  rw [f_X14_meetWays] at hf
  obtain ⟨g1, hf⟩ := gd_some hf
  obtain ⟨g3, hf⟩ := gd_some hf
  refine go_aload_n (i := 1) (pc' := 1) dX14_meetWays_0 rfl rfl rfl ?_
  refine go_getS (pc' := 4) dX14_meetWays_1 rfl gf_LandBaseModel_30 R (g1.at R) (by decide) rfl ?_
  refine go_iload_n (i := 2) (pc' := 5) dX14_meetWays_4 rfl rfl rfl ?_
  refine go_iconst (v := 1) (pc' := 6) dX14_meetWays_5 rfl (by decide) ?_
  refine go_iadd (pc' := 7) dX14_meetWays_6 rfl ?_
  obtain ⟨g101, hf⟩ := gd_some hf
  refine go_ialoadS (pc' := 8) dX14_meetWays_7 rfl R (g1.x R) g101 ?_
  refine go_i2l (pc' := 9) dX14_meetWays_8 rfl rfl ?_
  refine go_aload_n (i := 1) (pc' := 10) dX14_meetWays_9 rfl rfl rfl ?_
  refine go_getS (pc' := 13) dX14_meetWays_10 rfl gf_LandBaseModel_30 R (g1.at R) (by decide) rfl ?_
  refine go_iload_n (i := 2) (pc' := 14) dX14_meetWays_13 rfl rfl rfl ?_
  obtain ⟨g102, hf⟩ := gd_some hf
  refine go_ialoadS (pc' := 15) dX14_meetWays_14 rfl R (g1.x R) g102 ?_
  refine go_i2l (pc' := 16) dX14_meetWays_15 rfl rfl ?_
  refine go_lsub (pc' := 17) dX14_meetWays_16 rfl ?_
  obtain ⟨l103, e104, hf⟩ := st_some hf
  refine go_lstoreE e104 (pc' := 19) dX14_meetWays_17 rfl (by decide) rfl ?_
  refine go_aload_n (i := 1) (pc' := 20) dX14_meetWays_19 rfl rfl rfl ?_
  refine go_getS (pc' := 23) dX14_meetWays_20 rfl gf_LandBaseModel_36 R (g1.at R) (by decide) rfl ?_
  refine go_iload_n (i := 2) (pc' := 24) dX14_meetWays_23 rfl rfl rfl ?_
  refine go_iconst (v := 1) (pc' := 25) dX14_meetWays_24 rfl (by decide) ?_
  refine go_iadd (pc' := 26) dX14_meetWays_25 rfl ?_
  obtain ⟨g105, hf⟩ := gd_some hf
  refine go_ialoadS (pc' := 27) dX14_meetWays_26 rfl R (g1.y R) g105 ?_
  refine go_i2l (pc' := 28) dX14_meetWays_27 rfl rfl ?_
  refine go_aload_n (i := 1) (pc' := 29) dX14_meetWays_28 rfl rfl rfl ?_
  refine go_getS (pc' := 32) dX14_meetWays_29 rfl gf_LandBaseModel_36 R (g1.at R) (by decide) rfl ?_
  refine go_iload_n (i := 2) (pc' := 33) dX14_meetWays_32 rfl rfl rfl ?_
  obtain ⟨g106, hf⟩ := gd_some hf
  refine go_ialoadS (pc' := 34) dX14_meetWays_33 rfl R (g1.y R) g106 ?_
  refine go_i2l (pc' := 35) dX14_meetWays_34 rfl rfl ?_
  refine go_lsub (pc' := 36) dX14_meetWays_35 rfl ?_
  obtain ⟨l107, e108, hf⟩ := st_some hf
  refine go_lstoreE e108 (pc' := 38) dX14_meetWays_36 rfl (by decide) rfl ?_
  refine go_aload_n (i := 3) (pc' := 39) dX14_meetWays_38 rfl rfl rfl ?_
  refine go_getS (pc' := 42) dX14_meetWays_39 rfl gf_LandBaseModel_30 R (g3.at R) (by decide) rfl ?_
  refine go_iload (pc' := 44) dX14_meetWays_42 rfl rfl ?_
  refine go_iconst (v := 1) (pc' := 45) dX14_meetWays_44 rfl (by decide) ?_
  refine go_iadd (pc' := 46) dX14_meetWays_45 rfl ?_
  obtain ⟨g109, hf⟩ := gd_some hf
  refine go_ialoadS (pc' := 47) dX14_meetWays_46 rfl R (g3.x R) g109 ?_
  refine go_i2l (pc' := 48) dX14_meetWays_47 rfl rfl ?_
  refine go_aload_n (i := 3) (pc' := 49) dX14_meetWays_48 rfl rfl rfl ?_
  refine go_getS (pc' := 52) dX14_meetWays_49 rfl gf_LandBaseModel_30 R (g3.at R) (by decide) rfl ?_
  refine go_iload (pc' := 54) dX14_meetWays_52 rfl rfl ?_
  obtain ⟨g110, hf⟩ := gd_some hf
  refine go_ialoadS (pc' := 55) dX14_meetWays_54 rfl R (g3.x R) g110 ?_
  refine go_i2l (pc' := 56) dX14_meetWays_55 rfl rfl ?_
  refine go_lsub (pc' := 57) dX14_meetWays_56 rfl ?_
  obtain ⟨l111, e112, hf⟩ := st_some hf
  refine go_lstoreE e112 (pc' := 59) dX14_meetWays_57 rfl (by decide) rfl ?_
  refine go_aload_n (i := 3) (pc' := 60) dX14_meetWays_59 rfl rfl rfl ?_
  refine go_getS (pc' := 63) dX14_meetWays_60 rfl gf_LandBaseModel_36 R (g3.at R) (by decide) rfl ?_
  refine go_iload (pc' := 65) dX14_meetWays_63 rfl rfl ?_
  refine go_iconst (v := 1) (pc' := 66) dX14_meetWays_65 rfl (by decide) ?_
  refine go_iadd (pc' := 67) dX14_meetWays_66 rfl ?_
  obtain ⟨g113, hf⟩ := gd_some hf
  refine go_ialoadS (pc' := 68) dX14_meetWays_67 rfl R (g3.y R) g113 ?_
  refine go_i2l (pc' := 69) dX14_meetWays_68 rfl rfl ?_
  refine go_aload_n (i := 3) (pc' := 70) dX14_meetWays_69 rfl rfl rfl ?_
  refine go_getS (pc' := 73) dX14_meetWays_70 rfl gf_LandBaseModel_36 R (g3.at R) (by decide) rfl ?_
  refine go_iload (pc' := 75) dX14_meetWays_73 rfl rfl ?_
  obtain ⟨g114, hf⟩ := gd_some hf
  refine go_ialoadS (pc' := 76) dX14_meetWays_75 rfl R (g3.y R) g114 ?_
  refine go_i2l (pc' := 77) dX14_meetWays_76 rfl rfl ?_
  refine go_lsub (pc' := 78) dX14_meetWays_77 rfl ?_
  obtain ⟨l115, e116, hf⟩ := st_some hf
  refine go_lstoreE e116 (pc' := 80) dX14_meetWays_78 rfl (by decide) rfl ?_
  refine go_aload_n (i := 3) (pc' := 81) dX14_meetWays_80 rfl rfl rfl ?_
  refine go_getS (pc' := 84) dX14_meetWays_81 rfl gf_LandBaseModel_30 R (g3.at R) (by decide) rfl ?_
  refine go_iload (pc' := 86) dX14_meetWays_84 rfl rfl ?_
  obtain ⟨g117, hf⟩ := gd_some hf
  refine go_ialoadS (pc' := 87) dX14_meetWays_86 rfl R (g3.x R) g117 ?_
  refine go_i2l (pc' := 88) dX14_meetWays_87 rfl rfl ?_
  refine go_aload_n (i := 1) (pc' := 89) dX14_meetWays_88 rfl rfl rfl ?_
  refine go_getS (pc' := 92) dX14_meetWays_89 rfl gf_LandBaseModel_30 R (g1.at R) (by decide) rfl ?_
  refine go_iload_n (i := 2) (pc' := 93) dX14_meetWays_92 rfl rfl rfl ?_
  obtain ⟨g118, hf⟩ := gd_some hf
  refine go_ialoadS (pc' := 94) dX14_meetWays_93 rfl R (g1.x R) g118 ?_
  refine go_i2l (pc' := 95) dX14_meetWays_94 rfl rfl ?_
  refine go_lsub (pc' := 96) dX14_meetWays_95 rfl ?_
  obtain ⟨l119, e120, hf⟩ := st_some hf
  refine go_lstoreE e120 (pc' := 98) dX14_meetWays_96 rfl (by decide) rfl ?_
  refine go_aload_n (i := 3) (pc' := 99) dX14_meetWays_98 rfl rfl rfl ?_
  refine go_getS (pc' := 102) dX14_meetWays_99 rfl gf_LandBaseModel_36 R (g3.at R) (by decide) rfl ?_
  refine go_iload (pc' := 104) dX14_meetWays_102 rfl rfl ?_
  obtain ⟨g121, hf⟩ := gd_some hf
  refine go_ialoadS (pc' := 105) dX14_meetWays_104 rfl R (g3.y R) g121 ?_
  refine go_i2l (pc' := 106) dX14_meetWays_105 rfl rfl ?_
  refine go_aload_n (i := 1) (pc' := 107) dX14_meetWays_106 rfl rfl rfl ?_
  refine go_getS (pc' := 110) dX14_meetWays_107 rfl gf_LandBaseModel_36 R (g1.at R) (by decide) rfl ?_
  refine go_iload_n (i := 2) (pc' := 111) dX14_meetWays_110 rfl rfl rfl ?_
  obtain ⟨g122, hf⟩ := gd_some hf
  refine go_ialoadS (pc' := 112) dX14_meetWays_111 rfl R (g1.y R) g122 ?_
  refine go_i2l (pc' := 113) dX14_meetWays_112 rfl rfl ?_
  refine go_lsub (pc' := 114) dX14_meetWays_113 rfl ?_
  obtain ⟨l123, e124, hf⟩ := st_some hf
  refine go_lstoreE e124 (pc' := 116) dX14_meetWays_114 rfl (by decide) rfl ?_
  refine go_aload_n (i := 0) (pc' := 117) dX14_meetWays_116 rfl rfl rfl ?_
  refine go_lload (pc' := 119) dX14_meetWays_117 rfl rfl ?_
  refine go_lload (pc' := 121) dX14_meetWays_119 rfl rfl ?_
  refine go_lload (pc' := 123) dX14_meetWays_121 rfl rfl ?_
  refine go_lload (pc' := 125) dX14_meetWays_123 rfl rfl ?_
  obtain ⟨v125, σ126, e127, hf⟩ := bd_some hf
  refine go_invS (As := [_, _, _, _]) (pc' := 128) dX14_meetWays_125 rfl cf_X14_meetWays_39 rfl rfl (Nat.le_of_ble_eq_true rfl) (c_X14_cross R e127) (fun q128v h129 q128 => ?_)
  obtain ⟨rfl, R⟩ := q128
  obtain ⟨σ130, e131, hf⟩ := st_some hf
  refine go_putJ (pc' := 131) dX14_meetWays_128 rfl pf_LandBaseModel_94 R (R.at rfl (by decide)) (by decide) rfl rfl rfl (fun h132 R => ?_)
  have R := Rl.cast e131 R
  refine go_aload_n (i := 0) (pc' := 132) dX14_meetWays_131 rfl rfl rfl ?_
  refine go_aload_n (i := 0) (pc' := 133) dX14_meetWays_132 rfl rfl rfl ?_
  refine go_getS (pc' := 136) dX14_meetWays_133 rfl gf_LandBaseModel_94 R (R.at rfl (by decide)) (by decide) rfl ?_
  refine go_lconst (v := 0) (pc' := 137) dX14_meetWays_136 rfl (by decide) ?_
  refine go_lcmp (pc' := 138) dX14_meetWays_137 rfl ?_
  refine go_if_ne (pc' := 141) (tgt := 161) dX14_meetWays_138 (by decide) rfl (fun c133 => ?_) (fun c133 => ?_)
  · have hf := ie c133 hf
    refine go_iconst (v := 0) (pc' := 162) dX14_meetWays_161 rfl (by decide) ?_
    exact t_X14_meetWays_162 R hf
  · have hf := it c133 hf
    refine go_lload (pc' := 143) dX14_meetWays_141 rfl rfl ?_
    refine go_lload (pc' := 145) dX14_meetWays_143 rfl rfl ?_
    refine go_lload (pc' := 147) dX14_meetWays_145 rfl rfl ?_
    refine go_lload (pc' := 149) dX14_meetWays_147 rfl rfl ?_
    obtain ⟨v134, σ135, e136, hf⟩ := bd_some hf
    refine go_invS (As := [_, _, _, _]) (pc' := 152) dX14_meetWays_149 rfl cf_X14_meetWays_39 rfl rfl (Nat.le_of_ble_eq_true rfl) (c_X14_cross R e136) (fun q137v h138 q137 => ?_)
    obtain ⟨rfl, R⟩ := q137
    refine go_lconst (v := 0) (pc' := 153) dX14_meetWays_152 rfl (by decide) ?_
    refine go_lcmp (pc' := 154) dX14_meetWays_153 rfl ?_
    refine go_if_ne (pc' := 157) (tgt := 161) dX14_meetWays_154 (by decide) rfl (fun c139 => ?_) (fun c139 => ?_)
    · have hf := ie c139 hf
      refine go_iconst (v := 0) (pc' := 162) dX14_meetWays_161 rfl (by decide) ?_
      exact t_X14_meetWays_162 R hf
    · have hf := it c139 hf
      refine go_iconst (v := 1) (pc' := 158) dX14_meetWays_157 rfl (by decide) ?_
      refine go_goto (pc' := 0) (tgt := 162) dX14_meetWays_158 (by decide) ?_
      exact t_X14_meetWays_162 R hf
def f_X14_cut (n : Nat) (l1 : Int64) (σ : xσ) : Option (Unit × xσ) := if (lg_cmp l1 ((0 : Int64))) < 0 then some ((), σ) else if (lg_cmp l1 (sJ σ 233 10)) ≤ 0 then gd (inb (sI σ 233 13) 82) (st (wJ σ 238 (sI σ 233 13).toNatClampNeg l1) (fun σ104 => gd (inb (sI σ104 233 13) 82) (st (wJ σ104 239 (sI σ104 233 13).toNatClampNeg (sJ σ104 233 10)) (fun σ108 => st (wI σ108 233 13 ((sI σ108 233 13) + 1)) (fun σ111 => some ((), σ111)))))) else some ((), σ)
set_option maxRecDepth 100000 in
set_option maxHeartbeats 4000000 in
theorem c_X14_cut {G : xG} {n : Nat} {σ : xσ} {h : xH} {l1 : Int64} {v1 : Unit} {σ1 : xσ} (R : Rl n σ h) (hf : f_X14_cut n l1 σ = some (v1, σ1)) : Ca G mX14_cut [.ref 233, .long l1] h (fun v h' => v = none ∧ Rl n σ1 h') := by
  refine Ca.of rfl (Nat.le_of_ble_eq_true rfl) ?_
  generalize hr : (v1, σ1) = r at hf
  suffices q : Go G mX14_cut 0 (xent (xMl mX14_cut) [.ref 233, .long l1]) [] h (fun v h' => xRok (xRt mX14_cut) v ∧ v = none ∧ Rl n r.2 h') by
    subst hr
    exact q
  clear hr
  rw [f_X14_cut] at hf
  refine go_lload_n (i := 1) (pc' := 1) dX14_cut_0 rfl rfl rfl ?_
  refine go_lconst (v := 0) (pc' := 2) dX14_cut_1 rfl (by decide) ?_
  refine go_lcmp (pc' := 3) dX14_cut_2 rfl ?_
  refine go_if_lt (pc' := 6) (tgt := 15) dX14_cut_3 (by decide) rfl (fun c101 => ?_) (fun c101 => ?_)
  · have hf := it c101 hf
    obtain rfl := Option.some.inj hf
    exact Go.ret (v := none) dX14_cut_15 rfl ⟨trivial, rfl, R⟩
  · have hf := ie c101 hf
    refine go_lload_n (i := 1) (pc' := 7) dX14_cut_6 rfl rfl rfl ?_
    refine go_aload_n (i := 0) (pc' := 8) dX14_cut_7 rfl rfl rfl ?_
    refine go_getS (pc' := 11) dX14_cut_8 rfl gf_LandBaseModel_94 R (R.at rfl (by decide)) (by decide) rfl ?_
    refine go_lcmp (pc' := 12) dX14_cut_11 rfl ?_
    refine go_if_le (pc' := 15) (tgt := 16) dX14_cut_12 (by decide) rfl (fun c102 => ?_) (fun c102 => ?_)
    · have hf := it c102 hf
      refine go_aload_n (i := 0) (pc' := 17) dX14_cut_16 rfl rfl rfl ?_
      refine go_getS (pc' := 20) dX14_cut_17 rfl gf_LandBaseModel_111 R (R.at rfl (by decide)) (by decide) rfl ?_
      refine go_aload_n (i := 0) (pc' := 21) dX14_cut_20 rfl rfl rfl ?_
      refine go_getS (pc' := 24) dX14_cut_21 rfl gf_LandBaseModel_114 R (R.at rfl (by decide)) (by decide) rfl ?_
      refine go_lload_n (i := 1) (pc' := 25) dX14_cut_24 rfl rfl rfl ?_
      obtain ⟨g103, hf⟩ := gd_some hf
      obtain ⟨σ104, e105, hf⟩ := st_some hf
      refine go_lastoreS (pc' := 26) dX14_cut_25 rfl R (R.aa rfl (by decide)) g103 (fun h106 R => ?_)
      have R := Rl.cast e105 R
      refine go_aload_n (i := 0) (pc' := 27) dX14_cut_26 rfl rfl rfl ?_
      refine go_getS (pc' := 30) dX14_cut_27 rfl gf_LandBaseModel_117 R (R.at rfl (by decide)) (by decide) rfl ?_
      refine go_aload_n (i := 0) (pc' := 31) dX14_cut_30 rfl rfl rfl ?_
      refine go_getS (pc' := 34) dX14_cut_31 rfl gf_LandBaseModel_114 R (R.at rfl (by decide)) (by decide) rfl ?_
      refine go_aload_n (i := 0) (pc' := 35) dX14_cut_34 rfl rfl rfl ?_
      refine go_getS (pc' := 38) dX14_cut_35 rfl gf_LandBaseModel_94 R (R.at rfl (by decide)) (by decide) rfl ?_
      obtain ⟨g107, hf⟩ := gd_some hf
      obtain ⟨σ108, e109, hf⟩ := st_some hf
      refine go_lastoreS (pc' := 39) dX14_cut_38 rfl R (R.aa rfl (by decide)) g107 (fun h110 R => ?_)
      have R := Rl.cast e109 R
      refine go_aload_n (i := 0) (pc' := 40) dX14_cut_39 rfl rfl rfl ?_
      refine go_dup (pc' := 41) dX14_cut_40 rfl rfl ?_
      refine go_getS (pc' := 44) dX14_cut_41 rfl gf_LandBaseModel_114 R (R.at rfl (by decide)) (by decide) rfl ?_
      refine go_iconst (v := 1) (pc' := 45) dX14_cut_44 rfl (by decide) ?_
      refine go_iadd (pc' := 46) dX14_cut_45 rfl ?_
      obtain ⟨σ111, e112, hf⟩ := st_some hf
      refine go_putI (pc' := 49) dX14_cut_46 rfl pf_LandBaseModel_114 R (R.at rfl (by decide)) (by decide) rfl rfl rfl (fun h113 R => ?_)
      have R := Rl.cast e112 R
      obtain rfl := Option.some.inj hf
      exact Go.ret (v := none) dX14_cut_49 rfl ⟨trivial, rfl, R⟩
    · have hf := ie c102 hf
      obtain rfl := Option.some.inj hf
      exact Go.ret (v := none) dX14_cut_15 rfl ⟨trivial, rfl, R⟩
def b_X14_begins_69 (n : Nat) (l1 : Int64) (l3 : Int64) (x5 : Int32) (xs0 : Int32) (σ : xσ) : Option (Unit × xσ) := if xs0 < (sI σ 233 19) then st (wI σ 233 19 xs0) (fun σ102 => st (wJ σ102 233 20 l1) (fun σ105 => st (wJ σ105 233 21 l3) (fun σ108 => gd (x5 = 0 ∨ x5 = 1) (st (wI σ108 233 22 x5) (fun σ112 => some ((), σ112)))))) else if xs0 = (sI σ 233 19) then bd (f_X14_cross n (sJ σ 233 20) (sJ σ 233 21) l1 l3 σ) (fun v116 σ117 => if (lg_cmp v116 ((0 : Int64))) ≤ 0 then some ((), σ117) else st (wI σ117 233 19 xs0) (fun σ122 => st (wJ σ122 233 20 l1) (fun σ125 => st (wJ σ125 233 21 l3) (fun σ128 => gd (x5 = 0 ∨ x5 = 1) (st (wI σ128 233 22 x5) (fun σ132 => some ((), σ132))))))) else some ((), σ)
set_option maxRecDepth 100000 in
set_option maxHeartbeats 4000000 in
theorem t_X14_begins_69 {G : xG} {n : Nat} {l1 : Int64} {l3 : Int64} {x5 : Int32} {xs0 : Int32} {σ : xσ} {h : xH} {r : Unit × xσ} {d6 : Option Value} {d7 : Option Value} {d8 : Option Value} {d9 : Option Value} {d10 : Option Value} {d11 : Option Value} : Rl n σ h → b_X14_begins_69 n l1 l3 x5 xs0 σ = some r → Go G mX14_begins 69 [some (.ref 233), some (.long l1), none, some (.long l3), none, some (.int x5), d6, d7, d8, d9, d10, d11] [.int xs0] h (fun v h' => xRok (xRt mX14_begins) v ∧ v = none ∧ Rl n r.2 h') := by
  intro R hf
  rw [b_X14_begins_69] at hf
  refine go_istoreE rfl (pc' := 71) dX14_begins_69 rfl (by decide) rfl ?_
  refine go_iload (pc' := 73) dX14_begins_71 rfl rfl ?_
  refine go_aload_n (i := 0) (pc' := 74) dX14_begins_73 rfl rfl rfl ?_
  refine go_getS (pc' := 77) dX14_begins_74 rfl gf_LandBaseModel_132 R (R.at rfl (by decide)) (by decide) rfl ?_
  refine go_icmp_lt (pc' := 80) (tgt := 107) dX14_begins_77 (by decide) rfl (fun c101 => ?_) (fun c101 => ?_)
  · have hf := it c101 hf
    refine go_aload_n (i := 0) (pc' := 108) dX14_begins_107 rfl rfl rfl ?_
    refine go_iload (pc' := 110) dX14_begins_108 rfl rfl ?_
    obtain ⟨σ102, e103, hf⟩ := st_some hf
    refine go_putI (pc' := 113) dX14_begins_110 rfl pf_LandBaseModel_132 R (R.at rfl (by decide)) (by decide) rfl rfl rfl (fun h104 R => ?_)
    have R := Rl.cast e103 R
    refine go_aload_n (i := 0) (pc' := 114) dX14_begins_113 rfl rfl rfl ?_
    refine go_lload_n (i := 1) (pc' := 115) dX14_begins_114 rfl rfl rfl ?_
    obtain ⟨σ105, e106, hf⟩ := st_some hf
    refine go_putJ (pc' := 118) dX14_begins_115 rfl pf_LandBaseModel_135 R (R.at rfl (by decide)) (by decide) rfl rfl rfl (fun h107 R => ?_)
    have R := Rl.cast e106 R
    refine go_aload_n (i := 0) (pc' := 119) dX14_begins_118 rfl rfl rfl ?_
    refine go_lload_n (i := 3) (pc' := 120) dX14_begins_119 rfl rfl rfl ?_
    obtain ⟨σ108, e109, hf⟩ := st_some hf
    refine go_putJ (pc' := 123) dX14_begins_120 rfl pf_LandBaseModel_138 R (R.at rfl (by decide)) (by decide) rfl rfl rfl (fun h110 R => ?_)
    have R := Rl.cast e109 R
    refine go_aload_n (i := 0) (pc' := 124) dX14_begins_123 rfl rfl rfl ?_
    refine go_iload (pc' := 126) dX14_begins_124 rfl rfl ?_
    obtain ⟨g111, hf⟩ := gd_some hf
    obtain ⟨σ112, e113, hf⟩ := st_some hf
    refine go_putI (pc' := 129) dX14_begins_126 rfl pf_LandBaseModel_141 R (R.at rfl (by decide)) (by decide) rfl (nb g111) (nf g111) (fun h114 R => ?_)
    have R := Rl.cast e113 R
    obtain rfl := Option.some.inj hf
    exact Go.ret (v := none) dX14_begins_129 rfl ⟨trivial, rfl, R⟩
  · have hf := ie c101 hf
    refine go_iload (pc' := 82) dX14_begins_80 rfl rfl ?_
    refine go_aload_n (i := 0) (pc' := 83) dX14_begins_82 rfl rfl rfl ?_
    refine go_getS (pc' := 86) dX14_begins_83 rfl gf_LandBaseModel_132 R (R.at rfl (by decide)) (by decide) rfl ?_
    refine go_icmp_ne (pc' := 89) (tgt := 129) dX14_begins_86 (by decide) rfl (fun c115 => ?_) (fun c115 => ?_)
    · have hf := ie c115 hf
      obtain rfl := Option.some.inj hf
      exact Go.ret (v := none) dX14_begins_129 rfl ⟨trivial, rfl, R⟩
    · have hf := it c115 hf
      refine go_aload_n (i := 0) (pc' := 90) dX14_begins_89 rfl rfl rfl ?_
      refine go_getS (pc' := 93) dX14_begins_90 rfl gf_LandBaseModel_135 R (R.at rfl (by decide)) (by decide) rfl ?_
      refine go_aload_n (i := 0) (pc' := 94) dX14_begins_93 rfl rfl rfl ?_
      refine go_getS (pc' := 97) dX14_begins_94 rfl gf_LandBaseModel_138 R (R.at rfl (by decide)) (by decide) rfl ?_
      refine go_lload_n (i := 1) (pc' := 98) dX14_begins_97 rfl rfl rfl ?_
      refine go_lload_n (i := 3) (pc' := 99) dX14_begins_98 rfl rfl rfl ?_
      obtain ⟨v116, σ117, e118, hf⟩ := bd_some hf
      refine go_invS (As := [_, _, _, _]) (pc' := 102) dX14_begins_99 rfl cf_X14_begins_39 rfl rfl (Nat.le_of_ble_eq_true rfl) (c_X14_cross R e118) (fun q119v h120 q119 => ?_)
      obtain ⟨rfl, R⟩ := q119
      refine go_lconst (v := 0) (pc' := 103) dX14_begins_102 rfl (by decide) ?_
      refine go_lcmp (pc' := 104) dX14_begins_103 rfl ?_
      refine go_if_le (pc' := 107) (tgt := 129) dX14_begins_104 (by decide) rfl (fun c121 => ?_) (fun c121 => ?_)
      · have hf := it c121 hf
        obtain rfl := Option.some.inj hf
        exact Go.ret (v := none) dX14_begins_129 rfl ⟨trivial, rfl, R⟩
      · have hf := ie c121 hf
        refine go_aload_n (i := 0) (pc' := 108) dX14_begins_107 rfl rfl rfl ?_
        refine go_iload (pc' := 110) dX14_begins_108 rfl rfl ?_
        obtain ⟨σ122, e123, hf⟩ := st_some hf
        refine go_putI (pc' := 113) dX14_begins_110 rfl pf_LandBaseModel_132 R (R.at rfl (by decide)) (by decide) rfl rfl rfl (fun h124 R => ?_)
        have R := Rl.cast e123 R
        refine go_aload_n (i := 0) (pc' := 114) dX14_begins_113 rfl rfl rfl ?_
        refine go_lload_n (i := 1) (pc' := 115) dX14_begins_114 rfl rfl rfl ?_
        obtain ⟨σ125, e126, hf⟩ := st_some hf
        refine go_putJ (pc' := 118) dX14_begins_115 rfl pf_LandBaseModel_135 R (R.at rfl (by decide)) (by decide) rfl rfl rfl (fun h127 R => ?_)
        have R := Rl.cast e126 R
        refine go_aload_n (i := 0) (pc' := 119) dX14_begins_118 rfl rfl rfl ?_
        refine go_lload_n (i := 3) (pc' := 120) dX14_begins_119 rfl rfl rfl ?_
        obtain ⟨σ128, e129, hf⟩ := st_some hf
        refine go_putJ (pc' := 123) dX14_begins_120 rfl pf_LandBaseModel_138 R (R.at rfl (by decide)) (by decide) rfl rfl rfl (fun h130 R => ?_)
        have R := Rl.cast e129 R
        refine go_aload_n (i := 0) (pc' := 124) dX14_begins_123 rfl rfl rfl ?_
        refine go_iload (pc' := 126) dX14_begins_124 rfl rfl ?_
        obtain ⟨g131, hf⟩ := gd_some hf
        obtain ⟨σ132, e133, hf⟩ := st_some hf
        refine go_putI (pc' := 129) dX14_begins_126 rfl pf_LandBaseModel_141 R (R.at rfl (by decide)) (by decide) rfl (nb g131) (nf g131) (fun h134 R => ?_)
        have R := Rl.cast e133 R
        obtain rfl := Option.some.inj hf
        exact Go.ret (v := none) dX14_begins_129 rfl ⟨trivial, rfl, R⟩
def f_X14_begins (n : Nat) (l1 : Int64) (l3 : Int64) (x5 : Int32) (l6 : Int64) (l8 : Int64) (σ : xσ) : Option (Unit × xσ) := st (wI σ 233 16 1) (fun σ101 => bd (f_X14_cross n l1 l3 l6 l8 σ101) (fun v104 σ105 => bd (f_X14_sign n v104 σ105) (fun v109 σ110 => if v109 = 0 then bd (f_X14_dot n l1 l3 l6 l8 σ110) (fun v117 σ118 => if (lg_cmp v117 ((0 : Int64))) ≤ 0 then if v109 ≤ 0 then if v109 = 0 then b_X14_begins_69 n l1 l3 x5 1 σ118 else b_X14_begins_69 n l1 l3 x5 2 σ118 else b_X14_begins_69 n l1 l3 x5 0 σ118 else st (wI σ118 233 17 1) (fun σ125 => gd (x5 = 0 ∨ x5 = 1) (st (wI σ125 233 18 x5) (fun σ129 => some ((), σ129))))) else if v109 ≤ 0 then if v109 = 0 then b_X14_begins_69 n l1 l3 x5 1 σ110 else b_X14_begins_69 n l1 l3 x5 2 σ110 else b_X14_begins_69 n l1 l3 x5 0 σ110)))
set_option maxRecDepth 100000 in
set_option maxHeartbeats 4000000 in
theorem c_X14_begins {G : xG} {n : Nat} {σ : xσ} {h : xH} {l1 : Int64} {l3 : Int64} {x5 : Int32} {l6 : Int64} {l8 : Int64} {v1 : Unit} {σ1 : xσ} (R : Rl n σ h) (hf : f_X14_begins n l1 l3 x5 l6 l8 σ = some (v1, σ1)) : Ca G mX14_begins [.ref 233, .long l1, .long l3, .int x5, .long l6, .long l8] h (fun v h' => v = none ∧ Rl n σ1 h') := by
  refine Ca.of rfl (Nat.le_of_ble_eq_true rfl) ?_
  generalize hr : (v1, σ1) = r at hf
  suffices q : Go G mX14_begins 0 (xent (xMl mX14_begins) [.ref 233, .long l1, .long l3, .int x5, .long l6, .long l8]) [] h (fun v h' => xRok (xRt mX14_begins) v ∧ v = none ∧ Rl n r.2 h') by
    subst hr
    exact q
  clear hr
  rw [f_X14_begins] at hf
  refine go_aload_n (i := 0) (pc' := 1) dX14_begins_0 rfl rfl rfl ?_
  refine go_iconst (v := 1) (pc' := 2) dX14_begins_1 rfl (by decide) ?_
  obtain ⟨σ101, e102, hf⟩ := st_some hf
  refine go_putI (pc' := 5) dX14_begins_2 rfl pf_LandBaseModel_120 R (R.at rfl (by decide)) (by decide) rfl rfl rfl (fun h103 R => ?_)
  have R := Rl.cast e102 R
  refine go_lload_n (i := 1) (pc' := 6) dX14_begins_5 rfl rfl rfl ?_
  refine go_lload_n (i := 3) (pc' := 7) dX14_begins_6 rfl rfl rfl ?_
  refine go_lload (pc' := 9) dX14_begins_7 rfl rfl ?_
  refine go_lload (pc' := 11) dX14_begins_9 rfl rfl ?_
  obtain ⟨v104, σ105, e106, hf⟩ := bd_some hf
  refine go_invS (As := [_, _, _, _]) (pc' := 14) dX14_begins_11 rfl cf_X14_begins_39 rfl rfl (Nat.le_of_ble_eq_true rfl) (c_X14_cross R e106) (fun q107v h108 q107 => ?_)
  obtain ⟨rfl, R⟩ := q107
  obtain ⟨v109, σ110, e111, hf⟩ := bd_some hf
  refine go_invS (As := [_]) (pc' := 17) dX14_begins_14 rfl cf_X14_begins_43 rfl rfl (Nat.le_of_ble_eq_true rfl) (c_X14_sign R e111) (fun q112v h113 q112 => ?_)
  obtain ⟨rfl, R⟩ := q112
  refine go_istoreE rfl (pc' := 19) dX14_begins_17 rfl (by decide) rfl ?_
  refine go_iload (pc' := 21) dX14_begins_19 rfl rfl ?_
  refine go_if_ne (pc' := 24) (tgt := 50) dX14_begins_21 (by decide) rfl (fun c114 => ?_) (fun c114 => ?_)
  · have hf := ie c114 hf
    refine go_iload (pc' := 52) dX14_begins_50 rfl rfl ?_
    refine go_if_le (pc' := 55) (tgt := 59) dX14_begins_52 (by decide) rfl (fun c115 => ?_) (fun c115 => ?_)
    · have hf := it c115 hf
      refine go_iload (pc' := 61) dX14_begins_59 rfl rfl ?_
      refine go_if_ne (pc' := 64) (tgt := 68) dX14_begins_61 (by decide) rfl (fun c116 => ?_) (fun c116 => ?_)
      · have hf := ie c116 hf
        refine go_iconst (v := 2) (pc' := 69) dX14_begins_68 rfl (by decide) ?_
        exact t_X14_begins_69 R hf
      · have hf := it c116 hf
        refine go_iconst (v := 1) (pc' := 65) dX14_begins_64 rfl (by decide) ?_
        refine go_goto (pc' := 0) (tgt := 69) dX14_begins_65 (by decide) ?_
        exact t_X14_begins_69 R hf
    · have hf := ie c115 hf
      refine go_iconst (v := 0) (pc' := 56) dX14_begins_55 rfl (by decide) ?_
      refine go_goto (pc' := 0) (tgt := 69) dX14_begins_56 (by decide) ?_
      exact t_X14_begins_69 R hf
  · have hf := it c114 hf
    refine go_lload_n (i := 1) (pc' := 25) dX14_begins_24 rfl rfl rfl ?_
    refine go_lload_n (i := 3) (pc' := 26) dX14_begins_25 rfl rfl rfl ?_
    refine go_lload (pc' := 28) dX14_begins_26 rfl rfl ?_
    refine go_lload (pc' := 30) dX14_begins_28 rfl rfl ?_
    obtain ⟨v117, σ118, e119, hf⟩ := bd_some hf
    refine go_invS (As := [_, _, _, _]) (pc' := 33) dX14_begins_30 rfl cf_X14_begins_123 rfl rfl (Nat.le_of_ble_eq_true rfl) (c_X14_dot R e119) (fun q120v h121 q120 => ?_)
    obtain ⟨rfl, R⟩ := q120
    refine go_lconst (v := 0) (pc' := 34) dX14_begins_33 rfl (by decide) ?_
    refine go_lcmp (pc' := 35) dX14_begins_34 rfl ?_
    refine go_if_le (pc' := 38) (tgt := 50) dX14_begins_35 (by decide) rfl (fun c122 => ?_) (fun c122 => ?_)
    · have hf := it c122 hf
      refine go_iload (pc' := 52) dX14_begins_50 rfl rfl ?_
      refine go_if_le (pc' := 55) (tgt := 59) dX14_begins_52 (by decide) rfl (fun c123 => ?_) (fun c123 => ?_)
      · have hf := it c123 hf
        refine go_iload (pc' := 61) dX14_begins_59 rfl rfl ?_
        refine go_if_ne (pc' := 64) (tgt := 68) dX14_begins_61 (by decide) rfl (fun c124 => ?_) (fun c124 => ?_)
        · have hf := ie c124 hf
          refine go_iconst (v := 2) (pc' := 69) dX14_begins_68 rfl (by decide) ?_
          exact t_X14_begins_69 R hf
        · have hf := it c124 hf
          refine go_iconst (v := 1) (pc' := 65) dX14_begins_64 rfl (by decide) ?_
          refine go_goto (pc' := 0) (tgt := 69) dX14_begins_65 (by decide) ?_
          exact t_X14_begins_69 R hf
      · have hf := ie c123 hf
        refine go_iconst (v := 0) (pc' := 56) dX14_begins_55 rfl (by decide) ?_
        refine go_goto (pc' := 0) (tgt := 69) dX14_begins_56 (by decide) ?_
        exact t_X14_begins_69 R hf
    · have hf := ie c122 hf
      refine go_aload_n (i := 0) (pc' := 39) dX14_begins_38 rfl rfl rfl ?_
      refine go_iconst (v := 1) (pc' := 40) dX14_begins_39 rfl (by decide) ?_
      obtain ⟨σ125, e126, hf⟩ := st_some hf
      refine go_putI (pc' := 43) dX14_begins_40 rfl pf_LandBaseModel_126 R (R.at rfl (by decide)) (by decide) rfl rfl rfl (fun h127 R => ?_)
      have R := Rl.cast e126 R
      refine go_aload_n (i := 0) (pc' := 44) dX14_begins_43 rfl rfl rfl ?_
      refine go_iload (pc' := 46) dX14_begins_44 rfl rfl ?_
      obtain ⟨g128, hf⟩ := gd_some hf
      obtain ⟨σ129, e130, hf⟩ := st_some hf
      refine go_putI (pc' := 49) dX14_begins_46 rfl pf_LandBaseModel_129 R (R.at rfl (by decide)) (by decide) rfl (nb g128) (nf g128) (fun h131 R => ?_)
      have R := Rl.cast e130 R
      obtain rfl := Option.some.inj hf
      exact Go.ret (v := none) dX14_begins_49 rfl ⟨trivial, rfl, R⟩

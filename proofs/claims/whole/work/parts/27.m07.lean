/-! methods as functions, by program (gen/dcmall.py) -/
def b_X14_readPlain_138 (n : Nat) (σ : xσ) : Option (Unit × xσ) := bd (f_X14_put n 6 σ) (fun v101 σ102 => some ((), σ102))
set_option maxRecDepth 100000 in
set_option maxHeartbeats 4000000 in
theorem t_X14_readPlain_138 {G : xG} {n : Nat} {σ : xσ} {h : xH} {r : Unit × xσ} {d1 : Option Value} : Rl n σ h → b_X14_readPlain_138 n σ = some r → Go G mX14_readPlain 138 [some (.ref 233), d1] [] h (fun v h' => xRok (xRt mX14_readPlain) v ∧ v = none ∧ Rl n r.2 h') := by
  intro R hf
  rw [b_X14_readPlain_138] at hf
  refine go_aload_n (i := 0) (pc' := 139) dX14_readPlain_138 rfl rfl rfl ?_
  refine go_bipush (v := 6) (pc' := 141) dX14_readPlain_139 rfl (by decide) ?_
  obtain ⟨v101, σ102, e103, hf⟩ := bd_some hf
  refine go_invV (As := [_]) (pc' := 144) dX14_readPlain_141 rfl cf_X14_readPlain_557 rfl (R.ob (R.at rfl (by decide))) rfl rfl (Nat.le_of_ble_eq_true rfl) (c_X14_put R e103) (fun q104v h105 q104 => ?_)
  obtain ⟨rfl, R⟩ := q104
  refine go_goto (pc' := 0) (tgt := 230) dX14_readPlain_144 (by decide) ?_
  obtain rfl := Option.some.inj hf
  exact Go.ret (v := none) dX14_readPlain_230 rfl ⟨trivial, rfl, R⟩
def b_X14_readPlain_225 (n : Nat) (σ : xσ) : Option (Unit × xσ) := bd (f_X14_put n 0 σ) (fun v101 σ102 => some ((), σ102))
set_option maxRecDepth 100000 in
set_option maxHeartbeats 4000000 in
theorem t_X14_readPlain_225 {G : xG} {n : Nat} {σ : xσ} {h : xH} {r : Unit × xσ} {d1 : Option Value} : Rl n σ h → b_X14_readPlain_225 n σ = some r → Go G mX14_readPlain 225 [some (.ref 233), d1] [] h (fun v h' => xRok (xRt mX14_readPlain) v ∧ v = none ∧ Rl n r.2 h') := by
  intro R hf
  rw [b_X14_readPlain_225] at hf
  refine go_aload_n (i := 0) (pc' := 226) dX14_readPlain_225 rfl rfl rfl ?_
  refine go_iconst (v := 0) (pc' := 227) dX14_readPlain_226 rfl (by decide) ?_
  obtain ⟨v101, σ102, e103, hf⟩ := bd_some hf
  refine go_invV (As := [_]) (pc' := 230) dX14_readPlain_227 rfl cf_X14_readPlain_557 rfl (R.ob (R.at rfl (by decide))) rfl rfl (Nat.le_of_ble_eq_true rfl) (c_X14_put R e103) (fun q104v h105 q104 => ?_)
  obtain ⟨rfl, R⟩ := q104
  obtain rfl := Option.some.inj hf
  exact Go.ret (v := none) dX14_readPlain_230 rfl ⟨trivial, rfl, R⟩
def b_X14_readPlain_71 (n : Nat) (xs0 : Int32) (σ : xσ) : Option (Unit × xσ) := if 0 ≤ xs0 then bd (f_X14_next n σ) (fun v102 σ103 => bd (f_X14_expect n 59 σ103) (fun v107 σ108 => if (sI σ108 233 48) = 0 then if xs0 = 3 then bd (f_X14_put n 0 σ108) (fun v265 σ266 => some ((), σ266)) else if xs0 = 0 then if (sI σ108 233 32) = 0 then if xs0 = 0 then st (wI σ108 233 32 1) (fun σ152 => st (wI σ152 233 34 0) (fun σ155 => bd (f_X14_put n 0 σ155) (fun v158 σ159 => some ((), σ159)))) else if xs0 = 2 then bd (f_X13_take n 259 1061 σ108) (fun v136 σ137 => st (wI σ137 233 32 0) (fun σ141 => st (wI σ141 233 34 0) (fun σ144 => bd (f_X14_put n 0 σ144) (fun v147 σ148 => some ((), σ148))))) else if xs0 = 1 then bd (f_X14_isCommitted n σ108) (fun v130 σ131 => if v130 = 0 then some ((), σ131) else b_X14_readPlain_225 n σ131) else bd (f_X14_isSaved n σ108) (fun v119 σ120 => if v119 = 0 then some ((), σ120) else bd (f_X14_put n 0 σ120) (fun v125 σ126 => some ((), σ126))) else b_X14_readPlain_138 n σ108 else if xs0 = 4 then if (sI σ108 233 32) = 0 then if xs0 = 0 then st (wI σ108 233 32 1) (fun σ254 => st (wI σ254 233 34 0) (fun σ257 => bd (f_X14_put n 0 σ257) (fun v260 σ261 => some ((), σ261)))) else if xs0 = 2 then bd (f_X13_take n 259 1061 σ108) (fun v238 σ239 => st (wI σ239 233 32 0) (fun σ243 => st (wI σ243 233 34 0) (fun σ246 => bd (f_X14_put n 0 σ246) (fun v249 σ250 => some ((), σ250))))) else if xs0 = 1 then bd (f_X14_isCommitted n σ108) (fun v232 σ233 => if v232 = 0 then some ((), σ233) else b_X14_readPlain_225 n σ233) else bd (f_X14_isSaved n σ108) (fun v221 σ222 => if v221 = 0 then some ((), σ222) else bd (f_X14_put n 0 σ222) (fun v227 σ228 => some ((), σ228))) else b_X14_readPlain_138 n σ108 else if (sI σ108 233 32) = 0 then bd (f_X14_put n 6 σ108) (fun v212 σ213 => some ((), σ213)) else if xs0 = 0 then st (wI σ108 233 32 1) (fun σ201 => st (wI σ201 233 34 0) (fun σ204 => bd (f_X14_put n 0 σ204) (fun v207 σ208 => some ((), σ208)))) else if xs0 = 2 then bd (f_X13_take n 259 1061 σ108) (fun v185 σ186 => st (wI σ186 233 32 0) (fun σ190 => st (wI σ190 233 34 0) (fun σ193 => bd (f_X14_put n 0 σ193) (fun v196 σ197 => some ((), σ197))))) else if xs0 = 1 then bd (f_X14_isCommitted n σ108) (fun v179 σ180 => if v179 = 0 then some ((), σ180) else b_X14_readPlain_225 n σ180) else bd (f_X14_isSaved n σ108) (fun v168 σ169 => if v168 = 0 then some ((), σ169) else bd (f_X14_put n 0 σ169) (fun v174 σ175 => some ((), σ175))) else some ((), σ108))) else bd (f_X14_refuse n σ) (fun v270 σ271 => some ((), σ271))
set_option maxRecDepth 100000 in
set_option maxHeartbeats 4000000 in
theorem t_X14_readPlain_71 {G : xG} {n : Nat} {xs0 : Int32} {σ : xσ} {h : xH} {r : Unit × xσ} {d1 : Option Value} : Rl n σ h → b_X14_readPlain_71 n xs0 σ = some r → Go G mX14_readPlain 71 [some (.ref 233), d1] [.int xs0] h (fun v h' => xRok (xRt mX14_readPlain) v ∧ v = none ∧ Rl n r.2 h') := by
  intro R hf
  rw [b_X14_readPlain_71] at hf
  refine go_istore_nE rfl (i := 1) (pc' := 72) dX14_readPlain_71 rfl rfl (by decide) rfl ?_
  refine go_iload_n (i := 1) (pc' := 73) dX14_readPlain_72 rfl rfl rfl ?_
  refine go_if_ge (pc' := 76) (tgt := 81) dX14_readPlain_73 (by decide) rfl (fun c101 => ?_) (fun c101 => ?_)
  · have hf := it c101 hf
    refine go_aload_n (i := 0) (pc' := 82) dX14_readPlain_81 rfl rfl rfl ?_
    obtain ⟨v102, σ103, e104, hf⟩ := bd_some hf
    refine go_invV (As := []) (pc' := 85) dX14_readPlain_82 rfl cf_X14_readPlain_423 rfl (R.ob (R.at rfl (by decide))) rfl rfl (Nat.le_of_ble_eq_true rfl) (c_X14_next R e104) (fun q105v h106 q105 => ?_)
    obtain ⟨rfl, R⟩ := q105
    refine go_aload_n (i := 0) (pc' := 86) dX14_readPlain_85 rfl rfl rfl ?_
    refine go_bipush (v := 59) (pc' := 88) dX14_readPlain_86 rfl (by decide) ?_
    obtain ⟨v107, σ108, e109, hf⟩ := bd_some hf
    refine go_invV (As := [_]) (pc' := 91) dX14_readPlain_88 rfl cf_X14_readPlain_435 rfl (R.ob (R.at rfl (by decide))) rfl rfl (Nat.le_of_ble_eq_true rfl) (c_X14_expect R e109) (fun q110v h111 q110 => ?_)
    obtain ⟨rfl, R⟩ := q110
    refine go_aload_n (i := 0) (pc' := 92) dX14_readPlain_91 rfl rfl rfl ?_
    refine go_getS (pc' := 95) dX14_readPlain_92 rfl gf_LandBaseModel_365 R (R.at rfl (by decide)) (by decide) rfl ?_
    refine go_if_eq (pc' := 98) (tgt := 99) dX14_readPlain_95 (by decide) rfl (fun c112 => ?_) (fun c112 => ?_)
    · have hf := it c112 hf
      refine go_iload_n (i := 1) (pc' := 100) dX14_readPlain_99 rfl rfl rfl ?_
      refine go_iconst (v := 3) (pc' := 101) dX14_readPlain_100 rfl (by decide) ?_
      refine go_icmp_ne (pc' := 104) (tgt := 112) dX14_readPlain_101 (by decide) rfl (fun c113 => ?_) (fun c113 => ?_)
      · have hf := ie c113 hf
        refine go_iload_n (i := 1) (pc' := 113) dX14_readPlain_112 rfl rfl rfl ?_
        refine go_if_eq (pc' := 116) (tgt := 121) dX14_readPlain_113 (by decide) rfl (fun c114 => ?_) (fun c114 => ?_)
        · have hf := it c114 hf
          refine go_aload_n (i := 0) (pc' := 122) dX14_readPlain_121 rfl rfl rfl ?_
          refine go_getS (pc' := 125) dX14_readPlain_122 rfl gf_LandBaseModel_321 R (R.at rfl (by decide)) (by decide) rfl ?_
          refine go_if_eq (pc' := 128) (tgt := 147) dX14_readPlain_125 (by decide) rfl (fun c115 => ?_) (fun c115 => ?_)
          · have hf := it c115 hf
            refine go_iload_n (i := 1) (pc' := 148) dX14_readPlain_147 rfl rfl rfl ?_
            refine go_if_ne (pc' := 151) (tgt := 169) dX14_readPlain_148 (by decide) rfl (fun c116 => ?_) (fun c116 => ?_)
            · have hf := ie c116 hf
              refine go_iload_n (i := 1) (pc' := 170) dX14_readPlain_169 rfl rfl rfl ?_
              refine go_iconst (v := 2) (pc' := 171) dX14_readPlain_170 rfl (by decide) ?_
              refine go_icmp_ne (pc' := 174) (tgt := 203) dX14_readPlain_171 (by decide) rfl (fun c117 => ?_) (fun c117 => ?_)
              · have hf := ie c117 hf
                refine go_iload_n (i := 1) (pc' := 204) dX14_readPlain_203 rfl rfl rfl ?_
                refine go_iconst (v := 1) (pc' := 205) dX14_readPlain_204 rfl (by decide) ?_
                refine go_icmp_ne (pc' := 208) (tgt := 218) dX14_readPlain_205 (by decide) rfl (fun c118 => ?_) (fun c118 => ?_)
                · have hf := ie c118 hf
                  refine go_aload_n (i := 0) (pc' := 219) dX14_readPlain_218 rfl rfl rfl ?_
                  obtain ⟨v119, σ120, e121, hf⟩ := bd_some hf
                  refine go_invV (As := []) (pc' := 222) dX14_readPlain_219 rfl cf_X14_readPlain_341 rfl (R.ob (R.at rfl (by decide))) rfl rfl (Nat.le_of_ble_eq_true rfl) (c_X14_isSaved R e121) (fun q122v h123 q122 => ?_)
                  obtain ⟨rfl, R⟩ := q122
                  refine go_if_eq (pc' := 225) (tgt := 230) dX14_readPlain_222 (by decide) rfl (fun c124 => ?_) (fun c124 => ?_)
                  · have hf := it c124 hf
                    obtain rfl := Option.some.inj hf
                    exact Go.ret (v := none) dX14_readPlain_230 rfl ⟨trivial, rfl, R⟩
                  · have hf := ie c124 hf
                    refine go_aload_n (i := 0) (pc' := 226) dX14_readPlain_225 rfl rfl rfl ?_
                    refine go_iconst (v := 0) (pc' := 227) dX14_readPlain_226 rfl (by decide) ?_
                    obtain ⟨v125, σ126, e127, hf⟩ := bd_some hf
                    refine go_invV (As := [_]) (pc' := 230) dX14_readPlain_227 rfl cf_X14_readPlain_557 rfl (R.ob (R.at rfl (by decide))) rfl rfl (Nat.le_of_ble_eq_true rfl) (c_X14_put R e127) (fun q128v h129 q128 => ?_)
                    obtain ⟨rfl, R⟩ := q128
                    obtain rfl := Option.some.inj hf
                    exact Go.ret (v := none) dX14_readPlain_230 rfl ⟨trivial, rfl, R⟩
                · have hf := it c118 hf
                  refine go_aload_n (i := 0) (pc' := 209) dX14_readPlain_208 rfl rfl rfl ?_
                  obtain ⟨v130, σ131, e132, hf⟩ := bd_some hf
                  refine go_invV (As := []) (pc' := 212) dX14_readPlain_209 rfl cf_X14_readPlain_560 rfl (R.ob (R.at rfl (by decide))) rfl rfl (Nat.le_of_ble_eq_true rfl) (c_X14_isCommitted R e132) (fun q133v h134 q133 => ?_)
                  obtain ⟨rfl, R⟩ := q133
                  refine go_if_eq (pc' := 215) (tgt := 230) dX14_readPlain_212 (by decide) rfl (fun c135 => ?_) (fun c135 => ?_)
                  · have hf := it c135 hf
                    obtain rfl := Option.some.inj hf
                    exact Go.ret (v := none) dX14_readPlain_230 rfl ⟨trivial, rfl, R⟩
                  · have hf := ie c135 hf
                    refine go_goto (pc' := 0) (tgt := 225) dX14_readPlain_215 (by decide) ?_
                    exact t_X14_readPlain_225 R hf
              · have hf := it c117 hf
                refine go_aload_n (i := 0) (pc' := 175) dX14_readPlain_174 rfl rfl rfl ?_
                refine go_getS (pc' := 178) dX14_readPlain_175 rfl gf_LandBaseModel_351 R (R.at rfl (by decide)) (by decide) rfl ?_
                refine go_aload_n (i := 0) (pc' := 179) dX14_readPlain_178 rfl rfl rfl ?_
                refine go_getS (pc' := 182) dX14_readPlain_179 rfl gf_LandBaseModel_347 R (R.at rfl (by decide)) (by decide) rfl ?_
                obtain ⟨v136, σ137, e138, hf⟩ := bd_some hf
                refine go_invV (As := [_]) (pc' := 185) dX14_readPlain_182 rfl cf_X14_readPlain_354 rfl (R.ob (R.at rfl (by decide))) rfl rfl (Nat.le_of_ble_eq_true rfl) (c_X13_take R e138) (fun q139v h140 q139 => ?_)
                obtain ⟨rfl, R⟩ := q139
                refine go_aload_n (i := 0) (pc' := 186) dX14_readPlain_185 rfl rfl rfl ?_
                refine go_iconst (v := 0) (pc' := 187) dX14_readPlain_186 rfl (by decide) ?_
                obtain ⟨σ141, e142, hf⟩ := st_some hf
                refine go_putI (pc' := 190) dX14_readPlain_187 rfl pf_LandBaseModel_321 R (R.at rfl (by decide)) (by decide) rfl rfl rfl (fun h143 R => ?_)
                have R := Rl.cast e142 R
                refine go_aload_n (i := 0) (pc' := 191) dX14_readPlain_190 rfl rfl rfl ?_
                refine go_iconst (v := 0) (pc' := 192) dX14_readPlain_191 rfl (by decide) ?_
                obtain ⟨σ144, e145, hf⟩ := st_some hf
                refine go_putI (pc' := 195) dX14_readPlain_192 rfl pf_LandBaseModel_338 R (R.at rfl (by decide)) (by decide) rfl rfl rfl (fun h146 R => ?_)
                have R := Rl.cast e145 R
                refine go_aload_n (i := 0) (pc' := 196) dX14_readPlain_195 rfl rfl rfl ?_
                refine go_iconst (v := 0) (pc' := 197) dX14_readPlain_196 rfl (by decide) ?_
                obtain ⟨v147, σ148, e149, hf⟩ := bd_some hf
                refine go_invV (As := [_]) (pc' := 200) dX14_readPlain_197 rfl cf_X14_readPlain_557 rfl (R.ob (R.at rfl (by decide))) rfl rfl (Nat.le_of_ble_eq_true rfl) (c_X14_put R e149) (fun q150v h151 q150 => ?_)
                obtain ⟨rfl, R⟩ := q150
                refine go_goto (pc' := 0) (tgt := 230) dX14_readPlain_200 (by decide) ?_
                obtain rfl := Option.some.inj hf
                exact Go.ret (v := none) dX14_readPlain_230 rfl ⟨trivial, rfl, R⟩
            · have hf := it c116 hf
              refine go_aload_n (i := 0) (pc' := 152) dX14_readPlain_151 rfl rfl rfl ?_
              refine go_iconst (v := 1) (pc' := 153) dX14_readPlain_152 rfl (by decide) ?_
              obtain ⟨σ152, e153, hf⟩ := st_some hf
              refine go_putI (pc' := 156) dX14_readPlain_153 rfl pf_LandBaseModel_321 R (R.at rfl (by decide)) (by decide) rfl rfl rfl (fun h154 R => ?_)
              have R := Rl.cast e153 R
              refine go_aload_n (i := 0) (pc' := 157) dX14_readPlain_156 rfl rfl rfl ?_
              refine go_iconst (v := 0) (pc' := 158) dX14_readPlain_157 rfl (by decide) ?_
              obtain ⟨σ155, e156, hf⟩ := st_some hf
              refine go_putI (pc' := 161) dX14_readPlain_158 rfl pf_LandBaseModel_338 R (R.at rfl (by decide)) (by decide) rfl rfl rfl (fun h157 R => ?_)
              have R := Rl.cast e156 R
              refine go_aload_n (i := 0) (pc' := 162) dX14_readPlain_161 rfl rfl rfl ?_
              refine go_iconst (v := 0) (pc' := 163) dX14_readPlain_162 rfl (by decide) ?_
              obtain ⟨v158, σ159, e160, hf⟩ := bd_some hf
              refine go_invV (As := [_]) (pc' := 166) dX14_readPlain_163 rfl cf_X14_readPlain_557 rfl (R.ob (R.at rfl (by decide))) rfl rfl (Nat.le_of_ble_eq_true rfl) (c_X14_put R e160) (fun q161v h162 q161 => ?_)
              obtain ⟨rfl, R⟩ := q161
              refine go_goto (pc' := 0) (tgt := 230) dX14_readPlain_166 (by decide) ?_
              obtain rfl := Option.some.inj hf
              exact Go.ret (v := none) dX14_readPlain_230 rfl ⟨trivial, rfl, R⟩
          · have hf := ie c115 hf
            refine go_goto (pc' := 0) (tgt := 138) dX14_readPlain_128 (by decide) ?_
            exact t_X14_readPlain_138 R hf
        · have hf := ie c114 hf
          refine go_iload_n (i := 1) (pc' := 117) dX14_readPlain_116 rfl rfl rfl ?_
          refine go_iconst (v := 4) (pc' := 118) dX14_readPlain_117 rfl (by decide) ?_
          refine go_icmp_ne (pc' := 121) (tgt := 131) dX14_readPlain_118 (by decide) rfl (fun c163 => ?_) (fun c163 => ?_)
          · have hf := ie c163 hf
            refine go_aload_n (i := 0) (pc' := 132) dX14_readPlain_131 rfl rfl rfl ?_
            refine go_getS (pc' := 135) dX14_readPlain_132 rfl gf_LandBaseModel_321 R (R.at rfl (by decide)) (by decide) rfl ?_
            refine go_if_ne (pc' := 138) (tgt := 147) dX14_readPlain_135 (by decide) rfl (fun c164 => ?_) (fun c164 => ?_)
            · have hf := ie c164 hf
              refine go_iload_n (i := 1) (pc' := 148) dX14_readPlain_147 rfl rfl rfl ?_
              refine go_if_ne (pc' := 151) (tgt := 169) dX14_readPlain_148 (by decide) rfl (fun c165 => ?_) (fun c165 => ?_)
              · have hf := ie c165 hf
                refine go_iload_n (i := 1) (pc' := 170) dX14_readPlain_169 rfl rfl rfl ?_
                refine go_iconst (v := 2) (pc' := 171) dX14_readPlain_170 rfl (by decide) ?_
                refine go_icmp_ne (pc' := 174) (tgt := 203) dX14_readPlain_171 (by decide) rfl (fun c166 => ?_) (fun c166 => ?_)
                · have hf := ie c166 hf
                  refine go_iload_n (i := 1) (pc' := 204) dX14_readPlain_203 rfl rfl rfl ?_
                  refine go_iconst (v := 1) (pc' := 205) dX14_readPlain_204 rfl (by decide) ?_
                  refine go_icmp_ne (pc' := 208) (tgt := 218) dX14_readPlain_205 (by decide) rfl (fun c167 => ?_) (fun c167 => ?_)
                  · have hf := ie c167 hf
                    refine go_aload_n (i := 0) (pc' := 219) dX14_readPlain_218 rfl rfl rfl ?_
                    obtain ⟨v168, σ169, e170, hf⟩ := bd_some hf
                    refine go_invV (As := []) (pc' := 222) dX14_readPlain_219 rfl cf_X14_readPlain_341 rfl (R.ob (R.at rfl (by decide))) rfl rfl (Nat.le_of_ble_eq_true rfl) (c_X14_isSaved R e170) (fun q171v h172 q171 => ?_)
                    obtain ⟨rfl, R⟩ := q171
                    refine go_if_eq (pc' := 225) (tgt := 230) dX14_readPlain_222 (by decide) rfl (fun c173 => ?_) (fun c173 => ?_)
                    · have hf := it c173 hf
                      obtain rfl := Option.some.inj hf
                      exact Go.ret (v := none) dX14_readPlain_230 rfl ⟨trivial, rfl, R⟩
                    · have hf := ie c173 hf
                      refine go_aload_n (i := 0) (pc' := 226) dX14_readPlain_225 rfl rfl rfl ?_
                      refine go_iconst (v := 0) (pc' := 227) dX14_readPlain_226 rfl (by decide) ?_
                      obtain ⟨v174, σ175, e176, hf⟩ := bd_some hf
                      refine go_invV (As := [_]) (pc' := 230) dX14_readPlain_227 rfl cf_X14_readPlain_557 rfl (R.ob (R.at rfl (by decide))) rfl rfl (Nat.le_of_ble_eq_true rfl) (c_X14_put R e176) (fun q177v h178 q177 => ?_)
                      obtain ⟨rfl, R⟩ := q177
                      obtain rfl := Option.some.inj hf
                      exact Go.ret (v := none) dX14_readPlain_230 rfl ⟨trivial, rfl, R⟩
                  · have hf := it c167 hf
                    refine go_aload_n (i := 0) (pc' := 209) dX14_readPlain_208 rfl rfl rfl ?_
                    obtain ⟨v179, σ180, e181, hf⟩ := bd_some hf
                    refine go_invV (As := []) (pc' := 212) dX14_readPlain_209 rfl cf_X14_readPlain_560 rfl (R.ob (R.at rfl (by decide))) rfl rfl (Nat.le_of_ble_eq_true rfl) (c_X14_isCommitted R e181) (fun q182v h183 q182 => ?_)
                    obtain ⟨rfl, R⟩ := q182
                    refine go_if_eq (pc' := 215) (tgt := 230) dX14_readPlain_212 (by decide) rfl (fun c184 => ?_) (fun c184 => ?_)
                    · have hf := it c184 hf
                      obtain rfl := Option.some.inj hf
                      exact Go.ret (v := none) dX14_readPlain_230 rfl ⟨trivial, rfl, R⟩
                    · have hf := ie c184 hf
                      refine go_goto (pc' := 0) (tgt := 225) dX14_readPlain_215 (by decide) ?_
                      exact t_X14_readPlain_225 R hf
                · have hf := it c166 hf
                  refine go_aload_n (i := 0) (pc' := 175) dX14_readPlain_174 rfl rfl rfl ?_
                  refine go_getS (pc' := 178) dX14_readPlain_175 rfl gf_LandBaseModel_351 R (R.at rfl (by decide)) (by decide) rfl ?_
                  refine go_aload_n (i := 0) (pc' := 179) dX14_readPlain_178 rfl rfl rfl ?_
                  refine go_getS (pc' := 182) dX14_readPlain_179 rfl gf_LandBaseModel_347 R (R.at rfl (by decide)) (by decide) rfl ?_
                  obtain ⟨v185, σ186, e187, hf⟩ := bd_some hf
                  refine go_invV (As := [_]) (pc' := 185) dX14_readPlain_182 rfl cf_X14_readPlain_354 rfl (R.ob (R.at rfl (by decide))) rfl rfl (Nat.le_of_ble_eq_true rfl) (c_X13_take R e187) (fun q188v h189 q188 => ?_)
                  obtain ⟨rfl, R⟩ := q188
                  refine go_aload_n (i := 0) (pc' := 186) dX14_readPlain_185 rfl rfl rfl ?_
                  refine go_iconst (v := 0) (pc' := 187) dX14_readPlain_186 rfl (by decide) ?_
                  obtain ⟨σ190, e191, hf⟩ := st_some hf
                  refine go_putI (pc' := 190) dX14_readPlain_187 rfl pf_LandBaseModel_321 R (R.at rfl (by decide)) (by decide) rfl rfl rfl (fun h192 R => ?_)
                  have R := Rl.cast e191 R
                  refine go_aload_n (i := 0) (pc' := 191) dX14_readPlain_190 rfl rfl rfl ?_
                  refine go_iconst (v := 0) (pc' := 192) dX14_readPlain_191 rfl (by decide) ?_
                  obtain ⟨σ193, e194, hf⟩ := st_some hf
                  refine go_putI (pc' := 195) dX14_readPlain_192 rfl pf_LandBaseModel_338 R (R.at rfl (by decide)) (by decide) rfl rfl rfl (fun h195 R => ?_)
                  have R := Rl.cast e194 R
                  refine go_aload_n (i := 0) (pc' := 196) dX14_readPlain_195 rfl rfl rfl ?_
                  refine go_iconst (v := 0) (pc' := 197) dX14_readPlain_196 rfl (by decide) ?_
                  obtain ⟨v196, σ197, e198, hf⟩ := bd_some hf
                  refine go_invV (As := [_]) (pc' := 200) dX14_readPlain_197 rfl cf_X14_readPlain_557 rfl (R.ob (R.at rfl (by decide))) rfl rfl (Nat.le_of_ble_eq_true rfl) (c_X14_put R e198) (fun q199v h200 q199 => ?_)
                  obtain ⟨rfl, R⟩ := q199
                  refine go_goto (pc' := 0) (tgt := 230) dX14_readPlain_200 (by decide) ?_
                  obtain rfl := Option.some.inj hf
                  exact Go.ret (v := none) dX14_readPlain_230 rfl ⟨trivial, rfl, R⟩
              · have hf := it c165 hf
                refine go_aload_n (i := 0) (pc' := 152) dX14_readPlain_151 rfl rfl rfl ?_
                refine go_iconst (v := 1) (pc' := 153) dX14_readPlain_152 rfl (by decide) ?_
                obtain ⟨σ201, e202, hf⟩ := st_some hf
                refine go_putI (pc' := 156) dX14_readPlain_153 rfl pf_LandBaseModel_321 R (R.at rfl (by decide)) (by decide) rfl rfl rfl (fun h203 R => ?_)
                have R := Rl.cast e202 R
                refine go_aload_n (i := 0) (pc' := 157) dX14_readPlain_156 rfl rfl rfl ?_
                refine go_iconst (v := 0) (pc' := 158) dX14_readPlain_157 rfl (by decide) ?_
                obtain ⟨σ204, e205, hf⟩ := st_some hf
                refine go_putI (pc' := 161) dX14_readPlain_158 rfl pf_LandBaseModel_338 R (R.at rfl (by decide)) (by decide) rfl rfl rfl (fun h206 R => ?_)
                have R := Rl.cast e205 R
                refine go_aload_n (i := 0) (pc' := 162) dX14_readPlain_161 rfl rfl rfl ?_
                refine go_iconst (v := 0) (pc' := 163) dX14_readPlain_162 rfl (by decide) ?_
                obtain ⟨v207, σ208, e209, hf⟩ := bd_some hf
                refine go_invV (As := [_]) (pc' := 166) dX14_readPlain_163 rfl cf_X14_readPlain_557 rfl (R.ob (R.at rfl (by decide))) rfl rfl (Nat.le_of_ble_eq_true rfl) (c_X14_put R e209) (fun q210v h211 q210 => ?_)
                obtain ⟨rfl, R⟩ := q210
                refine go_goto (pc' := 0) (tgt := 230) dX14_readPlain_166 (by decide) ?_
                obtain rfl := Option.some.inj hf
                exact Go.ret (v := none) dX14_readPlain_230 rfl ⟨trivial, rfl, R⟩
            · have hf := it c164 hf
              refine go_aload_n (i := 0) (pc' := 139) dX14_readPlain_138 rfl rfl rfl ?_
              refine go_bipush (v := 6) (pc' := 141) dX14_readPlain_139 rfl (by decide) ?_
              obtain ⟨v212, σ213, e214, hf⟩ := bd_some hf
              refine go_invV (As := [_]) (pc' := 144) dX14_readPlain_141 rfl cf_X14_readPlain_557 rfl (R.ob (R.at rfl (by decide))) rfl rfl (Nat.le_of_ble_eq_true rfl) (c_X14_put R e214) (fun q215v h216 q215 => ?_)
              obtain ⟨rfl, R⟩ := q215
              refine go_goto (pc' := 0) (tgt := 230) dX14_readPlain_144 (by decide) ?_
              obtain rfl := Option.some.inj hf
              exact Go.ret (v := none) dX14_readPlain_230 rfl ⟨trivial, rfl, R⟩
          · have hf := it c163 hf
            refine go_aload_n (i := 0) (pc' := 122) dX14_readPlain_121 rfl rfl rfl ?_
            refine go_getS (pc' := 125) dX14_readPlain_122 rfl gf_LandBaseModel_321 R (R.at rfl (by decide)) (by decide) rfl ?_
            refine go_if_eq (pc' := 128) (tgt := 147) dX14_readPlain_125 (by decide) rfl (fun c217 => ?_) (fun c217 => ?_)
            · have hf := it c217 hf
              refine go_iload_n (i := 1) (pc' := 148) dX14_readPlain_147 rfl rfl rfl ?_
              refine go_if_ne (pc' := 151) (tgt := 169) dX14_readPlain_148 (by decide) rfl (fun c218 => ?_) (fun c218 => ?_)
              · have hf := ie c218 hf
                refine go_iload_n (i := 1) (pc' := 170) dX14_readPlain_169 rfl rfl rfl ?_
                refine go_iconst (v := 2) (pc' := 171) dX14_readPlain_170 rfl (by decide) ?_
                refine go_icmp_ne (pc' := 174) (tgt := 203) dX14_readPlain_171 (by decide) rfl (fun c219 => ?_) (fun c219 => ?_)
                · have hf := ie c219 hf
                  refine go_iload_n (i := 1) (pc' := 204) dX14_readPlain_203 rfl rfl rfl ?_
                  refine go_iconst (v := 1) (pc' := 205) dX14_readPlain_204 rfl (by decide) ?_
                  refine go_icmp_ne (pc' := 208) (tgt := 218) dX14_readPlain_205 (by decide) rfl (fun c220 => ?_) (fun c220 => ?_)
                  · have hf := ie c220 hf
                    refine go_aload_n (i := 0) (pc' := 219) dX14_readPlain_218 rfl rfl rfl ?_
                    obtain ⟨v221, σ222, e223, hf⟩ := bd_some hf
                    refine go_invV (As := []) (pc' := 222) dX14_readPlain_219 rfl cf_X14_readPlain_341 rfl (R.ob (R.at rfl (by decide))) rfl rfl (Nat.le_of_ble_eq_true rfl) (c_X14_isSaved R e223) (fun q224v h225 q224 => ?_)
                    obtain ⟨rfl, R⟩ := q224
                    refine go_if_eq (pc' := 225) (tgt := 230) dX14_readPlain_222 (by decide) rfl (fun c226 => ?_) (fun c226 => ?_)
                    · have hf := it c226 hf
                      obtain rfl := Option.some.inj hf
                      exact Go.ret (v := none) dX14_readPlain_230 rfl ⟨trivial, rfl, R⟩
                    · have hf := ie c226 hf
                      refine go_aload_n (i := 0) (pc' := 226) dX14_readPlain_225 rfl rfl rfl ?_
                      refine go_iconst (v := 0) (pc' := 227) dX14_readPlain_226 rfl (by decide) ?_
                      obtain ⟨v227, σ228, e229, hf⟩ := bd_some hf
                      refine go_invV (As := [_]) (pc' := 230) dX14_readPlain_227 rfl cf_X14_readPlain_557 rfl (R.ob (R.at rfl (by decide))) rfl rfl (Nat.le_of_ble_eq_true rfl) (c_X14_put R e229) (fun q230v h231 q230 => ?_)
                      obtain ⟨rfl, R⟩ := q230
                      obtain rfl := Option.some.inj hf
                      exact Go.ret (v := none) dX14_readPlain_230 rfl ⟨trivial, rfl, R⟩
                  · have hf := it c220 hf
                    refine go_aload_n (i := 0) (pc' := 209) dX14_readPlain_208 rfl rfl rfl ?_
                    obtain ⟨v232, σ233, e234, hf⟩ := bd_some hf
                    refine go_invV (As := []) (pc' := 212) dX14_readPlain_209 rfl cf_X14_readPlain_560 rfl (R.ob (R.at rfl (by decide))) rfl rfl (Nat.le_of_ble_eq_true rfl) (c_X14_isCommitted R e234) (fun q235v h236 q235 => ?_)
                    obtain ⟨rfl, R⟩ := q235
                    refine go_if_eq (pc' := 215) (tgt := 230) dX14_readPlain_212 (by decide) rfl (fun c237 => ?_) (fun c237 => ?_)
                    · have hf := it c237 hf
                      obtain rfl := Option.some.inj hf
                      exact Go.ret (v := none) dX14_readPlain_230 rfl ⟨trivial, rfl, R⟩
                    · have hf := ie c237 hf
                      refine go_goto (pc' := 0) (tgt := 225) dX14_readPlain_215 (by decide) ?_
                      exact t_X14_readPlain_225 R hf
                · have hf := it c219 hf
                  refine go_aload_n (i := 0) (pc' := 175) dX14_readPlain_174 rfl rfl rfl ?_
                  refine go_getS (pc' := 178) dX14_readPlain_175 rfl gf_LandBaseModel_351 R (R.at rfl (by decide)) (by decide) rfl ?_
                  refine go_aload_n (i := 0) (pc' := 179) dX14_readPlain_178 rfl rfl rfl ?_
                  refine go_getS (pc' := 182) dX14_readPlain_179 rfl gf_LandBaseModel_347 R (R.at rfl (by decide)) (by decide) rfl ?_
                  obtain ⟨v238, σ239, e240, hf⟩ := bd_some hf
                  refine go_invV (As := [_]) (pc' := 185) dX14_readPlain_182 rfl cf_X14_readPlain_354 rfl (R.ob (R.at rfl (by decide))) rfl rfl (Nat.le_of_ble_eq_true rfl) (c_X13_take R e240) (fun q241v h242 q241 => ?_)
                  obtain ⟨rfl, R⟩ := q241
                  refine go_aload_n (i := 0) (pc' := 186) dX14_readPlain_185 rfl rfl rfl ?_
                  refine go_iconst (v := 0) (pc' := 187) dX14_readPlain_186 rfl (by decide) ?_
                  obtain ⟨σ243, e244, hf⟩ := st_some hf
                  refine go_putI (pc' := 190) dX14_readPlain_187 rfl pf_LandBaseModel_321 R (R.at rfl (by decide)) (by decide) rfl rfl rfl (fun h245 R => ?_)
                  have R := Rl.cast e244 R
                  refine go_aload_n (i := 0) (pc' := 191) dX14_readPlain_190 rfl rfl rfl ?_
                  refine go_iconst (v := 0) (pc' := 192) dX14_readPlain_191 rfl (by decide) ?_
                  obtain ⟨σ246, e247, hf⟩ := st_some hf
                  refine go_putI (pc' := 195) dX14_readPlain_192 rfl pf_LandBaseModel_338 R (R.at rfl (by decide)) (by decide) rfl rfl rfl (fun h248 R => ?_)
                  have R := Rl.cast e247 R
                  refine go_aload_n (i := 0) (pc' := 196) dX14_readPlain_195 rfl rfl rfl ?_
                  refine go_iconst (v := 0) (pc' := 197) dX14_readPlain_196 rfl (by decide) ?_
                  obtain ⟨v249, σ250, e251, hf⟩ := bd_some hf
                  refine go_invV (As := [_]) (pc' := 200) dX14_readPlain_197 rfl cf_X14_readPlain_557 rfl (R.ob (R.at rfl (by decide))) rfl rfl (Nat.le_of_ble_eq_true rfl) (c_X14_put R e251) (fun q252v h253 q252 => ?_)
                  obtain ⟨rfl, R⟩ := q252
                  refine go_goto (pc' := 0) (tgt := 230) dX14_readPlain_200 (by decide) ?_
                  obtain rfl := Option.some.inj hf
                  exact Go.ret (v := none) dX14_readPlain_230 rfl ⟨trivial, rfl, R⟩
              · have hf := it c218 hf
                refine go_aload_n (i := 0) (pc' := 152) dX14_readPlain_151 rfl rfl rfl ?_
                refine go_iconst (v := 1) (pc' := 153) dX14_readPlain_152 rfl (by decide) ?_
                obtain ⟨σ254, e255, hf⟩ := st_some hf
                refine go_putI (pc' := 156) dX14_readPlain_153 rfl pf_LandBaseModel_321 R (R.at rfl (by decide)) (by decide) rfl rfl rfl (fun h256 R => ?_)
                have R := Rl.cast e255 R
                refine go_aload_n (i := 0) (pc' := 157) dX14_readPlain_156 rfl rfl rfl ?_
                refine go_iconst (v := 0) (pc' := 158) dX14_readPlain_157 rfl (by decide) ?_
                obtain ⟨σ257, e258, hf⟩ := st_some hf
                refine go_putI (pc' := 161) dX14_readPlain_158 rfl pf_LandBaseModel_338 R (R.at rfl (by decide)) (by decide) rfl rfl rfl (fun h259 R => ?_)
                have R := Rl.cast e258 R
                refine go_aload_n (i := 0) (pc' := 162) dX14_readPlain_161 rfl rfl rfl ?_
                refine go_iconst (v := 0) (pc' := 163) dX14_readPlain_162 rfl (by decide) ?_
                obtain ⟨v260, σ261, e262, hf⟩ := bd_some hf
                refine go_invV (As := [_]) (pc' := 166) dX14_readPlain_163 rfl cf_X14_readPlain_557 rfl (R.ob (R.at rfl (by decide))) rfl rfl (Nat.le_of_ble_eq_true rfl) (c_X14_put R e262) (fun q263v h264 q263 => ?_)
                obtain ⟨rfl, R⟩ := q263
                refine go_goto (pc' := 0) (tgt := 230) dX14_readPlain_166 (by decide) ?_
                obtain rfl := Option.some.inj hf
                exact Go.ret (v := none) dX14_readPlain_230 rfl ⟨trivial, rfl, R⟩
            · have hf := ie c217 hf
              refine go_goto (pc' := 0) (tgt := 138) dX14_readPlain_128 (by decide) ?_
              exact t_X14_readPlain_138 R hf
      · have hf := it c113 hf
        refine go_aload_n (i := 0) (pc' := 105) dX14_readPlain_104 rfl rfl rfl ?_
        refine go_iconst (v := 0) (pc' := 106) dX14_readPlain_105 rfl (by decide) ?_
        obtain ⟨v265, σ266, e267, hf⟩ := bd_some hf
        refine go_invV (As := [_]) (pc' := 109) dX14_readPlain_106 rfl cf_X14_readPlain_557 rfl (R.ob (R.at rfl (by decide))) rfl rfl (Nat.le_of_ble_eq_true rfl) (c_X14_put R e267) (fun q268v h269 q268 => ?_)
        obtain ⟨rfl, R⟩ := q268
        refine go_goto (pc' := 0) (tgt := 230) dX14_readPlain_109 (by decide) ?_
        obtain rfl := Option.some.inj hf
        exact Go.ret (v := none) dX14_readPlain_230 rfl ⟨trivial, rfl, R⟩
    · have hf := ie c112 hf
      obtain rfl := Option.some.inj hf
      exact Go.ret (v := none) dX14_readPlain_98 rfl ⟨trivial, rfl, R⟩
  · have hf := ie c101 hf
    refine go_aload_n (i := 0) (pc' := 77) dX14_readPlain_76 rfl rfl rfl ?_
    obtain ⟨v270, σ271, e272, hf⟩ := bd_some hf
    refine go_invV (As := []) (pc' := 80) dX14_readPlain_77 rfl cf_X14_readPlain_420 rfl (R.ob (R.at rfl (by decide))) rfl rfl (Nat.le_of_ble_eq_true rfl) (c_X14_refuse R e272) (fun q273v h274 q273 => ?_)
    obtain ⟨rfl, R⟩ := q273
    obtain rfl := Option.some.inj hf
    exact Go.ret (v := none) dX14_readPlain_80 rfl ⟨trivial, rfl, R⟩
def f_X14_readPlain (n : Nat)  (σ : xσ) : Option (Unit × xσ) := bd (f_X14_isWord n 23 σ) (fun v101 σ102 => if v101 = 0 then bd (f_X14_isWord n 24 σ102) (fun v107 σ108 => if v107 = 0 then bd (f_X14_isWord n 25 σ108) (fun v113 σ114 => if v113 = 0 then bd (f_X14_isWord n 26 σ114) (fun v119 σ120 => if v119 = 0 then bd (f_X14_isWord n 27 σ120) (fun v125 σ126 => if v125 = 0 then b_X14_readPlain_71 n ((-1)) σ126 else b_X14_readPlain_71 n 4 σ126) else b_X14_readPlain_71 n 3 σ120) else b_X14_readPlain_71 n 2 σ114) else b_X14_readPlain_71 n 1 σ108) else b_X14_readPlain_71 n 0 σ102)
set_option maxRecDepth 100000 in
set_option maxHeartbeats 4000000 in
theorem c_X14_readPlain {G : xG} {n : Nat} {σ : xσ} {h : xH}  {v1 : Unit} {σ1 : xσ} (R : Rl n σ h) (hf : f_X14_readPlain n σ = some (v1, σ1)) : Ca G mX14_readPlain [.ref 233] h (fun v h' => v = none ∧ Rl n σ1 h') := by
  refine Ca.of rfl (Nat.le_of_ble_eq_true rfl) ?_
  generalize hr : (v1, σ1) = r at hf
  suffices q : Go G mX14_readPlain 0 (xent (xMl mX14_readPlain) [.ref 233]) [] h (fun v h' => xRok (xRt mX14_readPlain) v ∧ v = none ∧ Rl n r.2 h') by
    subst hr
    exact q
  clear hr
  rw [f_X14_readPlain] at hf
  refine go_aload_n (i := 0) (pc' := 1) dX14_readPlain_0 rfl rfl rfl ?_
  refine go_ldcSw (j := 23) (pc' := 4) dX14_readPlain_1 rfl rfl ?_
  obtain ⟨v101, σ102, e103, hf⟩ := bd_some hf
  refine go_invV (As := [_]) (pc' := 7) dX14_readPlain_4 rfl cf_X14_readPlain_446 rfl (R.ob (R.at rfl (by decide))) rfl rfl (Nat.le_of_ble_eq_true rfl) (c_X14_isWord R e103) (fun q104v h105 q104 => ?_)
  obtain ⟨rfl, R⟩ := q104
  refine go_if_eq (pc' := 10) (tgt := 14) dX14_readPlain_7 (by decide) rfl (fun c106 => ?_) (fun c106 => ?_)
  · have hf := it c106 hf
    refine go_aload_n (i := 0) (pc' := 15) dX14_readPlain_14 rfl rfl rfl ?_
    refine go_ldcSw (j := 24) (pc' := 18) dX14_readPlain_15 rfl rfl ?_
    obtain ⟨v107, σ108, e109, hf⟩ := bd_some hf
    refine go_invV (As := [_]) (pc' := 21) dX14_readPlain_18 rfl cf_X14_readPlain_446 rfl (R.ob (R.at rfl (by decide))) rfl rfl (Nat.le_of_ble_eq_true rfl) (c_X14_isWord R e109) (fun q110v h111 q110 => ?_)
    obtain ⟨rfl, R⟩ := q110
    refine go_if_eq (pc' := 24) (tgt := 28) dX14_readPlain_21 (by decide) rfl (fun c112 => ?_) (fun c112 => ?_)
    · have hf := it c112 hf
      refine go_aload_n (i := 0) (pc' := 29) dX14_readPlain_28 rfl rfl rfl ?_
      refine go_ldcSw (j := 25) (pc' := 32) dX14_readPlain_29 rfl rfl ?_
      obtain ⟨v113, σ114, e115, hf⟩ := bd_some hf
      refine go_invV (As := [_]) (pc' := 35) dX14_readPlain_32 rfl cf_X14_readPlain_446 rfl (R.ob (R.at rfl (by decide))) rfl rfl (Nat.le_of_ble_eq_true rfl) (c_X14_isWord R e115) (fun q116v h117 q116 => ?_)
      obtain ⟨rfl, R⟩ := q116
      refine go_if_eq (pc' := 38) (tgt := 42) dX14_readPlain_35 (by decide) rfl (fun c118 => ?_) (fun c118 => ?_)
      · have hf := it c118 hf
        refine go_aload_n (i := 0) (pc' := 43) dX14_readPlain_42 rfl rfl rfl ?_
        refine go_ldcSw (j := 26) (pc' := 46) dX14_readPlain_43 rfl rfl ?_
        obtain ⟨v119, σ120, e121, hf⟩ := bd_some hf
        refine go_invV (As := [_]) (pc' := 49) dX14_readPlain_46 rfl cf_X14_readPlain_446 rfl (R.ob (R.at rfl (by decide))) rfl rfl (Nat.le_of_ble_eq_true rfl) (c_X14_isWord R e121) (fun q122v h123 q122 => ?_)
        obtain ⟨rfl, R⟩ := q122
        refine go_if_eq (pc' := 52) (tgt := 56) dX14_readPlain_49 (by decide) rfl (fun c124 => ?_) (fun c124 => ?_)
        · have hf := it c124 hf
          refine go_aload_n (i := 0) (pc' := 57) dX14_readPlain_56 rfl rfl rfl ?_
          refine go_ldcSw (j := 27) (pc' := 60) dX14_readPlain_57 rfl rfl ?_
          obtain ⟨v125, σ126, e127, hf⟩ := bd_some hf
          refine go_invV (As := [_]) (pc' := 63) dX14_readPlain_60 rfl cf_X14_readPlain_446 rfl (R.ob (R.at rfl (by decide))) rfl rfl (Nat.le_of_ble_eq_true rfl) (c_X14_isWord R e127) (fun q128v h129 q128 => ?_)
          obtain ⟨rfl, R⟩ := q128
          refine go_if_eq (pc' := 66) (tgt := 70) dX14_readPlain_63 (by decide) rfl (fun c130 => ?_) (fun c130 => ?_)
          · have hf := it c130 hf
            refine go_iconst (v := (-1)) (pc' := 71) dX14_readPlain_70 rfl (by decide) ?_
            exact t_X14_readPlain_71 R hf
          · have hf := ie c130 hf
            refine go_iconst (v := 4) (pc' := 67) dX14_readPlain_66 rfl (by decide) ?_
            refine go_goto (pc' := 0) (tgt := 71) dX14_readPlain_67 (by decide) ?_
            exact t_X14_readPlain_71 R hf
        · have hf := ie c124 hf
          refine go_iconst (v := 3) (pc' := 53) dX14_readPlain_52 rfl (by decide) ?_
          refine go_goto (pc' := 0) (tgt := 71) dX14_readPlain_53 (by decide) ?_
          exact t_X14_readPlain_71 R hf
      · have hf := ie c118 hf
        refine go_iconst (v := 2) (pc' := 39) dX14_readPlain_38 rfl (by decide) ?_
        refine go_goto (pc' := 0) (tgt := 71) dX14_readPlain_39 (by decide) ?_
        exact t_X14_readPlain_71 R hf
    · have hf := ie c112 hf
      refine go_iconst (v := 1) (pc' := 25) dX14_readPlain_24 rfl (by decide) ?_
      refine go_goto (pc' := 0) (tgt := 71) dX14_readPlain_25 (by decide) ?_
      exact t_X14_readPlain_71 R hf
  · have hf := ie c106 hf
    refine go_iconst (v := 0) (pc' := 11) dX14_readPlain_10 rfl (by decide) ?_
    refine go_goto (pc' := 0) (tgt := 71) dX14_readPlain_11 (by decide) ?_
    exact t_X14_readPlain_71 R hf
def b_X14_statement_209 (n : Nat) (σ : xσ) : Option (Unit × xσ) := some ((), σ)
set_option maxRecDepth 100000 in
set_option maxHeartbeats 4000000 in
theorem t_X14_statement_209 {G : xG} {n : Nat} {σ : xσ} {h : xH} {r : Unit × xσ} {d0 : Option Value} {d1 : Option Value} : Rl n σ h → b_X14_statement_209 n σ = some r → Go G mX14_statement 209 [d0, d1] [] h (fun v h' => xRok (xRt mX14_statement) v ∧ v = none ∧ Rl n r.2 h') := by
  intro R hf
  rw [b_X14_statement_209] at hf
  refine go_goto (pc' := 0) (tgt := 405) dX14_statement_209 (by decide) ?_
  obtain rfl := Option.some.inj hf
  exact Go.ret (v := none) dX14_statement_405 rfl ⟨trivial, rfl, R⟩
def b_X14_statement_398 (n : Nat) (σ : xσ) : Option (Unit × xσ) := some ((), σ)
set_option maxRecDepth 100000 in
set_option maxHeartbeats 4000000 in
theorem t_X14_statement_398 {G : xG} {n : Nat} {σ : xσ} {h : xH} {r : Unit × xσ} {d0 : Option Value} {d1 : Option Value} : Rl n σ h → b_X14_statement_398 n σ = some r → Go G mX14_statement 398 [d0, d1] [] h (fun v h' => xRok (xRt mX14_statement) v ∧ v = none ∧ Rl n r.2 h') := by
  intro R hf
  rw [b_X14_statement_398] at hf
  refine go_goto (pc' := 0) (tgt := 405) dX14_statement_398 (by decide) ?_
  obtain rfl := Option.some.inj hf
  exact Go.ret (v := none) dX14_statement_405 rfl ⟨trivial, rfl, R⟩
def f_X14_statement (n : Nat)  (σ : xσ) : Option (Unit × xσ) := bd (f_X14_isWord n 4 σ) (fun v101 σ102 => if v101 = 0 then bd (f_X14_isWord n 8 σ102) (fun v107 σ108 => if v107 = 0 then bd (f_X14_isWord n 9 σ108) (fun v113 σ114 => if v113 = 0 then bd (f_X14_isWord n 10 σ114) (fun v119 σ120 => if v119 = 0 then bd (f_X14_isWord n 14 σ120) (fun v125 σ126 => if v125 = 0 then bd (f_X14_isWord n 20 σ126) (fun v131 σ132 => if v131 = 0 then bd (f_X14_isWord n 21 σ132) (fun v137 σ138 => if v137 = 0 then bd (f_X14_isWord n 22 σ138) (fun v143 σ144 => if v143 = 0 then bd (f_X14_readPlain n σ144) (fun v149 σ150 => some ((), σ150)) else bd (f_X14_next n σ144) (fun v154 σ155 => bd (f_X14_relationHere n σ155) (fun v159 σ160 => bd (f_X14_readInts n 4 σ160) (fun v164 σ165 => bd (f_X14_expect n 59 σ165) (fun v169 σ170 => if (sI σ170 233 48) = 0 then gd (inb 0 8) (gd (inb 1 8) (gd (inb 2 8) (gd (inb 3 8) (bd (f_X14_joinOf n v159 (sI σ170 1869 (0 : Int32).toNatClampNeg) (sI σ170 1869 (1 : Int32).toNatClampNeg) (sI σ170 1869 (2 : Int32).toNatClampNeg) (sI σ170 1869 (3 : Int32).toNatClampNeg) σ170) (fun v179 σ180 => b_X14_statement_398 n σ180))))) else some ((), σ170)))))) else bd (f_X14_next n σ138) (fun v184 σ185 => bd (f_X14_readInts n 3 σ185) (fun v189 σ190 => bd (f_X14_expect n 59 σ190) (fun v194 σ195 => if (sI σ195 233 48) = 0 then gd (inb 0 8) (gd (inb 1 8) (gd (inb 2 8) (bd (f_X14_near n (sI σ195 1869 (0 : Int32).toNatClampNeg) (sI σ195 1869 (1 : Int32).toNatClampNeg) (sI σ195 1869 (2 : Int32).toNatClampNeg) σ195) (fun v203 σ204 => some ((), σ204))))) else some ((), σ195))))) else bd (f_X14_next n σ132) (fun v208 σ209 => bd (f_X14_readInts n 4 σ209) (fun v213 σ214 => bd (f_X14_expect n 59 σ214) (fun v218 σ219 => if (sI σ219 233 48) = 0 then gd (inb 0 8) (gd (inb 1 8) (gd (inb 2 8) (gd (inb 3 8) (bd (f_X14_windowOf n (sI σ219 1869 (0 : Int32).toNatClampNeg) (sI σ219 1869 (1 : Int32).toNatClampNeg) (sI σ219 1869 (2 : Int32).toNatClampNeg) (sI σ219 1869 (3 : Int32).toNatClampNeg) σ219) (fun v228 σ229 => some ((), σ229)))))) else some ((), σ219))))) else bd (f_X14_next n σ126) (fun v233 σ234 => bd (f_X14_relationHere n σ234) (fun v238 σ239 => bd (f_X14_readShape n σ239) (fun v243 σ244 => bd (f_X14_expect n 59 σ244) (fun v248 σ249 => if (sI σ249 233 48) = 0 then bd (f_X14_find n v238 σ249) (fun v254 σ255 => b_X14_statement_209 n σ255) else some ((), σ249)))))) else bd (f_X14_readFill n σ120) (fun v259 σ260 => some ((), σ260))) else bd (f_X14_next n σ114) (fun v264 σ265 => bd (f_X14_readInts n 3 σ265) (fun v269 σ270 => bd (f_X14_expect n 59 σ270) (fun v274 σ275 => if (sI σ275 233 48) = 0 then gd (inb 0 8) (gd (inb 1 8) (gd (inb 2 8) (bd (f_X14_move n (sI σ275 1869 (0 : Int32).toNatClampNeg) (sI σ275 1869 (1 : Int32).toNatClampNeg) (sI σ275 1869 (2 : Int32).toNatClampNeg) σ275) (fun v283 σ284 => some ((), σ284))))) else some ((), σ275))))) else bd (f_X14_next n σ108) (fun v288 σ289 => bd (f_X14_readInts n 1 σ289) (fun v293 σ294 => bd (f_X14_expect n 59 σ294) (fun v298 σ299 => if (sI σ299 233 48) = 0 then gd (inb 0 8) (bd (f_X14_drop n (sI σ299 1869 (0 : Int32).toNatClampNeg) σ299) (fun v305 σ306 => some ((), σ306))) else some ((), σ299))))) else bd (f_X14_next n σ102) (fun v310 σ311 => bd (f_X14_readInts n 1 σ311) (fun v315 σ316 => bd (f_X14_readShape n σ316) (fun v320 σ321 => bd (f_X14_expect n 59 σ321) (fun v325 σ326 => if (sI σ326 233 48) = 0 then gd (inb 0 8) (bd (f_X14_add n (sI σ326 1869 (0 : Int32).toNatClampNeg) σ326) (fun v332 σ333 => some ((), σ333))) else some ((), σ326))))))
set_option maxRecDepth 100000 in
set_option maxHeartbeats 4000000 in
theorem c_X14_statement {G : xG} {n : Nat} {σ : xσ} {h : xH}  {v1 : Unit} {σ1 : xσ} (R : Rl n σ h) (hf : f_X14_statement n σ = some (v1, σ1)) : Ca G mX14_statement [.ref 233] h (fun v h' => v = none ∧ Rl n σ1 h') := by
  refine Ca.of rfl (Nat.le_of_ble_eq_true rfl) ?_
  generalize hr : (v1, σ1) = r at hf
  suffices q : Go G mX14_statement 0 (xent (xMl mX14_statement) [.ref 233]) [] h (fun v h' => xRok (xRt mX14_statement) v ∧ v = none ∧ Rl n r.2 h') by
    subst hr
    exact q
  clear hr
  rw [f_X14_statement] at hf
  refine go_aload_n (i := 0) (pc' := 1) dX14_statement_0 rfl rfl rfl ?_
  refine go_ldcSw (j := 4) (pc' := 4) dX14_statement_1 rfl rfl ?_
  obtain ⟨v101, σ102, e103, hf⟩ := bd_some hf
  refine go_invV (As := [_]) (pc' := 7) dX14_statement_4 rfl cf_X14_statement_446 rfl (R.ob (R.at rfl (by decide))) rfl rfl (Nat.le_of_ble_eq_true rfl) (c_X14_isWord R e103) (fun q104v h105 q104 => ?_)
  obtain ⟨rfl, R⟩ := q104
  refine go_if_eq (pc' := 10) (tgt := 49) dX14_statement_7 (by decide) rfl (fun c106 => ?_) (fun c106 => ?_)
  · have hf := it c106 hf
    refine go_aload_n (i := 0) (pc' := 50) dX14_statement_49 rfl rfl rfl ?_
    refine go_ldcSw (j := 8) (pc' := 53) dX14_statement_50 rfl rfl ?_
    obtain ⟨v107, σ108, e109, hf⟩ := bd_some hf
    refine go_invV (As := [_]) (pc' := 56) dX14_statement_53 rfl cf_X14_statement_446 rfl (R.ob (R.at rfl (by decide))) rfl rfl (Nat.le_of_ble_eq_true rfl) (c_X14_isWord R e109) (fun q110v h111 q110 => ?_)
    obtain ⟨rfl, R⟩ := q110
    refine go_if_eq (pc' := 59) (tgt := 94) dX14_statement_56 (by decide) rfl (fun c112 => ?_) (fun c112 => ?_)
    · have hf := it c112 hf
      refine go_aload_n (i := 0) (pc' := 95) dX14_statement_94 rfl rfl rfl ?_
      refine go_ldcSw (j := 9) (pc' := 98) dX14_statement_95 rfl rfl ?_
      obtain ⟨v113, σ114, e115, hf⟩ := bd_some hf
      refine go_invV (As := [_]) (pc' := 101) dX14_statement_98 rfl cf_X14_statement_446 rfl (R.ob (R.at rfl (by decide))) rfl rfl (Nat.le_of_ble_eq_true rfl) (c_X14_isWord R e115) (fun q116v h117 q116 => ?_)
      obtain ⟨rfl, R⟩ := q116
      refine go_if_eq (pc' := 104) (tgt := 151) dX14_statement_101 (by decide) rfl (fun c118 => ?_) (fun c118 => ?_)
      · have hf := it c118 hf
        refine go_aload_n (i := 0) (pc' := 152) dX14_statement_151 rfl rfl rfl ?_
        refine go_ldcSw (j := 10) (pc' := 155) dX14_statement_152 rfl rfl ?_
        obtain ⟨v119, σ120, e121, hf⟩ := bd_some hf
        refine go_invV (As := [_]) (pc' := 158) dX14_statement_155 rfl cf_X14_statement_446 rfl (R.ob (R.at rfl (by decide))) rfl rfl (Nat.le_of_ble_eq_true rfl) (c_X14_isWord R e121) (fun q122v h123 q122 => ?_)
        obtain ⟨rfl, R⟩ := q122
        refine go_if_eq (pc' := 161) (tgt := 168) dX14_statement_158 (by decide) rfl (fun c124 => ?_) (fun c124 => ?_)
        · have hf := it c124 hf
          refine go_aload_n (i := 0) (pc' := 169) dX14_statement_168 rfl rfl rfl ?_
          refine go_ldcSw (j := 14) (pc' := 172) dX14_statement_169 rfl rfl ?_
          obtain ⟨v125, σ126, e127, hf⟩ := bd_some hf
          refine go_invV (As := [_]) (pc' := 175) dX14_statement_172 rfl cf_X14_statement_446 rfl (R.ob (R.at rfl (by decide))) rfl rfl (Nat.le_of_ble_eq_true rfl) (c_X14_isWord R e127) (fun q128v h129 q128 => ?_)
          obtain ⟨rfl, R⟩ := q128
          refine go_if_eq (pc' := 178) (tgt := 212) dX14_statement_175 (by decide) rfl (fun c130 => ?_) (fun c130 => ?_)
          · have hf := it c130 hf
            refine go_aload_n (i := 0) (pc' := 213) dX14_statement_212 rfl rfl rfl ?_
            refine go_ldcSw (j := 20) (pc' := 216) dX14_statement_213 rfl rfl ?_
            obtain ⟨v131, σ132, e133, hf⟩ := bd_some hf
            refine go_invV (As := [_]) (pc' := 219) dX14_statement_216 rfl cf_X14_statement_446 rfl (R.ob (R.at rfl (by decide))) rfl rfl (Nat.le_of_ble_eq_true rfl) (c_X14_isWord R e133) (fun q134v h135 q134 => ?_)
            obtain ⟨rfl, R⟩ := q134
            refine go_if_eq (pc' := 222) (tgt := 275) dX14_statement_219 (by decide) rfl (fun c136 => ?_) (fun c136 => ?_)
            · have hf := it c136 hf
              refine go_aload_n (i := 0) (pc' := 276) dX14_statement_275 rfl rfl rfl ?_
              refine go_ldcSw (j := 21) (pc' := 279) dX14_statement_276 rfl rfl ?_
              obtain ⟨v137, σ138, e139, hf⟩ := bd_some hf
              refine go_invV (As := [_]) (pc' := 282) dX14_statement_279 rfl cf_X14_statement_446 rfl (R.ob (R.at rfl (by decide))) rfl rfl (Nat.le_of_ble_eq_true rfl) (c_X14_isWord R e139) (fun q140v h141 q140 => ?_)
              obtain ⟨rfl, R⟩ := q140
              refine go_if_eq (pc' := 285) (tgt := 332) dX14_statement_282 (by decide) rfl (fun c142 => ?_) (fun c142 => ?_)
              · have hf := it c142 hf
                refine go_aload_n (i := 0) (pc' := 333) dX14_statement_332 rfl rfl rfl ?_
                refine go_ldcSw (j := 22) (pc' := 336) dX14_statement_333 rfl rfl ?_
                obtain ⟨v143, σ144, e145, hf⟩ := bd_some hf
                refine go_invV (As := [_]) (pc' := 339) dX14_statement_336 rfl cf_X14_statement_446 rfl (R.ob (R.at rfl (by decide))) rfl rfl (Nat.le_of_ble_eq_true rfl) (c_X14_isWord R e145) (fun q146v h147 q146 => ?_)
                obtain ⟨rfl, R⟩ := q146
                refine go_if_eq (pc' := 342) (tgt := 401) dX14_statement_339 (by decide) rfl (fun c148 => ?_) (fun c148 => ?_)
                · have hf := it c148 hf
                  refine go_aload_n (i := 0) (pc' := 402) dX14_statement_401 rfl rfl rfl ?_
                  obtain ⟨v149, σ150, e151, hf⟩ := bd_some hf
                  refine go_invV (As := []) (pc' := 405) dX14_statement_402 rfl cf_X14_statement_544 rfl (R.ob (R.at rfl (by decide))) rfl rfl (Nat.le_of_ble_eq_true rfl) (c_X14_readPlain R e151) (fun q152v h153 q152 => ?_)
                  obtain ⟨rfl, R⟩ := q152
                  obtain rfl := Option.some.inj hf
                  exact Go.ret (v := none) dX14_statement_405 rfl ⟨trivial, rfl, R⟩
                · have hf := ie c148 hf
                  refine go_aload_n (i := 0) (pc' := 343) dX14_statement_342 rfl rfl rfl ?_
                  obtain ⟨v154, σ155, e156, hf⟩ := bd_some hf
                  refine go_invV (As := []) (pc' := 346) dX14_statement_343 rfl cf_X14_statement_423 rfl (R.ob (R.at rfl (by decide))) rfl rfl (Nat.le_of_ble_eq_true rfl) (c_X14_next R e156) (fun q157v h158 q157 => ?_)
                  obtain ⟨rfl, R⟩ := q157
                  refine go_aload_n (i := 0) (pc' := 347) dX14_statement_346 rfl rfl rfl ?_
                  obtain ⟨v159, σ160, e161, hf⟩ := bd_some hf
                  refine go_invV (As := []) (pc' := 350) dX14_statement_347 rfl cf_X14_statement_521 rfl (R.ob (R.at rfl (by decide))) rfl rfl (Nat.le_of_ble_eq_true rfl) (c_X14_relationHere R e161) (fun q162v h163 q162 => ?_)
                  obtain ⟨rfl, R⟩ := q162
                  refine go_istore_nE rfl (i := 1) (pc' := 351) dX14_statement_350 rfl rfl (by decide) rfl ?_
                  refine go_aload_n (i := 0) (pc' := 352) dX14_statement_351 rfl rfl rfl ?_
                  refine go_iconst (v := 4) (pc' := 353) dX14_statement_352 rfl (by decide) ?_
                  obtain ⟨v164, σ165, e166, hf⟩ := bd_some hf
                  refine go_invV (As := [_]) (pc' := 356) dX14_statement_353 rfl cf_X14_statement_496 rfl (R.ob (R.at rfl (by decide))) rfl rfl (Nat.le_of_ble_eq_true rfl) (c_X14_readInts R e166) (fun q167v h168 q167 => ?_)
                  obtain ⟨rfl, R⟩ := q167
                  refine go_aload_n (i := 0) (pc' := 357) dX14_statement_356 rfl rfl rfl ?_
                  refine go_bipush (v := 59) (pc' := 359) dX14_statement_357 rfl (by decide) ?_
                  obtain ⟨v169, σ170, e171, hf⟩ := bd_some hf
                  refine go_invV (As := [_]) (pc' := 362) dX14_statement_359 rfl cf_X14_statement_435 rfl (R.ob (R.at rfl (by decide))) rfl rfl (Nat.le_of_ble_eq_true rfl) (c_X14_expect R e171) (fun q172v h173 q172 => ?_)
                  obtain ⟨rfl, R⟩ := q172
                  refine go_aload_n (i := 0) (pc' := 363) dX14_statement_362 rfl rfl rfl ?_
                  refine go_getS (pc' := 366) dX14_statement_363 rfl gf_LandBaseModel_365 R (R.at rfl (by decide)) (by decide) rfl ?_
                  refine go_if_ne (pc' := 369) (tgt := 398) dX14_statement_366 (by decide) rfl (fun c174 => ?_) (fun c174 => ?_)
                  · have hf := ie c174 hf
                    refine go_goto (pc' := 0) (tgt := 405) dX14_statement_398 (by decide) ?_
                    obtain rfl := Option.some.inj hf
                    exact Go.ret (v := none) dX14_statement_405 rfl ⟨trivial, rfl, R⟩
                  · have hf := it c174 hf
                    refine go_aload_n (i := 0) (pc' := 370) dX14_statement_369 rfl rfl rfl ?_
                    refine go_iload_n (i := 1) (pc' := 371) dX14_statement_370 rfl rfl rfl ?_
                    refine go_aload_n (i := 0) (pc' := 372) dX14_statement_371 rfl rfl rfl ?_
                    refine go_getS (pc' := 375) dX14_statement_372 rfl gf_LandBaseModel_471 R (R.at rfl (by decide)) (by decide) rfl ?_
                    refine go_iconst (v := 0) (pc' := 376) dX14_statement_375 rfl (by decide) ?_
                    obtain ⟨g175, hf⟩ := gd_some hf
                    refine go_ialoadS (pc' := 377) dX14_statement_376 rfl R (R.aa rfl (by decide)) g175 ?_
                    refine go_aload_n (i := 0) (pc' := 378) dX14_statement_377 rfl rfl rfl ?_
                    refine go_getS (pc' := 381) dX14_statement_378 rfl gf_LandBaseModel_471 R (R.at rfl (by decide)) (by decide) rfl ?_
                    refine go_iconst (v := 1) (pc' := 382) dX14_statement_381 rfl (by decide) ?_
                    obtain ⟨g176, hf⟩ := gd_some hf
                    refine go_ialoadS (pc' := 383) dX14_statement_382 rfl R (R.aa rfl (by decide)) g176 ?_
                    refine go_aload_n (i := 0) (pc' := 384) dX14_statement_383 rfl rfl rfl ?_
                    refine go_getS (pc' := 387) dX14_statement_384 rfl gf_LandBaseModel_471 R (R.at rfl (by decide)) (by decide) rfl ?_
                    refine go_iconst (v := 2) (pc' := 388) dX14_statement_387 rfl (by decide) ?_
                    obtain ⟨g177, hf⟩ := gd_some hf
                    refine go_ialoadS (pc' := 389) dX14_statement_388 rfl R (R.aa rfl (by decide)) g177 ?_
                    refine go_aload_n (i := 0) (pc' := 390) dX14_statement_389 rfl rfl rfl ?_
                    refine go_getS (pc' := 393) dX14_statement_390 rfl gf_LandBaseModel_471 R (R.at rfl (by decide)) (by decide) rfl ?_
                    refine go_iconst (v := 3) (pc' := 394) dX14_statement_393 rfl (by decide) ?_
                    obtain ⟨g178, hf⟩ := gd_some hf
                    refine go_ialoadS (pc' := 395) dX14_statement_394 rfl R (R.aa rfl (by decide)) g178 ?_
                    obtain ⟨v179, σ180, e181, hf⟩ := bd_some hf
                    refine go_invV (As := [_, _, _, _, _]) (pc' := 398) dX14_statement_395 rfl cf_X14_statement_540 rfl (R.ob (R.at rfl (by decide))) rfl rfl (Nat.le_of_ble_eq_true rfl) (c_X14_joinOf R e181) (fun q182v h183 q182 => ?_)
                    obtain ⟨rfl, R⟩ := q182
                    exact t_X14_statement_398 R hf
              · have hf := ie c142 hf
                refine go_aload_n (i := 0) (pc' := 286) dX14_statement_285 rfl rfl rfl ?_
                obtain ⟨v184, σ185, e186, hf⟩ := bd_some hf
                refine go_invV (As := []) (pc' := 289) dX14_statement_286 rfl cf_X14_statement_423 rfl (R.ob (R.at rfl (by decide))) rfl rfl (Nat.le_of_ble_eq_true rfl) (c_X14_next R e186) (fun q187v h188 q187 => ?_)
                obtain ⟨rfl, R⟩ := q187
                refine go_aload_n (i := 0) (pc' := 290) dX14_statement_289 rfl rfl rfl ?_
                refine go_iconst (v := 3) (pc' := 291) dX14_statement_290 rfl (by decide) ?_
                obtain ⟨v189, σ190, e191, hf⟩ := bd_some hf
                refine go_invV (As := [_]) (pc' := 294) dX14_statement_291 rfl cf_X14_statement_496 rfl (R.ob (R.at rfl (by decide))) rfl rfl (Nat.le_of_ble_eq_true rfl) (c_X14_readInts R e191) (fun q192v h193 q192 => ?_)
                obtain ⟨rfl, R⟩ := q192
                refine go_aload_n (i := 0) (pc' := 295) dX14_statement_294 rfl rfl rfl ?_
                refine go_bipush (v := 59) (pc' := 297) dX14_statement_295 rfl (by decide) ?_
                obtain ⟨v194, σ195, e196, hf⟩ := bd_some hf
                refine go_invV (As := [_]) (pc' := 300) dX14_statement_297 rfl cf_X14_statement_435 rfl (R.ob (R.at rfl (by decide))) rfl rfl (Nat.le_of_ble_eq_true rfl) (c_X14_expect R e196) (fun q197v h198 q197 => ?_)
                obtain ⟨rfl, R⟩ := q197
                refine go_aload_n (i := 0) (pc' := 301) dX14_statement_300 rfl rfl rfl ?_
                refine go_getS (pc' := 304) dX14_statement_301 rfl gf_LandBaseModel_365 R (R.at rfl (by decide)) (by decide) rfl ?_
                refine go_if_ne (pc' := 307) (tgt := 405) dX14_statement_304 (by decide) rfl (fun c199 => ?_) (fun c199 => ?_)
                · have hf := ie c199 hf
                  obtain rfl := Option.some.inj hf
                  exact Go.ret (v := none) dX14_statement_405 rfl ⟨trivial, rfl, R⟩
                · have hf := it c199 hf
                  refine go_aload_n (i := 0) (pc' := 308) dX14_statement_307 rfl rfl rfl ?_
                  refine go_aload_n (i := 0) (pc' := 309) dX14_statement_308 rfl rfl rfl ?_
                  refine go_getS (pc' := 312) dX14_statement_309 rfl gf_LandBaseModel_471 R (R.at rfl (by decide)) (by decide) rfl ?_
                  refine go_iconst (v := 0) (pc' := 313) dX14_statement_312 rfl (by decide) ?_
                  obtain ⟨g200, hf⟩ := gd_some hf
                  refine go_ialoadS (pc' := 314) dX14_statement_313 rfl R (R.aa rfl (by decide)) g200 ?_
                  refine go_aload_n (i := 0) (pc' := 315) dX14_statement_314 rfl rfl rfl ?_
                  refine go_getS (pc' := 318) dX14_statement_315 rfl gf_LandBaseModel_471 R (R.at rfl (by decide)) (by decide) rfl ?_
                  refine go_iconst (v := 1) (pc' := 319) dX14_statement_318 rfl (by decide) ?_
                  obtain ⟨g201, hf⟩ := gd_some hf
                  refine go_ialoadS (pc' := 320) dX14_statement_319 rfl R (R.aa rfl (by decide)) g201 ?_
                  refine go_aload_n (i := 0) (pc' := 321) dX14_statement_320 rfl rfl rfl ?_
                  refine go_getS (pc' := 324) dX14_statement_321 rfl gf_LandBaseModel_471 R (R.at rfl (by decide)) (by decide) rfl ?_
                  refine go_iconst (v := 2) (pc' := 325) dX14_statement_324 rfl (by decide) ?_
                  obtain ⟨g202, hf⟩ := gd_some hf
                  refine go_ialoadS (pc' := 326) dX14_statement_325 rfl R (R.aa rfl (by decide)) g202 ?_
                  obtain ⟨v203, σ204, e205, hf⟩ := bd_some hf
                  refine go_invV (As := [_, _, _]) (pc' := 329) dX14_statement_326 rfl cf_X14_statement_535 rfl (R.ob (R.at rfl (by decide))) rfl rfl (Nat.le_of_ble_eq_true rfl) (c_X14_near R e205) (fun q206v h207 q206 => ?_)
                  obtain ⟨rfl, R⟩ := q206
                  refine go_goto (pc' := 0) (tgt := 405) dX14_statement_329 (by decide) ?_
                  obtain rfl := Option.some.inj hf
                  exact Go.ret (v := none) dX14_statement_405 rfl ⟨trivial, rfl, R⟩
            · have hf := ie c136 hf
              refine go_aload_n (i := 0) (pc' := 223) dX14_statement_222 rfl rfl rfl ?_
              obtain ⟨v208, σ209, e210, hf⟩ := bd_some hf
              refine go_invV (As := []) (pc' := 226) dX14_statement_223 rfl cf_X14_statement_423 rfl (R.ob (R.at rfl (by decide))) rfl rfl (Nat.le_of_ble_eq_true rfl) (c_X14_next R e210) (fun q211v h212 q211 => ?_)
              obtain ⟨rfl, R⟩ := q211
              refine go_aload_n (i := 0) (pc' := 227) dX14_statement_226 rfl rfl rfl ?_
              refine go_iconst (v := 4) (pc' := 228) dX14_statement_227 rfl (by decide) ?_
              obtain ⟨v213, σ214, e215, hf⟩ := bd_some hf
              refine go_invV (As := [_]) (pc' := 231) dX14_statement_228 rfl cf_X14_statement_496 rfl (R.ob (R.at rfl (by decide))) rfl rfl (Nat.le_of_ble_eq_true rfl) (c_X14_readInts R e215) (fun q216v h217 q216 => ?_)
              obtain ⟨rfl, R⟩ := q216
              refine go_aload_n (i := 0) (pc' := 232) dX14_statement_231 rfl rfl rfl ?_
              refine go_bipush (v := 59) (pc' := 234) dX14_statement_232 rfl (by decide) ?_
              obtain ⟨v218, σ219, e220, hf⟩ := bd_some hf
              refine go_invV (As := [_]) (pc' := 237) dX14_statement_234 rfl cf_X14_statement_435 rfl (R.ob (R.at rfl (by decide))) rfl rfl (Nat.le_of_ble_eq_true rfl) (c_X14_expect R e220) (fun q221v h222 q221 => ?_)
              obtain ⟨rfl, R⟩ := q221
              refine go_aload_n (i := 0) (pc' := 238) dX14_statement_237 rfl rfl rfl ?_
              refine go_getS (pc' := 241) dX14_statement_238 rfl gf_LandBaseModel_365 R (R.at rfl (by decide)) (by decide) rfl ?_
              refine go_if_ne (pc' := 244) (tgt := 405) dX14_statement_241 (by decide) rfl (fun c223 => ?_) (fun c223 => ?_)
              · have hf := ie c223 hf
                obtain rfl := Option.some.inj hf
                exact Go.ret (v := none) dX14_statement_405 rfl ⟨trivial, rfl, R⟩
              · have hf := it c223 hf
                refine go_aload_n (i := 0) (pc' := 245) dX14_statement_244 rfl rfl rfl ?_
                refine go_aload_n (i := 0) (pc' := 246) dX14_statement_245 rfl rfl rfl ?_
                refine go_getS (pc' := 249) dX14_statement_246 rfl gf_LandBaseModel_471 R (R.at rfl (by decide)) (by decide) rfl ?_
                refine go_iconst (v := 0) (pc' := 250) dX14_statement_249 rfl (by decide) ?_
                obtain ⟨g224, hf⟩ := gd_some hf
                refine go_ialoadS (pc' := 251) dX14_statement_250 rfl R (R.aa rfl (by decide)) g224 ?_
                refine go_aload_n (i := 0) (pc' := 252) dX14_statement_251 rfl rfl rfl ?_
                refine go_getS (pc' := 255) dX14_statement_252 rfl gf_LandBaseModel_471 R (R.at rfl (by decide)) (by decide) rfl ?_
                refine go_iconst (v := 1) (pc' := 256) dX14_statement_255 rfl (by decide) ?_
                obtain ⟨g225, hf⟩ := gd_some hf
                refine go_ialoadS (pc' := 257) dX14_statement_256 rfl R (R.aa rfl (by decide)) g225 ?_
                refine go_aload_n (i := 0) (pc' := 258) dX14_statement_257 rfl rfl rfl ?_
                refine go_getS (pc' := 261) dX14_statement_258 rfl gf_LandBaseModel_471 R (R.at rfl (by decide)) (by decide) rfl ?_
                refine go_iconst (v := 2) (pc' := 262) dX14_statement_261 rfl (by decide) ?_
                obtain ⟨g226, hf⟩ := gd_some hf
                refine go_ialoadS (pc' := 263) dX14_statement_262 rfl R (R.aa rfl (by decide)) g226 ?_
                refine go_aload_n (i := 0) (pc' := 264) dX14_statement_263 rfl rfl rfl ?_
                refine go_getS (pc' := 267) dX14_statement_264 rfl gf_LandBaseModel_471 R (R.at rfl (by decide)) (by decide) rfl ?_
                refine go_iconst (v := 3) (pc' := 268) dX14_statement_267 rfl (by decide) ?_
                obtain ⟨g227, hf⟩ := gd_some hf
                refine go_ialoadS (pc' := 269) dX14_statement_268 rfl R (R.aa rfl (by decide)) g227 ?_
                obtain ⟨v228, σ229, e230, hf⟩ := bd_some hf
                refine go_invV (As := [_, _, _, _]) (pc' := 272) dX14_statement_269 rfl cf_X14_statement_529 rfl (R.ob (R.at rfl (by decide))) rfl rfl (Nat.le_of_ble_eq_true rfl) (c_X14_windowOf R e230) (fun q231v h232 q231 => ?_)
                obtain ⟨rfl, R⟩ := q231
                refine go_goto (pc' := 0) (tgt := 405) dX14_statement_272 (by decide) ?_
                obtain rfl := Option.some.inj hf
                exact Go.ret (v := none) dX14_statement_405 rfl ⟨trivial, rfl, R⟩
          · have hf := ie c130 hf
            refine go_aload_n (i := 0) (pc' := 179) dX14_statement_178 rfl rfl rfl ?_
            obtain ⟨v233, σ234, e235, hf⟩ := bd_some hf
            refine go_invV (As := []) (pc' := 182) dX14_statement_179 rfl cf_X14_statement_423 rfl (R.ob (R.at rfl (by decide))) rfl rfl (Nat.le_of_ble_eq_true rfl) (c_X14_next R e235) (fun q236v h237 q236 => ?_)
            obtain ⟨rfl, R⟩ := q236
            refine go_aload_n (i := 0) (pc' := 183) dX14_statement_182 rfl rfl rfl ?_
            obtain ⟨v238, σ239, e240, hf⟩ := bd_some hf
            refine go_invV (As := []) (pc' := 186) dX14_statement_183 rfl cf_X14_statement_521 rfl (R.ob (R.at rfl (by decide))) rfl rfl (Nat.le_of_ble_eq_true rfl) (c_X14_relationHere R e240) (fun q241v h242 q241 => ?_)
            obtain ⟨rfl, R⟩ := q241
            refine go_istore_nE rfl (i := 1) (pc' := 187) dX14_statement_186 rfl rfl (by decide) rfl ?_
            refine go_aload_n (i := 0) (pc' := 188) dX14_statement_187 rfl rfl rfl ?_
            obtain ⟨v243, σ244, e245, hf⟩ := bd_some hf
            refine go_invV (As := []) (pc' := 191) dX14_statement_188 rfl cf_X14_statement_499 rfl (R.ob (R.at rfl (by decide))) rfl rfl (Nat.le_of_ble_eq_true rfl) (c_X14_readShape R e245) (fun q246v h247 q246 => ?_)
            obtain ⟨rfl, R⟩ := q246
            refine go_aload_n (i := 0) (pc' := 192) dX14_statement_191 rfl rfl rfl ?_
            refine go_bipush (v := 59) (pc' := 194) dX14_statement_192 rfl (by decide) ?_
            obtain ⟨v248, σ249, e250, hf⟩ := bd_some hf
            refine go_invV (As := [_]) (pc' := 197) dX14_statement_194 rfl cf_X14_statement_435 rfl (R.ob (R.at rfl (by decide))) rfl rfl (Nat.le_of_ble_eq_true rfl) (c_X14_expect R e250) (fun q251v h252 q251 => ?_)
            obtain ⟨rfl, R⟩ := q251
            refine go_aload_n (i := 0) (pc' := 198) dX14_statement_197 rfl rfl rfl ?_
            refine go_getS (pc' := 201) dX14_statement_198 rfl gf_LandBaseModel_365 R (R.at rfl (by decide)) (by decide) rfl ?_
            refine go_if_ne (pc' := 204) (tgt := 209) dX14_statement_201 (by decide) rfl (fun c253 => ?_) (fun c253 => ?_)
            · have hf := ie c253 hf
              refine go_goto (pc' := 0) (tgt := 405) dX14_statement_209 (by decide) ?_
              obtain rfl := Option.some.inj hf
              exact Go.ret (v := none) dX14_statement_405 rfl ⟨trivial, rfl, R⟩
            · have hf := it c253 hf
              refine go_aload_n (i := 0) (pc' := 205) dX14_statement_204 rfl rfl rfl ?_
              refine go_iload_n (i := 1) (pc' := 206) dX14_statement_205 rfl rfl rfl ?_
              obtain ⟨v254, σ255, e256, hf⟩ := bd_some hf
              refine go_invV (As := [_]) (pc' := 209) dX14_statement_206 rfl cf_X14_statement_524 rfl (R.ob (R.at rfl (by decide))) rfl rfl (Nat.le_of_ble_eq_true rfl) (c_X14_find R e256) (fun q257v h258 q257 => ?_)
              obtain ⟨rfl, R⟩ := q257
              exact t_X14_statement_209 R hf
        · have hf := ie c124 hf
          refine go_aload_n (i := 0) (pc' := 162) dX14_statement_161 rfl rfl rfl ?_
          obtain ⟨v259, σ260, e261, hf⟩ := bd_some hf
          refine go_invV (As := []) (pc' := 165) dX14_statement_162 rfl cf_X14_statement_516 rfl (R.ob (R.at rfl (by decide))) rfl rfl (Nat.le_of_ble_eq_true rfl) (c_X14_readFill R e261) (fun q262v h263 q262 => ?_)
          obtain ⟨rfl, R⟩ := q262
          refine go_goto (pc' := 0) (tgt := 405) dX14_statement_165 (by decide) ?_
          obtain rfl := Option.some.inj hf
          exact Go.ret (v := none) dX14_statement_405 rfl ⟨trivial, rfl, R⟩
      · have hf := ie c118 hf
        refine go_aload_n (i := 0) (pc' := 105) dX14_statement_104 rfl rfl rfl ?_
        obtain ⟨v264, σ265, e266, hf⟩ := bd_some hf
        refine go_invV (As := []) (pc' := 108) dX14_statement_105 rfl cf_X14_statement_423 rfl (R.ob (R.at rfl (by decide))) rfl rfl (Nat.le_of_ble_eq_true rfl) (c_X14_next R e266) (fun q267v h268 q267 => ?_)
        obtain ⟨rfl, R⟩ := q267
        refine go_aload_n (i := 0) (pc' := 109) dX14_statement_108 rfl rfl rfl ?_
        refine go_iconst (v := 3) (pc' := 110) dX14_statement_109 rfl (by decide) ?_
        obtain ⟨v269, σ270, e271, hf⟩ := bd_some hf
        refine go_invV (As := [_]) (pc' := 113) dX14_statement_110 rfl cf_X14_statement_496 rfl (R.ob (R.at rfl (by decide))) rfl rfl (Nat.le_of_ble_eq_true rfl) (c_X14_readInts R e271) (fun q272v h273 q272 => ?_)
        obtain ⟨rfl, R⟩ := q272
        refine go_aload_n (i := 0) (pc' := 114) dX14_statement_113 rfl rfl rfl ?_
        refine go_bipush (v := 59) (pc' := 116) dX14_statement_114 rfl (by decide) ?_
        obtain ⟨v274, σ275, e276, hf⟩ := bd_some hf
        refine go_invV (As := [_]) (pc' := 119) dX14_statement_116 rfl cf_X14_statement_435 rfl (R.ob (R.at rfl (by decide))) rfl rfl (Nat.le_of_ble_eq_true rfl) (c_X14_expect R e276) (fun q277v h278 q277 => ?_)
        obtain ⟨rfl, R⟩ := q277
        refine go_aload_n (i := 0) (pc' := 120) dX14_statement_119 rfl rfl rfl ?_
        refine go_getS (pc' := 123) dX14_statement_120 rfl gf_LandBaseModel_365 R (R.at rfl (by decide)) (by decide) rfl ?_
        refine go_if_ne (pc' := 126) (tgt := 405) dX14_statement_123 (by decide) rfl (fun c279 => ?_) (fun c279 => ?_)
        · have hf := ie c279 hf
          obtain rfl := Option.some.inj hf
          exact Go.ret (v := none) dX14_statement_405 rfl ⟨trivial, rfl, R⟩
        · have hf := it c279 hf
          refine go_aload_n (i := 0) (pc' := 127) dX14_statement_126 rfl rfl rfl ?_
          refine go_aload_n (i := 0) (pc' := 128) dX14_statement_127 rfl rfl rfl ?_
          refine go_getS (pc' := 131) dX14_statement_128 rfl gf_LandBaseModel_471 R (R.at rfl (by decide)) (by decide) rfl ?_
          refine go_iconst (v := 0) (pc' := 132) dX14_statement_131 rfl (by decide) ?_
          obtain ⟨g280, hf⟩ := gd_some hf
          refine go_ialoadS (pc' := 133) dX14_statement_132 rfl R (R.aa rfl (by decide)) g280 ?_
          refine go_aload_n (i := 0) (pc' := 134) dX14_statement_133 rfl rfl rfl ?_
          refine go_getS (pc' := 137) dX14_statement_134 rfl gf_LandBaseModel_471 R (R.at rfl (by decide)) (by decide) rfl ?_
          refine go_iconst (v := 1) (pc' := 138) dX14_statement_137 rfl (by decide) ?_
          obtain ⟨g281, hf⟩ := gd_some hf
          refine go_ialoadS (pc' := 139) dX14_statement_138 rfl R (R.aa rfl (by decide)) g281 ?_
          refine go_aload_n (i := 0) (pc' := 140) dX14_statement_139 rfl rfl rfl ?_
          refine go_getS (pc' := 143) dX14_statement_140 rfl gf_LandBaseModel_471 R (R.at rfl (by decide)) (by decide) rfl ?_
          refine go_iconst (v := 2) (pc' := 144) dX14_statement_143 rfl (by decide) ?_
          obtain ⟨g282, hf⟩ := gd_some hf
          refine go_ialoadS (pc' := 145) dX14_statement_144 rfl R (R.aa rfl (by decide)) g282 ?_
          obtain ⟨v283, σ284, e285, hf⟩ := bd_some hf
          refine go_invV (As := [_, _, _]) (pc' := 148) dX14_statement_145 rfl cf_X14_statement_511 rfl (R.ob (R.at rfl (by decide))) rfl rfl (Nat.le_of_ble_eq_true rfl) (c_X14_move R e285) (fun q286v h287 q286 => ?_)
          obtain ⟨rfl, R⟩ := q286
          refine go_goto (pc' := 0) (tgt := 405) dX14_statement_148 (by decide) ?_
          obtain rfl := Option.some.inj hf
          exact Go.ret (v := none) dX14_statement_405 rfl ⟨trivial, rfl, R⟩
    · have hf := ie c112 hf
      refine go_aload_n (i := 0) (pc' := 60) dX14_statement_59 rfl rfl rfl ?_
      obtain ⟨v288, σ289, e290, hf⟩ := bd_some hf
      refine go_invV (As := []) (pc' := 63) dX14_statement_60 rfl cf_X14_statement_423 rfl (R.ob (R.at rfl (by decide))) rfl rfl (Nat.le_of_ble_eq_true rfl) (c_X14_next R e290) (fun q291v h292 q291 => ?_)
      obtain ⟨rfl, R⟩ := q291
      refine go_aload_n (i := 0) (pc' := 64) dX14_statement_63 rfl rfl rfl ?_
      refine go_iconst (v := 1) (pc' := 65) dX14_statement_64 rfl (by decide) ?_
      obtain ⟨v293, σ294, e295, hf⟩ := bd_some hf
      refine go_invV (As := [_]) (pc' := 68) dX14_statement_65 rfl cf_X14_statement_496 rfl (R.ob (R.at rfl (by decide))) rfl rfl (Nat.le_of_ble_eq_true rfl) (c_X14_readInts R e295) (fun q296v h297 q296 => ?_)
      obtain ⟨rfl, R⟩ := q296
      refine go_aload_n (i := 0) (pc' := 69) dX14_statement_68 rfl rfl rfl ?_
      refine go_bipush (v := 59) (pc' := 71) dX14_statement_69 rfl (by decide) ?_
      obtain ⟨v298, σ299, e300, hf⟩ := bd_some hf
      refine go_invV (As := [_]) (pc' := 74) dX14_statement_71 rfl cf_X14_statement_435 rfl (R.ob (R.at rfl (by decide))) rfl rfl (Nat.le_of_ble_eq_true rfl) (c_X14_expect R e300) (fun q301v h302 q301 => ?_)
      obtain ⟨rfl, R⟩ := q301
      refine go_aload_n (i := 0) (pc' := 75) dX14_statement_74 rfl rfl rfl ?_
      refine go_getS (pc' := 78) dX14_statement_75 rfl gf_LandBaseModel_365 R (R.at rfl (by decide)) (by decide) rfl ?_
      refine go_if_ne (pc' := 81) (tgt := 405) dX14_statement_78 (by decide) rfl (fun c303 => ?_) (fun c303 => ?_)
      · have hf := ie c303 hf
        obtain rfl := Option.some.inj hf
        exact Go.ret (v := none) dX14_statement_405 rfl ⟨trivial, rfl, R⟩
      · have hf := it c303 hf
        refine go_aload_n (i := 0) (pc' := 82) dX14_statement_81 rfl rfl rfl ?_
        refine go_aload_n (i := 0) (pc' := 83) dX14_statement_82 rfl rfl rfl ?_
        refine go_getS (pc' := 86) dX14_statement_83 rfl gf_LandBaseModel_471 R (R.at rfl (by decide)) (by decide) rfl ?_
        refine go_iconst (v := 0) (pc' := 87) dX14_statement_86 rfl (by decide) ?_
        obtain ⟨g304, hf⟩ := gd_some hf
        refine go_ialoadS (pc' := 88) dX14_statement_87 rfl R (R.aa rfl (by decide)) g304 ?_
        obtain ⟨v305, σ306, e307, hf⟩ := bd_some hf
        refine go_invV (As := [_]) (pc' := 91) dX14_statement_88 rfl cf_X14_statement_506 rfl (R.ob (R.at rfl (by decide))) rfl rfl (Nat.le_of_ble_eq_true rfl) (c_X14_drop R e307) (fun q308v h309 q308 => ?_)
        obtain ⟨rfl, R⟩ := q308
        refine go_goto (pc' := 0) (tgt := 405) dX14_statement_91 (by decide) ?_
        obtain rfl := Option.some.inj hf
        exact Go.ret (v := none) dX14_statement_405 rfl ⟨trivial, rfl, R⟩
  · have hf := ie c106 hf
    refine go_aload_n (i := 0) (pc' := 11) dX14_statement_10 rfl rfl rfl ?_
    obtain ⟨v310, σ311, e312, hf⟩ := bd_some hf
    refine go_invV (As := []) (pc' := 14) dX14_statement_11 rfl cf_X14_statement_423 rfl (R.ob (R.at rfl (by decide))) rfl rfl (Nat.le_of_ble_eq_true rfl) (c_X14_next R e312) (fun q313v h314 q313 => ?_)
    obtain ⟨rfl, R⟩ := q313
    refine go_aload_n (i := 0) (pc' := 15) dX14_statement_14 rfl rfl rfl ?_
    refine go_iconst (v := 1) (pc' := 16) dX14_statement_15 rfl (by decide) ?_
    obtain ⟨v315, σ316, e317, hf⟩ := bd_some hf
    refine go_invV (As := [_]) (pc' := 19) dX14_statement_16 rfl cf_X14_statement_496 rfl (R.ob (R.at rfl (by decide))) rfl rfl (Nat.le_of_ble_eq_true rfl) (c_X14_readInts R e317) (fun q318v h319 q318 => ?_)
    obtain ⟨rfl, R⟩ := q318
    refine go_aload_n (i := 0) (pc' := 20) dX14_statement_19 rfl rfl rfl ?_
    obtain ⟨v320, σ321, e322, hf⟩ := bd_some hf
    refine go_invV (As := []) (pc' := 23) dX14_statement_20 rfl cf_X14_statement_499 rfl (R.ob (R.at rfl (by decide))) rfl rfl (Nat.le_of_ble_eq_true rfl) (c_X14_readShape R e322) (fun q323v h324 q323 => ?_)
    obtain ⟨rfl, R⟩ := q323
    refine go_aload_n (i := 0) (pc' := 24) dX14_statement_23 rfl rfl rfl ?_
    refine go_bipush (v := 59) (pc' := 26) dX14_statement_24 rfl (by decide) ?_
    obtain ⟨v325, σ326, e327, hf⟩ := bd_some hf
    refine go_invV (As := [_]) (pc' := 29) dX14_statement_26 rfl cf_X14_statement_435 rfl (R.ob (R.at rfl (by decide))) rfl rfl (Nat.le_of_ble_eq_true rfl) (c_X14_expect R e327) (fun q328v h329 q328 => ?_)
    obtain ⟨rfl, R⟩ := q328
    refine go_aload_n (i := 0) (pc' := 30) dX14_statement_29 rfl rfl rfl ?_
    refine go_getS (pc' := 33) dX14_statement_30 rfl gf_LandBaseModel_365 R (R.at rfl (by decide)) (by decide) rfl ?_
    refine go_if_ne (pc' := 36) (tgt := 405) dX14_statement_33 (by decide) rfl (fun c330 => ?_) (fun c330 => ?_)
    · have hf := ie c330 hf
      obtain rfl := Option.some.inj hf
      exact Go.ret (v := none) dX14_statement_405 rfl ⟨trivial, rfl, R⟩
    · have hf := it c330 hf
      refine go_aload_n (i := 0) (pc' := 37) dX14_statement_36 rfl rfl rfl ?_
      refine go_aload_n (i := 0) (pc' := 38) dX14_statement_37 rfl rfl rfl ?_
      refine go_getS (pc' := 41) dX14_statement_38 rfl gf_LandBaseModel_471 R (R.at rfl (by decide)) (by decide) rfl ?_
      refine go_iconst (v := 0) (pc' := 42) dX14_statement_41 rfl (by decide) ?_
      obtain ⟨g331, hf⟩ := gd_some hf
      refine go_ialoadS (pc' := 43) dX14_statement_42 rfl R (R.aa rfl (by decide)) g331 ?_
      obtain ⟨v332, σ333, e334, hf⟩ := bd_some hf
      refine go_invV (As := [_]) (pc' := 46) dX14_statement_43 rfl cf_X14_statement_502 rfl (R.ob (R.at rfl (by decide))) rfl rfl (Nat.le_of_ble_eq_true rfl) (c_X14_add R e334) (fun q335v h336 q335 => ?_)
      obtain ⟨rfl, R⟩ := q335
      refine go_goto (pc' := 0) (tgt := 405) dX14_statement_46 (by decide) ?_
      obtain rfl := Option.some.inj hf
      exact Go.ret (v := none) dX14_statement_405 rfl ⟨trivial, rfl, R⟩
def l_X14_lay_3 (n : Nat) : Nat → Int64 → Int32 → xσ → Option (Unit × xσ)
  | 0, _, _, _ => none
  | f + 1, l1, x3, σ => if x3 < 0 then some ((), σ) else gd (inb (sI σ 233 40) 4000) (st (wI σ 1863 (sI σ 233 40).toNatClampNeg (((l1 >>> (x3.toInt64 &&& 63)) &&& ((255 : Int64))).toInt32)) (fun σ103 => st (wI σ103 233 40 ((sI σ103 233 40) + 1)) (fun σ106 => (l_X14_lay_3 n f) l1 (x3 + (-8)) σ106)))
set_option maxRecDepth 100000 in
set_option maxHeartbeats 4000000 in
theorem t_X14_lay_3 {G : xG} {n : Nat} : ∀ (f : Nat) {l1 : Int64} {x3 : Int32} {σ : xσ} {h : xH} {r : Unit × xσ}, Rl n σ h → l_X14_lay_3 n f l1 x3 σ = some r → Go G mX14_lay 3 [some (.ref 233), some (.long l1), none, some (.int x3)] [] h (fun v h' => xRok (xRt mX14_lay) v ∧ v = none ∧ Rl n r.2 h') := by
  intro f
  induction f with
  | zero =>
    intros
    rename _ = some _ => hf
    rw [l_X14_lay_3] at hf
    cases hf
  | succ f ih =>
    intro l1 x3 σ h r  R hf
    rw [l_X14_lay_3] at hf
    refine go_iload_n (i := 3) (pc' := 4) dX14_lay_3 rfl rfl rfl ?_
    refine go_if_lt (pc' := 7) (tgt := 40) dX14_lay_4 (by decide) rfl (fun c101 => ?_) (fun c101 => ?_)
    · have hf := it c101 hf
      obtain rfl := Option.some.inj hf
      exact Go.ret (v := none) dX14_lay_40 rfl ⟨trivial, rfl, R⟩
    · have hf := ie c101 hf
      refine go_aload_n (i := 0) (pc' := 8) dX14_lay_7 rfl rfl rfl ?_
      refine go_getS (pc' := 11) dX14_lay_8 rfl gf_LandBaseModel_376 R (R.at rfl (by decide)) (by decide) rfl ?_
      refine go_aload_n (i := 0) (pc' := 12) dX14_lay_11 rfl rfl rfl ?_
      refine go_getS (pc' := 15) dX14_lay_12 rfl gf_LandBaseModel_373 R (R.at rfl (by decide)) (by decide) rfl ?_
      refine go_lload_n (i := 1) (pc' := 16) dX14_lay_15 rfl rfl rfl ?_
      refine go_iload_n (i := 3) (pc' := 17) dX14_lay_16 rfl rfl rfl ?_
      refine go_lshr (pc' := 18) dX14_lay_17 rfl rfl ?_
      refine go_ldc2 (pc' := 21) dX14_lay_18 rfl wd_1235 ?_
      refine go_land (pc' := 22) dX14_lay_21 rfl ?_
      refine go_l2i (pc' := 23) dX14_lay_22 rfl rfl ?_
      obtain ⟨g102, hf⟩ := gd_some hf
      obtain ⟨σ103, e104, hf⟩ := st_some hf
      refine go_iastoreS (pc' := 24) dX14_lay_23 rfl R (R.aa rfl (by decide)) g102 (fun h105 R => ?_)
      have R := Rl.cast e104 R
      refine go_aload_n (i := 0) (pc' := 25) dX14_lay_24 rfl rfl rfl ?_
      refine go_dup (pc' := 26) dX14_lay_25 rfl rfl ?_
      refine go_getS (pc' := 29) dX14_lay_26 rfl gf_LandBaseModel_373 R (R.at rfl (by decide)) (by decide) rfl ?_
      refine go_iconst (v := 1) (pc' := 30) dX14_lay_29 rfl (by decide) ?_
      refine go_iadd (pc' := 31) dX14_lay_30 rfl ?_
      obtain ⟨σ106, e107, hf⟩ := st_some hf
      refine go_putI (pc' := 34) dX14_lay_31 rfl pf_LandBaseModel_373 R (R.at rfl (by decide)) (by decide) rfl rfl rfl (fun h108 R => ?_)
      have R := Rl.cast e107 R
      refine go_iincC (kk := (-8)) (pc' := 37) dX14_lay_34 rfl rfl (by decide) (by decide) rfl ?_
      refine go_goto (pc' := 0) (tgt := 3) dX14_lay_37 (by decide) ?_
      exact ih R hf
def f_X14_lay (n : Nat) (l1 : Int64) (σ : xσ) : Option (Unit × xσ) := l_X14_lay_3 n xFU l1 56 σ
set_option maxRecDepth 100000 in
set_option maxHeartbeats 4000000 in
theorem c_X14_lay {G : xG} {n : Nat} {σ : xσ} {h : xH} {l1 : Int64} {v1 : Unit} {σ1 : xσ} (R : Rl n σ h) (hf : f_X14_lay n l1 σ = some (v1, σ1)) : Ca G mX14_lay [.ref 233, .long l1] h (fun v h' => v = none ∧ Rl n σ1 h') := by
  refine Ca.of rfl (Nat.le_of_ble_eq_true rfl) ?_
  generalize hr : (v1, σ1) = r at hf
  suffices q : Go G mX14_lay 0 (xent (xMl mX14_lay) [.ref 233, .long l1]) [] h (fun v h' => xRok (xRt mX14_lay) v ∧ v = none ∧ Rl n r.2 h') by
    subst hr
    exact q
  clear hr
  rw [f_X14_lay] at hf
  refine go_bipush (v := 56) (pc' := 2) dX14_lay_0 rfl (by decide) ?_
  refine go_istore_nE rfl (i := 3) (pc' := 3) dX14_lay_2 rfl rfl (by decide) rfl ?_
  exact t_X14_lay_3 xFU R hf
def f_X14_feed (n : Nat) (l1 : Int64) (l3 : Int64) (l5 : Int64) (l7 : Int64) (l9 : Int64) (σ : xσ) : Option (Int32 × xσ) := if ((sI σ 233 40) + 40) ≤ 4000 then bd (f_X14_lay n l1 σ) (fun v102 σ103 => bd (f_X14_lay n l3 σ103) (fun v107 σ108 => bd (f_X14_lay n l5 σ108) (fun v112 σ113 => bd (f_X14_lay n l7 σ113) (fun v117 σ118 => bd (f_X14_lay n l9 σ118) (fun v122 σ123 => some (sI σ123 233 40, σ123)))))) else some ((-1), σ)
set_option maxRecDepth 100000 in
set_option maxHeartbeats 4000000 in
theorem c_X14_feed {G : xG} {n : Nat} {σ : xσ} {h : xH} {l1 : Int64} {l3 : Int64} {l5 : Int64} {l7 : Int64} {l9 : Int64} {v1 : Int32} {σ1 : xσ} (R : Rl n σ h) (hf : f_X14_feed n l1 l3 l5 l7 l9 σ = some (v1, σ1)) : Ca G mX14_feed [.ref 233, .long l1, .long l3, .long l5, .long l7, .long l9] h (fun v h' => v = some (.int v1) ∧ Rl n σ1 h') := by
  refine Ca.of rfl (Nat.le_of_ble_eq_true rfl) ?_
  generalize hr : (v1, σ1) = r at hf
  suffices q : Go G mX14_feed 0 (xent (xMl mX14_feed) [.ref 233, .long l1, .long l3, .long l5, .long l7, .long l9]) [] h (fun v h' => xRok (xRt mX14_feed) v ∧ v = some (.int r.1) ∧ Rl n r.2 h') by
    subst hr
    exact q
  clear hr
  rw [f_X14_feed] at hf
  refine go_aload_n (i := 0) (pc' := 1) dX14_feed_0 rfl rfl rfl ?_
  refine go_getS (pc' := 4) dX14_feed_1 rfl gf_LandBaseModel_373 R (R.at rfl (by decide)) (by decide) rfl ?_
  refine go_bipush (v := 40) (pc' := 6) dX14_feed_4 rfl (by decide) ?_
  refine go_iadd (pc' := 7) dX14_feed_6 rfl ?_
  refine go_sipush (v := 4000) (pc' := 10) dX14_feed_7 rfl (by decide) ?_
  refine go_icmp_le (pc' := 13) (tgt := 15) dX14_feed_10 (by decide) rfl (fun c101 => ?_) (fun c101 => ?_)
  · have hf := it c101 hf
    refine go_aload_n (i := 0) (pc' := 16) dX14_feed_15 rfl rfl rfl ?_
    refine go_lload_n (i := 1) (pc' := 17) dX14_feed_16 rfl rfl rfl ?_
    obtain ⟨v102, σ103, e104, hf⟩ := bd_some hf
    refine go_invV (As := [_]) (pc' := 20) dX14_feed_17 rfl cf_X14_feed_644 rfl (R.ob (R.at rfl (by decide))) rfl rfl (Nat.le_of_ble_eq_true rfl) (c_X14_lay R e104) (fun q105v h106 q105 => ?_)
    obtain ⟨rfl, R⟩ := q105
    refine go_aload_n (i := 0) (pc' := 21) dX14_feed_20 rfl rfl rfl ?_
    refine go_lload_n (i := 3) (pc' := 22) dX14_feed_21 rfl rfl rfl ?_
    obtain ⟨v107, σ108, e109, hf⟩ := bd_some hf
    refine go_invV (As := [_]) (pc' := 25) dX14_feed_22 rfl cf_X14_feed_644 rfl (R.ob (R.at rfl (by decide))) rfl rfl (Nat.le_of_ble_eq_true rfl) (c_X14_lay R e109) (fun q110v h111 q110 => ?_)
    obtain ⟨rfl, R⟩ := q110
    refine go_aload_n (i := 0) (pc' := 26) dX14_feed_25 rfl rfl rfl ?_
    refine go_lload (pc' := 28) dX14_feed_26 rfl rfl ?_
    obtain ⟨v112, σ113, e114, hf⟩ := bd_some hf
    refine go_invV (As := [_]) (pc' := 31) dX14_feed_28 rfl cf_X14_feed_644 rfl (R.ob (R.at rfl (by decide))) rfl rfl (Nat.le_of_ble_eq_true rfl) (c_X14_lay R e114) (fun q115v h116 q115 => ?_)
    obtain ⟨rfl, R⟩ := q115
    refine go_aload_n (i := 0) (pc' := 32) dX14_feed_31 rfl rfl rfl ?_
    refine go_lload (pc' := 34) dX14_feed_32 rfl rfl ?_
    obtain ⟨v117, σ118, e119, hf⟩ := bd_some hf
    refine go_invV (As := [_]) (pc' := 37) dX14_feed_34 rfl cf_X14_feed_644 rfl (R.ob (R.at rfl (by decide))) rfl rfl (Nat.le_of_ble_eq_true rfl) (c_X14_lay R e119) (fun q120v h121 q120 => ?_)
    obtain ⟨rfl, R⟩ := q120
    refine go_aload_n (i := 0) (pc' := 38) dX14_feed_37 rfl rfl rfl ?_
    refine go_lload (pc' := 40) dX14_feed_38 rfl rfl ?_
    obtain ⟨v122, σ123, e124, hf⟩ := bd_some hf
    refine go_invV (As := [_]) (pc' := 43) dX14_feed_40 rfl cf_X14_feed_644 rfl (R.ob (R.at rfl (by decide))) rfl rfl (Nat.le_of_ble_eq_true rfl) (c_X14_lay R e124) (fun q125v h126 q125 => ?_)
    obtain ⟨rfl, R⟩ := q125
    refine go_aload_n (i := 0) (pc' := 44) dX14_feed_43 rfl rfl rfl ?_
    refine go_getS (pc' := 47) dX14_feed_44 rfl gf_LandBaseModel_373 R (R.at rfl (by decide)) (by decide) rfl ?_
    obtain rfl := Option.some.inj hf
    exact Go.ret (v := some (.int _)) dX14_feed_47 ⟨_, rfl⟩ ⟨rfl, rfl, R⟩
  · have hf := ie c101 hf
    refine go_iconst (v := (-1)) (pc' := 14) dX14_feed_13 rfl (by decide) ?_
    obtain rfl := Option.some.inj hf
    exact Go.ret (v := some (.int _)) dX14_feed_14 ⟨_, rfl⟩ ⟨rfl, rfl, R⟩
def f_X14_end (n : Nat) (x1 : Int32) (σ : xσ) : Option (Int32 × xσ) := if x1 < 0 then some ((-1), σ) else if 40 < x1 then some ((-1), σ) else if (40 - x1) ≤ (sI σ 233 40) then st (wI σ 233 40 ((sI σ 233 40) - (40 - x1))) (fun σ104 => some (sI σ104 233 40, σ104)) else some ((-1), σ)
set_option maxRecDepth 100000 in
set_option maxHeartbeats 4000000 in
theorem c_X14_end {G : xG} {n : Nat} {σ : xσ} {h : xH} {x1 : Int32} {v1 : Int32} {σ1 : xσ} (R : Rl n σ h) (hf : f_X14_end n x1 σ = some (v1, σ1)) : Ca G mX14_end [.ref 233, .int x1] h (fun v h' => v = some (.int v1) ∧ Rl n σ1 h') := by
  refine Ca.of rfl (Nat.le_of_ble_eq_true rfl) ?_
  generalize hr : (v1, σ1) = r at hf
  suffices q : Go G mX14_end 0 (xent (xMl mX14_end) [.ref 233, .int x1]) [] h (fun v h' => xRok (xRt mX14_end) v ∧ v = some (.int r.1) ∧ Rl n r.2 h') by
    subst hr
    exact q
  clear hr
  rw [f_X14_end] at hf
  refine go_iload_n (i := 1) (pc' := 1) dX14_end_0 rfl rfl rfl ?_
  refine go_if_lt (pc' := 4) (tgt := 21) dX14_end_1 (by decide) rfl (fun c101 => ?_) (fun c101 => ?_)
  · have hf := it c101 hf
    refine go_iconst (v := (-1)) (pc' := 22) dX14_end_21 rfl (by decide) ?_
    obtain rfl := Option.some.inj hf
    exact Go.ret (v := some (.int _)) dX14_end_22 ⟨_, rfl⟩ ⟨rfl, rfl, R⟩
  · have hf := ie c101 hf
    refine go_iload_n (i := 1) (pc' := 5) dX14_end_4 rfl rfl rfl ?_
    refine go_bipush (v := 40) (pc' := 7) dX14_end_5 rfl (by decide) ?_
    refine go_icmp_gt (pc' := 10) (tgt := 21) dX14_end_7 (by decide) rfl (fun c102 => ?_) (fun c102 => ?_)
    · have hf := it c102 hf
      refine go_iconst (v := (-1)) (pc' := 22) dX14_end_21 rfl (by decide) ?_
      obtain rfl := Option.some.inj hf
      exact Go.ret (v := some (.int _)) dX14_end_22 ⟨_, rfl⟩ ⟨rfl, rfl, R⟩
    · have hf := ie c102 hf
      refine go_aload_n (i := 0) (pc' := 11) dX14_end_10 rfl rfl rfl ?_
      refine go_getS (pc' := 14) dX14_end_11 rfl gf_LandBaseModel_373 R (R.at rfl (by decide)) (by decide) rfl ?_
      refine go_bipush (v := 40) (pc' := 16) dX14_end_14 rfl (by decide) ?_
      refine go_iload_n (i := 1) (pc' := 17) dX14_end_16 rfl rfl rfl ?_
      refine go_isub (pc' := 18) dX14_end_17 rfl ?_
      refine go_icmp_ge (pc' := 21) (tgt := 23) dX14_end_18 (by decide) rfl (fun c103 => ?_) (fun c103 => ?_)
      · have hf := it c103 hf
        refine go_aload_n (i := 0) (pc' := 24) dX14_end_23 rfl rfl rfl ?_
        refine go_dup (pc' := 25) dX14_end_24 rfl rfl ?_
        refine go_getS (pc' := 28) dX14_end_25 rfl gf_LandBaseModel_373 R (R.at rfl (by decide)) (by decide) rfl ?_
        refine go_bipush (v := 40) (pc' := 30) dX14_end_28 rfl (by decide) ?_
        refine go_iload_n (i := 1) (pc' := 31) dX14_end_30 rfl rfl rfl ?_
        refine go_isub (pc' := 32) dX14_end_31 rfl ?_
        refine go_isub (pc' := 33) dX14_end_32 rfl ?_
        obtain ⟨σ104, e105, hf⟩ := st_some hf
        refine go_putI (pc' := 36) dX14_end_33 rfl pf_LandBaseModel_373 R (R.at rfl (by decide)) (by decide) rfl rfl rfl (fun h106 R => ?_)
        have R := Rl.cast e105 R
        refine go_aload_n (i := 0) (pc' := 37) dX14_end_36 rfl rfl rfl ?_
        refine go_getS (pc' := 40) dX14_end_37 rfl gf_LandBaseModel_373 R (R.at rfl (by decide)) (by decide) rfl ?_
        obtain rfl := Option.some.inj hf
        exact Go.ret (v := some (.int _)) dX14_end_40 ⟨_, rfl⟩ ⟨rfl, rfl, R⟩
      · have hf := ie c103 hf
        refine go_iconst (v := (-1)) (pc' := 22) dX14_end_21 rfl (by decide) ?_
        obtain rfl := Option.some.inj hf
        exact Go.ret (v := some (.int _)) dX14_end_22 ⟨_, rfl⟩ ⟨rfl, rfl, R⟩
def b_X14_run_80 (n : Nat) (k35 : Int32 → xσ → Option (Int32 × xσ)) (xs0 : Int32) (xs1 : Int32) (σ : xσ) : Option (Int32 × xσ) := st (xs1 + xs0) (fun x101 => k35 x101 σ)
set_option maxRecDepth 100000 in
set_option maxHeartbeats 4000000 in
theorem t_X14_run_80 {G : xG} {n : Nat} {k35 : Int32 → xσ → Option (Int32 × xσ)} (hk35 : ∀ {x1 : Int32} {σ : xσ} {h : xH} {r : Int32 × xσ}, Rl n σ h → k35 x1 σ = some r → Go G mX14_run 35 [some (.ref 233), some (.int x1)] [] h (fun v h' => xRok (xRt mX14_run) v ∧ v = some (.int r.1) ∧ Rl n r.2 h')) {xs0 : Int32} {xs1 : Int32} {σ : xσ} {h : xH} {r : Int32 × xσ} {d1 : Option Value} : Rl n σ h → b_X14_run_80 n k35 xs0 xs1 σ = some r → Go G mX14_run 80 [some (.ref 233), d1] [.int xs0, .int xs1] h (fun v h' => xRok (xRt mX14_run) v ∧ v = some (.int r.1) ∧ Rl n r.2 h') := by
  intro R hf
  rw [b_X14_run_80] at hf
  refine go_iadd (pc' := 81) dX14_run_80 rfl ?_
  obtain ⟨x101, e102, hf⟩ := st_some hf
  refine go_istore_nE e102 (i := 1) (pc' := 82) dX14_run_81 rfl rfl (by decide) rfl ?_
  refine go_goto (pc' := 0) (tgt := 35) dX14_run_82 (by decide) ?_
  exact hk35 R hf
def l_X14_run_35 (n : Nat) : Nat → Int32 → xσ → Option (Int32 × xσ)
  | 0, _, _ => none
  | f + 1, x1, σ => if (sI σ 233 45) = 0 then st (wI σ 233 40 0) (fun σ102 => some (x1, σ102)) else if (sI σ 233 48) = 0 then if (sI σ 233 33) = 0 then bd (f_X14_statement n σ) (fun v113 σ114 => if (sI σ114 233 48) = 0 then if (sI σ114 233 33) = 0 then b_X14_run_80 n (l_X14_run_35 n f) 1 x1 σ114 else b_X14_run_80 n (l_X14_run_35 n f) 0 x1 σ114 else b_X14_run_80 n (l_X14_run_35 n f) 0 x1 σ114) else st (wI σ 233 40 0) (fun σ110 => some (x1, σ110)) else st (wI σ 233 40 0) (fun σ106 => some (x1, σ106))
set_option maxRecDepth 100000 in
set_option maxHeartbeats 4000000 in
theorem t_X14_run_35 {G : xG} {n : Nat} : ∀ (f : Nat) {x1 : Int32} {σ : xσ} {h : xH} {r : Int32 × xσ}, Rl n σ h → l_X14_run_35 n f x1 σ = some r → Go G mX14_run 35 [some (.ref 233), some (.int x1)] [] h (fun v h' => xRok (xRt mX14_run) v ∧ v = some (.int r.1) ∧ Rl n r.2 h') := by
  intro f
  induction f with
  | zero =>
    intros
    rename _ = some _ => hf
    rw [l_X14_run_35] at hf
    cases hf
  | succ f ih =>
    intro x1 σ h r  R hf
    rw [l_X14_run_35] at hf
    refine go_aload_n (i := 0) (pc' := 36) dX14_run_35 rfl rfl rfl ?_
    refine go_getS (pc' := 39) dX14_run_36 rfl gf_LandBaseModel_385 R (R.at rfl (by decide)) (by decide) rfl ?_
    refine go_if_eq (pc' := 42) (tgt := 85) dX14_run_39 (by decide) rfl (fun c101 => ?_) (fun c101 => ?_)
    · have hf := it c101 hf
      refine go_aload_n (i := 0) (pc' := 86) dX14_run_85 rfl rfl rfl ?_
      refine go_iconst (v := 0) (pc' := 87) dX14_run_86 rfl (by decide) ?_
      obtain ⟨σ102, e103, hf⟩ := st_some hf
      refine go_putI (pc' := 90) dX14_run_87 rfl pf_LandBaseModel_373 R (R.at rfl (by decide)) (by decide) rfl rfl rfl (fun h104 R => ?_)
      have R := Rl.cast e103 R
      refine go_iload_n (i := 1) (pc' := 91) dX14_run_90 rfl rfl rfl ?_
      obtain rfl := Option.some.inj hf
      exact Go.ret (v := some (.int _)) dX14_run_91 ⟨_, rfl⟩ ⟨rfl, rfl, R⟩
    · have hf := ie c101 hf
      refine go_aload_n (i := 0) (pc' := 43) dX14_run_42 rfl rfl rfl ?_
      refine go_getS (pc' := 46) dX14_run_43 rfl gf_LandBaseModel_365 R (R.at rfl (by decide)) (by decide) rfl ?_
      refine go_if_ne (pc' := 49) (tgt := 85) dX14_run_46 (by decide) rfl (fun c105 => ?_) (fun c105 => ?_)
      · have hf := ie c105 hf
        refine go_aload_n (i := 0) (pc' := 86) dX14_run_85 rfl rfl rfl ?_
        refine go_iconst (v := 0) (pc' := 87) dX14_run_86 rfl (by decide) ?_
        obtain ⟨σ106, e107, hf⟩ := st_some hf
        refine go_putI (pc' := 90) dX14_run_87 rfl pf_LandBaseModel_373 R (R.at rfl (by decide)) (by decide) rfl rfl rfl (fun h108 R => ?_)
        have R := Rl.cast e107 R
        refine go_iload_n (i := 1) (pc' := 91) dX14_run_90 rfl rfl rfl ?_
        obtain rfl := Option.some.inj hf
        exact Go.ret (v := some (.int _)) dX14_run_91 ⟨_, rfl⟩ ⟨rfl, rfl, R⟩
      · have hf := it c105 hf
        refine go_aload_n (i := 0) (pc' := 50) dX14_run_49 rfl rfl rfl ?_
        refine go_getS (pc' := 53) dX14_run_50 rfl gf_LandBaseModel_318 R (R.at rfl (by decide)) (by decide) rfl ?_
        refine go_if_ne (pc' := 56) (tgt := 85) dX14_run_53 (by decide) rfl (fun c109 => ?_) (fun c109 => ?_)
        · have hf := ie c109 hf
          refine go_aload_n (i := 0) (pc' := 86) dX14_run_85 rfl rfl rfl ?_
          refine go_iconst (v := 0) (pc' := 87) dX14_run_86 rfl (by decide) ?_
          obtain ⟨σ110, e111, hf⟩ := st_some hf
          refine go_putI (pc' := 90) dX14_run_87 rfl pf_LandBaseModel_373 R (R.at rfl (by decide)) (by decide) rfl rfl rfl (fun h112 R => ?_)
          have R := Rl.cast e111 R
          refine go_iload_n (i := 1) (pc' := 91) dX14_run_90 rfl rfl rfl ?_
          obtain rfl := Option.some.inj hf
          exact Go.ret (v := some (.int _)) dX14_run_91 ⟨_, rfl⟩ ⟨rfl, rfl, R⟩
        · have hf := it c109 hf
          refine go_aload_n (i := 0) (pc' := 57) dX14_run_56 rfl rfl rfl ?_
          obtain ⟨v113, σ114, e115, hf⟩ := bd_some hf
          refine go_invV (As := []) (pc' := 60) dX14_run_57 rfl cf_X14_run_647 rfl (R.ob (R.at rfl (by decide))) rfl rfl (Nat.le_of_ble_eq_true rfl) (c_X14_statement R e115) (fun q116v h117 q116 => ?_)
          obtain ⟨rfl, R⟩ := q116
          refine go_iload_n (i := 1) (pc' := 61) dX14_run_60 rfl rfl rfl ?_
          refine go_aload_n (i := 0) (pc' := 62) dX14_run_61 rfl rfl rfl ?_
          refine go_getS (pc' := 65) dX14_run_62 rfl gf_LandBaseModel_365 R (R.at rfl (by decide)) (by decide) rfl ?_
          refine go_if_ne (pc' := 68) (tgt := 75) dX14_run_65 (by decide) rfl (fun c118 => ?_) (fun c118 => ?_)
          · have hf := ie c118 hf
            refine go_iconst (v := 0) (pc' := 76) dX14_run_75 rfl (by decide) ?_
            refine go_goto (pc' := 0) (tgt := 80) dX14_run_76 (by decide) ?_
            exact t_X14_run_80 @ih R hf
          · have hf := it c118 hf
            refine go_aload_n (i := 0) (pc' := 69) dX14_run_68 rfl rfl rfl ?_
            refine go_getS (pc' := 72) dX14_run_69 rfl gf_LandBaseModel_318 R (R.at rfl (by decide)) (by decide) rfl ?_
            refine go_if_eq (pc' := 75) (tgt := 79) dX14_run_72 (by decide) rfl (fun c119 => ?_) (fun c119 => ?_)
            · have hf := it c119 hf
              refine go_iconst (v := 1) (pc' := 80) dX14_run_79 rfl (by decide) ?_
              exact t_X14_run_80 @ih R hf
            · have hf := ie c119 hf
              refine go_iconst (v := 0) (pc' := 76) dX14_run_75 rfl (by decide) ?_
              refine go_goto (pc' := 0) (tgt := 80) dX14_run_76 (by decide) ?_
              exact t_X14_run_80 @ih R hf
def f_X14_run (n : Nat)  (σ : xσ) : Option (Int32 × xσ) := if (sI σ 233 33) = 0 then st (wI σ 233 44 0) (fun σ102 => st (wI σ102 233 42 ((-1))) (fun σ105 => st (wI σ105 233 48 0) (fun σ108 => st (wI σ108 233 41 0) (fun σ111 => bd (f_X14_next n σ111) (fun v114 σ115 => l_X14_run_35 n xFU 0 σ115))))) else some ((-1), σ)
set_option maxRecDepth 100000 in
set_option maxHeartbeats 4000000 in
theorem c_X14_run {G : xG} {n : Nat} {σ : xσ} {h : xH}  {v1 : Int32} {σ1 : xσ} (R : Rl n σ h) (hf : f_X14_run n σ = some (v1, σ1)) : Ca G mX14_run [.ref 233] h (fun v h' => v = some (.int v1) ∧ Rl n σ1 h') := by
  refine Ca.of rfl (Nat.le_of_ble_eq_true rfl) ?_
  generalize hr : (v1, σ1) = r at hf
  suffices q : Go G mX14_run 0 (xent (xMl mX14_run) [.ref 233]) [] h (fun v h' => xRok (xRt mX14_run) v ∧ v = some (.int r.1) ∧ Rl n r.2 h') by
    subst hr
    exact q
  clear hr
  rw [f_X14_run] at hf
  refine go_aload_n (i := 0) (pc' := 1) dX14_run_0 rfl rfl rfl ?_
  refine go_getS (pc' := 4) dX14_run_1 rfl gf_LandBaseModel_318 R (R.at rfl (by decide)) (by decide) rfl ?_
  refine go_if_eq (pc' := 7) (tgt := 9) dX14_run_4 (by decide) rfl (fun c101 => ?_) (fun c101 => ?_)
  · have hf := it c101 hf
    refine go_aload_n (i := 0) (pc' := 10) dX14_run_9 rfl rfl rfl ?_
    refine go_iconst (v := 0) (pc' := 11) dX14_run_10 rfl (by decide) ?_
    obtain ⟨σ102, e103, hf⟩ := st_some hf
    refine go_putI (pc' := 14) dX14_run_11 rfl pf_LandBaseModel_362 R (R.at rfl (by decide)) (by decide) rfl rfl rfl (fun h104 R => ?_)
    have R := Rl.cast e103 R
    refine go_aload_n (i := 0) (pc' := 15) dX14_run_14 rfl rfl rfl ?_
    refine go_iconst (v := (-1)) (pc' := 16) dX14_run_15 rfl (by decide) ?_
    obtain ⟨σ105, e106, hf⟩ := st_some hf
    refine go_putI (pc' := 19) dX14_run_16 rfl pf_LandBaseModel_370 R (R.at rfl (by decide)) (by decide) rfl rfl rfl (fun h107 R => ?_)
    have R := Rl.cast e106 R
    refine go_aload_n (i := 0) (pc' := 20) dX14_run_19 rfl rfl rfl ?_
    refine go_iconst (v := 0) (pc' := 21) dX14_run_20 rfl (by decide) ?_
    obtain ⟨σ108, e109, hf⟩ := st_some hf
    refine go_putI (pc' := 24) dX14_run_21 rfl pf_LandBaseModel_365 R (R.at rfl (by decide)) (by decide) rfl rfl rfl (fun h110 R => ?_)
    have R := Rl.cast e109 R
    refine go_aload_n (i := 0) (pc' := 25) dX14_run_24 rfl rfl rfl ?_
    refine go_iconst (v := 0) (pc' := 26) dX14_run_25 rfl (by decide) ?_
    obtain ⟨σ111, e112, hf⟩ := st_some hf
    refine go_putI (pc' := 29) dX14_run_26 rfl pf_LandBaseModel_379 R (R.at rfl (by decide)) (by decide) rfl rfl rfl (fun h113 R => ?_)
    have R := Rl.cast e112 R
    refine go_iconst (v := 0) (pc' := 30) dX14_run_29 rfl (by decide) ?_
    refine go_istore_nE rfl (i := 1) (pc' := 31) dX14_run_30 rfl rfl (by decide) rfl ?_
    refine go_aload_n (i := 0) (pc' := 32) dX14_run_31 rfl rfl rfl ?_
    obtain ⟨v114, σ115, e116, hf⟩ := bd_some hf
    refine go_invV (As := []) (pc' := 35) dX14_run_32 rfl cf_X14_run_423 rfl (R.ob (R.at rfl (by decide))) rfl rfl (Nat.le_of_ble_eq_true rfl) (c_X14_next R e116) (fun q117v h118 q117 => ?_)
    obtain ⟨rfl, R⟩ := q117
    exact t_X14_run_35 xFU R hf
  · have hf := ie c101 hf
    refine go_iconst (v := (-1)) (pc' := 8) dX14_run_7 rfl (by decide) ?_
    obtain rfl := Option.some.inj hf
    exact Go.ret (v := some (.int _)) dX14_run_8 ⟨_, rfl⟩ ⟨rfl, rfl, R⟩
def f_X14_wrong (n : Nat)  (σ : xσ) : Option (Int32 × xσ) := some (sI σ 233 42, σ)
set_option maxRecDepth 100000 in
set_option maxHeartbeats 4000000 in
theorem c_X14_wrong {G : xG} {n : Nat} {σ : xσ} {h : xH}  {v1 : Int32} {σ1 : xσ} (R : Rl n σ h) (hf : f_X14_wrong n σ = some (v1, σ1)) : Ca G mX14_wrong [.ref 233] h (fun v h' => v = some (.int v1) ∧ Rl n σ1 h') := by
  refine Ca.of rfl (Nat.le_of_ble_eq_true rfl) ?_
  generalize hr : (v1, σ1) = r at hf
  suffices q : Go G mX14_wrong 0 (xent (xMl mX14_wrong) [.ref 233]) [] h (fun v h' => xRok (xRt mX14_wrong) v ∧ v = some (.int r.1) ∧ Rl n r.2 h') by
    subst hr
    exact q
  clear hr
  rw [f_X14_wrong] at hf
  refine go_aload_n (i := 0) (pc' := 1) dX14_wrong_0 rfl rfl rfl ?_
  refine go_getS (pc' := 4) dX14_wrong_1 rfl gf_LandBaseModel_370 R (R.at rfl (by decide)) (by decide) rfl ?_
  obtain rfl := Option.some.inj hf
  exact Go.ret (v := some (.int _)) dX14_wrong_4 ⟨_, rfl⟩ ⟨rfl, rfl, R⟩
def f_X14_outputs (n : Nat)  (σ : xσ) : Option (Int32 × xσ) := some (sI σ 233 44, σ)
set_option maxRecDepth 100000 in
set_option maxHeartbeats 4000000 in
theorem c_X14_outputs {G : xG} {n : Nat} {σ : xσ} {h : xH}  {v1 : Int32} {σ1 : xσ} (R : Rl n σ h) (hf : f_X14_outputs n σ = some (v1, σ1)) : Ca G mX14_outputs [.ref 233] h (fun v h' => v = some (.int v1) ∧ Rl n σ1 h') := by
  refine Ca.of rfl (Nat.le_of_ble_eq_true rfl) ?_
  generalize hr : (v1, σ1) = r at hf
  suffices q : Go G mX14_outputs 0 (xent (xMl mX14_outputs) [.ref 233]) [] h (fun v h' => xRok (xRt mX14_outputs) v ∧ v = some (.int r.1) ∧ Rl n r.2 h') by
    subst hr
    exact q
  clear hr
  rw [f_X14_outputs] at hf
  refine go_aload_n (i := 0) (pc' := 1) dX14_outputs_0 rfl rfl rfl ?_
  refine go_getS (pc' := 4) dX14_outputs_1 rfl gf_LandBaseModel_362 R (R.at rfl (by decide)) (by decide) rfl ?_
  obtain rfl := Option.some.inj hf
  exact Go.ret (v := some (.int _)) dX14_outputs_4 ⟨_, rfl⟩ ⟨rfl, rfl, R⟩
def f_X14_out (n : Nat) (x1 : Int32) (σ : xσ) : Option (Int32 × xσ) := if x1 < 0 then some (0, σ) else if (sI σ 233 44) ≤ x1 then some (0, σ) else gd (inb x1 30000) (some (sI σ 1864 x1.toNatClampNeg, σ))
set_option maxRecDepth 100000 in
set_option maxHeartbeats 4000000 in
theorem c_X14_out {G : xG} {n : Nat} {σ : xσ} {h : xH} {x1 : Int32} {v1 : Int32} {σ1 : xσ} (R : Rl n σ h) (hf : f_X14_out n x1 σ = some (v1, σ1)) : Ca G mX14_out [.ref 233, .int x1] h (fun v h' => v = some (.int v1) ∧ Rl n σ1 h') := by
  refine Ca.of rfl (Nat.le_of_ble_eq_true rfl) ?_
  generalize hr : (v1, σ1) = r at hf
  suffices q : Go G mX14_out 0 (xent (xMl mX14_out) [.ref 233, .int x1]) [] h (fun v h' => xRok (xRt mX14_out) v ∧ v = some (.int r.1) ∧ Rl n r.2 h') by
    subst hr
    exact q
  clear hr
  rw [f_X14_out] at hf
  refine go_iload_n (i := 1) (pc' := 1) dX14_out_0 rfl rfl rfl ?_
  refine go_if_lt (pc' := 4) (tgt := 21) dX14_out_1 (by decide) rfl (fun c101 => ?_) (fun c101 => ?_)
  · have hf := it c101 hf
    refine go_iconst (v := 0) (pc' := 22) dX14_out_21 rfl (by decide) ?_
    obtain rfl := Option.some.inj hf
    exact Go.ret (v := some (.int _)) dX14_out_22 ⟨_, rfl⟩ ⟨rfl, rfl, R⟩
  · have hf := ie c101 hf
    refine go_iload_n (i := 1) (pc' := 5) dX14_out_4 rfl rfl rfl ?_
    refine go_aload_n (i := 0) (pc' := 6) dX14_out_5 rfl rfl rfl ?_
    refine go_getS (pc' := 9) dX14_out_6 rfl gf_LandBaseModel_362 R (R.at rfl (by decide)) (by decide) rfl ?_
    refine go_icmp_ge (pc' := 12) (tgt := 21) dX14_out_9 (by decide) rfl (fun c102 => ?_) (fun c102 => ?_)
    · have hf := it c102 hf
      refine go_iconst (v := 0) (pc' := 22) dX14_out_21 rfl (by decide) ?_
      obtain rfl := Option.some.inj hf
      exact Go.ret (v := some (.int _)) dX14_out_22 ⟨_, rfl⟩ ⟨rfl, rfl, R⟩
    · have hf := ie c102 hf
      refine go_aload_n (i := 0) (pc' := 13) dX14_out_12 rfl rfl rfl ?_
      refine go_getS (pc' := 16) dX14_out_13 rfl gf_LandBaseModel_359 R (R.at rfl (by decide)) (by decide) rfl ?_
      refine go_iload_n (i := 1) (pc' := 17) dX14_out_16 rfl rfl rfl ?_
      obtain ⟨g103, hf⟩ := gd_some hf
      refine go_ialoadS (pc' := 18) dX14_out_17 rfl R (R.aa rfl (by decide)) g103 ?_
      refine go_goto (pc' := 0) (tgt := 22) dX14_out_18 (by decide) ?_
      obtain rfl := Option.some.inj hf
      exact Go.ret (v := some (.int _)) dX14_out_22 ⟨_, rfl⟩ ⟨rfl, rfl, R⟩
def f_X14_crash (n : Nat) (x1 : Int32) (x2 : Int32) (x3 : Int32) (σ : xσ) : Option (Int32 × xσ) := if x1 < 0 then some (0, σ) else if 1 < x1 then some (0, σ) else if x2 < 1 then some (0, σ) else if 1000 < x2 then some (0, σ) else if x3 < 0 then some (0, σ) else if 200 < x3 then some (0, σ) else if (sI σ 233 33) = 0 then st (wI σ 233 37 x1) (fun σ108 => st (wI σ108 233 38 x2) (fun σ111 => some (1, σ111))) else some (0, σ)
set_option maxRecDepth 100000 in
set_option maxHeartbeats 4000000 in
theorem c_X14_crash {G : xG} {n : Nat} {σ : xσ} {h : xH} {x1 : Int32} {x2 : Int32} {x3 : Int32} {v1 : Int32} {σ1 : xσ} (R : Rl n σ h) (hf : f_X14_crash n x1 x2 x3 σ = some (v1, σ1)) : Ca G mX14_crash [.ref 233, .int x1, .int x2, .int x3] h (fun v h' => v = some (.int v1) ∧ Rl n σ1 h') := by
  refine Ca.of rfl (Nat.le_of_ble_eq_true rfl) ?_
  generalize hr : (v1, σ1) = r at hf
  suffices q : Go G mX14_crash 0 (xent (xMl mX14_crash) [.ref 233, .int x1, .int x2, .int x3]) [] h (fun v h' => xRok (xRt mX14_crash) v ∧ v = some (.int r.1) ∧ Rl n r.2 h') by
    subst hr
    exact q
  clear hr
  rw [f_X14_crash] at hf
  refine go_iload_n (i := 1) (pc' := 1) dX14_crash_0 rfl rfl rfl ?_
  refine go_if_lt (pc' := 4) (tgt := 39) dX14_crash_1 (by decide) rfl (fun c101 => ?_) (fun c101 => ?_)
  · have hf := it c101 hf
    refine go_iconst (v := 0) (pc' := 40) dX14_crash_39 rfl (by decide) ?_
    obtain rfl := Option.some.inj hf
    exact Go.ret (v := some (.int _)) dX14_crash_40 ⟨_, rfl⟩ ⟨rfl, rfl, R⟩
  · have hf := ie c101 hf
    refine go_iload_n (i := 1) (pc' := 5) dX14_crash_4 rfl rfl rfl ?_
    refine go_iconst (v := 1) (pc' := 6) dX14_crash_5 rfl (by decide) ?_
    refine go_icmp_gt (pc' := 9) (tgt := 39) dX14_crash_6 (by decide) rfl (fun c102 => ?_) (fun c102 => ?_)
    · have hf := it c102 hf
      refine go_iconst (v := 0) (pc' := 40) dX14_crash_39 rfl (by decide) ?_
      obtain rfl := Option.some.inj hf
      exact Go.ret (v := some (.int _)) dX14_crash_40 ⟨_, rfl⟩ ⟨rfl, rfl, R⟩
    · have hf := ie c102 hf
      refine go_iload_n (i := 2) (pc' := 10) dX14_crash_9 rfl rfl rfl ?_
      refine go_iconst (v := 1) (pc' := 11) dX14_crash_10 rfl (by decide) ?_
      refine go_icmp_lt (pc' := 14) (tgt := 39) dX14_crash_11 (by decide) rfl (fun c103 => ?_) (fun c103 => ?_)
      · have hf := it c103 hf
        refine go_iconst (v := 0) (pc' := 40) dX14_crash_39 rfl (by decide) ?_
        obtain rfl := Option.some.inj hf
        exact Go.ret (v := some (.int _)) dX14_crash_40 ⟨_, rfl⟩ ⟨rfl, rfl, R⟩
      · have hf := ie c103 hf
        refine go_iload_n (i := 2) (pc' := 15) dX14_crash_14 rfl rfl rfl ?_
        refine go_sipush (v := 1000) (pc' := 18) dX14_crash_15 rfl (by decide) ?_
        refine go_icmp_gt (pc' := 21) (tgt := 39) dX14_crash_18 (by decide) rfl (fun c104 => ?_) (fun c104 => ?_)
        · have hf := it c104 hf
          refine go_iconst (v := 0) (pc' := 40) dX14_crash_39 rfl (by decide) ?_
          obtain rfl := Option.some.inj hf
          exact Go.ret (v := some (.int _)) dX14_crash_40 ⟨_, rfl⟩ ⟨rfl, rfl, R⟩
        · have hf := ie c104 hf
          refine go_iload_n (i := 3) (pc' := 22) dX14_crash_21 rfl rfl rfl ?_
          refine go_if_lt (pc' := 25) (tgt := 39) dX14_crash_22 (by decide) rfl (fun c105 => ?_) (fun c105 => ?_)
          · have hf := it c105 hf
            refine go_iconst (v := 0) (pc' := 40) dX14_crash_39 rfl (by decide) ?_
            obtain rfl := Option.some.inj hf
            exact Go.ret (v := some (.int _)) dX14_crash_40 ⟨_, rfl⟩ ⟨rfl, rfl, R⟩
          · have hf := ie c105 hf
            refine go_iload_n (i := 3) (pc' := 26) dX14_crash_25 rfl rfl rfl ?_
            refine go_sipush (v := 200) (pc' := 29) dX14_crash_26 rfl (by decide) ?_
            refine go_icmp_gt (pc' := 32) (tgt := 39) dX14_crash_29 (by decide) rfl (fun c106 => ?_) (fun c106 => ?_)
            · have hf := it c106 hf
              refine go_iconst (v := 0) (pc' := 40) dX14_crash_39 rfl (by decide) ?_
              obtain rfl := Option.some.inj hf
              exact Go.ret (v := some (.int _)) dX14_crash_40 ⟨_, rfl⟩ ⟨rfl, rfl, R⟩
            · have hf := ie c106 hf
              refine go_aload_n (i := 0) (pc' := 33) dX14_crash_32 rfl rfl rfl ?_
              refine go_getS (pc' := 36) dX14_crash_33 rfl gf_LandBaseModel_318 R (R.at rfl (by decide)) (by decide) rfl ?_
              refine go_if_eq (pc' := 39) (tgt := 41) dX14_crash_36 (by decide) rfl (fun c107 => ?_) (fun c107 => ?_)
              · have hf := it c107 hf
                refine go_aload_n (i := 0) (pc' := 42) dX14_crash_41 rfl rfl rfl ?_
                refine go_iload_n (i := 1) (pc' := 43) dX14_crash_42 rfl rfl rfl ?_
                obtain ⟨σ108, e109, hf⟩ := st_some hf
                refine go_putI (pc' := 46) dX14_crash_43 rfl pf_LandBaseModel_323 R (R.at rfl (by decide)) (by decide) rfl rfl rfl (fun h110 R => ?_)
                have R := Rl.cast e109 R
                refine go_aload_n (i := 0) (pc' := 47) dX14_crash_46 rfl rfl rfl ?_
                refine go_iload_n (i := 2) (pc' := 48) dX14_crash_47 rfl rfl rfl ?_
                obtain ⟨σ111, e112, hf⟩ := st_some hf
                refine go_putI (pc' := 51) dX14_crash_48 rfl pf_LandBaseModel_326 R (R.at rfl (by decide)) (by decide) rfl rfl rfl (fun h113 R => ?_)
                have R := Rl.cast e112 R
                refine go_iconst (v := 1) (pc' := 52) dX14_crash_51 rfl (by decide) ?_
                obtain rfl := Option.some.inj hf
                exact Go.ret (v := some (.int _)) dX14_crash_52 ⟨_, rfl⟩ ⟨rfl, rfl, R⟩
              · have hf := ie c107 hf
                refine go_iconst (v := 0) (pc' := 40) dX14_crash_39 rfl (by decide) ?_
                obtain rfl := Option.some.inj hf
                exact Go.ret (v := some (.int _)) dX14_crash_40 ⟨_, rfl⟩ ⟨rfl, rfl, R⟩
def f_X14_recover (n : Nat)  (σ : xσ) : Option (Int32 × xσ) := bd (f_X13_take n 259 1061 σ) (fun v101 σ102 => st (wI σ102 233 32 0) (fun σ106 => st (wI σ106 233 33 0) (fun σ109 => st (wI σ109 233 34 0) (fun σ112 => st (wI σ112 233 37 ((-1))) (fun σ115 => some (sI σ115 259 1, σ115))))))
set_option maxRecDepth 100000 in
set_option maxHeartbeats 4000000 in
theorem c_X14_recover {G : xG} {n : Nat} {σ : xσ} {h : xH}  {v1 : Int32} {σ1 : xσ} (R : Rl n σ h) (hf : f_X14_recover n σ = some (v1, σ1)) : Ca G mX14_recover [.ref 233] h (fun v h' => v = some (.int v1) ∧ Rl n σ1 h') := by
  refine Ca.of rfl (Nat.le_of_ble_eq_true rfl) ?_
  generalize hr : (v1, σ1) = r at hf
  suffices q : Go G mX14_recover 0 (xent (xMl mX14_recover) [.ref 233]) [] h (fun v h' => xRok (xRt mX14_recover) v ∧ v = some (.int r.1) ∧ Rl n r.2 h') by
    subst hr
    exact q
  clear hr
  rw [f_X14_recover] at hf
  refine go_aload_n (i := 0) (pc' := 1) dX14_recover_0 rfl rfl rfl ?_
  refine go_getS (pc' := 4) dX14_recover_1 rfl gf_LandBaseModel_351 R (R.at rfl (by decide)) (by decide) rfl ?_
  refine go_aload_n (i := 0) (pc' := 5) dX14_recover_4 rfl rfl rfl ?_
  refine go_getS (pc' := 8) dX14_recover_5 rfl gf_LandBaseModel_347 R (R.at rfl (by decide)) (by decide) rfl ?_
  obtain ⟨v101, σ102, e103, hf⟩ := bd_some hf
  refine go_invV (As := [_]) (pc' := 11) dX14_recover_8 rfl cf_X14_recover_354 rfl (R.ob (R.at rfl (by decide))) rfl rfl (Nat.le_of_ble_eq_true rfl) (c_X13_take R e103) (fun q104v h105 q104 => ?_)
  obtain ⟨rfl, R⟩ := q104
  refine go_aload_n (i := 0) (pc' := 12) dX14_recover_11 rfl rfl rfl ?_
  refine go_iconst (v := 0) (pc' := 13) dX14_recover_12 rfl (by decide) ?_
  obtain ⟨σ106, e107, hf⟩ := st_some hf
  refine go_putI (pc' := 16) dX14_recover_13 rfl pf_LandBaseModel_321 R (R.at rfl (by decide)) (by decide) rfl rfl rfl (fun h108 R => ?_)
  have R := Rl.cast e107 R
  refine go_aload_n (i := 0) (pc' := 17) dX14_recover_16 rfl rfl rfl ?_
  refine go_iconst (v := 0) (pc' := 18) dX14_recover_17 rfl (by decide) ?_
  obtain ⟨σ109, e110, hf⟩ := st_some hf
  refine go_putI (pc' := 21) dX14_recover_18 rfl pf_LandBaseModel_318 R (R.at rfl (by decide)) (by decide) rfl rfl rfl (fun h111 R => ?_)
  have R := Rl.cast e110 R
  refine go_aload_n (i := 0) (pc' := 22) dX14_recover_21 rfl rfl rfl ?_
  refine go_iconst (v := 0) (pc' := 23) dX14_recover_22 rfl (by decide) ?_
  obtain ⟨σ112, e113, hf⟩ := st_some hf
  refine go_putI (pc' := 26) dX14_recover_23 rfl pf_LandBaseModel_338 R (R.at rfl (by decide)) (by decide) rfl rfl rfl (fun h114 R => ?_)
  have R := Rl.cast e113 R
  refine go_aload_n (i := 0) (pc' := 27) dX14_recover_26 rfl rfl rfl ?_
  refine go_iconst (v := (-1)) (pc' := 28) dX14_recover_27 rfl (by decide) ?_
  obtain ⟨σ115, e116, hf⟩ := st_some hf
  refine go_putI (pc' := 31) dX14_recover_28 rfl pf_LandBaseModel_323 R (R.at rfl (by decide)) (by decide) rfl rfl rfl (fun h117 R => ?_)
  have R := Rl.cast e116 R
  refine go_aload_n (i := 0) (pc' := 32) dX14_recover_31 rfl rfl rfl ?_
  refine go_getS (pc' := 35) dX14_recover_32 rfl gf_LandBaseModel_351 R (R.at rfl (by decide)) (by decide) rfl ?_
  refine go_getS (pc' := 38) dX14_recover_35 rfl gf_LandBaseModel_581 R (R.at rfl (by decide)) (by decide) rfl ?_
  obtain rfl := Option.some.inj hf
  exact Go.ret (v := some (.int _)) dX14_recover_38 ⟨_, rfl⟩ ⟨rfl, rfl, R⟩
def f_X14_isDown (n : Nat)  (σ : xσ) : Option (Int32 × xσ) := gd (sI σ 233 33 = 0 ∨ sI σ 233 33 = 1) (some (sI σ 233 33, σ))
set_option maxRecDepth 100000 in
set_option maxHeartbeats 4000000 in
theorem c_X14_isDown {G : xG} {n : Nat} {σ : xσ} {h : xH}  {v1 : Int32} {σ1 : xσ} (R : Rl n σ h) (hf : f_X14_isDown n σ = some (v1, σ1)) : Ca G mX14_isDown [.ref 233] h (fun v h' => v = some (.int v1) ∧ Rl n σ1 h') := by
  refine Ca.of rfl (Nat.le_of_ble_eq_true rfl) ?_
  generalize hr : (v1, σ1) = r at hf
  suffices q : Go G mX14_isDown 0 (xent (xMl mX14_isDown) [.ref 233]) [] h (fun v h' => xRok (xRt mX14_isDown) v ∧ v = some (.int r.1) ∧ Rl n r.2 h') by
    subst hr
    exact q
  clear hr
  rw [f_X14_isDown] at hf
  refine go_aload_n (i := 0) (pc' := 1) dX14_isDown_0 rfl rfl rfl ?_
  refine go_getS (pc' := 4) dX14_isDown_1 rfl gf_LandBaseModel_318 R (R.at rfl (by decide)) (by decide) rfl ?_
  obtain ⟨g101, hf⟩ := gd_some hf
  obtain rfl := Option.some.inj hf
  exact Go.ret (v := some (.int _)) dX14_isDown_4 ⟨_, rfl⟩ ⟨(nb g101), rfl, R⟩
def f_X14_isOpen (n : Nat)  (σ : xσ) : Option (Int32 × xσ) := gd (sI σ 233 32 = 0 ∨ sI σ 233 32 = 1) (some (sI σ 233 32, σ))
set_option maxRecDepth 100000 in
set_option maxHeartbeats 4000000 in
theorem c_X14_isOpen {G : xG} {n : Nat} {σ : xσ} {h : xH}  {v1 : Int32} {σ1 : xσ} (R : Rl n σ h) (hf : f_X14_isOpen n σ = some (v1, σ1)) : Ca G mX14_isOpen [.ref 233] h (fun v h' => v = some (.int v1) ∧ Rl n σ1 h') := by
  refine Ca.of rfl (Nat.le_of_ble_eq_true rfl) ?_
  generalize hr : (v1, σ1) = r at hf
  suffices q : Go G mX14_isOpen 0 (xent (xMl mX14_isOpen) [.ref 233]) [] h (fun v h' => xRok (xRt mX14_isOpen) v ∧ v = some (.int r.1) ∧ Rl n r.2 h') by
    subst hr
    exact q
  clear hr
  rw [f_X14_isOpen] at hf
  refine go_aload_n (i := 0) (pc' := 1) dX14_isOpen_0 rfl rfl rfl ?_
  refine go_getS (pc' := 4) dX14_isOpen_1 rfl gf_LandBaseModel_321 R (R.at rfl (by decide)) (by decide) rfl ?_
  obtain ⟨g101, hf⟩ := gd_some hf
  obtain rfl := Option.some.inj hf
  exact Go.ret (v := some (.int _)) dX14_isOpen_4 ⟨_, rfl⟩ ⟨(nb g101), rfl, R⟩
def f_X14_live (n : Nat)  (σ : xσ) : Option (Int32 × xσ) := if (sI σ 233 33) = 0 then some (sI σ 259 1, σ) else some ((-1), σ)
set_option maxRecDepth 100000 in
set_option maxHeartbeats 4000000 in
theorem c_X14_live {G : xG} {n : Nat} {σ : xσ} {h : xH}  {v1 : Int32} {σ1 : xσ} (R : Rl n σ h) (hf : f_X14_live n σ = some (v1, σ1)) : Ca G mX14_live [.ref 233] h (fun v h' => v = some (.int v1) ∧ Rl n σ1 h') := by
  refine Ca.of rfl (Nat.le_of_ble_eq_true rfl) ?_
  generalize hr : (v1, σ1) = r at hf
  suffices q : Go G mX14_live 0 (xent (xMl mX14_live) [.ref 233]) [] h (fun v h' => xRok (xRt mX14_live) v ∧ v = some (.int r.1) ∧ Rl n r.2 h') by
    subst hr
    exact q
  clear hr
  rw [f_X14_live] at hf
  refine go_aload_n (i := 0) (pc' := 1) dX14_live_0 rfl rfl rfl ?_
  refine go_getS (pc' := 4) dX14_live_1 rfl gf_LandBaseModel_318 R (R.at rfl (by decide)) (by decide) rfl ?_
  refine go_if_eq (pc' := 7) (tgt := 11) dX14_live_4 (by decide) rfl (fun c101 => ?_) (fun c101 => ?_)
  · have hf := it c101 hf
    refine go_aload_n (i := 0) (pc' := 12) dX14_live_11 rfl rfl rfl ?_
    refine go_getS (pc' := 15) dX14_live_12 rfl gf_LandBaseModel_351 R (R.at rfl (by decide)) (by decide) rfl ?_
    refine go_getS (pc' := 18) dX14_live_15 rfl gf_LandBaseModel_581 R (R.at rfl (by decide)) (by decide) rfl ?_
    obtain rfl := Option.some.inj hf
    exact Go.ret (v := some (.int _)) dX14_live_18 ⟨_, rfl⟩ ⟨rfl, rfl, R⟩
  · have hf := ie c101 hf
    refine go_iconst (v := (-1)) (pc' := 8) dX14_live_7 rfl (by decide) ?_
    refine go_goto (pc' := 0) (tgt := 18) dX14_live_8 (by decide) ?_
    obtain rfl := Option.some.inj hf
    exact Go.ret (v := some (.int _)) dX14_live_18 ⟨_, rfl⟩ ⟨rfl, rfl, R⟩
def f_X14_idAt (n : Nat) (x1 : Int32) (σ : xσ) : Option (Int32 × xσ) := if (sI σ 233 33) = 0 then if x1 < 0 then some ((-1), σ) else if x1 < (sI σ 259 1) then gd (inb x1 200) (nn (sR σ 260 x1.toNatClampNeg) (fun a105 => gd (okM a105) (some (sI σ a105 0, σ)))) else some ((-1), σ) else some ((-1), σ)
set_option maxRecDepth 100000 in
set_option maxHeartbeats 4000000 in
theorem c_X14_idAt {G : xG} {n : Nat} {σ : xσ} {h : xH} {x1 : Int32} {v1 : Int32} {σ1 : xσ} (R : Rl n σ h) (hf : f_X14_idAt n x1 σ = some (v1, σ1)) : Ca G mX14_idAt [.ref 233, .int x1] h (fun v h' => v = some (.int v1) ∧ Rl n σ1 h') := by
  refine Ca.of rfl (Nat.le_of_ble_eq_true rfl) ?_
  generalize hr : (v1, σ1) = r at hf
  suffices q : Go G mX14_idAt 0 (xent (xMl mX14_idAt) [.ref 233, .int x1]) [] h (fun v h' => xRok (xRt mX14_idAt) v ∧ v = some (.int r.1) ∧ Rl n r.2 h') by
    subst hr
    exact q
  clear hr
  rw [f_X14_idAt] at hf
  refine go_aload_n (i := 0) (pc' := 1) dX14_idAt_0 rfl rfl rfl ?_
  refine go_getS (pc' := 4) dX14_idAt_1 rfl gf_LandBaseModel_318 R (R.at rfl (by decide)) (by decide) rfl ?_
  refine go_if_ne (pc' := 7) (tgt := 22) dX14_idAt_4 (by decide) rfl (fun c101 => ?_) (fun c101 => ?_)
  · have hf := ie c101 hf
    refine go_iconst (v := (-1)) (pc' := 23) dX14_idAt_22 rfl (by decide) ?_
    refine go_goto (pc' := 0) (tgt := 38) dX14_idAt_23 (by decide) ?_
    obtain rfl := Option.some.inj hf
    exact Go.ret (v := some (.int _)) dX14_idAt_38 ⟨_, rfl⟩ ⟨rfl, rfl, R⟩
  · have hf := it c101 hf
    refine go_iload_n (i := 1) (pc' := 8) dX14_idAt_7 rfl rfl rfl ?_
    refine go_if_lt (pc' := 11) (tgt := 22) dX14_idAt_8 (by decide) rfl (fun c102 => ?_) (fun c102 => ?_)
    · have hf := it c102 hf
      refine go_iconst (v := (-1)) (pc' := 23) dX14_idAt_22 rfl (by decide) ?_
      refine go_goto (pc' := 0) (tgt := 38) dX14_idAt_23 (by decide) ?_
      obtain rfl := Option.some.inj hf
      exact Go.ret (v := some (.int _)) dX14_idAt_38 ⟨_, rfl⟩ ⟨rfl, rfl, R⟩
    · have hf := ie c102 hf
      refine go_iload_n (i := 1) (pc' := 12) dX14_idAt_11 rfl rfl rfl ?_
      refine go_aload_n (i := 0) (pc' := 13) dX14_idAt_12 rfl rfl rfl ?_
      refine go_getS (pc' := 16) dX14_idAt_13 rfl gf_LandBaseModel_351 R (R.at rfl (by decide)) (by decide) rfl ?_
      refine go_getS (pc' := 19) dX14_idAt_16 rfl gf_LandBaseModel_581 R (R.at rfl (by decide)) (by decide) rfl ?_
      refine go_icmp_lt (pc' := 22) (tgt := 26) dX14_idAt_19 (by decide) rfl (fun c103 => ?_) (fun c103 => ?_)
      · have hf := it c103 hf
        refine go_aload_n (i := 0) (pc' := 27) dX14_idAt_26 rfl rfl rfl ?_
        refine go_getS (pc' := 30) dX14_idAt_27 rfl gf_LandBaseModel_351 R (R.at rfl (by decide)) (by decide) rfl ?_
        refine go_getS (pc' := 33) dX14_idAt_30 rfl gf_LandBaseModel_596 R (R.at rfl (by decide)) (by decide) rfl ?_
        refine go_iload_n (i := 1) (pc' := 34) dX14_idAt_33 rfl rfl rfl ?_
        obtain ⟨g104, hf⟩ := gd_some hf
        obtain ⟨a105, e106, hf⟩ := nn_some hf
        obtain ⟨g107, hf⟩ := gd_some hf
        refine go_aaloadS (pc' := 35) dX14_idAt_34 rfl (by decide) R (R.aa rfl (by decide)) g104 e106 ?_
        refine go_getS (pc' := 38) dX14_idAt_35 rfl gf_LandBaseModel_627 R (g107.at R) (by decide) rfl ?_
        obtain rfl := Option.some.inj hf
        exact Go.ret (v := some (.int _)) dX14_idAt_38 ⟨_, rfl⟩ ⟨rfl, rfl, R⟩
      · have hf := ie c103 hf
        refine go_iconst (v := (-1)) (pc' := 23) dX14_idAt_22 rfl (by decide) ?_
        refine go_goto (pc' := 0) (tgt := 38) dX14_idAt_23 (by decide) ?_
        obtain rfl := Option.some.inj hf
        exact Go.ret (v := some (.int _)) dX14_idAt_38 ⟨_, rfl⟩ ⟨rfl, rfl, R⟩
def f_X14_standing (n : Nat) (x1 : Int32) (σ : xσ) : Option (Int32 × xσ) := if (sI σ 233 33) = 0 then bd (f_X13_find n 259 x1 σ) (fun v102 σ103 => some (v102, σ103)) else some ((-1), σ)
set_option maxRecDepth 100000 in
set_option maxHeartbeats 4000000 in
theorem c_X14_standing {G : xG} {n : Nat} {σ : xσ} {h : xH} {x1 : Int32} {v1 : Int32} {σ1 : xσ} (R : Rl n σ h) (hf : f_X14_standing n x1 σ = some (v1, σ1)) : Ca G mX14_standing [.ref 233, .int x1] h (fun v h' => v = some (.int v1) ∧ Rl n σ1 h') := by
  refine Ca.of rfl (Nat.le_of_ble_eq_true rfl) ?_
  generalize hr : (v1, σ1) = r at hf
  suffices q : Go G mX14_standing 0 (xent (xMl mX14_standing) [.ref 233, .int x1]) [] h (fun v h' => xRok (xRt mX14_standing) v ∧ v = some (.int r.1) ∧ Rl n r.2 h') by
    subst hr
    exact q
  clear hr
  rw [f_X14_standing] at hf
  refine go_aload_n (i := 0) (pc' := 1) dX14_standing_0 rfl rfl rfl ?_
  refine go_getS (pc' := 4) dX14_standing_1 rfl gf_LandBaseModel_318 R (R.at rfl (by decide)) (by decide) rfl ?_
  refine go_if_eq (pc' := 7) (tgt := 11) dX14_standing_4 (by decide) rfl (fun c101 => ?_) (fun c101 => ?_)
  · have hf := it c101 hf
    refine go_aload_n (i := 0) (pc' := 12) dX14_standing_11 rfl rfl rfl ?_
    refine go_getS (pc' := 15) dX14_standing_12 rfl gf_LandBaseModel_351 R (R.at rfl (by decide)) (by decide) rfl ?_
    refine go_iload_n (i := 1) (pc' := 16) dX14_standing_15 rfl rfl rfl ?_
    obtain ⟨v102, σ103, e104, hf⟩ := bd_some hf
    refine go_invV (As := [_]) (pc' := 19) dX14_standing_16 rfl cf_X14_standing_573 rfl (R.ob (R.at rfl (by decide))) rfl rfl (Nat.le_of_ble_eq_true rfl) (c_X13_find R e104) (fun q105v h106 q105 => ?_)
    obtain ⟨rfl, R⟩ := q105
    obtain rfl := Option.some.inj hf
    exact Go.ret (v := some (.int _)) dX14_standing_19 ⟨_, rfl⟩ ⟨rfl, rfl, R⟩
  · have hf := ie c101 hf
    refine go_iconst (v := (-1)) (pc' := 8) dX14_standing_7 rfl (by decide) ?_
    refine go_goto (pc' := 0) (tgt := 19) dX14_standing_8 (by decide) ?_
    obtain rfl := Option.some.inj hf
    exact Go.ret (v := some (.int _)) dX14_standing_19 ⟨_, rfl⟩ ⟨rfl, rfl, R⟩
def f_X14_kindOf (n : Nat) (x1 : Int32) (σ : xσ) : Option (Int32 × xσ) := bd (f_X14_standing n x1 σ) (fun v101 σ102 => if 0 ≤ v101 then gd (inb v101 200) (nn (sR σ102 260 v101.toNatClampNeg) (fun a108 => gd (okM a108) (some (sI σ102 a108 1, σ102)))) else some ((-1), σ102))
set_option maxRecDepth 100000 in
set_option maxHeartbeats 4000000 in
theorem c_X14_kindOf {G : xG} {n : Nat} {σ : xσ} {h : xH} {x1 : Int32} {v1 : Int32} {σ1 : xσ} (R : Rl n σ h) (hf : f_X14_kindOf n x1 σ = some (v1, σ1)) : Ca G mX14_kindOf [.ref 233, .int x1] h (fun v h' => v = some (.int v1) ∧ Rl n σ1 h') := by
  refine Ca.of rfl (Nat.le_of_ble_eq_true rfl) ?_
  generalize hr : (v1, σ1) = r at hf
  suffices q : Go G mX14_kindOf 0 (xent (xMl mX14_kindOf) [.ref 233, .int x1]) [] h (fun v h' => xRok (xRt mX14_kindOf) v ∧ v = some (.int r.1) ∧ Rl n r.2 h') by
    subst hr
    exact q
  clear hr
  rw [f_X14_kindOf] at hf
  refine go_aload_n (i := 0) (pc' := 1) dX14_kindOf_0 rfl rfl rfl ?_
  refine go_iload_n (i := 1) (pc' := 2) dX14_kindOf_1 rfl rfl rfl ?_
  obtain ⟨v101, σ102, e103, hf⟩ := bd_some hf
  refine go_invV (As := [_]) (pc' := 5) dX14_kindOf_2 rfl cf_X14_kindOf_650 rfl (R.ob (R.at rfl (by decide))) rfl rfl (Nat.le_of_ble_eq_true rfl) (c_X14_standing R e103) (fun q104v h105 q104 => ?_)
  obtain ⟨rfl, R⟩ := q104
  refine go_istore_nE rfl (i := 2) (pc' := 6) dX14_kindOf_5 rfl rfl (by decide) rfl ?_
  refine go_iload_n (i := 2) (pc' := 7) dX14_kindOf_6 rfl rfl rfl ?_
  refine go_if_ge (pc' := 10) (tgt := 14) dX14_kindOf_7 (by decide) rfl (fun c106 => ?_) (fun c106 => ?_)
  · have hf := it c106 hf
    refine go_aload_n (i := 0) (pc' := 15) dX14_kindOf_14 rfl rfl rfl ?_
    refine go_getS (pc' := 18) dX14_kindOf_15 rfl gf_LandBaseModel_351 R (R.at rfl (by decide)) (by decide) rfl ?_
    refine go_getS (pc' := 21) dX14_kindOf_18 rfl gf_LandBaseModel_596 R (R.at rfl (by decide)) (by decide) rfl ?_
    refine go_iload_n (i := 2) (pc' := 22) dX14_kindOf_21 rfl rfl rfl ?_
    obtain ⟨g107, hf⟩ := gd_some hf
    obtain ⟨a108, e109, hf⟩ := nn_some hf
    obtain ⟨g110, hf⟩ := gd_some hf
    refine go_aaloadS (pc' := 23) dX14_kindOf_22 rfl (by decide) R (R.aa rfl (by decide)) g107 e109 ?_
    refine go_getS (pc' := 26) dX14_kindOf_23 rfl gf_LandBaseModel_75 R (g110.at R) (by decide) rfl ?_
    obtain rfl := Option.some.inj hf
    exact Go.ret (v := some (.int _)) dX14_kindOf_26 ⟨_, rfl⟩ ⟨rfl, rfl, R⟩
  · have hf := ie c106 hf
    refine go_iconst (v := (-1)) (pc' := 11) dX14_kindOf_10 rfl (by decide) ?_
    refine go_goto (pc' := 0) (tgt := 26) dX14_kindOf_11 (by decide) ?_
    obtain rfl := Option.some.inj hf
    exact Go.ret (v := some (.int _)) dX14_kindOf_26 ⟨_, rfl⟩ ⟨rfl, rfl, R⟩
def f_X14_places (n : Nat) (x1 : Int32) (σ : xσ) : Option (Int32 × xσ) := bd (f_X14_standing n x1 σ) (fun v101 σ102 => if 0 ≤ v101 then gd (inb v101 200) (nn (sR σ102 260 v101.toNatClampNeg) (fun a108 => gd (okM a108) (some (sI σ102 a108 2, σ102)))) else some ((-1), σ102))
set_option maxRecDepth 100000 in
set_option maxHeartbeats 4000000 in
theorem c_X14_places {G : xG} {n : Nat} {σ : xσ} {h : xH} {x1 : Int32} {v1 : Int32} {σ1 : xσ} (R : Rl n σ h) (hf : f_X14_places n x1 σ = some (v1, σ1)) : Ca G mX14_places [.ref 233, .int x1] h (fun v h' => v = some (.int v1) ∧ Rl n σ1 h') := by
  refine Ca.of rfl (Nat.le_of_ble_eq_true rfl) ?_
  generalize hr : (v1, σ1) = r at hf
  suffices q : Go G mX14_places 0 (xent (xMl mX14_places) [.ref 233, .int x1]) [] h (fun v h' => xRok (xRt mX14_places) v ∧ v = some (.int r.1) ∧ Rl n r.2 h') by
    subst hr
    exact q
  clear hr
  rw [f_X14_places] at hf
  refine go_aload_n (i := 0) (pc' := 1) dX14_places_0 rfl rfl rfl ?_
  refine go_iload_n (i := 1) (pc' := 2) dX14_places_1 rfl rfl rfl ?_
  obtain ⟨v101, σ102, e103, hf⟩ := bd_some hf
  refine go_invV (As := [_]) (pc' := 5) dX14_places_2 rfl cf_X14_places_650 rfl (R.ob (R.at rfl (by decide))) rfl rfl (Nat.le_of_ble_eq_true rfl) (c_X14_standing R e103) (fun q104v h105 q104 => ?_)
  obtain ⟨rfl, R⟩ := q104
  refine go_istore_nE rfl (i := 2) (pc' := 6) dX14_places_5 rfl rfl (by decide) rfl ?_
  refine go_iload_n (i := 2) (pc' := 7) dX14_places_6 rfl rfl rfl ?_
  refine go_if_ge (pc' := 10) (tgt := 14) dX14_places_7 (by decide) rfl (fun c106 => ?_) (fun c106 => ?_)
  · have hf := it c106 hf
    refine go_aload_n (i := 0) (pc' := 15) dX14_places_14 rfl rfl rfl ?_
    refine go_getS (pc' := 18) dX14_places_15 rfl gf_LandBaseModel_351 R (R.at rfl (by decide)) (by decide) rfl ?_
    refine go_getS (pc' := 21) dX14_places_18 rfl gf_LandBaseModel_596 R (R.at rfl (by decide)) (by decide) rfl ?_
    refine go_iload_n (i := 2) (pc' := 22) dX14_places_21 rfl rfl rfl ?_
    obtain ⟨g107, hf⟩ := gd_some hf
    obtain ⟨a108, e109, hf⟩ := nn_some hf
    obtain ⟨g110, hf⟩ := gd_some hf
    refine go_aaloadS (pc' := 23) dX14_places_22 rfl (by decide) R (R.aa rfl (by decide)) g107 e109 ?_
    refine go_getS (pc' := 26) dX14_places_23 rfl gf_LandBaseModel_79 R (g110.at R) (by decide) rfl ?_
    obtain rfl := Option.some.inj hf
    exact Go.ret (v := some (.int _)) dX14_places_26 ⟨_, rfl⟩ ⟨rfl, rfl, R⟩
  · have hf := ie c106 hf
    refine go_iconst (v := (-1)) (pc' := 11) dX14_places_10 rfl (by decide) ?_
    refine go_goto (pc' := 0) (tgt := 26) dX14_places_11 (by decide) ?_
    obtain rfl := Option.some.inj hf
    exact Go.ret (v := some (.int _)) dX14_places_26 ⟨_, rfl⟩ ⟨rfl, rfl, R⟩
def f_X14_rings (n : Nat) (x1 : Int32) (σ : xσ) : Option (Int32 × xσ) := bd (f_X14_standing n x1 σ) (fun v101 σ102 => if 0 ≤ v101 then gd (inb v101 200) (nn (sR σ102 260 v101.toNatClampNeg) (fun a108 => gd (okM a108) (some (sI σ102 a108 3, σ102)))) else some ((-1), σ102))
set_option maxRecDepth 100000 in
set_option maxHeartbeats 4000000 in
theorem c_X14_rings {G : xG} {n : Nat} {σ : xσ} {h : xH} {x1 : Int32} {v1 : Int32} {σ1 : xσ} (R : Rl n σ h) (hf : f_X14_rings n x1 σ = some (v1, σ1)) : Ca G mX14_rings [.ref 233, .int x1] h (fun v h' => v = some (.int v1) ∧ Rl n σ1 h') := by
  refine Ca.of rfl (Nat.le_of_ble_eq_true rfl) ?_
  generalize hr : (v1, σ1) = r at hf
  suffices q : Go G mX14_rings 0 (xent (xMl mX14_rings) [.ref 233, .int x1]) [] h (fun v h' => xRok (xRt mX14_rings) v ∧ v = some (.int r.1) ∧ Rl n r.2 h') by
    subst hr
    exact q
  clear hr
  rw [f_X14_rings] at hf
  refine go_aload_n (i := 0) (pc' := 1) dX14_rings_0 rfl rfl rfl ?_
  refine go_iload_n (i := 1) (pc' := 2) dX14_rings_1 rfl rfl rfl ?_
  obtain ⟨v101, σ102, e103, hf⟩ := bd_some hf
  refine go_invV (As := [_]) (pc' := 5) dX14_rings_2 rfl cf_X14_rings_650 rfl (R.ob (R.at rfl (by decide))) rfl rfl (Nat.le_of_ble_eq_true rfl) (c_X14_standing R e103) (fun q104v h105 q104 => ?_)
  obtain ⟨rfl, R⟩ := q104
  refine go_istore_nE rfl (i := 2) (pc' := 6) dX14_rings_5 rfl rfl (by decide) rfl ?_
  refine go_iload_n (i := 2) (pc' := 7) dX14_rings_6 rfl rfl rfl ?_
  refine go_if_ge (pc' := 10) (tgt := 14) dX14_rings_7 (by decide) rfl (fun c106 => ?_) (fun c106 => ?_)
  · have hf := it c106 hf
    refine go_aload_n (i := 0) (pc' := 15) dX14_rings_14 rfl rfl rfl ?_
    refine go_getS (pc' := 18) dX14_rings_15 rfl gf_LandBaseModel_351 R (R.at rfl (by decide)) (by decide) rfl ?_
    refine go_getS (pc' := 21) dX14_rings_18 rfl gf_LandBaseModel_596 R (R.at rfl (by decide)) (by decide) rfl ?_
    refine go_iload_n (i := 2) (pc' := 22) dX14_rings_21 rfl rfl rfl ?_
    obtain ⟨g107, hf⟩ := gd_some hf
    obtain ⟨a108, e109, hf⟩ := nn_some hf
    obtain ⟨g110, hf⟩ := gd_some hf
    refine go_aaloadS (pc' := 23) dX14_rings_22 rfl (by decide) R (R.aa rfl (by decide)) g107 e109 ?_
    refine go_getS (pc' := 26) dX14_rings_23 rfl gf_LandBaseModel_180 R (g110.at R) (by decide) rfl ?_
    obtain rfl := Option.some.inj hf
    exact Go.ret (v := some (.int _)) dX14_rings_26 ⟨_, rfl⟩ ⟨rfl, rfl, R⟩
  · have hf := ie c106 hf
    refine go_iconst (v := (-1)) (pc' := 11) dX14_rings_10 rfl (by decide) ?_
    refine go_goto (pc' := 0) (tgt := 26) dX14_rings_11 (by decide) ?_
    obtain rfl := Option.some.inj hf
    exact Go.ret (v := some (.int _)) dX14_rings_26 ⟨_, rfl⟩ ⟨rfl, rfl, R⟩
def f_X14_at (n : Nat) (x1 : Int32) (x2 : Int32) (x3 : Int32) (σ : xσ) : Option (Int32 × xσ) := bd (f_X14_standing n x1 σ) (fun v101 σ102 => if v101 < 0 then some (0, σ102) else if x2 < 0 then some (0, σ102) else gd (inb v101 200) (nn (sR σ102 260 v101.toNatClampNeg) (fun a109 => gd (okM a109) (if (sI σ102 a109 2) ≤ x2 then some (0, σ102) else if x3 < 0 then some (0, σ102) else if x3 ≤ 1 then if x3 = 0 then gd (inb v101 200) (nn (sR σ102 260 v101.toNatClampNeg) (fun a122 => gd (okM a122) (gd (inb x2 40) (some (sI σ102 (a122 + 2) x2.toNatClampNeg, σ102))))) else gd (inb v101 200) (nn (sR σ102 260 v101.toNatClampNeg) (fun a117 => gd (okM a117) (gd (inb x2 40) (some (sI σ102 (a117 + 3) x2.toNatClampNeg, σ102))))) else some (0, σ102)))))
set_option maxRecDepth 100000 in
set_option maxHeartbeats 4000000 in
theorem c_X14_at {G : xG} {n : Nat} {σ : xσ} {h : xH} {x1 : Int32} {x2 : Int32} {x3 : Int32} {v1 : Int32} {σ1 : xσ} (R : Rl n σ h) (hf : f_X14_at n x1 x2 x3 σ = some (v1, σ1)) : Ca G mX14_at [.ref 233, .int x1, .int x2, .int x3] h (fun v h' => v = some (.int v1) ∧ Rl n σ1 h') := by
  refine Ca.of rfl (Nat.le_of_ble_eq_true rfl) ?_
  generalize hr : (v1, σ1) = r at hf
  suffices q : Go G mX14_at 0 (xent (xMl mX14_at) [.ref 233, .int x1, .int x2, .int x3]) [] h (fun v h' => xRok (xRt mX14_at) v ∧ v = some (.int r.1) ∧ Rl n r.2 h') by
    subst hr
    exact q
  clear hr
  rw [f_X14_at] at hf
  refine go_aload_n (i := 0) (pc' := 1) dX14_at_0 rfl rfl rfl ?_
  refine go_iload_n (i := 1) (pc' := 2) dX14_at_1 rfl rfl rfl ?_
  obtain ⟨v101, σ102, e103, hf⟩ := bd_some hf
  refine go_invV (As := [_]) (pc' := 5) dX14_at_2 rfl cf_X14_at_650 rfl (R.ob (R.at rfl (by decide))) rfl rfl (Nat.le_of_ble_eq_true rfl) (c_X14_standing R e103) (fun q104v h105 q104 => ?_)
  obtain ⟨rfl, R⟩ := q104
  refine go_istoreE rfl (pc' := 7) dX14_at_5 rfl (by decide) rfl ?_
  refine go_iload (pc' := 9) dX14_at_7 rfl rfl ?_
  refine go_if_lt (pc' := 12) (tgt := 42) dX14_at_9 (by decide) rfl (fun c106 => ?_) (fun c106 => ?_)
  · have hf := it c106 hf
    refine go_iconst (v := 0) (pc' := 43) dX14_at_42 rfl (by decide) ?_
    obtain rfl := Option.some.inj hf
    exact Go.ret (v := some (.int _)) dX14_at_43 ⟨_, rfl⟩ ⟨rfl, rfl, R⟩
  · have hf := ie c106 hf
    refine go_iload_n (i := 2) (pc' := 13) dX14_at_12 rfl rfl rfl ?_
    refine go_if_lt (pc' := 16) (tgt := 42) dX14_at_13 (by decide) rfl (fun c107 => ?_) (fun c107 => ?_)
    · have hf := it c107 hf
      refine go_iconst (v := 0) (pc' := 43) dX14_at_42 rfl (by decide) ?_
      obtain rfl := Option.some.inj hf
      exact Go.ret (v := some (.int _)) dX14_at_43 ⟨_, rfl⟩ ⟨rfl, rfl, R⟩
    · have hf := ie c107 hf
      refine go_iload_n (i := 2) (pc' := 17) dX14_at_16 rfl rfl rfl ?_
      refine go_aload_n (i := 0) (pc' := 18) dX14_at_17 rfl rfl rfl ?_
      refine go_getS (pc' := 21) dX14_at_18 rfl gf_LandBaseModel_351 R (R.at rfl (by decide)) (by decide) rfl ?_
      refine go_getS (pc' := 24) dX14_at_21 rfl gf_LandBaseModel_596 R (R.at rfl (by decide)) (by decide) rfl ?_
      refine go_iload (pc' := 26) dX14_at_24 rfl rfl ?_
      obtain ⟨g108, hf⟩ := gd_some hf
      obtain ⟨a109, e110, hf⟩ := nn_some hf
      obtain ⟨g111, hf⟩ := gd_some hf
      refine go_aaloadS (pc' := 27) dX14_at_26 rfl (by decide) R (R.aa rfl (by decide)) g108 e110 ?_
      refine go_getS (pc' := 30) dX14_at_27 rfl gf_LandBaseModel_79 R (g111.at R) (by decide) rfl ?_
      refine go_icmp_ge (pc' := 33) (tgt := 42) dX14_at_30 (by decide) rfl (fun c112 => ?_) (fun c112 => ?_)
      · have hf := it c112 hf
        refine go_iconst (v := 0) (pc' := 43) dX14_at_42 rfl (by decide) ?_
        obtain rfl := Option.some.inj hf
        exact Go.ret (v := some (.int _)) dX14_at_43 ⟨_, rfl⟩ ⟨rfl, rfl, R⟩
      · have hf := ie c112 hf
        refine go_iload_n (i := 3) (pc' := 34) dX14_at_33 rfl rfl rfl ?_
        refine go_if_lt (pc' := 37) (tgt := 42) dX14_at_34 (by decide) rfl (fun c113 => ?_) (fun c113 => ?_)
        · have hf := it c113 hf
          refine go_iconst (v := 0) (pc' := 43) dX14_at_42 rfl (by decide) ?_
          obtain rfl := Option.some.inj hf
          exact Go.ret (v := some (.int _)) dX14_at_43 ⟨_, rfl⟩ ⟨rfl, rfl, R⟩
        · have hf := ie c113 hf
          refine go_iload_n (i := 3) (pc' := 38) dX14_at_37 rfl rfl rfl ?_
          refine go_iconst (v := 1) (pc' := 39) dX14_at_38 rfl (by decide) ?_
          refine go_icmp_le (pc' := 42) (tgt := 44) dX14_at_39 (by decide) rfl (fun c114 => ?_) (fun c114 => ?_)
          · have hf := it c114 hf
            refine go_iload_n (i := 3) (pc' := 45) dX14_at_44 rfl rfl rfl ?_
            refine go_if_ne (pc' := 48) (tgt := 66) dX14_at_45 (by decide) rfl (fun c115 => ?_) (fun c115 => ?_)
            · have hf := ie c115 hf
              refine go_aload_n (i := 0) (pc' := 67) dX14_at_66 rfl rfl rfl ?_
              refine go_getS (pc' := 70) dX14_at_67 rfl gf_LandBaseModel_351 R (R.at rfl (by decide)) (by decide) rfl ?_
              refine go_getS (pc' := 73) dX14_at_70 rfl gf_LandBaseModel_596 R (R.at rfl (by decide)) (by decide) rfl ?_
              refine go_iload (pc' := 75) dX14_at_73 rfl rfl ?_
              obtain ⟨g116, hf⟩ := gd_some hf
              obtain ⟨a117, e118, hf⟩ := nn_some hf
              obtain ⟨g119, hf⟩ := gd_some hf
              refine go_aaloadS (pc' := 76) dX14_at_75 rfl (by decide) R (R.aa rfl (by decide)) g116 e118 ?_
              refine go_getS (pc' := 79) dX14_at_76 rfl gf_LandBaseModel_36 R (g119.at R) (by decide) rfl ?_
              refine go_iload_n (i := 2) (pc' := 80) dX14_at_79 rfl rfl rfl ?_
              obtain ⟨g120, hf⟩ := gd_some hf
              refine go_ialoadS (pc' := 81) dX14_at_80 rfl R (g119.y R) g120 ?_
              obtain rfl := Option.some.inj hf
              exact Go.ret (v := some (.int _)) dX14_at_81 ⟨_, rfl⟩ ⟨rfl, rfl, R⟩
            · have hf := it c115 hf
              refine go_aload_n (i := 0) (pc' := 49) dX14_at_48 rfl rfl rfl ?_
              refine go_getS (pc' := 52) dX14_at_49 rfl gf_LandBaseModel_351 R (R.at rfl (by decide)) (by decide) rfl ?_
              refine go_getS (pc' := 55) dX14_at_52 rfl gf_LandBaseModel_596 R (R.at rfl (by decide)) (by decide) rfl ?_
              refine go_iload (pc' := 57) dX14_at_55 rfl rfl ?_
              obtain ⟨g121, hf⟩ := gd_some hf
              obtain ⟨a122, e123, hf⟩ := nn_some hf
              obtain ⟨g124, hf⟩ := gd_some hf
              refine go_aaloadS (pc' := 58) dX14_at_57 rfl (by decide) R (R.aa rfl (by decide)) g121 e123 ?_
              refine go_getS (pc' := 61) dX14_at_58 rfl gf_LandBaseModel_30 R (g124.at R) (by decide) rfl ?_
              refine go_iload_n (i := 2) (pc' := 62) dX14_at_61 rfl rfl rfl ?_
              obtain ⟨g125, hf⟩ := gd_some hf
              refine go_ialoadS (pc' := 63) dX14_at_62 rfl R (g124.x R) g125 ?_
              refine go_goto (pc' := 0) (tgt := 81) dX14_at_63 (by decide) ?_
              obtain rfl := Option.some.inj hf
              exact Go.ret (v := some (.int _)) dX14_at_81 ⟨_, rfl⟩ ⟨rfl, rfl, R⟩
          · have hf := ie c114 hf
            refine go_iconst (v := 0) (pc' := 43) dX14_at_42 rfl (by decide) ?_
            obtain rfl := Option.some.inj hf
            exact Go.ret (v := some (.int _)) dX14_at_43 ⟨_, rfl⟩ ⟨rfl, rfl, R⟩
def f_X14_relate (n : Nat) (x1 : Int32) (x2 : Int32) (x3 : Int32) (σ : xσ) : Option (Int32 × xσ) := bd (f_X14_standing n x2 σ) (fun v101 σ102 => bd (f_X14_standing n x3 σ102) (fun v106 σ107 => if v101 < 0 then some ((-1), σ107) else if v106 < 0 then some ((-1), σ107) else if x1 < 0 then some ((-1), σ107) else if x1 ≤ 4 then gd (inb v101 200) (nn (sR σ107 260 v101.toNatClampNeg) (fun a116 => gd (okM a116) (gd (inb v106 200) (nn (sR σ107 260 v106.toNatClampNeg) (fun a120 => gd (okM a120) (bd (f_X14_relates n x1 a116 a120 σ107) (fun v123 σ124 => if v123 = 0 then some (0, σ124) else some (1, σ124)))))))) else some ((-1), σ107)))
set_option maxRecDepth 100000 in
set_option maxHeartbeats 4000000 in
theorem c_X14_relate {G : xG} {n : Nat} {σ : xσ} {h : xH} {x1 : Int32} {x2 : Int32} {x3 : Int32} {v1 : Int32} {σ1 : xσ} (R : Rl n σ h) (hf : f_X14_relate n x1 x2 x3 σ = some (v1, σ1)) : Ca G mX14_relate [.ref 233, .int x1, .int x2, .int x3] h (fun v h' => v = some (.int v1) ∧ Rl n σ1 h') := by
  refine Ca.of rfl (Nat.le_of_ble_eq_true rfl) ?_
  generalize hr : (v1, σ1) = r at hf
  suffices q : Go G mX14_relate 0 (xent (xMl mX14_relate) [.ref 233, .int x1, .int x2, .int x3]) [] h (fun v h' => xRok (xRt mX14_relate) v ∧ v = some (.int r.1) ∧ Rl n r.2 h') by
    subst hr
    exact q
  clear hr
  rw [f_X14_relate] at hf
  refine go_aload_n (i := 0) (pc' := 1) dX14_relate_0 rfl rfl rfl ?_
  refine go_iload_n (i := 2) (pc' := 2) dX14_relate_1 rfl rfl rfl ?_
  obtain ⟨v101, σ102, e103, hf⟩ := bd_some hf
  refine go_invV (As := [_]) (pc' := 5) dX14_relate_2 rfl cf_X14_relate_650 rfl (R.ob (R.at rfl (by decide))) rfl rfl (Nat.le_of_ble_eq_true rfl) (c_X14_standing R e103) (fun q104v h105 q104 => ?_)
  obtain ⟨rfl, R⟩ := q104
  refine go_istoreE rfl (pc' := 7) dX14_relate_5 rfl (by decide) rfl ?_
  refine go_aload_n (i := 0) (pc' := 8) dX14_relate_7 rfl rfl rfl ?_
  refine go_iload_n (i := 3) (pc' := 9) dX14_relate_8 rfl rfl rfl ?_
  obtain ⟨v106, σ107, e108, hf⟩ := bd_some hf
  refine go_invV (As := [_]) (pc' := 12) dX14_relate_9 rfl cf_X14_relate_650 rfl (R.ob (R.at rfl (by decide))) rfl rfl (Nat.le_of_ble_eq_true rfl) (c_X14_standing R e108) (fun q109v h110 q109 => ?_)
  obtain ⟨rfl, R⟩ := q109
  refine go_istoreE rfl (pc' := 14) dX14_relate_12 rfl (by decide) rfl ?_
  refine go_iload (pc' := 16) dX14_relate_14 rfl rfl ?_
  refine go_if_lt (pc' := 19) (tgt := 33) dX14_relate_16 (by decide) rfl (fun c111 => ?_) (fun c111 => ?_)
  · have hf := it c111 hf
    refine go_iconst (v := (-1)) (pc' := 34) dX14_relate_33 rfl (by decide) ?_
    obtain rfl := Option.some.inj hf
    exact Go.ret (v := some (.int _)) dX14_relate_34 ⟨_, rfl⟩ ⟨rfl, rfl, R⟩
  · have hf := ie c111 hf
    refine go_iload (pc' := 21) dX14_relate_19 rfl rfl ?_
    refine go_if_lt (pc' := 24) (tgt := 33) dX14_relate_21 (by decide) rfl (fun c112 => ?_) (fun c112 => ?_)
    · have hf := it c112 hf
      refine go_iconst (v := (-1)) (pc' := 34) dX14_relate_33 rfl (by decide) ?_
      obtain rfl := Option.some.inj hf
      exact Go.ret (v := some (.int _)) dX14_relate_34 ⟨_, rfl⟩ ⟨rfl, rfl, R⟩
    · have hf := ie c112 hf
      refine go_iload_n (i := 1) (pc' := 25) dX14_relate_24 rfl rfl rfl ?_
      refine go_if_lt (pc' := 28) (tgt := 33) dX14_relate_25 (by decide) rfl (fun c113 => ?_) (fun c113 => ?_)
      · have hf := it c113 hf
        refine go_iconst (v := (-1)) (pc' := 34) dX14_relate_33 rfl (by decide) ?_
        obtain rfl := Option.some.inj hf
        exact Go.ret (v := some (.int _)) dX14_relate_34 ⟨_, rfl⟩ ⟨rfl, rfl, R⟩
      · have hf := ie c113 hf
        refine go_iload_n (i := 1) (pc' := 29) dX14_relate_28 rfl rfl rfl ?_
        refine go_iconst (v := 4) (pc' := 30) dX14_relate_29 rfl (by decide) ?_
        refine go_icmp_le (pc' := 33) (tgt := 35) dX14_relate_30 (by decide) rfl (fun c114 => ?_) (fun c114 => ?_)
        · have hf := it c114 hf
          refine go_aload_n (i := 0) (pc' := 36) dX14_relate_35 rfl rfl rfl ?_
          refine go_iload_n (i := 1) (pc' := 37) dX14_relate_36 rfl rfl rfl ?_
          refine go_aload_n (i := 0) (pc' := 38) dX14_relate_37 rfl rfl rfl ?_
          refine go_getS (pc' := 41) dX14_relate_38 rfl gf_LandBaseModel_351 R (R.at rfl (by decide)) (by decide) rfl ?_
          refine go_getS (pc' := 44) dX14_relate_41 rfl gf_LandBaseModel_596 R (R.at rfl (by decide)) (by decide) rfl ?_
          refine go_iload (pc' := 46) dX14_relate_44 rfl rfl ?_
          obtain ⟨g115, hf⟩ := gd_some hf
          obtain ⟨a116, e117, hf⟩ := nn_some hf
          obtain ⟨g118, hf⟩ := gd_some hf
          refine go_aaloadS (pc' := 47) dX14_relate_46 rfl (by decide) R (R.aa rfl (by decide)) g115 e117 ?_
          refine go_aload_n (i := 0) (pc' := 48) dX14_relate_47 rfl rfl rfl ?_
          refine go_getS (pc' := 51) dX14_relate_48 rfl gf_LandBaseModel_351 R (R.at rfl (by decide)) (by decide) rfl ?_
          refine go_getS (pc' := 54) dX14_relate_51 rfl gf_LandBaseModel_596 R (R.at rfl (by decide)) (by decide) rfl ?_
          refine go_iload (pc' := 56) dX14_relate_54 rfl rfl ?_
          obtain ⟨g119, hf⟩ := gd_some hf
          obtain ⟨a120, e121, hf⟩ := nn_some hf
          obtain ⟨g122, hf⟩ := gd_some hf
          refine go_aaloadS (pc' := 57) dX14_relate_56 rfl (by decide) R (R.aa rfl (by decide)) g119 e121 ?_
          obtain ⟨v123, σ124, e125, hf⟩ := bd_some hf
          refine go_invV (As := [_, _, _]) (pc' := 60) dX14_relate_57 rfl cf_X14_relate_623 rfl (R.ob (R.at rfl (by decide))) rfl rfl (Nat.le_of_ble_eq_true rfl) (c_X14_relates R e125) (fun q126v h127 q126 => ?_)
          obtain ⟨rfl, R⟩ := q126
          refine go_if_eq (pc' := 63) (tgt := 67) dX14_relate_60 (by decide) rfl (fun c128 => ?_) (fun c128 => ?_)
          · have hf := it c128 hf
            refine go_iconst (v := 0) (pc' := 68) dX14_relate_67 rfl (by decide) ?_
            obtain rfl := Option.some.inj hf
            exact Go.ret (v := some (.int _)) dX14_relate_68 ⟨_, rfl⟩ ⟨rfl, rfl, R⟩
          · have hf := ie c128 hf
            refine go_iconst (v := 1) (pc' := 64) dX14_relate_63 rfl (by decide) ?_
            refine go_goto (pc' := 0) (tgt := 68) dX14_relate_64 (by decide) ?_
            obtain rfl := Option.some.inj hf
            exact Go.ret (v := some (.int _)) dX14_relate_68 ⟨_, rfl⟩ ⟨rfl, rfl, R⟩
        · have hf := ie c114 hf
          refine go_iconst (v := (-1)) (pc' := 34) dX14_relate_33 rfl (by decide) ?_
          obtain rfl := Option.some.inj hf
          exact Go.ret (v := some (.int _)) dX14_relate_34 ⟨_, rfl⟩ ⟨rfl, rfl, R⟩
def f_X14_nearer (n : Nat) (x1 : Int32) (x2 : Int32) (x3 : Int32) (x4 : Int32) (σ : xσ) : Option (Int32 × xσ) := bd (f_X14_standing n x1 σ) (fun v101 σ102 => bd (f_X14_standing n x2 σ102) (fun v106 σ107 => if v101 < 0 then some ((-2), σ107) else if v106 < 0 then some ((-2), σ107) else bd (f_X14_isNumber n (x3.toInt64) σ107) (fun v113 σ114 => if v113 = 0 then some ((-2), σ114) else bd (f_X14_isNumber n (x4.toInt64) σ114) (fun v119 σ120 => if v119 = 0 then some ((-2), σ120) else gd (inb v101 200) (nn (sR σ120 260 v101.toNatClampNeg) (fun a126 => gd (okM a126) (bd (f_X14_distance n a126 x3 x4 253 σ120) (fun v129 σ130 => gd (inb v106 200) (nn (sR σ130 260 v106.toNatClampNeg) (fun a135 => gd (okM a135) (bd (f_X14_distance n a135 x3 x4 256 σ130) (fun v138 σ139 => bd (f_X14_compare__ n 253 256 σ139) (fun v143 σ144 => some (v143, σ144))))))))))))))
set_option maxRecDepth 100000 in
set_option maxHeartbeats 4000000 in
theorem c_X14_nearer {G : xG} {n : Nat} {σ : xσ} {h : xH} {x1 : Int32} {x2 : Int32} {x3 : Int32} {x4 : Int32} {v1 : Int32} {σ1 : xσ} (R : Rl n σ h) (hf : f_X14_nearer n x1 x2 x3 x4 σ = some (v1, σ1)) : Ca G mX14_nearer [.ref 233, .int x1, .int x2, .int x3, .int x4] h (fun v h' => v = some (.int v1) ∧ Rl n σ1 h') := by
  refine Ca.of rfl (Nat.le_of_ble_eq_true rfl) ?_
  generalize hr : (v1, σ1) = r at hf
  suffices q : Go G mX14_nearer 0 (xent (xMl mX14_nearer) [.ref 233, .int x1, .int x2, .int x3, .int x4]) [] h (fun v h' => xRok (xRt mX14_nearer) v ∧ v = some (.int r.1) ∧ Rl n r.2 h') by
    subst hr
    exact q
  clear hr
  rw [f_X14_nearer] at hf
  refine go_aload_n (i := 0) (pc' := 1) dX14_nearer_0 rfl rfl rfl ?_
  refine go_iload_n (i := 1) (pc' := 2) dX14_nearer_1 rfl rfl rfl ?_
  obtain ⟨v101, σ102, e103, hf⟩ := bd_some hf
  refine go_invV (As := [_]) (pc' := 5) dX14_nearer_2 rfl cf_X14_nearer_650 rfl (R.ob (R.at rfl (by decide))) rfl rfl (Nat.le_of_ble_eq_true rfl) (c_X14_standing R e103) (fun q104v h105 q104 => ?_)
  obtain ⟨rfl, R⟩ := q104
  refine go_istoreE rfl (pc' := 7) dX14_nearer_5 rfl (by decide) rfl ?_
  refine go_aload_n (i := 0) (pc' := 8) dX14_nearer_7 rfl rfl rfl ?_
  refine go_iload_n (i := 2) (pc' := 9) dX14_nearer_8 rfl rfl rfl ?_
  obtain ⟨v106, σ107, e108, hf⟩ := bd_some hf
  refine go_invV (As := [_]) (pc' := 12) dX14_nearer_9 rfl cf_X14_nearer_650 rfl (R.ob (R.at rfl (by decide))) rfl rfl (Nat.le_of_ble_eq_true rfl) (c_X14_standing R e108) (fun q109v h110 q109 => ?_)
  obtain ⟨rfl, R⟩ := q109
  refine go_istoreE rfl (pc' := 14) dX14_nearer_12 rfl (by decide) rfl ?_
  refine go_iload (pc' := 16) dX14_nearer_14 rfl rfl ?_
  refine go_if_lt (pc' := 19) (tgt := 41) dX14_nearer_16 (by decide) rfl (fun c111 => ?_) (fun c111 => ?_)
  · have hf := it c111 hf
    refine go_bipush (v := (-2)) (pc' := 43) dX14_nearer_41 rfl (by decide) ?_
    obtain rfl := Option.some.inj hf
    exact Go.ret (v := some (.int _)) dX14_nearer_43 ⟨_, rfl⟩ ⟨rfl, rfl, R⟩
  · have hf := ie c111 hf
    refine go_iload (pc' := 21) dX14_nearer_19 rfl rfl ?_
    refine go_if_lt (pc' := 24) (tgt := 41) dX14_nearer_21 (by decide) rfl (fun c112 => ?_) (fun c112 => ?_)
    · have hf := it c112 hf
      refine go_bipush (v := (-2)) (pc' := 43) dX14_nearer_41 rfl (by decide) ?_
      obtain rfl := Option.some.inj hf
      exact Go.ret (v := some (.int _)) dX14_nearer_43 ⟨_, rfl⟩ ⟨rfl, rfl, R⟩
    · have hf := ie c112 hf
      refine go_iload_n (i := 3) (pc' := 25) dX14_nearer_24 rfl rfl rfl ?_
      refine go_i2l (pc' := 26) dX14_nearer_25 rfl rfl ?_
      obtain ⟨v113, σ114, e115, hf⟩ := bd_some hf
      refine go_invS (As := [_]) (pc' := 29) dX14_nearer_26 rfl cf_X14_nearer_600 rfl rfl (Nat.le_of_ble_eq_true rfl) (c_X14_isNumber R e115) (fun q116v h117 q116 => ?_)
      obtain ⟨rfl, R⟩ := q116
      refine go_if_eq (pc' := 32) (tgt := 41) dX14_nearer_29 (by decide) rfl (fun c118 => ?_) (fun c118 => ?_)
      · have hf := it c118 hf
        refine go_bipush (v := (-2)) (pc' := 43) dX14_nearer_41 rfl (by decide) ?_
        obtain rfl := Option.some.inj hf
        exact Go.ret (v := some (.int _)) dX14_nearer_43 ⟨_, rfl⟩ ⟨rfl, rfl, R⟩
      · have hf := ie c118 hf
        refine go_iload (pc' := 34) dX14_nearer_32 rfl rfl ?_
        refine go_i2l (pc' := 35) dX14_nearer_34 rfl rfl ?_
        obtain ⟨v119, σ120, e121, hf⟩ := bd_some hf
        refine go_invS (As := [_]) (pc' := 38) dX14_nearer_35 rfl cf_X14_nearer_600 rfl rfl (Nat.le_of_ble_eq_true rfl) (c_X14_isNumber R e121) (fun q122v h123 q122 => ?_)
        obtain ⟨rfl, R⟩ := q122
        refine go_if_ne (pc' := 41) (tgt := 44) dX14_nearer_38 (by decide) rfl (fun c124 => ?_) (fun c124 => ?_)
        · have hf := ie c124 hf
          refine go_aload_n (i := 0) (pc' := 45) dX14_nearer_44 rfl rfl rfl ?_
          refine go_aload_n (i := 0) (pc' := 46) dX14_nearer_45 rfl rfl rfl ?_
          refine go_getS (pc' := 49) dX14_nearer_46 rfl gf_LandBaseModel_351 R (R.at rfl (by decide)) (by decide) rfl ?_
          refine go_getS (pc' := 52) dX14_nearer_49 rfl gf_LandBaseModel_596 R (R.at rfl (by decide)) (by decide) rfl ?_
          refine go_iload (pc' := 54) dX14_nearer_52 rfl rfl ?_
          obtain ⟨g125, hf⟩ := gd_some hf
          obtain ⟨a126, e127, hf⟩ := nn_some hf
          obtain ⟨g128, hf⟩ := gd_some hf
          refine go_aaloadS (pc' := 55) dX14_nearer_54 rfl (by decide) R (R.aa rfl (by decide)) g125 e127 ?_
          refine go_iload_n (i := 3) (pc' := 56) dX14_nearer_55 rfl rfl rfl ?_
          refine go_iload (pc' := 58) dX14_nearer_56 rfl rfl ?_
          refine go_aload_n (i := 0) (pc' := 59) dX14_nearer_58 rfl rfl rfl ?_
          refine go_getS (pc' := 62) dX14_nearer_59 rfl gf_LandBaseModel_464 R (R.at rfl (by decide)) (by decide) rfl ?_
          obtain ⟨v129, σ130, e131, hf⟩ := bd_some hf
          refine go_invV (As := [_, _, _, _]) (pc' := 65) dX14_nearer_62 rfl cf_X14_nearer_636 rfl (R.ob (R.at rfl (by decide))) rfl rfl (Nat.le_of_ble_eq_true rfl) (c_X14_distance R e131) (fun q132v h133 q132 => ?_)
          obtain ⟨rfl, R⟩ := q132
          refine go_aload_n (i := 0) (pc' := 66) dX14_nearer_65 rfl rfl rfl ?_
          refine go_aload_n (i := 0) (pc' := 67) dX14_nearer_66 rfl rfl rfl ?_
          refine go_getS (pc' := 70) dX14_nearer_67 rfl gf_LandBaseModel_351 R (R.at rfl (by decide)) (by decide) rfl ?_
          refine go_getS (pc' := 73) dX14_nearer_70 rfl gf_LandBaseModel_596 R (R.at rfl (by decide)) (by decide) rfl ?_
          refine go_iload (pc' := 75) dX14_nearer_73 rfl rfl ?_
          obtain ⟨g134, hf⟩ := gd_some hf
          obtain ⟨a135, e136, hf⟩ := nn_some hf
          obtain ⟨g137, hf⟩ := gd_some hf
          refine go_aaloadS (pc' := 76) dX14_nearer_75 rfl (by decide) R (R.aa rfl (by decide)) g134 e136 ?_
          refine go_iload_n (i := 3) (pc' := 77) dX14_nearer_76 rfl rfl rfl ?_
          refine go_iload (pc' := 79) dX14_nearer_77 rfl rfl ?_
          refine go_aload_n (i := 0) (pc' := 80) dX14_nearer_79 rfl rfl rfl ?_
          refine go_getS (pc' := 83) dX14_nearer_80 rfl gf_LandBaseModel_467 R (R.at rfl (by decide)) (by decide) rfl ?_
          obtain ⟨v138, σ139, e140, hf⟩ := bd_some hf
          refine go_invV (As := [_, _, _, _]) (pc' := 86) dX14_nearer_83 rfl cf_X14_nearer_636 rfl (R.ob (R.at rfl (by decide))) rfl rfl (Nat.le_of_ble_eq_true rfl) (c_X14_distance R e140) (fun q141v h142 q141 => ?_)
          obtain ⟨rfl, R⟩ := q141
          refine go_aload_n (i := 0) (pc' := 87) dX14_nearer_86 rfl rfl rfl ?_
          refine go_aload_n (i := 0) (pc' := 88) dX14_nearer_87 rfl rfl rfl ?_
          refine go_getS (pc' := 91) dX14_nearer_88 rfl gf_LandBaseModel_464 R (R.at rfl (by decide)) (by decide) rfl ?_
          refine go_aload_n (i := 0) (pc' := 92) dX14_nearer_91 rfl rfl rfl ?_
          refine go_getS (pc' := 95) dX14_nearer_92 rfl gf_LandBaseModel_467 R (R.at rfl (by decide)) (by decide) rfl ?_
          obtain ⟨v143, σ144, e145, hf⟩ := bd_some hf
          refine go_invV (As := [_, _]) (pc' := 98) dX14_nearer_95 rfl cf_X14_nearer_315 rfl (R.ob (R.at rfl (by decide))) rfl rfl (Nat.le_of_ble_eq_true rfl) (c_X14_compare__ R e145) (fun q146v h147 q146 => ?_)
          obtain ⟨rfl, R⟩ := q146
          obtain rfl := Option.some.inj hf
          exact Go.ret (v := some (.int _)) dX14_nearer_98 ⟨_, rfl⟩ ⟨rfl, rfl, R⟩
        · have hf := it c124 hf
          refine go_bipush (v := (-2)) (pc' := 43) dX14_nearer_41 rfl (by decide) ?_
          obtain rfl := Option.some.inj hf
          exact Go.ret (v := some (.int _)) dX14_nearer_43 ⟨_, rfl⟩ ⟨rfl, rfl, R⟩
def f_X14_used (n : Nat)  (σ : xσ) : Option (Int32 × xσ) := if (sI σ 233 33) = 0 then some (sI σ 233 35, σ) else some ((-1), σ)
set_option maxRecDepth 100000 in
set_option maxHeartbeats 4000000 in
theorem c_X14_used {G : xG} {n : Nat} {σ : xσ} {h : xH}  {v1 : Int32} {σ1 : xσ} (R : Rl n σ h) (hf : f_X14_used n σ = some (v1, σ1)) : Ca G mX14_used [.ref 233] h (fun v h' => v = some (.int v1) ∧ Rl n σ1 h') := by
  refine Ca.of rfl (Nat.le_of_ble_eq_true rfl) ?_
  generalize hr : (v1, σ1) = r at hf
  suffices q : Go G mX14_used 0 (xent (xMl mX14_used) [.ref 233]) [] h (fun v h' => xRok (xRt mX14_used) v ∧ v = some (.int r.1) ∧ Rl n r.2 h') by
    subst hr
    exact q
  clear hr
  rw [f_X14_used] at hf
  refine go_aload_n (i := 0) (pc' := 1) dX14_used_0 rfl rfl rfl ?_
  refine go_getS (pc' := 4) dX14_used_1 rfl gf_LandBaseModel_318 R (R.at rfl (by decide)) (by decide) rfl ?_
  refine go_if_eq (pc' := 7) (tgt := 11) dX14_used_4 (by decide) rfl (fun c101 => ?_) (fun c101 => ?_)
  · have hf := it c101 hf
    refine go_aload_n (i := 0) (pc' := 12) dX14_used_11 rfl rfl rfl ?_
    refine go_getS (pc' := 15) dX14_used_12 rfl gf_LandBaseModel_332 R (R.at rfl (by decide)) (by decide) rfl ?_
    obtain rfl := Option.some.inj hf
    exact Go.ret (v := some (.int _)) dX14_used_15 ⟨_, rfl⟩ ⟨rfl, rfl, R⟩
  · have hf := ie c101 hf
    refine go_iconst (v := (-1)) (pc' := 8) dX14_used_7 rfl (by decide) ?_
    refine go_goto (pc' := 0) (tgt := 15) dX14_used_8 (by decide) ?_
    obtain rfl := Option.some.inj hf
    exact Go.ret (v := some (.int _)) dX14_used_15 ⟨_, rfl⟩ ⟨rfl, rfl, R⟩
def f_X14_saves (n : Nat)  (σ : xσ) : Option (Int32 × xσ) := some (sI σ 233 36, σ)
set_option maxRecDepth 100000 in
set_option maxHeartbeats 4000000 in
theorem c_X14_saves {G : xG} {n : Nat} {σ : xσ} {h : xH}  {v1 : Int32} {σ1 : xσ} (R : Rl n σ h) (hf : f_X14_saves n σ = some (v1, σ1)) : Ca G mX14_saves [.ref 233] h (fun v h' => v = some (.int v1) ∧ Rl n σ1 h') := by
  refine Ca.of rfl (Nat.le_of_ble_eq_true rfl) ?_
  generalize hr : (v1, σ1) = r at hf
  suffices q : Go G mX14_saves 0 (xent (xMl mX14_saves) [.ref 233]) [] h (fun v h' => xRok (xRt mX14_saves) v ∧ v = some (.int r.1) ∧ Rl n r.2 h') by
    subst hr
    exact q
  clear hr
  rw [f_X14_saves] at hf
  refine go_aload_n (i := 0) (pc' := 1) dX14_saves_0 rfl rfl rfl ?_
  refine go_getS (pc' := 4) dX14_saves_1 rfl gf_LandBaseModel_335 R (R.at rfl (by decide)) (by decide) rfl ?_
  obtain rfl := Option.some.inj hf
  exact Go.ret (v := some (.int _)) dX14_saves_4 ⟨_, rfl⟩ ⟨rfl, rfl, R⟩
def f_X14_flaws (n : Nat)  (σ : xσ) : Option (Int32 × xσ) := some (0, σ)
set_option maxRecDepth 100000 in
set_option maxHeartbeats 4000000 in
theorem c_X14_flaws {G : xG} {n : Nat} {σ : xσ} {h : xH}  {v1 : Int32} {σ1 : xσ} (R : Rl n σ h) (hf : f_X14_flaws n σ = some (v1, σ1)) : Ca G mX14_flaws [.ref 233] h (fun v h' => v = some (.int v1) ∧ Rl n σ1 h') := by
  refine Ca.of rfl (Nat.le_of_ble_eq_true rfl) ?_
  generalize hr : (v1, σ1) = r at hf
  suffices q : Go G mX14_flaws 0 (xent (xMl mX14_flaws) [.ref 233]) [] h (fun v h' => xRok (xRt mX14_flaws) v ∧ v = some (.int r.1) ∧ Rl n r.2 h') by
    subst hr
    exact q
  clear hr
  rw [f_X14_flaws] at hf
  refine go_iconst (v := 0) (pc' := 1) dX14_flaws_0 rfl (by decide) ?_
  obtain rfl := Option.some.inj hf
  exact Go.ret (v := some (.int _)) dX14_flaws_1 ⟨_, rfl⟩ ⟨rfl, rfl, R⟩

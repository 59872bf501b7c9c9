/-! methods as functions, by program (gen/dcmall.py) -/
def b_X14_isSimple_72 (n : Nat) (k20 : Nat → Int32 → Int32 → Int32 → xσ → Option (Int32 × xσ)) (k32 : Nat → Int32 → Int32 → Int32 → Int32 → xσ → Option (Int32 × xσ)) (a0 : Nat) (x2 : Int32) (x3 : Int32) (x4 : Int32) (x5 : Int32) (x6 : Int32) (xs0 : Int32) (σ : xσ) : Option (Int32 × xσ) := if x6 = 0 then if xs0 = 0 then bd (f_X14_meet n a0 (x2 + x4) a0 (x2 + x5) σ) (fun v205 σ206 => if v205 = 0 then if x6 = 0 then if xs0 = 0 then k32 a0 x2 x3 x4 (x5 + 1) σ206 else gd (inb (x2 + x5) 40) (gd (inb (x2 + x5) 40) (bd (f_X14_isOn n a0 (x2 + x4) (sI σ206 (a0 + 2) (x2 + x5).toNatClampNeg) (sI σ206 (a0 + 3) (x2 + x5).toNatClampNeg) σ206) (fun v215 σ216 => if v215 = 0 then gd (inb ((x2 + x4) + 1) 40) (gd (inb ((x2 + x4) + 1) 40) (bd (f_X14_isOn n a0 (x2 + x5) (sI σ216 (a0 + 2) ((x2 + x4) + 1).toNatClampNeg) (sI σ216 (a0 + 3) ((x2 + x4) + 1).toNatClampNeg) σ216) (fun v223 σ224 => if v223 = 0 then k32 a0 x2 x3 x4 (x5 + 1) σ224 else some (0, σ224)))) else some (0, σ216)))) else gd (inb ((x2 + x5) + 1) 40) (gd (inb ((x2 + x5) + 1) 40) (bd (f_X14_isOn n a0 (x2 + x4) (sI σ206 (a0 + 2) ((x2 + x5) + 1).toNatClampNeg) (sI σ206 (a0 + 3) ((x2 + x5) + 1).toNatClampNeg) σ206) (fun v231 σ232 => if v231 = 0 then gd (inb (x2 + x4) 40) (gd (inb (x2 + x4) 40) (bd (f_X14_isOn n a0 (x2 + x5) (sI σ232 (a0 + 2) (x2 + x4).toNatClampNeg) (sI σ232 (a0 + 3) (x2 + x4).toNatClampNeg) σ232) (fun v239 σ240 => if v239 = 0 then if xs0 = 0 then k32 a0 x2 x3 x4 (x5 + 1) σ240 else gd (inb (x2 + x5) 40) (gd (inb (x2 + x5) 40) (bd (f_X14_isOn n a0 (x2 + x4) (sI σ240 (a0 + 2) (x2 + x5).toNatClampNeg) (sI σ240 (a0 + 3) (x2 + x5).toNatClampNeg) σ240) (fun v248 σ249 => if v248 = 0 then gd (inb ((x2 + x4) + 1) 40) (gd (inb ((x2 + x4) + 1) 40) (bd (f_X14_isOn n a0 (x2 + x5) (sI σ249 (a0 + 2) ((x2 + x4) + 1).toNatClampNeg) (sI σ249 (a0 + 3) ((x2 + x4) + 1).toNatClampNeg) σ249) (fun v256 σ257 => if v256 = 0 then k32 a0 x2 x3 x4 (x5 + 1) σ257 else some (0, σ257)))) else some (0, σ249)))) else some (0, σ240)))) else some (0, σ232)))) else some (0, σ206)) else if x6 = 0 then if xs0 = 0 then k32 a0 x2 x3 x4 (x5 + 1) σ else gd (inb (x2 + x5) 40) (gd (inb (x2 + x5) 40) (bd (f_X14_isOn n a0 (x2 + x4) (sI σ (a0 + 2) (x2 + x5).toNatClampNeg) (sI σ (a0 + 3) (x2 + x5).toNatClampNeg) σ) (fun v158 σ159 => if v158 = 0 then gd (inb ((x2 + x4) + 1) 40) (gd (inb ((x2 + x4) + 1) 40) (bd (f_X14_isOn n a0 (x2 + x5) (sI σ159 (a0 + 2) ((x2 + x4) + 1).toNatClampNeg) (sI σ159 (a0 + 3) ((x2 + x4) + 1).toNatClampNeg) σ159) (fun v166 σ167 => if v166 = 0 then k32 a0 x2 x3 x4 (x5 + 1) σ167 else some (0, σ167)))) else some (0, σ159)))) else gd (inb ((x2 + x5) + 1) 40) (gd (inb ((x2 + x5) + 1) 40) (bd (f_X14_isOn n a0 (x2 + x4) (sI σ (a0 + 2) ((x2 + x5) + 1).toNatClampNeg) (sI σ (a0 + 3) ((x2 + x5) + 1).toNatClampNeg) σ) (fun v174 σ175 => if v174 = 0 then gd (inb (x2 + x4) 40) (gd (inb (x2 + x4) 40) (bd (f_X14_isOn n a0 (x2 + x5) (sI σ175 (a0 + 2) (x2 + x4).toNatClampNeg) (sI σ175 (a0 + 3) (x2 + x4).toNatClampNeg) σ175) (fun v182 σ183 => if v182 = 0 then if xs0 = 0 then k32 a0 x2 x3 x4 (x5 + 1) σ183 else gd (inb (x2 + x5) 40) (gd (inb (x2 + x5) 40) (bd (f_X14_isOn n a0 (x2 + x4) (sI σ183 (a0 + 2) (x2 + x5).toNatClampNeg) (sI σ183 (a0 + 3) (x2 + x5).toNatClampNeg) σ183) (fun v191 σ192 => if v191 = 0 then gd (inb ((x2 + x4) + 1) 40) (gd (inb ((x2 + x4) + 1) 40) (bd (f_X14_isOn n a0 (x2 + x5) (sI σ192 (a0 + 2) ((x2 + x4) + 1).toNatClampNeg) (sI σ192 (a0 + 3) ((x2 + x4) + 1).toNatClampNeg) σ192) (fun v199 σ200 => if v199 = 0 then k32 a0 x2 x3 x4 (x5 + 1) σ200 else some (0, σ200)))) else some (0, σ192)))) else some (0, σ183)))) else some (0, σ175)))) else if x6 = 0 then if xs0 = 0 then k32 a0 x2 x3 x4 (x5 + 1) σ else gd (inb (x2 + x5) 40) (gd (inb (x2 + x5) 40) (bd (f_X14_isOn n a0 (x2 + x4) (sI σ (a0 + 2) (x2 + x5).toNatClampNeg) (sI σ (a0 + 3) (x2 + x5).toNatClampNeg) σ) (fun v106 σ107 => if v106 = 0 then gd (inb ((x2 + x4) + 1) 40) (gd (inb ((x2 + x4) + 1) 40) (bd (f_X14_isOn n a0 (x2 + x5) (sI σ107 (a0 + 2) ((x2 + x4) + 1).toNatClampNeg) (sI σ107 (a0 + 3) ((x2 + x4) + 1).toNatClampNeg) σ107) (fun v114 σ115 => if v114 = 0 then k32 a0 x2 x3 x4 (x5 + 1) σ115 else some (0, σ115)))) else some (0, σ107)))) else gd (inb ((x2 + x5) + 1) 40) (gd (inb ((x2 + x5) + 1) 40) (bd (f_X14_isOn n a0 (x2 + x4) (sI σ (a0 + 2) ((x2 + x5) + 1).toNatClampNeg) (sI σ (a0 + 3) ((x2 + x5) + 1).toNatClampNeg) σ) (fun v122 σ123 => if v122 = 0 then gd (inb (x2 + x4) 40) (gd (inb (x2 + x4) 40) (bd (f_X14_isOn n a0 (x2 + x5) (sI σ123 (a0 + 2) (x2 + x4).toNatClampNeg) (sI σ123 (a0 + 3) (x2 + x4).toNatClampNeg) σ123) (fun v130 σ131 => if v130 = 0 then if xs0 = 0 then k32 a0 x2 x3 x4 (x5 + 1) σ131 else gd (inb (x2 + x5) 40) (gd (inb (x2 + x5) 40) (bd (f_X14_isOn n a0 (x2 + x4) (sI σ131 (a0 + 2) (x2 + x5).toNatClampNeg) (sI σ131 (a0 + 3) (x2 + x5).toNatClampNeg) σ131) (fun v139 σ140 => if v139 = 0 then gd (inb ((x2 + x4) + 1) 40) (gd (inb ((x2 + x4) + 1) 40) (bd (f_X14_isOn n a0 (x2 + x5) (sI σ140 (a0 + 2) ((x2 + x4) + 1).toNatClampNeg) (sI σ140 (a0 + 3) ((x2 + x4) + 1).toNatClampNeg) σ140) (fun v147 σ148 => if v147 = 0 then k32 a0 x2 x3 x4 (x5 + 1) σ148 else some (0, σ148)))) else some (0, σ140)))) else some (0, σ131)))) else some (0, σ123))))
set_option maxRecDepth 100000 in
set_option maxHeartbeats 4000000 in
theorem t_X14_isSimple_72 {G : xG} {n : Nat} {k20 : Nat → Int32 → Int32 → Int32 → xσ → Option (Int32 × xσ)} {k32 : Nat → Int32 → Int32 → Int32 → Int32 → xσ → Option (Int32 × xσ)} (hk20 : ∀ {a0 : Nat} {x2 : Int32} {x3 : Int32} {x4 : Int32} {σ : xσ} {h : xH} {r : Int32 × xσ} {d1 : Option Value} {d5 : Option Value} {d6 : Option Value} {d7 : Option Value}, Rl n σ h → okM a0 → k20 a0 x2 x3 x4 σ = some r → Go G mX14_isSimple 20 [some (.ref a0), d1, some (.int x2), some (.int x3), some (.int x4), d5, d6, d7] [] h (fun v h' => xRok (xRt mX14_isSimple) v ∧ v = some (.int r.1) ∧ Rl n r.2 h')) (hk32 : ∀ {a0 : Nat} {x2 : Int32} {x3 : Int32} {x4 : Int32} {x5 : Int32} {σ : xσ} {h : xH} {r : Int32 × xσ} {d1 : Option Value} {d6 : Option Value} {d7 : Option Value}, Rl n σ h → okM a0 → k32 a0 x2 x3 x4 x5 σ = some r → Go G mX14_isSimple 32 [some (.ref a0), d1, some (.int x2), some (.int x3), some (.int x4), some (.int x5), d6, d7] [] h (fun v h' => xRok (xRt mX14_isSimple) v ∧ v = some (.int r.1) ∧ Rl n r.2 h')) {a0 : Nat} {x2 : Int32} {x3 : Int32} {x4 : Int32} {x5 : Int32} {x6 : Int32} {xs0 : Int32} {σ : xσ} {h : xH} {r : Int32 × xσ} {d1 : Option Value} {d7 : Option Value} : Rl n σ h → okM a0 → b_X14_isSimple_72 n k20 k32 a0 x2 x3 x4 x5 x6 xs0 σ = some r → Go G mX14_isSimple 72 [some (.ref a0), d1, some (.int x2), some (.int x3), some (.int x4), some (.int x5), some (.int x6), d7] [.int xs0] h (fun v h' => xRok (xRt mX14_isSimple) v ∧ v = some (.int r.1) ∧ Rl n r.2 h') := by
  intro R g0 hf
  rw [b_X14_isSimple_72] at hf
  refine go_istoreE rfl (pc' := 74) dX14_isSimple_72 rfl (by decide) rfl ?_
  refine go_iload (pc' := 76) dX14_isSimple_74 rfl rfl ?_
  refine go_if_ne (pc' := 79) (tgt := 102) dX14_isSimple_76 (by decide) rfl (fun c101 => ?_) (fun c101 => ?_)
  · have hf := ie c101 hf
    refine go_iload (pc' := 104) dX14_isSimple_102 rfl rfl ?_
    refine go_if_eq (pc' := 107) (tgt := 171) dX14_isSimple_104 (by decide) rfl (fun c102 => ?_) (fun c102 => ?_)
    · have hf := it c102 hf
      refine go_iload (pc' := 173) dX14_isSimple_171 rfl rfl ?_
      refine go_if_eq (pc' := 176) (tgt := 240) dX14_isSimple_173 (by decide) rfl (fun c103 => ?_) (fun c103 => ?_)
      · have hf := it c103 hf
        refine go_iincC (kk := 1) (pc' := 243) dX14_isSimple_240 rfl rfl (by decide) (by decide) rfl ?_
        refine go_goto (pc' := 0) (tgt := 32) dX14_isSimple_243 (by decide) ?_
        exact hk32 R g0 hf
      · have hf := ie c103 hf
        refine go_aload_n (i := 0) (pc' := 177) dX14_isSimple_176 rfl rfl rfl ?_
        refine go_iload_n (i := 2) (pc' := 178) dX14_isSimple_177 rfl rfl rfl ?_
        refine go_iload (pc' := 180) dX14_isSimple_178 rfl rfl ?_
        refine go_iadd (pc' := 181) dX14_isSimple_180 rfl ?_
        refine go_aload_n (i := 0) (pc' := 182) dX14_isSimple_181 rfl rfl rfl ?_
        refine go_getS (pc' := 185) dX14_isSimple_182 rfl gf_LandBaseModel_30 R (g0.at R) (by decide) rfl ?_
        refine go_iload_n (i := 2) (pc' := 186) dX14_isSimple_185 rfl rfl rfl ?_
        refine go_iload (pc' := 188) dX14_isSimple_186 rfl rfl ?_
        refine go_iadd (pc' := 189) dX14_isSimple_188 rfl ?_
        obtain ⟨g104, hf⟩ := gd_some hf
        refine go_ialoadS (pc' := 190) dX14_isSimple_189 rfl R (g0.x R) g104 ?_
        refine go_aload_n (i := 0) (pc' := 191) dX14_isSimple_190 rfl rfl rfl ?_
        refine go_getS (pc' := 194) dX14_isSimple_191 rfl gf_LandBaseModel_36 R (g0.at R) (by decide) rfl ?_
        refine go_iload_n (i := 2) (pc' := 195) dX14_isSimple_194 rfl rfl rfl ?_
        refine go_iload (pc' := 197) dX14_isSimple_195 rfl rfl ?_
        refine go_iadd (pc' := 198) dX14_isSimple_197 rfl ?_
        obtain ⟨g105, hf⟩ := gd_some hf
        refine go_ialoadS (pc' := 199) dX14_isSimple_198 rfl R (g0.y R) g105 ?_
        obtain ⟨v106, σ107, e108, hf⟩ := bd_some hf
        refine go_invS (As := [_, _, _, _]) (pc' := 202) dX14_isSimple_199 rfl cf_X14_isSimple_71 rfl rfl (Nat.le_of_ble_eq_true rfl) (c_X14_isOn R e108) (fun q109v h110 q109 => ?_)
        obtain ⟨rfl, R⟩ := q109
        refine go_if_ne (pc' := 205) (tgt := 238) dX14_isSimple_202 (by decide) rfl (fun c111 => ?_) (fun c111 => ?_)
        · have hf := ie c111 hf
          refine go_iconst (v := 0) (pc' := 239) dX14_isSimple_238 rfl (by decide) ?_
          obtain rfl := Option.some.inj hf
          exact Go.ret (v := some (.int _)) dX14_isSimple_239 ⟨_, rfl⟩ ⟨rfl, rfl, R⟩
        · have hf := it c111 hf
          refine go_aload_n (i := 0) (pc' := 206) dX14_isSimple_205 rfl rfl rfl ?_
          refine go_iload_n (i := 2) (pc' := 207) dX14_isSimple_206 rfl rfl rfl ?_
          refine go_iload (pc' := 209) dX14_isSimple_207 rfl rfl ?_
          refine go_iadd (pc' := 210) dX14_isSimple_209 rfl ?_
          refine go_aload_n (i := 0) (pc' := 211) dX14_isSimple_210 rfl rfl rfl ?_
          refine go_getS (pc' := 214) dX14_isSimple_211 rfl gf_LandBaseModel_30 R (g0.at R) (by decide) rfl ?_
          refine go_iload_n (i := 2) (pc' := 215) dX14_isSimple_214 rfl rfl rfl ?_
          refine go_iload (pc' := 217) dX14_isSimple_215 rfl rfl ?_
          refine go_iadd (pc' := 218) dX14_isSimple_217 rfl ?_
          refine go_iconst (v := 1) (pc' := 219) dX14_isSimple_218 rfl (by decide) ?_
          refine go_iadd (pc' := 220) dX14_isSimple_219 rfl ?_
          obtain ⟨g112, hf⟩ := gd_some hf
          refine go_ialoadS (pc' := 221) dX14_isSimple_220 rfl R (g0.x R) g112 ?_
          refine go_aload_n (i := 0) (pc' := 222) dX14_isSimple_221 rfl rfl rfl ?_
          refine go_getS (pc' := 225) dX14_isSimple_222 rfl gf_LandBaseModel_36 R (g0.at R) (by decide) rfl ?_
          refine go_iload_n (i := 2) (pc' := 226) dX14_isSimple_225 rfl rfl rfl ?_
          refine go_iload (pc' := 228) dX14_isSimple_226 rfl rfl ?_
          refine go_iadd (pc' := 229) dX14_isSimple_228 rfl ?_
          refine go_iconst (v := 1) (pc' := 230) dX14_isSimple_229 rfl (by decide) ?_
          refine go_iadd (pc' := 231) dX14_isSimple_230 rfl ?_
          obtain ⟨g113, hf⟩ := gd_some hf
          refine go_ialoadS (pc' := 232) dX14_isSimple_231 rfl R (g0.y R) g113 ?_
          obtain ⟨v114, σ115, e116, hf⟩ := bd_some hf
          refine go_invS (As := [_, _, _, _]) (pc' := 235) dX14_isSimple_232 rfl cf_X14_isSimple_71 rfl rfl (Nat.le_of_ble_eq_true rfl) (c_X14_isOn R e116) (fun q117v h118 q117 => ?_)
          obtain ⟨rfl, R⟩ := q117
          refine go_if_eq (pc' := 238) (tgt := 240) dX14_isSimple_235 (by decide) rfl (fun c119 => ?_) (fun c119 => ?_)
          · have hf := it c119 hf
            refine go_iincC (kk := 1) (pc' := 243) dX14_isSimple_240 rfl rfl (by decide) (by decide) rfl ?_
            refine go_goto (pc' := 0) (tgt := 32) dX14_isSimple_243 (by decide) ?_
            exact hk32 R g0 hf
          · have hf := ie c119 hf
            refine go_iconst (v := 0) (pc' := 239) dX14_isSimple_238 rfl (by decide) ?_
            obtain rfl := Option.some.inj hf
            exact Go.ret (v := some (.int _)) dX14_isSimple_239 ⟨_, rfl⟩ ⟨rfl, rfl, R⟩
    · have hf := ie c102 hf
      refine go_aload_n (i := 0) (pc' := 108) dX14_isSimple_107 rfl rfl rfl ?_
      refine go_iload_n (i := 2) (pc' := 109) dX14_isSimple_108 rfl rfl rfl ?_
      refine go_iload (pc' := 111) dX14_isSimple_109 rfl rfl ?_
      refine go_iadd (pc' := 112) dX14_isSimple_111 rfl ?_
      refine go_aload_n (i := 0) (pc' := 113) dX14_isSimple_112 rfl rfl rfl ?_
      refine go_getS (pc' := 116) dX14_isSimple_113 rfl gf_LandBaseModel_30 R (g0.at R) (by decide) rfl ?_
      refine go_iload_n (i := 2) (pc' := 117) dX14_isSimple_116 rfl rfl rfl ?_
      refine go_iload (pc' := 119) dX14_isSimple_117 rfl rfl ?_
      refine go_iadd (pc' := 120) dX14_isSimple_119 rfl ?_
      refine go_iconst (v := 1) (pc' := 121) dX14_isSimple_120 rfl (by decide) ?_
      refine go_iadd (pc' := 122) dX14_isSimple_121 rfl ?_
      obtain ⟨g120, hf⟩ := gd_some hf
      refine go_ialoadS (pc' := 123) dX14_isSimple_122 rfl R (g0.x R) g120 ?_
      refine go_aload_n (i := 0) (pc' := 124) dX14_isSimple_123 rfl rfl rfl ?_
      refine go_getS (pc' := 127) dX14_isSimple_124 rfl gf_LandBaseModel_36 R (g0.at R) (by decide) rfl ?_
      refine go_iload_n (i := 2) (pc' := 128) dX14_isSimple_127 rfl rfl rfl ?_
      refine go_iload (pc' := 130) dX14_isSimple_128 rfl rfl ?_
      refine go_iadd (pc' := 131) dX14_isSimple_130 rfl ?_
      refine go_iconst (v := 1) (pc' := 132) dX14_isSimple_131 rfl (by decide) ?_
      refine go_iadd (pc' := 133) dX14_isSimple_132 rfl ?_
      obtain ⟨g121, hf⟩ := gd_some hf
      refine go_ialoadS (pc' := 134) dX14_isSimple_133 rfl R (g0.y R) g121 ?_
      obtain ⟨v122, σ123, e124, hf⟩ := bd_some hf
      refine go_invS (As := [_, _, _, _]) (pc' := 137) dX14_isSimple_134 rfl cf_X14_isSimple_71 rfl rfl (Nat.le_of_ble_eq_true rfl) (c_X14_isOn R e124) (fun q125v h126 q125 => ?_)
      obtain ⟨rfl, R⟩ := q125
      refine go_if_ne (pc' := 140) (tgt := 169) dX14_isSimple_137 (by decide) rfl (fun c127 => ?_) (fun c127 => ?_)
      · have hf := ie c127 hf
        refine go_iconst (v := 0) (pc' := 170) dX14_isSimple_169 rfl (by decide) ?_
        obtain rfl := Option.some.inj hf
        exact Go.ret (v := some (.int _)) dX14_isSimple_170 ⟨_, rfl⟩ ⟨rfl, rfl, R⟩
      · have hf := it c127 hf
        refine go_aload_n (i := 0) (pc' := 141) dX14_isSimple_140 rfl rfl rfl ?_
        refine go_iload_n (i := 2) (pc' := 142) dX14_isSimple_141 rfl rfl rfl ?_
        refine go_iload (pc' := 144) dX14_isSimple_142 rfl rfl ?_
        refine go_iadd (pc' := 145) dX14_isSimple_144 rfl ?_
        refine go_aload_n (i := 0) (pc' := 146) dX14_isSimple_145 rfl rfl rfl ?_
        refine go_getS (pc' := 149) dX14_isSimple_146 rfl gf_LandBaseModel_30 R (g0.at R) (by decide) rfl ?_
        refine go_iload_n (i := 2) (pc' := 150) dX14_isSimple_149 rfl rfl rfl ?_
        refine go_iload (pc' := 152) dX14_isSimple_150 rfl rfl ?_
        refine go_iadd (pc' := 153) dX14_isSimple_152 rfl ?_
        obtain ⟨g128, hf⟩ := gd_some hf
        refine go_ialoadS (pc' := 154) dX14_isSimple_153 rfl R (g0.x R) g128 ?_
        refine go_aload_n (i := 0) (pc' := 155) dX14_isSimple_154 rfl rfl rfl ?_
        refine go_getS (pc' := 158) dX14_isSimple_155 rfl gf_LandBaseModel_36 R (g0.at R) (by decide) rfl ?_
        refine go_iload_n (i := 2) (pc' := 159) dX14_isSimple_158 rfl rfl rfl ?_
        refine go_iload (pc' := 161) dX14_isSimple_159 rfl rfl ?_
        refine go_iadd (pc' := 162) dX14_isSimple_161 rfl ?_
        obtain ⟨g129, hf⟩ := gd_some hf
        refine go_ialoadS (pc' := 163) dX14_isSimple_162 rfl R (g0.y R) g129 ?_
        obtain ⟨v130, σ131, e132, hf⟩ := bd_some hf
        refine go_invS (As := [_, _, _, _]) (pc' := 166) dX14_isSimple_163 rfl cf_X14_isSimple_71 rfl rfl (Nat.le_of_ble_eq_true rfl) (c_X14_isOn R e132) (fun q133v h134 q133 => ?_)
        obtain ⟨rfl, R⟩ := q133
        refine go_if_eq (pc' := 169) (tgt := 171) dX14_isSimple_166 (by decide) rfl (fun c135 => ?_) (fun c135 => ?_)
        · have hf := it c135 hf
          refine go_iload (pc' := 173) dX14_isSimple_171 rfl rfl ?_
          refine go_if_eq (pc' := 176) (tgt := 240) dX14_isSimple_173 (by decide) rfl (fun c136 => ?_) (fun c136 => ?_)
          · have hf := it c136 hf
            refine go_iincC (kk := 1) (pc' := 243) dX14_isSimple_240 rfl rfl (by decide) (by decide) rfl ?_
            refine go_goto (pc' := 0) (tgt := 32) dX14_isSimple_243 (by decide) ?_
            exact hk32 R g0 hf
          · have hf := ie c136 hf
            refine go_aload_n (i := 0) (pc' := 177) dX14_isSimple_176 rfl rfl rfl ?_
            refine go_iload_n (i := 2) (pc' := 178) dX14_isSimple_177 rfl rfl rfl ?_
            refine go_iload (pc' := 180) dX14_isSimple_178 rfl rfl ?_
            refine go_iadd (pc' := 181) dX14_isSimple_180 rfl ?_
            refine go_aload_n (i := 0) (pc' := 182) dX14_isSimple_181 rfl rfl rfl ?_
            refine go_getS (pc' := 185) dX14_isSimple_182 rfl gf_LandBaseModel_30 R (g0.at R) (by decide) rfl ?_
            refine go_iload_n (i := 2) (pc' := 186) dX14_isSimple_185 rfl rfl rfl ?_
            refine go_iload (pc' := 188) dX14_isSimple_186 rfl rfl ?_
            refine go_iadd (pc' := 189) dX14_isSimple_188 rfl ?_
            obtain ⟨g137, hf⟩ := gd_some hf
            refine go_ialoadS (pc' := 190) dX14_isSimple_189 rfl R (g0.x R) g137 ?_
            refine go_aload_n (i := 0) (pc' := 191) dX14_isSimple_190 rfl rfl rfl ?_
            refine go_getS (pc' := 194) dX14_isSimple_191 rfl gf_LandBaseModel_36 R (g0.at R) (by decide) rfl ?_
            refine go_iload_n (i := 2) (pc' := 195) dX14_isSimple_194 rfl rfl rfl ?_
            refine go_iload (pc' := 197) dX14_isSimple_195 rfl rfl ?_
            refine go_iadd (pc' := 198) dX14_isSimple_197 rfl ?_
            obtain ⟨g138, hf⟩ := gd_some hf
            refine go_ialoadS (pc' := 199) dX14_isSimple_198 rfl R (g0.y R) g138 ?_
            obtain ⟨v139, σ140, e141, hf⟩ := bd_some hf
            refine go_invS (As := [_, _, _, _]) (pc' := 202) dX14_isSimple_199 rfl cf_X14_isSimple_71 rfl rfl (Nat.le_of_ble_eq_true rfl) (c_X14_isOn R e141) (fun q142v h143 q142 => ?_)
            obtain ⟨rfl, R⟩ := q142
            refine go_if_ne (pc' := 205) (tgt := 238) dX14_isSimple_202 (by decide) rfl (fun c144 => ?_) (fun c144 => ?_)
            · have hf := ie c144 hf
              refine go_iconst (v := 0) (pc' := 239) dX14_isSimple_238 rfl (by decide) ?_
              obtain rfl := Option.some.inj hf
              exact Go.ret (v := some (.int _)) dX14_isSimple_239 ⟨_, rfl⟩ ⟨rfl, rfl, R⟩
            · have hf := it c144 hf
              refine go_aload_n (i := 0) (pc' := 206) dX14_isSimple_205 rfl rfl rfl ?_
              refine go_iload_n (i := 2) (pc' := 207) dX14_isSimple_206 rfl rfl rfl ?_
              refine go_iload (pc' := 209) dX14_isSimple_207 rfl rfl ?_
              refine go_iadd (pc' := 210) dX14_isSimple_209 rfl ?_
              refine go_aload_n (i := 0) (pc' := 211) dX14_isSimple_210 rfl rfl rfl ?_
              refine go_getS (pc' := 214) dX14_isSimple_211 rfl gf_LandBaseModel_30 R (g0.at R) (by decide) rfl ?_
              refine go_iload_n (i := 2) (pc' := 215) dX14_isSimple_214 rfl rfl rfl ?_
              refine go_iload (pc' := 217) dX14_isSimple_215 rfl rfl ?_
              refine go_iadd (pc' := 218) dX14_isSimple_217 rfl ?_
              refine go_iconst (v := 1) (pc' := 219) dX14_isSimple_218 rfl (by decide) ?_
              refine go_iadd (pc' := 220) dX14_isSimple_219 rfl ?_
              obtain ⟨g145, hf⟩ := gd_some hf
              refine go_ialoadS (pc' := 221) dX14_isSimple_220 rfl R (g0.x R) g145 ?_
              refine go_aload_n (i := 0) (pc' := 222) dX14_isSimple_221 rfl rfl rfl ?_
              refine go_getS (pc' := 225) dX14_isSimple_222 rfl gf_LandBaseModel_36 R (g0.at R) (by decide) rfl ?_
              refine go_iload_n (i := 2) (pc' := 226) dX14_isSimple_225 rfl rfl rfl ?_
              refine go_iload (pc' := 228) dX14_isSimple_226 rfl rfl ?_
              refine go_iadd (pc' := 229) dX14_isSimple_228 rfl ?_
              refine go_iconst (v := 1) (pc' := 230) dX14_isSimple_229 rfl (by decide) ?_
              refine go_iadd (pc' := 231) dX14_isSimple_230 rfl ?_
              obtain ⟨g146, hf⟩ := gd_some hf
              refine go_ialoadS (pc' := 232) dX14_isSimple_231 rfl R (g0.y R) g146 ?_
              obtain ⟨v147, σ148, e149, hf⟩ := bd_some hf
              refine go_invS (As := [_, _, _, _]) (pc' := 235) dX14_isSimple_232 rfl cf_X14_isSimple_71 rfl rfl (Nat.le_of_ble_eq_true rfl) (c_X14_isOn R e149) (fun q150v h151 q150 => ?_)
              obtain ⟨rfl, R⟩ := q150
              refine go_if_eq (pc' := 238) (tgt := 240) dX14_isSimple_235 (by decide) rfl (fun c152 => ?_) (fun c152 => ?_)
              · have hf := it c152 hf
                refine go_iincC (kk := 1) (pc' := 243) dX14_isSimple_240 rfl rfl (by decide) (by decide) rfl ?_
                refine go_goto (pc' := 0) (tgt := 32) dX14_isSimple_243 (by decide) ?_
                exact hk32 R g0 hf
              · have hf := ie c152 hf
                refine go_iconst (v := 0) (pc' := 239) dX14_isSimple_238 rfl (by decide) ?_
                obtain rfl := Option.some.inj hf
                exact Go.ret (v := some (.int _)) dX14_isSimple_239 ⟨_, rfl⟩ ⟨rfl, rfl, R⟩
        · have hf := ie c135 hf
          refine go_iconst (v := 0) (pc' := 170) dX14_isSimple_169 rfl (by decide) ?_
          obtain rfl := Option.some.inj hf
          exact Go.ret (v := some (.int _)) dX14_isSimple_170 ⟨_, rfl⟩ ⟨rfl, rfl, R⟩
  · have hf := it c101 hf
    refine go_iload (pc' := 81) dX14_isSimple_79 rfl rfl ?_
    refine go_if_ne (pc' := 84) (tgt := 102) dX14_isSimple_81 (by decide) rfl (fun c153 => ?_) (fun c153 => ?_)
    · have hf := ie c153 hf
      refine go_iload (pc' := 104) dX14_isSimple_102 rfl rfl ?_
      refine go_if_eq (pc' := 107) (tgt := 171) dX14_isSimple_104 (by decide) rfl (fun c154 => ?_) (fun c154 => ?_)
      · have hf := it c154 hf
        refine go_iload (pc' := 173) dX14_isSimple_171 rfl rfl ?_
        refine go_if_eq (pc' := 176) (tgt := 240) dX14_isSimple_173 (by decide) rfl (fun c155 => ?_) (fun c155 => ?_)
        · have hf := it c155 hf
          refine go_iincC (kk := 1) (pc' := 243) dX14_isSimple_240 rfl rfl (by decide) (by decide) rfl ?_
          refine go_goto (pc' := 0) (tgt := 32) dX14_isSimple_243 (by decide) ?_
          exact hk32 R g0 hf
        · have hf := ie c155 hf
          refine go_aload_n (i := 0) (pc' := 177) dX14_isSimple_176 rfl rfl rfl ?_
          refine go_iload_n (i := 2) (pc' := 178) dX14_isSimple_177 rfl rfl rfl ?_
          refine go_iload (pc' := 180) dX14_isSimple_178 rfl rfl ?_
          refine go_iadd (pc' := 181) dX14_isSimple_180 rfl ?_
          refine go_aload_n (i := 0) (pc' := 182) dX14_isSimple_181 rfl rfl rfl ?_
          refine go_getS (pc' := 185) dX14_isSimple_182 rfl gf_LandBaseModel_30 R (g0.at R) (by decide) rfl ?_
          refine go_iload_n (i := 2) (pc' := 186) dX14_isSimple_185 rfl rfl rfl ?_
          refine go_iload (pc' := 188) dX14_isSimple_186 rfl rfl ?_
          refine go_iadd (pc' := 189) dX14_isSimple_188 rfl ?_
          obtain ⟨g156, hf⟩ := gd_some hf
          refine go_ialoadS (pc' := 190) dX14_isSimple_189 rfl R (g0.x R) g156 ?_
          refine go_aload_n (i := 0) (pc' := 191) dX14_isSimple_190 rfl rfl rfl ?_
          refine go_getS (pc' := 194) dX14_isSimple_191 rfl gf_LandBaseModel_36 R (g0.at R) (by decide) rfl ?_
          refine go_iload_n (i := 2) (pc' := 195) dX14_isSimple_194 rfl rfl rfl ?_
          refine go_iload (pc' := 197) dX14_isSimple_195 rfl rfl ?_
          refine go_iadd (pc' := 198) dX14_isSimple_197 rfl ?_
          obtain ⟨g157, hf⟩ := gd_some hf
          refine go_ialoadS (pc' := 199) dX14_isSimple_198 rfl R (g0.y R) g157 ?_
          obtain ⟨v158, σ159, e160, hf⟩ := bd_some hf
          refine go_invS (As := [_, _, _, _]) (pc' := 202) dX14_isSimple_199 rfl cf_X14_isSimple_71 rfl rfl (Nat.le_of_ble_eq_true rfl) (c_X14_isOn R e160) (fun q161v h162 q161 => ?_)
          obtain ⟨rfl, R⟩ := q161
          refine go_if_ne (pc' := 205) (tgt := 238) dX14_isSimple_202 (by decide) rfl (fun c163 => ?_) (fun c163 => ?_)
          · have hf := ie c163 hf
            refine go_iconst (v := 0) (pc' := 239) dX14_isSimple_238 rfl (by decide) ?_
            obtain rfl := Option.some.inj hf
            exact Go.ret (v := some (.int _)) dX14_isSimple_239 ⟨_, rfl⟩ ⟨rfl, rfl, R⟩
          · have hf := it c163 hf
            refine go_aload_n (i := 0) (pc' := 206) dX14_isSimple_205 rfl rfl rfl ?_
            refine go_iload_n (i := 2) (pc' := 207) dX14_isSimple_206 rfl rfl rfl ?_
            refine go_iload (pc' := 209) dX14_isSimple_207 rfl rfl ?_
            refine go_iadd (pc' := 210) dX14_isSimple_209 rfl ?_
            refine go_aload_n (i := 0) (pc' := 211) dX14_isSimple_210 rfl rfl rfl ?_
            refine go_getS (pc' := 214) dX14_isSimple_211 rfl gf_LandBaseModel_30 R (g0.at R) (by decide) rfl ?_
            refine go_iload_n (i := 2) (pc' := 215) dX14_isSimple_214 rfl rfl rfl ?_
            refine go_iload (pc' := 217) dX14_isSimple_215 rfl rfl ?_
            refine go_iadd (pc' := 218) dX14_isSimple_217 rfl ?_
            refine go_iconst (v := 1) (pc' := 219) dX14_isSimple_218 rfl (by decide) ?_
            refine go_iadd (pc' := 220) dX14_isSimple_219 rfl ?_
            obtain ⟨g164, hf⟩ := gd_some hf
            refine go_ialoadS (pc' := 221) dX14_isSimple_220 rfl R (g0.x R) g164 ?_
            refine go_aload_n (i := 0) (pc' := 222) dX14_isSimple_221 rfl rfl rfl ?_
            refine go_getS (pc' := 225) dX14_isSimple_222 rfl gf_LandBaseModel_36 R (g0.at R) (by decide) rfl ?_
            refine go_iload_n (i := 2) (pc' := 226) dX14_isSimple_225 rfl rfl rfl ?_
            refine go_iload (pc' := 228) dX14_isSimple_226 rfl rfl ?_
            refine go_iadd (pc' := 229) dX14_isSimple_228 rfl ?_
            refine go_iconst (v := 1) (pc' := 230) dX14_isSimple_229 rfl (by decide) ?_
            refine go_iadd (pc' := 231) dX14_isSimple_230 rfl ?_
            obtain ⟨g165, hf⟩ := gd_some hf
            refine go_ialoadS (pc' := 232) dX14_isSimple_231 rfl R (g0.y R) g165 ?_
            obtain ⟨v166, σ167, e168, hf⟩ := bd_some hf
            refine go_invS (As := [_, _, _, _]) (pc' := 235) dX14_isSimple_232 rfl cf_X14_isSimple_71 rfl rfl (Nat.le_of_ble_eq_true rfl) (c_X14_isOn R e168) (fun q169v h170 q169 => ?_)
            obtain ⟨rfl, R⟩ := q169
            refine go_if_eq (pc' := 238) (tgt := 240) dX14_isSimple_235 (by decide) rfl (fun c171 => ?_) (fun c171 => ?_)
            · have hf := it c171 hf
              refine go_iincC (kk := 1) (pc' := 243) dX14_isSimple_240 rfl rfl (by decide) (by decide) rfl ?_
              refine go_goto (pc' := 0) (tgt := 32) dX14_isSimple_243 (by decide) ?_
              exact hk32 R g0 hf
            · have hf := ie c171 hf
              refine go_iconst (v := 0) (pc' := 239) dX14_isSimple_238 rfl (by decide) ?_
              obtain rfl := Option.some.inj hf
              exact Go.ret (v := some (.int _)) dX14_isSimple_239 ⟨_, rfl⟩ ⟨rfl, rfl, R⟩
      · have hf := ie c154 hf
        refine go_aload_n (i := 0) (pc' := 108) dX14_isSimple_107 rfl rfl rfl ?_
        refine go_iload_n (i := 2) (pc' := 109) dX14_isSimple_108 rfl rfl rfl ?_
        refine go_iload (pc' := 111) dX14_isSimple_109 rfl rfl ?_
        refine go_iadd (pc' := 112) dX14_isSimple_111 rfl ?_
        refine go_aload_n (i := 0) (pc' := 113) dX14_isSimple_112 rfl rfl rfl ?_
        refine go_getS (pc' := 116) dX14_isSimple_113 rfl gf_LandBaseModel_30 R (g0.at R) (by decide) rfl ?_
        refine go_iload_n (i := 2) (pc' := 117) dX14_isSimple_116 rfl rfl rfl ?_
        refine go_iload (pc' := 119) dX14_isSimple_117 rfl rfl ?_
        refine go_iadd (pc' := 120) dX14_isSimple_119 rfl ?_
        refine go_iconst (v := 1) (pc' := 121) dX14_isSimple_120 rfl (by decide) ?_
        refine go_iadd (pc' := 122) dX14_isSimple_121 rfl ?_
        obtain ⟨g172, hf⟩ := gd_some hf
        refine go_ialoadS (pc' := 123) dX14_isSimple_122 rfl R (g0.x R) g172 ?_
        refine go_aload_n (i := 0) (pc' := 124) dX14_isSimple_123 rfl rfl rfl ?_
        refine go_getS (pc' := 127) dX14_isSimple_124 rfl gf_LandBaseModel_36 R (g0.at R) (by decide) rfl ?_
        refine go_iload_n (i := 2) (pc' := 128) dX14_isSimple_127 rfl rfl rfl ?_
        refine go_iload (pc' := 130) dX14_isSimple_128 rfl rfl ?_
        refine go_iadd (pc' := 131) dX14_isSimple_130 rfl ?_
        refine go_iconst (v := 1) (pc' := 132) dX14_isSimple_131 rfl (by decide) ?_
        refine go_iadd (pc' := 133) dX14_isSimple_132 rfl ?_
        obtain ⟨g173, hf⟩ := gd_some hf
        refine go_ialoadS (pc' := 134) dX14_isSimple_133 rfl R (g0.y R) g173 ?_
        obtain ⟨v174, σ175, e176, hf⟩ := bd_some hf
        refine go_invS (As := [_, _, _, _]) (pc' := 137) dX14_isSimple_134 rfl cf_X14_isSimple_71 rfl rfl (Nat.le_of_ble_eq_true rfl) (c_X14_isOn R e176) (fun q177v h178 q177 => ?_)
        obtain ⟨rfl, R⟩ := q177
        refine go_if_ne (pc' := 140) (tgt := 169) dX14_isSimple_137 (by decide) rfl (fun c179 => ?_) (fun c179 => ?_)
        · have hf := ie c179 hf
          refine go_iconst (v := 0) (pc' := 170) dX14_isSimple_169 rfl (by decide) ?_
          obtain rfl := Option.some.inj hf
          exact Go.ret (v := some (.int _)) dX14_isSimple_170 ⟨_, rfl⟩ ⟨rfl, rfl, R⟩
        · have hf := it c179 hf
          refine go_aload_n (i := 0) (pc' := 141) dX14_isSimple_140 rfl rfl rfl ?_
          refine go_iload_n (i := 2) (pc' := 142) dX14_isSimple_141 rfl rfl rfl ?_
          refine go_iload (pc' := 144) dX14_isSimple_142 rfl rfl ?_
          refine go_iadd (pc' := 145) dX14_isSimple_144 rfl ?_
          refine go_aload_n (i := 0) (pc' := 146) dX14_isSimple_145 rfl rfl rfl ?_
          refine go_getS (pc' := 149) dX14_isSimple_146 rfl gf_LandBaseModel_30 R (g0.at R) (by decide) rfl ?_
          refine go_iload_n (i := 2) (pc' := 150) dX14_isSimple_149 rfl rfl rfl ?_
          refine go_iload (pc' := 152) dX14_isSimple_150 rfl rfl ?_
          refine go_iadd (pc' := 153) dX14_isSimple_152 rfl ?_
          obtain ⟨g180, hf⟩ := gd_some hf
          refine go_ialoadS (pc' := 154) dX14_isSimple_153 rfl R (g0.x R) g180 ?_
          refine go_aload_n (i := 0) (pc' := 155) dX14_isSimple_154 rfl rfl rfl ?_
          refine go_getS (pc' := 158) dX14_isSimple_155 rfl gf_LandBaseModel_36 R (g0.at R) (by decide) rfl ?_
          refine go_iload_n (i := 2) (pc' := 159) dX14_isSimple_158 rfl rfl rfl ?_
          refine go_iload (pc' := 161) dX14_isSimple_159 rfl rfl ?_
          refine go_iadd (pc' := 162) dX14_isSimple_161 rfl ?_
          obtain ⟨g181, hf⟩ := gd_some hf
          refine go_ialoadS (pc' := 163) dX14_isSimple_162 rfl R (g0.y R) g181 ?_
          obtain ⟨v182, σ183, e184, hf⟩ := bd_some hf
          refine go_invS (As := [_, _, _, _]) (pc' := 166) dX14_isSimple_163 rfl cf_X14_isSimple_71 rfl rfl (Nat.le_of_ble_eq_true rfl) (c_X14_isOn R e184) (fun q185v h186 q185 => ?_)
          obtain ⟨rfl, R⟩ := q185
          refine go_if_eq (pc' := 169) (tgt := 171) dX14_isSimple_166 (by decide) rfl (fun c187 => ?_) (fun c187 => ?_)
          · have hf := it c187 hf
            refine go_iload (pc' := 173) dX14_isSimple_171 rfl rfl ?_
            refine go_if_eq (pc' := 176) (tgt := 240) dX14_isSimple_173 (by decide) rfl (fun c188 => ?_) (fun c188 => ?_)
            · have hf := it c188 hf
              refine go_iincC (kk := 1) (pc' := 243) dX14_isSimple_240 rfl rfl (by decide) (by decide) rfl ?_
              refine go_goto (pc' := 0) (tgt := 32) dX14_isSimple_243 (by decide) ?_
              exact hk32 R g0 hf
            · have hf := ie c188 hf
              refine go_aload_n (i := 0) (pc' := 177) dX14_isSimple_176 rfl rfl rfl ?_
              refine go_iload_n (i := 2) (pc' := 178) dX14_isSimple_177 rfl rfl rfl ?_
              refine go_iload (pc' := 180) dX14_isSimple_178 rfl rfl ?_
              refine go_iadd (pc' := 181) dX14_isSimple_180 rfl ?_
              refine go_aload_n (i := 0) (pc' := 182) dX14_isSimple_181 rfl rfl rfl ?_
              refine go_getS (pc' := 185) dX14_isSimple_182 rfl gf_LandBaseModel_30 R (g0.at R) (by decide) rfl ?_
              refine go_iload_n (i := 2) (pc' := 186) dX14_isSimple_185 rfl rfl rfl ?_
              refine go_iload (pc' := 188) dX14_isSimple_186 rfl rfl ?_
              refine go_iadd (pc' := 189) dX14_isSimple_188 rfl ?_
              obtain ⟨g189, hf⟩ := gd_some hf
              refine go_ialoadS (pc' := 190) dX14_isSimple_189 rfl R (g0.x R) g189 ?_
              refine go_aload_n (i := 0) (pc' := 191) dX14_isSimple_190 rfl rfl rfl ?_
              refine go_getS (pc' := 194) dX14_isSimple_191 rfl gf_LandBaseModel_36 R (g0.at R) (by decide) rfl ?_
              refine go_iload_n (i := 2) (pc' := 195) dX14_isSimple_194 rfl rfl rfl ?_
              refine go_iload (pc' := 197) dX14_isSimple_195 rfl rfl ?_
              refine go_iadd (pc' := 198) dX14_isSimple_197 rfl ?_
              obtain ⟨g190, hf⟩ := gd_some hf
              refine go_ialoadS (pc' := 199) dX14_isSimple_198 rfl R (g0.y R) g190 ?_
              obtain ⟨v191, σ192, e193, hf⟩ := bd_some hf
              refine go_invS (As := [_, _, _, _]) (pc' := 202) dX14_isSimple_199 rfl cf_X14_isSimple_71 rfl rfl (Nat.le_of_ble_eq_true rfl) (c_X14_isOn R e193) (fun q194v h195 q194 => ?_)
              obtain ⟨rfl, R⟩ := q194
              refine go_if_ne (pc' := 205) (tgt := 238) dX14_isSimple_202 (by decide) rfl (fun c196 => ?_) (fun c196 => ?_)
              · have hf := ie c196 hf
                refine go_iconst (v := 0) (pc' := 239) dX14_isSimple_238 rfl (by decide) ?_
                obtain rfl := Option.some.inj hf
                exact Go.ret (v := some (.int _)) dX14_isSimple_239 ⟨_, rfl⟩ ⟨rfl, rfl, R⟩
              · have hf := it c196 hf
                refine go_aload_n (i := 0) (pc' := 206) dX14_isSimple_205 rfl rfl rfl ?_
                refine go_iload_n (i := 2) (pc' := 207) dX14_isSimple_206 rfl rfl rfl ?_
                refine go_iload (pc' := 209) dX14_isSimple_207 rfl rfl ?_
                refine go_iadd (pc' := 210) dX14_isSimple_209 rfl ?_
                refine go_aload_n (i := 0) (pc' := 211) dX14_isSimple_210 rfl rfl rfl ?_
                refine go_getS (pc' := 214) dX14_isSimple_211 rfl gf_LandBaseModel_30 R (g0.at R) (by decide) rfl ?_
                refine go_iload_n (i := 2) (pc' := 215) dX14_isSimple_214 rfl rfl rfl ?_
                refine go_iload (pc' := 217) dX14_isSimple_215 rfl rfl ?_
                refine go_iadd (pc' := 218) dX14_isSimple_217 rfl ?_
                refine go_iconst (v := 1) (pc' := 219) dX14_isSimple_218 rfl (by decide) ?_
                refine go_iadd (pc' := 220) dX14_isSimple_219 rfl ?_
                obtain ⟨g197, hf⟩ := gd_some hf
                refine go_ialoadS (pc' := 221) dX14_isSimple_220 rfl R (g0.x R) g197 ?_
                refine go_aload_n (i := 0) (pc' := 222) dX14_isSimple_221 rfl rfl rfl ?_
                refine go_getS (pc' := 225) dX14_isSimple_222 rfl gf_LandBaseModel_36 R (g0.at R) (by decide) rfl ?_
                refine go_iload_n (i := 2) (pc' := 226) dX14_isSimple_225 rfl rfl rfl ?_
                refine go_iload (pc' := 228) dX14_isSimple_226 rfl rfl ?_
                refine go_iadd (pc' := 229) dX14_isSimple_228 rfl ?_
                refine go_iconst (v := 1) (pc' := 230) dX14_isSimple_229 rfl (by decide) ?_
                refine go_iadd (pc' := 231) dX14_isSimple_230 rfl ?_
                obtain ⟨g198, hf⟩ := gd_some hf
                refine go_ialoadS (pc' := 232) dX14_isSimple_231 rfl R (g0.y R) g198 ?_
                obtain ⟨v199, σ200, e201, hf⟩ := bd_some hf
                refine go_invS (As := [_, _, _, _]) (pc' := 235) dX14_isSimple_232 rfl cf_X14_isSimple_71 rfl rfl (Nat.le_of_ble_eq_true rfl) (c_X14_isOn R e201) (fun q202v h203 q202 => ?_)
                obtain ⟨rfl, R⟩ := q202
                refine go_if_eq (pc' := 238) (tgt := 240) dX14_isSimple_235 (by decide) rfl (fun c204 => ?_) (fun c204 => ?_)
                · have hf := it c204 hf
                  refine go_iincC (kk := 1) (pc' := 243) dX14_isSimple_240 rfl rfl (by decide) (by decide) rfl ?_
                  refine go_goto (pc' := 0) (tgt := 32) dX14_isSimple_243 (by decide) ?_
                  exact hk32 R g0 hf
                · have hf := ie c204 hf
                  refine go_iconst (v := 0) (pc' := 239) dX14_isSimple_238 rfl (by decide) ?_
                  obtain rfl := Option.some.inj hf
                  exact Go.ret (v := some (.int _)) dX14_isSimple_239 ⟨_, rfl⟩ ⟨rfl, rfl, R⟩
          · have hf := ie c187 hf
            refine go_iconst (v := 0) (pc' := 170) dX14_isSimple_169 rfl (by decide) ?_
            obtain rfl := Option.some.inj hf
            exact Go.ret (v := some (.int _)) dX14_isSimple_170 ⟨_, rfl⟩ ⟨rfl, rfl, R⟩
    · have hf := it c153 hf
      refine go_aload_n (i := 0) (pc' := 85) dX14_isSimple_84 rfl rfl rfl ?_
      refine go_iload_n (i := 2) (pc' := 86) dX14_isSimple_85 rfl rfl rfl ?_
      refine go_iload (pc' := 88) dX14_isSimple_86 rfl rfl ?_
      refine go_iadd (pc' := 89) dX14_isSimple_88 rfl ?_
      refine go_aload_n (i := 0) (pc' := 90) dX14_isSimple_89 rfl rfl rfl ?_
      refine go_iload_n (i := 2) (pc' := 91) dX14_isSimple_90 rfl rfl rfl ?_
      refine go_iload (pc' := 93) dX14_isSimple_91 rfl rfl ?_
      refine go_iadd (pc' := 94) dX14_isSimple_93 rfl ?_
      obtain ⟨v205, σ206, e207, hf⟩ := bd_some hf
      refine go_invS (As := [_, _, _, _]) (pc' := 97) dX14_isSimple_94 rfl cf_X14_isSimple_209 rfl rfl (Nat.le_of_ble_eq_true rfl) (c_X14_meet R e207) (fun q208v h209 q208 => ?_)
      obtain ⟨rfl, R⟩ := q208
      refine go_if_eq (pc' := 100) (tgt := 102) dX14_isSimple_97 (by decide) rfl (fun c210 => ?_) (fun c210 => ?_)
      · have hf := it c210 hf
        refine go_iload (pc' := 104) dX14_isSimple_102 rfl rfl ?_
        refine go_if_eq (pc' := 107) (tgt := 171) dX14_isSimple_104 (by decide) rfl (fun c211 => ?_) (fun c211 => ?_)
        · have hf := it c211 hf
          refine go_iload (pc' := 173) dX14_isSimple_171 rfl rfl ?_
          refine go_if_eq (pc' := 176) (tgt := 240) dX14_isSimple_173 (by decide) rfl (fun c212 => ?_) (fun c212 => ?_)
          · have hf := it c212 hf
            refine go_iincC (kk := 1) (pc' := 243) dX14_isSimple_240 rfl rfl (by decide) (by decide) rfl ?_
            refine go_goto (pc' := 0) (tgt := 32) dX14_isSimple_243 (by decide) ?_
            exact hk32 R g0 hf
          · have hf := ie c212 hf
            refine go_aload_n (i := 0) (pc' := 177) dX14_isSimple_176 rfl rfl rfl ?_
            refine go_iload_n (i := 2) (pc' := 178) dX14_isSimple_177 rfl rfl rfl ?_
            refine go_iload (pc' := 180) dX14_isSimple_178 rfl rfl ?_
            refine go_iadd (pc' := 181) dX14_isSimple_180 rfl ?_
            refine go_aload_n (i := 0) (pc' := 182) dX14_isSimple_181 rfl rfl rfl ?_
            refine go_getS (pc' := 185) dX14_isSimple_182 rfl gf_LandBaseModel_30 R (g0.at R) (by decide) rfl ?_
            refine go_iload_n (i := 2) (pc' := 186) dX14_isSimple_185 rfl rfl rfl ?_
            refine go_iload (pc' := 188) dX14_isSimple_186 rfl rfl ?_
            refine go_iadd (pc' := 189) dX14_isSimple_188 rfl ?_
            obtain ⟨g213, hf⟩ := gd_some hf
            refine go_ialoadS (pc' := 190) dX14_isSimple_189 rfl R (g0.x R) g213 ?_
            refine go_aload_n (i := 0) (pc' := 191) dX14_isSimple_190 rfl rfl rfl ?_
            refine go_getS (pc' := 194) dX14_isSimple_191 rfl gf_LandBaseModel_36 R (g0.at R) (by decide) rfl ?_
            refine go_iload_n (i := 2) (pc' := 195) dX14_isSimple_194 rfl rfl rfl ?_
            refine go_iload (pc' := 197) dX14_isSimple_195 rfl rfl ?_
            refine go_iadd (pc' := 198) dX14_isSimple_197 rfl ?_
            obtain ⟨g214, hf⟩ := gd_some hf
            refine go_ialoadS (pc' := 199) dX14_isSimple_198 rfl R (g0.y R) g214 ?_
            obtain ⟨v215, σ216, e217, hf⟩ := bd_some hf
            refine go_invS (As := [_, _, _, _]) (pc' := 202) dX14_isSimple_199 rfl cf_X14_isSimple_71 rfl rfl (Nat.le_of_ble_eq_true rfl) (c_X14_isOn R e217) (fun q218v h219 q218 => ?_)
            obtain ⟨rfl, R⟩ := q218
            refine go_if_ne (pc' := 205) (tgt := 238) dX14_isSimple_202 (by decide) rfl (fun c220 => ?_) (fun c220 => ?_)
            · have hf := ie c220 hf
              refine go_iconst (v := 0) (pc' := 239) dX14_isSimple_238 rfl (by decide) ?_
              obtain rfl := Option.some.inj hf
              exact Go.ret (v := some (.int _)) dX14_isSimple_239 ⟨_, rfl⟩ ⟨rfl, rfl, R⟩
            · have hf := it c220 hf
              refine go_aload_n (i := 0) (pc' := 206) dX14_isSimple_205 rfl rfl rfl ?_
              refine go_iload_n (i := 2) (pc' := 207) dX14_isSimple_206 rfl rfl rfl ?_
              refine go_iload (pc' := 209) dX14_isSimple_207 rfl rfl ?_
              refine go_iadd (pc' := 210) dX14_isSimple_209 rfl ?_
              refine go_aload_n (i := 0) (pc' := 211) dX14_isSimple_210 rfl rfl rfl ?_
              refine go_getS (pc' := 214) dX14_isSimple_211 rfl gf_LandBaseModel_30 R (g0.at R) (by decide) rfl ?_
              refine go_iload_n (i := 2) (pc' := 215) dX14_isSimple_214 rfl rfl rfl ?_
              refine go_iload (pc' := 217) dX14_isSimple_215 rfl rfl ?_
              refine go_iadd (pc' := 218) dX14_isSimple_217 rfl ?_
              refine go_iconst (v := 1) (pc' := 219) dX14_isSimple_218 rfl (by decide) ?_
              refine go_iadd (pc' := 220) dX14_isSimple_219 rfl ?_
              obtain ⟨g221, hf⟩ := gd_some hf
              refine go_ialoadS (pc' := 221) dX14_isSimple_220 rfl R (g0.x R) g221 ?_
              refine go_aload_n (i := 0) (pc' := 222) dX14_isSimple_221 rfl rfl rfl ?_
              refine go_getS (pc' := 225) dX14_isSimple_222 rfl gf_LandBaseModel_36 R (g0.at R) (by decide) rfl ?_
              refine go_iload_n (i := 2) (pc' := 226) dX14_isSimple_225 rfl rfl rfl ?_
              refine go_iload (pc' := 228) dX14_isSimple_226 rfl rfl ?_
              refine go_iadd (pc' := 229) dX14_isSimple_228 rfl ?_
              refine go_iconst (v := 1) (pc' := 230) dX14_isSimple_229 rfl (by decide) ?_
              refine go_iadd (pc' := 231) dX14_isSimple_230 rfl ?_
              obtain ⟨g222, hf⟩ := gd_some hf
              refine go_ialoadS (pc' := 232) dX14_isSimple_231 rfl R (g0.y R) g222 ?_
              obtain ⟨v223, σ224, e225, hf⟩ := bd_some hf
              refine go_invS (As := [_, _, _, _]) (pc' := 235) dX14_isSimple_232 rfl cf_X14_isSimple_71 rfl rfl (Nat.le_of_ble_eq_true rfl) (c_X14_isOn R e225) (fun q226v h227 q226 => ?_)
              obtain ⟨rfl, R⟩ := q226
              refine go_if_eq (pc' := 238) (tgt := 240) dX14_isSimple_235 (by decide) rfl (fun c228 => ?_) (fun c228 => ?_)
              · have hf := it c228 hf
                refine go_iincC (kk := 1) (pc' := 243) dX14_isSimple_240 rfl rfl (by decide) (by decide) rfl ?_
                refine go_goto (pc' := 0) (tgt := 32) dX14_isSimple_243 (by decide) ?_
                exact hk32 R g0 hf
              · have hf := ie c228 hf
                refine go_iconst (v := 0) (pc' := 239) dX14_isSimple_238 rfl (by decide) ?_
                obtain rfl := Option.some.inj hf
                exact Go.ret (v := some (.int _)) dX14_isSimple_239 ⟨_, rfl⟩ ⟨rfl, rfl, R⟩
        · have hf := ie c211 hf
          refine go_aload_n (i := 0) (pc' := 108) dX14_isSimple_107 rfl rfl rfl ?_
          refine go_iload_n (i := 2) (pc' := 109) dX14_isSimple_108 rfl rfl rfl ?_
          refine go_iload (pc' := 111) dX14_isSimple_109 rfl rfl ?_
          refine go_iadd (pc' := 112) dX14_isSimple_111 rfl ?_
          refine go_aload_n (i := 0) (pc' := 113) dX14_isSimple_112 rfl rfl rfl ?_
          refine go_getS (pc' := 116) dX14_isSimple_113 rfl gf_LandBaseModel_30 R (g0.at R) (by decide) rfl ?_
          refine go_iload_n (i := 2) (pc' := 117) dX14_isSimple_116 rfl rfl rfl ?_
          refine go_iload (pc' := 119) dX14_isSimple_117 rfl rfl ?_
          refine go_iadd (pc' := 120) dX14_isSimple_119 rfl ?_
          refine go_iconst (v := 1) (pc' := 121) dX14_isSimple_120 rfl (by decide) ?_
          refine go_iadd (pc' := 122) dX14_isSimple_121 rfl ?_
          obtain ⟨g229, hf⟩ := gd_some hf
          refine go_ialoadS (pc' := 123) dX14_isSimple_122 rfl R (g0.x R) g229 ?_
          refine go_aload_n (i := 0) (pc' := 124) dX14_isSimple_123 rfl rfl rfl ?_
          refine go_getS (pc' := 127) dX14_isSimple_124 rfl gf_LandBaseModel_36 R (g0.at R) (by decide) rfl ?_
          refine go_iload_n (i := 2) (pc' := 128) dX14_isSimple_127 rfl rfl rfl ?_
          refine go_iload (pc' := 130) dX14_isSimple_128 rfl rfl ?_
          refine go_iadd (pc' := 131) dX14_isSimple_130 rfl ?_
          refine go_iconst (v := 1) (pc' := 132) dX14_isSimple_131 rfl (by decide) ?_
          refine go_iadd (pc' := 133) dX14_isSimple_132 rfl ?_
          obtain ⟨g230, hf⟩ := gd_some hf
          refine go_ialoadS (pc' := 134) dX14_isSimple_133 rfl R (g0.y R) g230 ?_
          obtain ⟨v231, σ232, e233, hf⟩ := bd_some hf
          refine go_invS (As := [_, _, _, _]) (pc' := 137) dX14_isSimple_134 rfl cf_X14_isSimple_71 rfl rfl (Nat.le_of_ble_eq_true rfl) (c_X14_isOn R e233) (fun q234v h235 q234 => ?_)
          obtain ⟨rfl, R⟩ := q234
          refine go_if_ne (pc' := 140) (tgt := 169) dX14_isSimple_137 (by decide) rfl (fun c236 => ?_) (fun c236 => ?_)
          · have hf := ie c236 hf
            refine go_iconst (v := 0) (pc' := 170) dX14_isSimple_169 rfl (by decide) ?_
            obtain rfl := Option.some.inj hf
            exact Go.ret (v := some (.int _)) dX14_isSimple_170 ⟨_, rfl⟩ ⟨rfl, rfl, R⟩
          · have hf := it c236 hf
            refine go_aload_n (i := 0) (pc' := 141) dX14_isSimple_140 rfl rfl rfl ?_
            refine go_iload_n (i := 2) (pc' := 142) dX14_isSimple_141 rfl rfl rfl ?_
            refine go_iload (pc' := 144) dX14_isSimple_142 rfl rfl ?_
            refine go_iadd (pc' := 145) dX14_isSimple_144 rfl ?_
            refine go_aload_n (i := 0) (pc' := 146) dX14_isSimple_145 rfl rfl rfl ?_
            refine go_getS (pc' := 149) dX14_isSimple_146 rfl gf_LandBaseModel_30 R (g0.at R) (by decide) rfl ?_
            refine go_iload_n (i := 2) (pc' := 150) dX14_isSimple_149 rfl rfl rfl ?_
            refine go_iload (pc' := 152) dX14_isSimple_150 rfl rfl ?_
            refine go_iadd (pc' := 153) dX14_isSimple_152 rfl ?_
            obtain ⟨g237, hf⟩ := gd_some hf
            refine go_ialoadS (pc' := 154) dX14_isSimple_153 rfl R (g0.x R) g237 ?_
            refine go_aload_n (i := 0) (pc' := 155) dX14_isSimple_154 rfl rfl rfl ?_
            refine go_getS (pc' := 158) dX14_isSimple_155 rfl gf_LandBaseModel_36 R (g0.at R) (by decide) rfl ?_
            refine go_iload_n (i := 2) (pc' := 159) dX14_isSimple_158 rfl rfl rfl ?_
            refine go_iload (pc' := 161) dX14_isSimple_159 rfl rfl ?_
            refine go_iadd (pc' := 162) dX14_isSimple_161 rfl ?_
            obtain ⟨g238, hf⟩ := gd_some hf
            refine go_ialoadS (pc' := 163) dX14_isSimple_162 rfl R (g0.y R) g238 ?_
            obtain ⟨v239, σ240, e241, hf⟩ := bd_some hf
            refine go_invS (As := [_, _, _, _]) (pc' := 166) dX14_isSimple_163 rfl cf_X14_isSimple_71 rfl rfl (Nat.le_of_ble_eq_true rfl) (c_X14_isOn R e241) (fun q242v h243 q242 => ?_)
            obtain ⟨rfl, R⟩ := q242
            refine go_if_eq (pc' := 169) (tgt := 171) dX14_isSimple_166 (by decide) rfl (fun c244 => ?_) (fun c244 => ?_)
            · have hf := it c244 hf
              refine go_iload (pc' := 173) dX14_isSimple_171 rfl rfl ?_
              refine go_if_eq (pc' := 176) (tgt := 240) dX14_isSimple_173 (by decide) rfl (fun c245 => ?_) (fun c245 => ?_)
              · have hf := it c245 hf
                refine go_iincC (kk := 1) (pc' := 243) dX14_isSimple_240 rfl rfl (by decide) (by decide) rfl ?_
                refine go_goto (pc' := 0) (tgt := 32) dX14_isSimple_243 (by decide) ?_
                exact hk32 R g0 hf
              · have hf := ie c245 hf
                refine go_aload_n (i := 0) (pc' := 177) dX14_isSimple_176 rfl rfl rfl ?_
                refine go_iload_n (i := 2) (pc' := 178) dX14_isSimple_177 rfl rfl rfl ?_
                refine go_iload (pc' := 180) dX14_isSimple_178 rfl rfl ?_
                refine go_iadd (pc' := 181) dX14_isSimple_180 rfl ?_
                refine go_aload_n (i := 0) (pc' := 182) dX14_isSimple_181 rfl rfl rfl ?_
                refine go_getS (pc' := 185) dX14_isSimple_182 rfl gf_LandBaseModel_30 R (g0.at R) (by decide) rfl ?_
                refine go_iload_n (i := 2) (pc' := 186) dX14_isSimple_185 rfl rfl rfl ?_
                refine go_iload (pc' := 188) dX14_isSimple_186 rfl rfl ?_
                refine go_iadd (pc' := 189) dX14_isSimple_188 rfl ?_
                obtain ⟨g246, hf⟩ := gd_some hf
                refine go_ialoadS (pc' := 190) dX14_isSimple_189 rfl R (g0.x R) g246 ?_
                refine go_aload_n (i := 0) (pc' := 191) dX14_isSimple_190 rfl rfl rfl ?_
                refine go_getS (pc' := 194) dX14_isSimple_191 rfl gf_LandBaseModel_36 R (g0.at R) (by decide) rfl ?_
                refine go_iload_n (i := 2) (pc' := 195) dX14_isSimple_194 rfl rfl rfl ?_
                refine go_iload (pc' := 197) dX14_isSimple_195 rfl rfl ?_
                refine go_iadd (pc' := 198) dX14_isSimple_197 rfl ?_
                obtain ⟨g247, hf⟩ := gd_some hf
                refine go_ialoadS (pc' := 199) dX14_isSimple_198 rfl R (g0.y R) g247 ?_
                obtain ⟨v248, σ249, e250, hf⟩ := bd_some hf
                refine go_invS (As := [_, _, _, _]) (pc' := 202) dX14_isSimple_199 rfl cf_X14_isSimple_71 rfl rfl (Nat.le_of_ble_eq_true rfl) (c_X14_isOn R e250) (fun q251v h252 q251 => ?_)
                obtain ⟨rfl, R⟩ := q251
                refine go_if_ne (pc' := 205) (tgt := 238) dX14_isSimple_202 (by decide) rfl (fun c253 => ?_) (fun c253 => ?_)
                · have hf := ie c253 hf
                  refine go_iconst (v := 0) (pc' := 239) dX14_isSimple_238 rfl (by decide) ?_
                  obtain rfl := Option.some.inj hf
                  exact Go.ret (v := some (.int _)) dX14_isSimple_239 ⟨_, rfl⟩ ⟨rfl, rfl, R⟩
                · have hf := it c253 hf
                  refine go_aload_n (i := 0) (pc' := 206) dX14_isSimple_205 rfl rfl rfl ?_
                  refine go_iload_n (i := 2) (pc' := 207) dX14_isSimple_206 rfl rfl rfl ?_
                  refine go_iload (pc' := 209) dX14_isSimple_207 rfl rfl ?_
                  refine go_iadd (pc' := 210) dX14_isSimple_209 rfl ?_
                  refine go_aload_n (i := 0) (pc' := 211) dX14_isSimple_210 rfl rfl rfl ?_
                  refine go_getS (pc' := 214) dX14_isSimple_211 rfl gf_LandBaseModel_30 R (g0.at R) (by decide) rfl ?_
                  refine go_iload_n (i := 2) (pc' := 215) dX14_isSimple_214 rfl rfl rfl ?_
                  refine go_iload (pc' := 217) dX14_isSimple_215 rfl rfl ?_
                  refine go_iadd (pc' := 218) dX14_isSimple_217 rfl ?_
                  refine go_iconst (v := 1) (pc' := 219) dX14_isSimple_218 rfl (by decide) ?_
                  refine go_iadd (pc' := 220) dX14_isSimple_219 rfl ?_
                  obtain ⟨g254, hf⟩ := gd_some hf
                  refine go_ialoadS (pc' := 221) dX14_isSimple_220 rfl R (g0.x R) g254 ?_
                  refine go_aload_n (i := 0) (pc' := 222) dX14_isSimple_221 rfl rfl rfl ?_
                  refine go_getS (pc' := 225) dX14_isSimple_222 rfl gf_LandBaseModel_36 R (g0.at R) (by decide) rfl ?_
                  refine go_iload_n (i := 2) (pc' := 226) dX14_isSimple_225 rfl rfl rfl ?_
                  refine go_iload (pc' := 228) dX14_isSimple_226 rfl rfl ?_
                  refine go_iadd (pc' := 229) dX14_isSimple_228 rfl ?_
                  refine go_iconst (v := 1) (pc' := 230) dX14_isSimple_229 rfl (by decide) ?_
                  refine go_iadd (pc' := 231) dX14_isSimple_230 rfl ?_
                  obtain ⟨g255, hf⟩ := gd_some hf
                  refine go_ialoadS (pc' := 232) dX14_isSimple_231 rfl R (g0.y R) g255 ?_
                  obtain ⟨v256, σ257, e258, hf⟩ := bd_some hf
                  refine go_invS (As := [_, _, _, _]) (pc' := 235) dX14_isSimple_232 rfl cf_X14_isSimple_71 rfl rfl (Nat.le_of_ble_eq_true rfl) (c_X14_isOn R e258) (fun q259v h260 q259 => ?_)
                  obtain ⟨rfl, R⟩ := q259
                  refine go_if_eq (pc' := 238) (tgt := 240) dX14_isSimple_235 (by decide) rfl (fun c261 => ?_) (fun c261 => ?_)
                  · have hf := it c261 hf
                    refine go_iincC (kk := 1) (pc' := 243) dX14_isSimple_240 rfl rfl (by decide) (by decide) rfl ?_
                    refine go_goto (pc' := 0) (tgt := 32) dX14_isSimple_243 (by decide) ?_
                    exact hk32 R g0 hf
                  · have hf := ie c261 hf
                    refine go_iconst (v := 0) (pc' := 239) dX14_isSimple_238 rfl (by decide) ?_
                    obtain rfl := Option.some.inj hf
                    exact Go.ret (v := some (.int _)) dX14_isSimple_239 ⟨_, rfl⟩ ⟨rfl, rfl, R⟩
            · have hf := ie c244 hf
              refine go_iconst (v := 0) (pc' := 170) dX14_isSimple_169 rfl (by decide) ?_
              obtain rfl := Option.some.inj hf
              exact Go.ret (v := some (.int _)) dX14_isSimple_170 ⟨_, rfl⟩ ⟨rfl, rfl, R⟩
      · have hf := ie c210 hf
        refine go_iconst (v := 0) (pc' := 101) dX14_isSimple_100 rfl (by decide) ?_
        obtain rfl := Option.some.inj hf
        exact Go.ret (v := some (.int _)) dX14_isSimple_101 ⟨_, rfl⟩ ⟨rfl, rfl, R⟩
def b_X14_isSimple_52 (n : Nat) (k20 : Nat → Int32 → Int32 → Int32 → xσ → Option (Int32 × xσ)) (k32 : Nat → Int32 → Int32 → Int32 → Int32 → xσ → Option (Int32 × xσ)) (a0 : Nat) (x2 : Int32) (x3 : Int32) (x4 : Int32) (x5 : Int32) (xs0 : Int32) (σ : xσ) : Option (Int32 × xσ) := if x4 = 0 then if x5 = (x3 - 1) then b_X14_isSimple_72 n k20 k32 a0 x2 x3 x4 x5 xs0 1 σ else b_X14_isSimple_72 n k20 k32 a0 x2 x3 x4 x5 xs0 0 σ else b_X14_isSimple_72 n k20 k32 a0 x2 x3 x4 x5 xs0 0 σ
set_option maxRecDepth 100000 in
set_option maxHeartbeats 4000000 in
theorem t_X14_isSimple_52 {G : xG} {n : Nat} {k20 : Nat → Int32 → Int32 → Int32 → xσ → Option (Int32 × xσ)} {k32 : Nat → Int32 → Int32 → Int32 → Int32 → xσ → Option (Int32 × xσ)} (hk20 : ∀ {a0 : Nat} {x2 : Int32} {x3 : Int32} {x4 : Int32} {σ : xσ} {h : xH} {r : Int32 × xσ} {d1 : Option Value} {d5 : Option Value} {d6 : Option Value} {d7 : Option Value}, Rl n σ h → okM a0 → k20 a0 x2 x3 x4 σ = some r → Go G mX14_isSimple 20 [some (.ref a0), d1, some (.int x2), some (.int x3), some (.int x4), d5, d6, d7] [] h (fun v h' => xRok (xRt mX14_isSimple) v ∧ v = some (.int r.1) ∧ Rl n r.2 h')) (hk32 : ∀ {a0 : Nat} {x2 : Int32} {x3 : Int32} {x4 : Int32} {x5 : Int32} {σ : xσ} {h : xH} {r : Int32 × xσ} {d1 : Option Value} {d6 : Option Value} {d7 : Option Value}, Rl n σ h → okM a0 → k32 a0 x2 x3 x4 x5 σ = some r → Go G mX14_isSimple 32 [some (.ref a0), d1, some (.int x2), some (.int x3), some (.int x4), some (.int x5), d6, d7] [] h (fun v h' => xRok (xRt mX14_isSimple) v ∧ v = some (.int r.1) ∧ Rl n r.2 h')) {a0 : Nat} {x2 : Int32} {x3 : Int32} {x4 : Int32} {x5 : Int32} {xs0 : Int32} {σ : xσ} {h : xH} {r : Int32 × xσ} {d1 : Option Value} {d6 : Option Value} {d7 : Option Value} : Rl n σ h → okM a0 → b_X14_isSimple_52 n k20 k32 a0 x2 x3 x4 x5 xs0 σ = some r → Go G mX14_isSimple 52 [some (.ref a0), d1, some (.int x2), some (.int x3), some (.int x4), some (.int x5), d6, d7] [.int xs0] h (fun v h' => xRok (xRt mX14_isSimple) v ∧ v = some (.int r.1) ∧ Rl n r.2 h') := by
  intro R g0 hf
  rw [b_X14_isSimple_52] at hf
  refine go_istoreE rfl (pc' := 54) dX14_isSimple_52 rfl (by decide) rfl ?_
  refine go_iload (pc' := 56) dX14_isSimple_54 rfl rfl ?_
  refine go_if_ne (pc' := 59) (tgt := 71) dX14_isSimple_56 (by decide) rfl (fun c101 => ?_) (fun c101 => ?_)
  · have hf := ie c101 hf
    refine go_iconst (v := 0) (pc' := 72) dX14_isSimple_71 rfl (by decide) ?_
    exact t_X14_isSimple_72 @hk20 @hk32 R g0 hf
  · have hf := it c101 hf
    refine go_iload (pc' := 61) dX14_isSimple_59 rfl rfl ?_
    refine go_iload_n (i := 3) (pc' := 62) dX14_isSimple_61 rfl rfl rfl ?_
    refine go_iconst (v := 1) (pc' := 63) dX14_isSimple_62 rfl (by decide) ?_
    refine go_isub (pc' := 64) dX14_isSimple_63 rfl ?_
    refine go_icmp_ne (pc' := 67) (tgt := 71) dX14_isSimple_64 (by decide) rfl (fun c102 => ?_) (fun c102 => ?_)
    · have hf := ie c102 hf
      refine go_iconst (v := 0) (pc' := 72) dX14_isSimple_71 rfl (by decide) ?_
      exact t_X14_isSimple_72 @hk20 @hk32 R g0 hf
    · have hf := it c102 hf
      refine go_iconst (v := 1) (pc' := 68) dX14_isSimple_67 rfl (by decide) ?_
      refine go_goto (pc' := 0) (tgt := 72) dX14_isSimple_68 (by decide) ?_
      exact t_X14_isSimple_72 @hk20 @hk32 R g0 hf
def l_X14_isSimple_32 (n : Nat) (k20 : Nat → Int32 → Int32 → Int32 → xσ → Option (Int32 × xσ)) : Nat → Nat → Int32 → Int32 → Int32 → Int32 → xσ → Option (Int32 × xσ)
  | 0, _, _, _, _, _, _ => none
  | f + 1, a0, x2, x3, x4, x5, σ => if x3 ≤ x5 then k20 a0 x2 x3 (x4 + 1) σ else if x5 = (x4 + 1) then b_X14_isSimple_52 n k20 (l_X14_isSimple_32 n k20 f) a0 x2 x3 x4 x5 1 σ else b_X14_isSimple_52 n k20 (l_X14_isSimple_32 n k20 f) a0 x2 x3 x4 x5 0 σ
set_option maxRecDepth 100000 in
set_option maxHeartbeats 4000000 in
theorem t_X14_isSimple_32 {G : xG} {n : Nat} {k20 : Nat → Int32 → Int32 → Int32 → xσ → Option (Int32 × xσ)} (hk20 : ∀ {a0 : Nat} {x2 : Int32} {x3 : Int32} {x4 : Int32} {σ : xσ} {h : xH} {r : Int32 × xσ} {d1 : Option Value} {d5 : Option Value} {d6 : Option Value} {d7 : Option Value}, Rl n σ h → okM a0 → k20 a0 x2 x3 x4 σ = some r → Go G mX14_isSimple 20 [some (.ref a0), d1, some (.int x2), some (.int x3), some (.int x4), d5, d6, d7] [] h (fun v h' => xRok (xRt mX14_isSimple) v ∧ v = some (.int r.1) ∧ Rl n r.2 h')) : ∀ (f : Nat) {a0 : Nat} {x2 : Int32} {x3 : Int32} {x4 : Int32} {x5 : Int32} {σ : xσ} {h : xH} {r : Int32 × xσ} {d1 : Option Value} {d6 : Option Value} {d7 : Option Value}, Rl n σ h → okM a0 → l_X14_isSimple_32 n k20 f a0 x2 x3 x4 x5 σ = some r → Go G mX14_isSimple 32 [some (.ref a0), d1, some (.int x2), some (.int x3), some (.int x4), some (.int x5), d6, d7] [] h (fun v h' => xRok (xRt mX14_isSimple) v ∧ v = some (.int r.1) ∧ Rl n r.2 h') := by
  intro f
  induction f with
  | zero =>
    intros
    rename _ = some _ => hf
    rw [l_X14_isSimple_32] at hf
    cases hf
  | succ f ih =>
    intro a0 x2 x3 x4 x5 σ h r d1 d6 d7 R g0 hf
    rw [l_X14_isSimple_32] at hf
    refine go_iload (pc' := 34) dX14_isSimple_32 rfl rfl ?_
    refine go_iload_n (i := 3) (pc' := 35) dX14_isSimple_34 rfl rfl rfl ?_
    refine go_icmp_ge (pc' := 38) (tgt := 246) dX14_isSimple_35 (by decide) rfl (fun c101 => ?_) (fun c101 => ?_)
    · have hf := it c101 hf
      refine go_iincC (kk := 1) (pc' := 249) dX14_isSimple_246 rfl rfl (by decide) (by decide) rfl ?_
      refine go_goto (pc' := 0) (tgt := 20) dX14_isSimple_249 (by decide) ?_
      exact hk20 R g0 hf
    · have hf := ie c101 hf
      refine go_iload (pc' := 40) dX14_isSimple_38 rfl rfl ?_
      refine go_iload (pc' := 42) dX14_isSimple_40 rfl rfl ?_
      refine go_iconst (v := 1) (pc' := 43) dX14_isSimple_42 rfl (by decide) ?_
      refine go_iadd (pc' := 44) dX14_isSimple_43 rfl ?_
      refine go_icmp_ne (pc' := 47) (tgt := 51) dX14_isSimple_44 (by decide) rfl (fun c102 => ?_) (fun c102 => ?_)
      · have hf := ie c102 hf
        refine go_iconst (v := 0) (pc' := 52) dX14_isSimple_51 rfl (by decide) ?_
        exact t_X14_isSimple_52 @hk20 @ih R g0 hf
      · have hf := it c102 hf
        refine go_iconst (v := 1) (pc' := 48) dX14_isSimple_47 rfl (by decide) ?_
        refine go_goto (pc' := 0) (tgt := 52) dX14_isSimple_48 (by decide) ?_
        exact t_X14_isSimple_52 @hk20 @ih R g0 hf
def l_X14_isSimple_20 (n : Nat) : Nat → Nat → Int32 → Int32 → Int32 → xσ → Option (Int32 × xσ)
  | 0, _, _, _, _, _ => none
  | f + 1, a0, x2, x3, x4, σ => if x3 ≤ x4 then some (1, σ) else st (x4 + 1) (fun x102 => l_X14_isSimple_32 n (l_X14_isSimple_20 n f) xFU a0 x2 x3 x4 x102 σ)
set_option maxRecDepth 100000 in
set_option maxHeartbeats 4000000 in
theorem t_X14_isSimple_20 {G : xG} {n : Nat} : ∀ (f : Nat) {a0 : Nat} {x2 : Int32} {x3 : Int32} {x4 : Int32} {σ : xσ} {h : xH} {r : Int32 × xσ} {d1 : Option Value} {d5 : Option Value} {d6 : Option Value} {d7 : Option Value}, Rl n σ h → okM a0 → l_X14_isSimple_20 n f a0 x2 x3 x4 σ = some r → Go G mX14_isSimple 20 [some (.ref a0), d1, some (.int x2), some (.int x3), some (.int x4), d5, d6, d7] [] h (fun v h' => xRok (xRt mX14_isSimple) v ∧ v = some (.int r.1) ∧ Rl n r.2 h') := by
  intro f
  induction f with
  | zero =>
    intros
    rename _ = some _ => hf
    rw [l_X14_isSimple_20] at hf
    cases hf
  | succ f ih =>
    intro a0 x2 x3 x4 σ h r d1 d5 d6 d7 R g0 hf
    rw [l_X14_isSimple_20] at hf
    refine go_iload (pc' := 22) dX14_isSimple_20 rfl rfl ?_
    refine go_iload_n (i := 3) (pc' := 23) dX14_isSimple_22 rfl rfl rfl ?_
    refine go_icmp_ge (pc' := 26) (tgt := 252) dX14_isSimple_23 (by decide) rfl (fun c101 => ?_) (fun c101 => ?_)
    · have hf := it c101 hf
      refine go_iconst (v := 1) (pc' := 253) dX14_isSimple_252 rfl (by decide) ?_
      obtain rfl := Option.some.inj hf
      exact Go.ret (v := some (.int _)) dX14_isSimple_253 ⟨_, rfl⟩ ⟨rfl, rfl, R⟩
    · have hf := ie c101 hf
      refine go_iload (pc' := 28) dX14_isSimple_26 rfl rfl ?_
      refine go_iconst (v := 1) (pc' := 29) dX14_isSimple_28 rfl (by decide) ?_
      refine go_iadd (pc' := 30) dX14_isSimple_29 rfl ?_
      obtain ⟨x102, e103, hf⟩ := st_some hf
      refine go_istoreE e103 (pc' := 32) dX14_isSimple_30 rfl (by decide) rfl ?_
      exact t_X14_isSimple_32 @ih xFU R g0 hf
def f_X14_isSimple (n : Nat) (a0 : Nat) (x1 : Int32) (σ : xσ) : Option (Int32 × xσ) := gd (okM a0) (bd (f_X12_beginOf n a0 x1 σ) (fun v101 σ102 => gd (inb x1 8) (st (((sI σ102 (a0 + 1) x1.toNatClampNeg) - v101) - 1) (fun x107 => l_X14_isSimple_20 n xFU a0 v101 x107 0 σ102))))
set_option maxRecDepth 100000 in
set_option maxHeartbeats 4000000 in
theorem c_X14_isSimple {G : xG} {n : Nat} {σ : xσ} {h : xH} {a0 : Nat} {x1 : Int32} {v1 : Int32} {σ1 : xσ} (R : Rl n σ h) (hf : f_X14_isSimple n a0 x1 σ = some (v1, σ1)) : Ca G mX14_isSimple [.ref a0, .int x1] h (fun v h' => v = some (.int v1) ∧ Rl n σ1 h') := by
  refine Ca.of rfl (Nat.le_of_ble_eq_true rfl) ?_
  generalize hr : (v1, σ1) = r at hf
  suffices q : Go G mX14_isSimple 0 (xent (xMl mX14_isSimple) [.ref a0, .int x1]) [] h (fun v h' => xRok (xRt mX14_isSimple) v ∧ v = some (.int r.1) ∧ Rl n r.2 h') by
    subst hr
    exact q
  clear hr
  rw [f_X14_isSimple] at hf
  obtain ⟨g0, hf⟩ := gd_some hf
  refine go_aload_n (i := 0) (pc' := 1) dX14_isSimple_0 rfl rfl rfl ?_
  refine go_iload_n (i := 1) (pc' := 2) dX14_isSimple_1 rfl rfl rfl ?_
  obtain ⟨v101, σ102, e103, hf⟩ := bd_some hf
  refine go_invV (As := [_]) (pc' := 5) dX14_isSimple_2 rfl cf_X14_isSimple_64 rfl (R.ob (g0.at R)) rfl rfl (Nat.le_of_ble_eq_true rfl) (c_X12_beginOf R e103) (fun q104v h105 q104 => ?_)
  obtain ⟨rfl, R⟩ := q104
  refine go_istore_nE rfl (i := 2) (pc' := 6) dX14_isSimple_5 rfl rfl (by decide) rfl ?_
  refine go_aload_n (i := 0) (pc' := 7) dX14_isSimple_6 rfl rfl rfl ?_
  refine go_getS (pc' := 10) dX14_isSimple_7 rfl gf_LandBaseModel_68 R (g0.at R) (by decide) rfl ?_
  refine go_iload_n (i := 1) (pc' := 11) dX14_isSimple_10 rfl rfl rfl ?_
  obtain ⟨g106, hf⟩ := gd_some hf
  refine go_ialoadS (pc' := 12) dX14_isSimple_11 rfl R (g0.e R) g106 ?_
  refine go_iload_n (i := 2) (pc' := 13) dX14_isSimple_12 rfl rfl rfl ?_
  refine go_isub (pc' := 14) dX14_isSimple_13 rfl ?_
  refine go_iconst (v := 1) (pc' := 15) dX14_isSimple_14 rfl (by decide) ?_
  refine go_isub (pc' := 16) dX14_isSimple_15 rfl ?_
  obtain ⟨x107, e108, hf⟩ := st_some hf
  refine go_istore_nE e108 (i := 3) (pc' := 17) dX14_isSimple_16 rfl rfl (by decide) rfl ?_
  refine go_iconst (v := 0) (pc' := 18) dX14_isSimple_17 rfl (by decide) ?_
  refine go_istoreE rfl (pc' := 20) dX14_isSimple_18 rfl (by decide) rfl ?_
  exact t_X14_isSimple_20 xFU R g0 hf
def b_X14_areRingsRight_90 (n : Nat) (k2 : Nat → Int32 → xσ → Option (Int32 × xσ)) (k12 : Nat → Int32 → Int32 → xσ → Option (Int32 × xσ)) (a1 : Nat) (x2 : Int32) (x3 : Int32) (σ : xσ) : Option (Int32 × xσ) := k12 a1 x2 (x3 + 1) σ
set_option maxRecDepth 100000 in
set_option maxHeartbeats 4000000 in
theorem t_X14_areRingsRight_90 {G : xG} {n : Nat} {k2 : Nat → Int32 → xσ → Option (Int32 × xσ)} {k12 : Nat → Int32 → Int32 → xσ → Option (Int32 × xσ)} (hk2 : ∀ {a1 : Nat} {x2 : Int32} {σ : xσ} {h : xH} {r : Int32 × xσ} {d3 : Option Value}, Rl n σ h → okM a1 → k2 a1 x2 σ = some r → Go G mX14_areRingsRight 2 [some (.ref 233), some (.ref a1), some (.int x2), d3] [] h (fun v h' => xRok (xRt mX14_areRingsRight) v ∧ v = some (.int r.1) ∧ Rl n r.2 h')) (hk12 : ∀ {a1 : Nat} {x2 : Int32} {x3 : Int32} {σ : xσ} {h : xH} {r : Int32 × xσ}, Rl n σ h → okM a1 → k12 a1 x2 x3 σ = some r → Go G mX14_areRingsRight 12 [some (.ref 233), some (.ref a1), some (.int x2), some (.int x3)] [] h (fun v h' => xRok (xRt mX14_areRingsRight) v ∧ v = some (.int r.1) ∧ Rl n r.2 h')) {a1 : Nat} {x2 : Int32} {x3 : Int32} {σ : xσ} {h : xH} {r : Int32 × xσ} : Rl n σ h → okM a1 → b_X14_areRingsRight_90 n k2 k12 a1 x2 x3 σ = some r → Go G mX14_areRingsRight 90 [some (.ref 233), some (.ref a1), some (.int x2), some (.int x3)] [] h (fun v h' => xRok (xRt mX14_areRingsRight) v ∧ v = some (.int r.1) ∧ Rl n r.2 h') := by
  intro R g1 hf
  rw [b_X14_areRingsRight_90] at hf
  refine go_iincC (kk := 1) (pc' := 93) dX14_areRingsRight_90 rfl rfl (by decide) (by decide) rfl ?_
  refine go_goto (pc' := 0) (tgt := 12) dX14_areRingsRight_93 (by decide) ?_
  exact hk12 R g1 hf
def b_X14_areRingsRight_88 (n : Nat) (σ : xσ) : Option (Int32 × xσ) := some (0, σ)
set_option maxRecDepth 100000 in
set_option maxHeartbeats 4000000 in
theorem t_X14_areRingsRight_88 {G : xG} {n : Nat} {σ : xσ} {h : xH} {r : Int32 × xσ} {d0 : Option Value} {d1 : Option Value} {d2 : Option Value} {d3 : Option Value} : Rl n σ h → b_X14_areRingsRight_88 n σ = some r → Go G mX14_areRingsRight 88 [d0, d1, d2, d3] [] h (fun v h' => xRok (xRt mX14_areRingsRight) v ∧ v = some (.int r.1) ∧ Rl n r.2 h') := by
  intro R hf
  rw [b_X14_areRingsRight_88] at hf
  refine go_iconst (v := 0) (pc' := 89) dX14_areRingsRight_88 rfl (by decide) ?_
  obtain rfl := Option.some.inj hf
  exact Go.ret (v := some (.int _)) dX14_areRingsRight_89 ⟨_, rfl⟩ ⟨rfl, rfl, R⟩
def l_X14_areRingsRight_12 (n : Nat) (k2 : Nat → Int32 → xσ → Option (Int32 × xσ)) : Nat → Nat → Int32 → Int32 → xσ → Option (Int32 × xσ)
  | 0, _, _, _, _ => none
  | f + 1, a1, x2, x3, σ => if (sI σ a1 3) ≤ x3 then k2 a1 (x2 + 1) σ else if x3 = x2 then b_X14_areRingsRight_90 n k2 (l_X14_areRingsRight_12 n k2 f) a1 x2 x3 σ else bd (f_X14_takeRing n 241 a1 x2 1 σ) (fun v103 σ104 => bd (f_X14_takeRing n 245 a1 x3 2 σ104) (fun v108 σ109 => bd (f_X14_goAlong n 241 245 σ109) (fun v113 σ114 => if (sI σ114 233 6) = 0 then if x3 = 0 then if (sI σ114 233 5) = 0 then (l_X14_areRingsRight_12 n k2 f) a1 x2 (x3 + 1) σ114 else b_X14_areRingsRight_88 n σ114 else if (sI σ114 233 4) = 0 then (l_X14_areRingsRight_12 n k2 f) a1 x2 (x3 + 1) σ114 else some (0, σ114) else some (0, σ114))))
set_option maxRecDepth 100000 in
set_option maxHeartbeats 4000000 in
theorem t_X14_areRingsRight_12 {G : xG} {n : Nat} {k2 : Nat → Int32 → xσ → Option (Int32 × xσ)} (hk2 : ∀ {a1 : Nat} {x2 : Int32} {σ : xσ} {h : xH} {r : Int32 × xσ} {d3 : Option Value}, Rl n σ h → okM a1 → k2 a1 x2 σ = some r → Go G mX14_areRingsRight 2 [some (.ref 233), some (.ref a1), some (.int x2), d3] [] h (fun v h' => xRok (xRt mX14_areRingsRight) v ∧ v = some (.int r.1) ∧ Rl n r.2 h')) : ∀ (f : Nat) {a1 : Nat} {x2 : Int32} {x3 : Int32} {σ : xσ} {h : xH} {r : Int32 × xσ}, Rl n σ h → okM a1 → l_X14_areRingsRight_12 n k2 f a1 x2 x3 σ = some r → Go G mX14_areRingsRight 12 [some (.ref 233), some (.ref a1), some (.int x2), some (.int x3)] [] h (fun v h' => xRok (xRt mX14_areRingsRight) v ∧ v = some (.int r.1) ∧ Rl n r.2 h') := by
  intro f
  induction f with
  | zero =>
    intros
    rename _ = some _ => hf
    rw [l_X14_areRingsRight_12] at hf
    cases hf
  | succ f ih =>
    intro a1 x2 x3 σ h r  R g1 hf
    rw [l_X14_areRingsRight_12] at hf
    refine go_iload_n (i := 3) (pc' := 13) dX14_areRingsRight_12 rfl rfl rfl ?_
    refine go_aload_n (i := 1) (pc' := 14) dX14_areRingsRight_13 rfl rfl rfl ?_
    refine go_getS (pc' := 17) dX14_areRingsRight_14 rfl gf_LandBaseModel_180 R (g1.at R) (by decide) rfl ?_
    refine go_icmp_ge (pc' := 20) (tgt := 96) dX14_areRingsRight_17 (by decide) rfl (fun c101 => ?_) (fun c101 => ?_)
    · have hf := it c101 hf
      refine go_iincC (kk := 1) (pc' := 99) dX14_areRingsRight_96 rfl rfl (by decide) (by decide) rfl ?_
      refine go_goto (pc' := 0) (tgt := 2) dX14_areRingsRight_99 (by decide) ?_
      exact hk2 R g1 hf
    · have hf := ie c101 hf
      refine go_iload_n (i := 3) (pc' := 21) dX14_areRingsRight_20 rfl rfl rfl ?_
      refine go_iload_n (i := 2) (pc' := 22) dX14_areRingsRight_21 rfl rfl rfl ?_
      refine go_icmp_ne (pc' := 25) (tgt := 28) dX14_areRingsRight_22 (by decide) rfl (fun c102 => ?_) (fun c102 => ?_)
      · have hf := ie c102 hf
        refine go_aload_n (i := 0) (pc' := 29) dX14_areRingsRight_28 rfl rfl rfl ?_
        refine go_getS (pc' := 32) dX14_areRingsRight_29 rfl gf_LandBaseModel_254 R (R.at rfl (by decide)) (by decide) rfl ?_
        refine go_aload_n (i := 1) (pc' := 33) dX14_areRingsRight_32 rfl rfl rfl ?_
        refine go_iload_n (i := 2) (pc' := 34) dX14_areRingsRight_33 rfl rfl rfl ?_
        refine go_iconst (v := 1) (pc' := 35) dX14_areRingsRight_34 rfl (by decide) ?_
        obtain ⟨v103, σ104, e105, hf⟩ := bd_some hf
        refine go_invS (As := [_, _, _, _]) (pc' := 38) dX14_areRingsRight_35 rfl cf_X14_areRingsRight_258 rfl rfl (Nat.le_of_ble_eq_true rfl) (c_X14_takeRing R e105) (fun q106v h107 q106 => ?_)
        obtain ⟨rfl, R⟩ := q106
        refine go_aload_n (i := 0) (pc' := 39) dX14_areRingsRight_38 rfl rfl rfl ?_
        refine go_getS (pc' := 42) dX14_areRingsRight_39 rfl gf_LandBaseModel_262 R (R.at rfl (by decide)) (by decide) rfl ?_
        refine go_aload_n (i := 1) (pc' := 43) dX14_areRingsRight_42 rfl rfl rfl ?_
        refine go_iload_n (i := 3) (pc' := 44) dX14_areRingsRight_43 rfl rfl rfl ?_
        refine go_iconst (v := 2) (pc' := 45) dX14_areRingsRight_44 rfl (by decide) ?_
        obtain ⟨v108, σ109, e110, hf⟩ := bd_some hf
        refine go_invS (As := [_, _, _, _]) (pc' := 48) dX14_areRingsRight_45 rfl cf_X14_areRingsRight_258 rfl rfl (Nat.le_of_ble_eq_true rfl) (c_X14_takeRing R e110) (fun q111v h112 q111 => ?_)
        obtain ⟨rfl, R⟩ := q111
        refine go_aload_n (i := 0) (pc' := 49) dX14_areRingsRight_48 rfl rfl rfl ?_
        refine go_aload_n (i := 0) (pc' := 50) dX14_areRingsRight_49 rfl rfl rfl ?_
        refine go_getS (pc' := 53) dX14_areRingsRight_50 rfl gf_LandBaseModel_254 R (R.at rfl (by decide)) (by decide) rfl ?_
        refine go_aload_n (i := 0) (pc' := 54) dX14_areRingsRight_53 rfl rfl rfl ?_
        refine go_getS (pc' := 57) dX14_areRingsRight_54 rfl gf_LandBaseModel_262 R (R.at rfl (by decide)) (by decide) rfl ?_
        obtain ⟨v113, σ114, e115, hf⟩ := bd_some hf
        refine go_invV (As := [_, _]) (pc' := 60) dX14_areRingsRight_57 rfl cf_X14_areRingsRight_220 rfl (R.ob (R.at rfl (by decide))) rfl rfl (Nat.le_of_ble_eq_true rfl) (c_X14_goAlong R e115) (fun q116v h117 q116 => ?_)
        obtain ⟨rfl, R⟩ := q116
        refine go_aload_n (i := 0) (pc' := 61) dX14_areRingsRight_60 rfl rfl rfl ?_
        refine go_getS (pc' := 64) dX14_areRingsRight_61 rfl gf_LandBaseModel_174 R (R.at rfl (by decide)) (by decide) rfl ?_
        refine go_if_ne (pc' := 67) (tgt := 88) dX14_areRingsRight_64 (by decide) rfl (fun c118 => ?_) (fun c118 => ?_)
        · have hf := ie c118 hf
          refine go_iconst (v := 0) (pc' := 89) dX14_areRingsRight_88 rfl (by decide) ?_
          obtain rfl := Option.some.inj hf
          exact Go.ret (v := some (.int _)) dX14_areRingsRight_89 ⟨_, rfl⟩ ⟨rfl, rfl, R⟩
        · have hf := it c118 hf
          refine go_iload_n (i := 3) (pc' := 68) dX14_areRingsRight_67 rfl rfl rfl ?_
          refine go_if_ne (pc' := 71) (tgt := 81) dX14_areRingsRight_68 (by decide) rfl (fun c119 => ?_) (fun c119 => ?_)
          · have hf := ie c119 hf
            refine go_aload_n (i := 0) (pc' := 82) dX14_areRingsRight_81 rfl rfl rfl ?_
            refine go_getS (pc' := 85) dX14_areRingsRight_82 rfl gf_LandBaseModel_168 R (R.at rfl (by decide)) (by decide) rfl ?_
            refine go_if_eq (pc' := 88) (tgt := 90) dX14_areRingsRight_85 (by decide) rfl (fun c120 => ?_) (fun c120 => ?_)
            · have hf := it c120 hf
              refine go_iincC (kk := 1) (pc' := 93) dX14_areRingsRight_90 rfl rfl (by decide) (by decide) rfl ?_
              refine go_goto (pc' := 0) (tgt := 12) dX14_areRingsRight_93 (by decide) ?_
              exact ih R g1 hf
            · have hf := ie c120 hf
              refine go_iconst (v := 0) (pc' := 89) dX14_areRingsRight_88 rfl (by decide) ?_
              obtain rfl := Option.some.inj hf
              exact Go.ret (v := some (.int _)) dX14_areRingsRight_89 ⟨_, rfl⟩ ⟨rfl, rfl, R⟩
          · have hf := it c119 hf
            refine go_aload_n (i := 0) (pc' := 72) dX14_areRingsRight_71 rfl rfl rfl ?_
            refine go_getS (pc' := 75) dX14_areRingsRight_72 rfl gf_LandBaseModel_171 R (R.at rfl (by decide)) (by decide) rfl ?_
            refine go_if_eq (pc' := 78) (tgt := 90) dX14_areRingsRight_75 (by decide) rfl (fun c121 => ?_) (fun c121 => ?_)
            · have hf := it c121 hf
              refine go_iincC (kk := 1) (pc' := 93) dX14_areRingsRight_90 rfl rfl (by decide) (by decide) rfl ?_
              refine go_goto (pc' := 0) (tgt := 12) dX14_areRingsRight_93 (by decide) ?_
              exact ih R g1 hf
            · have hf := ie c121 hf
              refine go_goto (pc' := 0) (tgt := 88) dX14_areRingsRight_78 (by decide) ?_
              exact t_X14_areRingsRight_88 R hf
      · have hf := it c102 hf
        refine go_goto (pc' := 0) (tgt := 90) dX14_areRingsRight_25 (by decide) ?_
        exact t_X14_areRingsRight_90 @hk2 @ih R g1 hf
def l_X14_areRingsRight_2 (n : Nat) : Nat → Nat → Int32 → xσ → Option (Int32 × xσ)
  | 0, _, _, _ => none
  | f + 1, a1, x2, σ => if (sI σ a1 3) ≤ x2 then some (1, σ) else l_X14_areRingsRight_12 n (l_X14_areRingsRight_2 n f) xFU a1 x2 0 σ
set_option maxRecDepth 100000 in
set_option maxHeartbeats 4000000 in
theorem t_X14_areRingsRight_2 {G : xG} {n : Nat} : ∀ (f : Nat) {a1 : Nat} {x2 : Int32} {σ : xσ} {h : xH} {r : Int32 × xσ} {d3 : Option Value}, Rl n σ h → okM a1 → l_X14_areRingsRight_2 n f a1 x2 σ = some r → Go G mX14_areRingsRight 2 [some (.ref 233), some (.ref a1), some (.int x2), d3] [] h (fun v h' => xRok (xRt mX14_areRingsRight) v ∧ v = some (.int r.1) ∧ Rl n r.2 h') := by
  intro f
  induction f with
  | zero =>
    intros
    rename _ = some _ => hf
    rw [l_X14_areRingsRight_2] at hf
    cases hf
  | succ f ih =>
    intro a1 x2 σ h r d3 R g1 hf
    rw [l_X14_areRingsRight_2] at hf
    refine go_iload_n (i := 2) (pc' := 3) dX14_areRingsRight_2 rfl rfl rfl ?_
    refine go_aload_n (i := 1) (pc' := 4) dX14_areRingsRight_3 rfl rfl rfl ?_
    refine go_getS (pc' := 7) dX14_areRingsRight_4 rfl gf_LandBaseModel_180 R (g1.at R) (by decide) rfl ?_
    refine go_icmp_ge (pc' := 10) (tgt := 102) dX14_areRingsRight_7 (by decide) rfl (fun c101 => ?_) (fun c101 => ?_)
    · have hf := it c101 hf
      refine go_iconst (v := 1) (pc' := 103) dX14_areRingsRight_102 rfl (by decide) ?_
      obtain rfl := Option.some.inj hf
      exact Go.ret (v := some (.int _)) dX14_areRingsRight_103 ⟨_, rfl⟩ ⟨rfl, rfl, R⟩
    · have hf := ie c101 hf
      refine go_iconst (v := 0) (pc' := 11) dX14_areRingsRight_10 rfl (by decide) ?_
      refine go_istore_nE rfl (i := 3) (pc' := 12) dX14_areRingsRight_11 rfl rfl (by decide) rfl ?_
      exact t_X14_areRingsRight_12 @ih xFU R g1 hf
def f_X14_areRingsRight (n : Nat) (a1 : Nat) (σ : xσ) : Option (Int32 × xσ) := gd (okM a1) (l_X14_areRingsRight_2 n xFU a1 1 σ)
set_option maxRecDepth 100000 in
set_option maxHeartbeats 4000000 in
theorem c_X14_areRingsRight {G : xG} {n : Nat} {σ : xσ} {h : xH} {a1 : Nat} {v1 : Int32} {σ1 : xσ} (R : Rl n σ h) (hf : f_X14_areRingsRight n a1 σ = some (v1, σ1)) : Ca G mX14_areRingsRight [.ref 233, .ref a1] h (fun v h' => v = some (.int v1) ∧ Rl n σ1 h') := by
  refine Ca.of rfl (Nat.le_of_ble_eq_true rfl) ?_
  generalize hr : (v1, σ1) = r at hf
  suffices q : Go G mX14_areRingsRight 0 (xent (xMl mX14_areRingsRight) [.ref 233, .ref a1]) [] h (fun v h' => xRok (xRt mX14_areRingsRight) v ∧ v = some (.int r.1) ∧ Rl n r.2 h') by
    subst hr
    exact q
  clear hr
  rw [f_X14_areRingsRight] at hf
  obtain ⟨g1, hf⟩ := gd_some hf
  refine go_iconst (v := 1) (pc' := 1) dX14_areRingsRight_0 rfl (by decide) ?_
  refine go_istore_nE rfl (i := 2) (pc' := 2) dX14_areRingsRight_1 rfl rfl (by decide) rfl ?_
  exact t_X14_areRingsRight_2 xFU R g1 hf
def b_X14_join_28 (n : Nat) (k3 : Int32 → Int32 → Int32 → Int32 → xσ → Option (Unit × xσ)) (x1 : Int32) (x2 : Int32) (x3 : Int32) (x4 : Int32) (σ : xσ) : Option (Unit × xσ) := k3 x1 x2 x3 (x4 + 1) σ
set_option maxRecDepth 100000 in
set_option maxHeartbeats 4000000 in
theorem t_X14_join_28 {G : xG} {n : Nat} {k3 : Int32 → Int32 → Int32 → Int32 → xσ → Option (Unit × xσ)} (hk3 : ∀ {x1 : Int32} {x2 : Int32} {x3 : Int32} {x4 : Int32} {σ : xσ} {h : xH} {r : Unit × xσ}, Rl n σ h → k3 x1 x2 x3 x4 σ = some r → Go G mX14_join 3 [some (.ref 233), some (.int x1), some (.int x2), some (.int x3), some (.int x4)] [] h (fun v h' => xRok (xRt mX14_join) v ∧ v = none ∧ Rl n r.2 h')) {x1 : Int32} {x2 : Int32} {x3 : Int32} {x4 : Int32} {σ : xσ} {h : xH} {r : Unit × xσ} : Rl n σ h → b_X14_join_28 n k3 x1 x2 x3 x4 σ = some r → Go G mX14_join 28 [some (.ref 233), some (.int x1), some (.int x2), some (.int x3), some (.int x4)] [] h (fun v h' => xRok (xRt mX14_join) v ∧ v = none ∧ Rl n r.2 h') := by
  intro R hf
  rw [b_X14_join_28] at hf
  refine go_iincC (kk := 1) (pc' := 31) dX14_join_28 rfl rfl (by decide) (by decide) rfl ?_
  refine go_goto (pc' := 0) (tgt := 3) dX14_join_31 (by decide) ?_
  exact hk3 R hf
def l_X14_join_3 (n : Nat) : Nat → Int32 → Int32 → Int32 → Int32 → xσ → Option (Unit × xσ)
  | 0, _, _, _, _, _ => none
  | f + 1, x1, x2, x3, x4, σ => if x3 ≤ x4 then some ((), σ) else gd (inb x4 8) (if (sI σ 249 x4.toNatClampNeg) = x1 then gd (inb x4 8) (st (wI σ 249 x4.toNatClampNeg x2) (fun σ105 => b_X14_join_28 n (l_X14_join_3 n f) x1 x2 x3 x4 σ105)) else (l_X14_join_3 n f) x1 x2 x3 (x4 + 1) σ)
set_option maxRecDepth 100000 in
set_option maxHeartbeats 4000000 in
theorem t_X14_join_3 {G : xG} {n : Nat} : ∀ (f : Nat) {x1 : Int32} {x2 : Int32} {x3 : Int32} {x4 : Int32} {σ : xσ} {h : xH} {r : Unit × xσ}, Rl n σ h → l_X14_join_3 n f x1 x2 x3 x4 σ = some r → Go G mX14_join 3 [some (.ref 233), some (.int x1), some (.int x2), some (.int x3), some (.int x4)] [] h (fun v h' => xRok (xRt mX14_join) v ∧ v = none ∧ Rl n r.2 h') := by
  intro f
  induction f with
  | zero =>
    intros
    rename _ = some _ => hf
    rw [l_X14_join_3] at hf
    cases hf
  | succ f ih =>
    intro x1 x2 x3 x4 σ h r  R hf
    rw [l_X14_join_3] at hf
    refine go_iload (pc' := 5) dX14_join_3 rfl rfl ?_
    refine go_iload_n (i := 3) (pc' := 6) dX14_join_5 rfl rfl rfl ?_
    refine go_icmp_ge (pc' := 9) (tgt := 34) dX14_join_6 (by decide) rfl (fun c101 => ?_) (fun c101 => ?_)
    · have hf := it c101 hf
      obtain rfl := Option.some.inj hf
      exact Go.ret (v := none) dX14_join_34 rfl ⟨trivial, rfl, R⟩
    · have hf := ie c101 hf
      refine go_aload_n (i := 0) (pc' := 10) dX14_join_9 rfl rfl rfl ?_
      refine go_getS (pc' := 13) dX14_join_10 rfl gf_LandBaseModel_265 R (R.at rfl (by decide)) (by decide) rfl ?_
      refine go_iload (pc' := 15) dX14_join_13 rfl rfl ?_
      obtain ⟨g102, hf⟩ := gd_some hf
      refine go_ialoadS (pc' := 16) dX14_join_15 rfl R (R.aa rfl (by decide)) g102 ?_
      refine go_iload_n (i := 1) (pc' := 17) dX14_join_16 rfl rfl rfl ?_
      refine go_icmp_ne (pc' := 20) (tgt := 28) dX14_join_17 (by decide) rfl (fun c103 => ?_) (fun c103 => ?_)
      · have hf := ie c103 hf
        refine go_iincC (kk := 1) (pc' := 31) dX14_join_28 rfl rfl (by decide) (by decide) rfl ?_
        refine go_goto (pc' := 0) (tgt := 3) dX14_join_31 (by decide) ?_
        exact ih R hf
      · have hf := it c103 hf
        refine go_aload_n (i := 0) (pc' := 21) dX14_join_20 rfl rfl rfl ?_
        refine go_getS (pc' := 24) dX14_join_21 rfl gf_LandBaseModel_265 R (R.at rfl (by decide)) (by decide) rfl ?_
        refine go_iload (pc' := 26) dX14_join_24 rfl rfl ?_
        refine go_iload_n (i := 2) (pc' := 27) dX14_join_26 rfl rfl rfl ?_
        obtain ⟨g104, hf⟩ := gd_some hf
        obtain ⟨σ105, e106, hf⟩ := st_some hf
        refine go_iastoreS (pc' := 28) dX14_join_27 rfl R (R.aa rfl (by decide)) g104 (fun h107 R => ?_)
        have R := Rl.cast e106 R
        exact t_X14_join_28 @ih R hf
def f_X14_join (n : Nat) (x1 : Int32) (x2 : Int32) (x3 : Int32) (σ : xσ) : Option (Unit × xσ) := l_X14_join_3 n xFU x1 x2 x3 0 σ
set_option maxRecDepth 100000 in
set_option maxHeartbeats 4000000 in
theorem c_X14_join {G : xG} {n : Nat} {σ : xσ} {h : xH} {x1 : Int32} {x2 : Int32} {x3 : Int32} {v1 : Unit} {σ1 : xσ} (R : Rl n σ h) (hf : f_X14_join n x1 x2 x3 σ = some (v1, σ1)) : Ca G mX14_join [.ref 233, .int x1, .int x2, .int x3] h (fun v h' => v = none ∧ Rl n σ1 h') := by
  refine Ca.of rfl (Nat.le_of_ble_eq_true rfl) ?_
  generalize hr : (v1, σ1) = r at hf
  suffices q : Go G mX14_join 0 (xent (xMl mX14_join) [.ref 233, .int x1, .int x2, .int x3]) [] h (fun v h' => xRok (xRt mX14_join) v ∧ v = none ∧ Rl n r.2 h') by
    subst hr
    exact q
  clear hr
  rw [f_X14_join] at hf
  refine go_iconst (v := 0) (pc' := 1) dX14_join_0 rfl (by decide) ?_
  refine go_istoreE rfl (pc' := 3) dX14_join_1 rfl (by decide) rfl ?_
  exact t_X14_join_3 xFU R hf
def b_X14_isOnePiece_63 (n : Nat) (k25 : Nat → Int32 → xσ → Option (Int32 × xσ)) (k38 : Nat → Int32 → Int32 → Int32 → xσ → Option (Int32 × xσ)) (a1 : Nat) (x2 : Int32) (x4 : Int32) (xs0 : Int32) (σ : xσ) : Option (Int32 × xσ) := k38 a1 x2 xs0 (x4 + 1) σ
set_option maxRecDepth 100000 in
set_option maxHeartbeats 4000000 in
theorem t_X14_isOnePiece_63 {G : xG} {n : Nat} {k25 : Nat → Int32 → xσ → Option (Int32 × xσ)} {k38 : Nat → Int32 → Int32 → Int32 → xσ → Option (Int32 × xσ)} (hk25 : ∀ {a1 : Nat} {x2 : Int32} {σ : xσ} {h : xH} {r : Int32 × xσ} {d3 : Option Value} {d4 : Option Value} {d5 : Option Value}, Rl n σ h → okM a1 → k25 a1 x2 σ = some r → Go G mX14_isOnePiece 25 [some (.ref 233), some (.ref a1), some (.int x2), d3, d4, d5] [] h (fun v h' => xRok (xRt mX14_isOnePiece) v ∧ v = some (.int r.1) ∧ Rl n r.2 h')) (hk38 : ∀ {a1 : Nat} {x2 : Int32} {x3 : Int32} {x4 : Int32} {σ : xσ} {h : xH} {r : Int32 × xσ} {d5 : Option Value}, Rl n σ h → okM a1 → k38 a1 x2 x3 x4 σ = some r → Go G mX14_isOnePiece 38 [some (.ref 233), some (.ref a1), some (.int x2), some (.int x3), some (.int x4), d5] [] h (fun v h' => xRok (xRt mX14_isOnePiece) v ∧ v = some (.int r.1) ∧ Rl n r.2 h')) {a1 : Nat} {x2 : Int32} {x4 : Int32} {xs0 : Int32} {σ : xσ} {h : xH} {r : Int32 × xσ} {d3 : Option Value} {d5 : Option Value} : Rl n σ h → okM a1 → b_X14_isOnePiece_63 n k25 k38 a1 x2 x4 xs0 σ = some r → Go G mX14_isOnePiece 63 [some (.ref 233), some (.ref a1), some (.int x2), d3, some (.int x4), d5] [.int xs0] h (fun v h' => xRok (xRt mX14_isOnePiece) v ∧ v = some (.int r.1) ∧ Rl n r.2 h') := by
  intro R g1 hf
  rw [b_X14_isOnePiece_63] at hf
  refine go_istore_nE rfl (i := 3) (pc' := 64) dX14_isOnePiece_63 rfl rfl (by decide) rfl ?_
  refine go_iincC (kk := 1) (pc' := 67) dX14_isOnePiece_64 rfl rfl (by decide) (by decide) rfl ?_
  refine go_goto (pc' := 0) (tgt := 38) dX14_isOnePiece_67 (by decide) ?_
  exact hk38 R g1 hf
def b_X14_isOnePiece_171 (n : Nat) (k25 : Nat → Int32 → xσ → Option (Int32 × xσ)) (k76 : Nat → Int32 → Int32 → Int32 → Int32 → xσ → Option (Int32 × xσ)) (a1 : Nat) (x2 : Int32) (x3 : Int32) (x4 : Int32) (x5 : Int32) (σ : xσ) : Option (Int32 × xσ) := k76 a1 x2 x3 x4 (x5 + 1) σ
set_option maxRecDepth 100000 in
set_option maxHeartbeats 4000000 in
theorem t_X14_isOnePiece_171 {G : xG} {n : Nat} {k25 : Nat → Int32 → xσ → Option (Int32 × xσ)} {k76 : Nat → Int32 → Int32 → Int32 → Int32 → xσ → Option (Int32 × xσ)} (hk25 : ∀ {a1 : Nat} {x2 : Int32} {σ : xσ} {h : xH} {r : Int32 × xσ} {d3 : Option Value} {d4 : Option Value} {d5 : Option Value}, Rl n σ h → okM a1 → k25 a1 x2 σ = some r → Go G mX14_isOnePiece 25 [some (.ref 233), some (.ref a1), some (.int x2), d3, d4, d5] [] h (fun v h' => xRok (xRt mX14_isOnePiece) v ∧ v = some (.int r.1) ∧ Rl n r.2 h')) (hk76 : ∀ {a1 : Nat} {x2 : Int32} {x3 : Int32} {x4 : Int32} {x5 : Int32} {σ : xσ} {h : xH} {r : Int32 × xσ}, Rl n σ h → okM a1 → k76 a1 x2 x3 x4 x5 σ = some r → Go G mX14_isOnePiece 76 [some (.ref 233), some (.ref a1), some (.int x2), some (.int x3), some (.int x4), some (.int x5)] [] h (fun v h' => xRok (xRt mX14_isOnePiece) v ∧ v = some (.int r.1) ∧ Rl n r.2 h')) {a1 : Nat} {x2 : Int32} {x3 : Int32} {x4 : Int32} {x5 : Int32} {σ : xσ} {h : xH} {r : Int32 × xσ} : Rl n σ h → okM a1 → b_X14_isOnePiece_171 n k25 k76 a1 x2 x3 x4 x5 σ = some r → Go G mX14_isOnePiece 171 [some (.ref 233), some (.ref a1), some (.int x2), some (.int x3), some (.int x4), some (.int x5)] [] h (fun v h' => xRok (xRt mX14_isOnePiece) v ∧ v = some (.int r.1) ∧ Rl n r.2 h') := by
  intro R g1 hf
  rw [b_X14_isOnePiece_171] at hf
  refine go_iincC (kk := 1) (pc' := 174) dX14_isOnePiece_171 rfl rfl (by decide) (by decide) rfl ?_
  refine go_goto (pc' := 0) (tgt := 76) dX14_isOnePiece_174 (by decide) ?_
  exact hk76 R g1 hf
def l_X14_isOnePiece_76 (n : Nat) (k25 : Nat → Int32 → xσ → Option (Int32 × xσ)) : Nat → Nat → Int32 → Int32 → Int32 → Int32 → xσ → Option (Int32 × xσ)
  | 0, _, _, _, _, _, _ => none
  | f + 1, a1, x2, x3, x4, x5, σ => if (sI σ a1 3) ≤ x5 then k25 a1 (x2 + 1) σ else if x3 = 0 then k25 a1 (x2 + 1) σ else gd (inb x2 40) (gd (inb x2 40) (bd (f_X14_isOnRing n a1 x5 (sI σ (a1 + 2) x2.toNatClampNeg) (sI σ (a1 + 3) x2.toNatClampNeg) σ) (fun v105 σ106 => if v105 = 0 then b_X14_isOnePiece_171 n k25 (l_X14_isOnePiece_76 n k25 f) a1 x2 x3 x4 x5 σ106 else if x4 < 0 then if 0 ≤ x4 then gd (inb x5 8) (gd (inb x4 8) (bd (f_X14_join n (sI σ106 249 x5.toNatClampNeg) (sI σ106 249 x4.toNatClampNeg) (sI σ106 a1 3) σ106) (fun v115 σ116 => b_X14_isOnePiece_171 n k25 (l_X14_isOnePiece_76 n k25 f) a1 x2 x3 x4 x5 σ116))) else b_X14_isOnePiece_171 n k25 (l_X14_isOnePiece_76 n k25 f) a1 x2 x3 x5 x5 σ106 else gd (inb x5 8) (gd (inb x4 8) (if (sI σ106 249 x5.toNatClampNeg) = (sI σ106 249 x4.toNatClampNeg) then some (0, σ106) else if 0 ≤ x4 then gd (inb x5 8) (gd (inb x4 8) (bd (f_X14_join n (sI σ106 249 x5.toNatClampNeg) (sI σ106 249 x4.toNatClampNeg) (sI σ106 a1 3) σ106) (fun v126 σ127 => b_X14_isOnePiece_171 n k25 (l_X14_isOnePiece_76 n k25 f) a1 x2 x3 x4 x5 σ127))) else b_X14_isOnePiece_171 n k25 (l_X14_isOnePiece_76 n k25 f) a1 x2 x3 x5 x5 σ106)))))
set_option maxRecDepth 100000 in
set_option maxHeartbeats 4000000 in
theorem t_X14_isOnePiece_76 {G : xG} {n : Nat} {k25 : Nat → Int32 → xσ → Option (Int32 × xσ)} (hk25 : ∀ {a1 : Nat} {x2 : Int32} {σ : xσ} {h : xH} {r : Int32 × xσ} {d3 : Option Value} {d4 : Option Value} {d5 : Option Value}, Rl n σ h → okM a1 → k25 a1 x2 σ = some r → Go G mX14_isOnePiece 25 [some (.ref 233), some (.ref a1), some (.int x2), d3, d4, d5] [] h (fun v h' => xRok (xRt mX14_isOnePiece) v ∧ v = some (.int r.1) ∧ Rl n r.2 h')) : ∀ (f : Nat) {a1 : Nat} {x2 : Int32} {x3 : Int32} {x4 : Int32} {x5 : Int32} {σ : xσ} {h : xH} {r : Int32 × xσ}, Rl n σ h → okM a1 → l_X14_isOnePiece_76 n k25 f a1 x2 x3 x4 x5 σ = some r → Go G mX14_isOnePiece 76 [some (.ref 233), some (.ref a1), some (.int x2), some (.int x3), some (.int x4), some (.int x5)] [] h (fun v h' => xRok (xRt mX14_isOnePiece) v ∧ v = some (.int r.1) ∧ Rl n r.2 h') := by
  intro f
  induction f with
  | zero =>
    intros
    rename _ = some _ => hf
    rw [l_X14_isOnePiece_76] at hf
    cases hf
  | succ f ih =>
    intro a1 x2 x3 x4 x5 σ h r  R g1 hf
    rw [l_X14_isOnePiece_76] at hf
    refine go_iload (pc' := 78) dX14_isOnePiece_76 rfl rfl ?_
    refine go_aload_n (i := 1) (pc' := 79) dX14_isOnePiece_78 rfl rfl rfl ?_
    refine go_getS (pc' := 82) dX14_isOnePiece_79 rfl gf_LandBaseModel_180 R (g1.at R) (by decide) rfl ?_
    refine go_icmp_ge (pc' := 85) (tgt := 177) dX14_isOnePiece_82 (by decide) rfl (fun c101 => ?_) (fun c101 => ?_)
    · have hf := it c101 hf
      refine go_iincC (kk := 1) (pc' := 180) dX14_isOnePiece_177 rfl rfl (by decide) (by decide) rfl ?_
      refine go_goto (pc' := 0) (tgt := 25) dX14_isOnePiece_180 (by decide) ?_
      exact hk25 R g1 hf
    · have hf := ie c101 hf
      refine go_iload_n (i := 3) (pc' := 86) dX14_isOnePiece_85 rfl rfl rfl ?_
      refine go_if_eq (pc' := 89) (tgt := 177) dX14_isOnePiece_86 (by decide) rfl (fun c102 => ?_) (fun c102 => ?_)
      · have hf := it c102 hf
        refine go_iincC (kk := 1) (pc' := 180) dX14_isOnePiece_177 rfl rfl (by decide) (by decide) rfl ?_
        refine go_goto (pc' := 0) (tgt := 25) dX14_isOnePiece_180 (by decide) ?_
        exact hk25 R g1 hf
      · have hf := ie c102 hf
        refine go_aload_n (i := 1) (pc' := 90) dX14_isOnePiece_89 rfl rfl rfl ?_
        refine go_iload (pc' := 92) dX14_isOnePiece_90 rfl rfl ?_
        refine go_aload_n (i := 1) (pc' := 93) dX14_isOnePiece_92 rfl rfl rfl ?_
        refine go_getS (pc' := 96) dX14_isOnePiece_93 rfl gf_LandBaseModel_30 R (g1.at R) (by decide) rfl ?_
        refine go_iload_n (i := 2) (pc' := 97) dX14_isOnePiece_96 rfl rfl rfl ?_
        obtain ⟨g103, hf⟩ := gd_some hf
        refine go_ialoadS (pc' := 98) dX14_isOnePiece_97 rfl R (g1.x R) g103 ?_
        refine go_aload_n (i := 1) (pc' := 99) dX14_isOnePiece_98 rfl rfl rfl ?_
        refine go_getS (pc' := 102) dX14_isOnePiece_99 rfl gf_LandBaseModel_36 R (g1.at R) (by decide) rfl ?_
        refine go_iload_n (i := 2) (pc' := 103) dX14_isOnePiece_102 rfl rfl rfl ?_
        obtain ⟨g104, hf⟩ := gd_some hf
        refine go_ialoadS (pc' := 104) dX14_isOnePiece_103 rfl R (g1.y R) g104 ?_
        obtain ⟨v105, σ106, e107, hf⟩ := bd_some hf
        refine go_invS (As := [_, _, _, _]) (pc' := 107) dX14_isOnePiece_104 rfl cf_X14_isOnePiece_268 rfl rfl (Nat.le_of_ble_eq_true rfl) (c_X14_isOnRing R e107) (fun q108v h109 q108 => ?_)
        obtain ⟨rfl, R⟩ := q108
        refine go_if_ne (pc' := 110) (tgt := 113) dX14_isOnePiece_107 (by decide) rfl (fun c110 => ?_) (fun c110 => ?_)
        · have hf := ie c110 hf
          refine go_iload (pc' := 115) dX14_isOnePiece_113 rfl rfl ?_
          refine go_if_lt (pc' := 118) (tgt := 137) dX14_isOnePiece_115 (by decide) rfl (fun c111 => ?_) (fun c111 => ?_)
          · have hf := it c111 hf
            refine go_iload (pc' := 139) dX14_isOnePiece_137 rfl rfl ?_
            refine go_if_ge (pc' := 142) (tgt := 149) dX14_isOnePiece_139 (by decide) rfl (fun c112 => ?_) (fun c112 => ?_)
            · have hf := it c112 hf
              refine go_aload_n (i := 0) (pc' := 150) dX14_isOnePiece_149 rfl rfl rfl ?_
              refine go_aload_n (i := 0) (pc' := 151) dX14_isOnePiece_150 rfl rfl rfl ?_
              refine go_getS (pc' := 154) dX14_isOnePiece_151 rfl gf_LandBaseModel_265 R (R.at rfl (by decide)) (by decide) rfl ?_
              refine go_iload (pc' := 156) dX14_isOnePiece_154 rfl rfl ?_
              obtain ⟨g113, hf⟩ := gd_some hf
              refine go_ialoadS (pc' := 157) dX14_isOnePiece_156 rfl R (R.aa rfl (by decide)) g113 ?_
              refine go_aload_n (i := 0) (pc' := 158) dX14_isOnePiece_157 rfl rfl rfl ?_
              refine go_getS (pc' := 161) dX14_isOnePiece_158 rfl gf_LandBaseModel_265 R (R.at rfl (by decide)) (by decide) rfl ?_
              refine go_iload (pc' := 163) dX14_isOnePiece_161 rfl rfl ?_
              obtain ⟨g114, hf⟩ := gd_some hf
              refine go_ialoadS (pc' := 164) dX14_isOnePiece_163 rfl R (R.aa rfl (by decide)) g114 ?_
              refine go_aload_n (i := 1) (pc' := 165) dX14_isOnePiece_164 rfl rfl rfl ?_
              refine go_getS (pc' := 168) dX14_isOnePiece_165 rfl gf_LandBaseModel_180 R (g1.at R) (by decide) rfl ?_
              obtain ⟨v115, σ116, e117, hf⟩ := bd_some hf
              refine go_invV (As := [_, _, _]) (pc' := 171) dX14_isOnePiece_168 rfl cf_X14_isOnePiece_271 rfl (R.ob (R.at rfl (by decide))) rfl rfl (Nat.le_of_ble_eq_true rfl) (c_X14_join R e117) (fun q118v h119 q118 => ?_)
              obtain ⟨rfl, R⟩ := q118
              exact t_X14_isOnePiece_171 @hk25 @ih R g1 hf
            · have hf := ie c112 hf
              refine go_iload (pc' := 144) dX14_isOnePiece_142 rfl rfl ?_
              refine go_istoreE rfl (pc' := 146) dX14_isOnePiece_144 rfl (by decide) rfl ?_
              refine go_goto (pc' := 0) (tgt := 171) dX14_isOnePiece_146 (by decide) ?_
              exact t_X14_isOnePiece_171 @hk25 @ih R g1 hf
          · have hf := ie c111 hf
            refine go_aload_n (i := 0) (pc' := 119) dX14_isOnePiece_118 rfl rfl rfl ?_
            refine go_getS (pc' := 122) dX14_isOnePiece_119 rfl gf_LandBaseModel_265 R (R.at rfl (by decide)) (by decide) rfl ?_
            refine go_iload (pc' := 124) dX14_isOnePiece_122 rfl rfl ?_
            obtain ⟨g120, hf⟩ := gd_some hf
            refine go_ialoadS (pc' := 125) dX14_isOnePiece_124 rfl R (R.aa rfl (by decide)) g120 ?_
            refine go_aload_n (i := 0) (pc' := 126) dX14_isOnePiece_125 rfl rfl rfl ?_
            refine go_getS (pc' := 129) dX14_isOnePiece_126 rfl gf_LandBaseModel_265 R (R.at rfl (by decide)) (by decide) rfl ?_
            refine go_iload (pc' := 131) dX14_isOnePiece_129 rfl rfl ?_
            obtain ⟨g121, hf⟩ := gd_some hf
            refine go_ialoadS (pc' := 132) dX14_isOnePiece_131 rfl R (R.aa rfl (by decide)) g121 ?_
            refine go_icmp_ne (pc' := 135) (tgt := 137) dX14_isOnePiece_132 (by decide) rfl (fun c122 => ?_) (fun c122 => ?_)
            · have hf := ie c122 hf
              refine go_iload (pc' := 139) dX14_isOnePiece_137 rfl rfl ?_
              refine go_if_ge (pc' := 142) (tgt := 149) dX14_isOnePiece_139 (by decide) rfl (fun c123 => ?_) (fun c123 => ?_)
              · have hf := it c123 hf
                refine go_aload_n (i := 0) (pc' := 150) dX14_isOnePiece_149 rfl rfl rfl ?_
                refine go_aload_n (i := 0) (pc' := 151) dX14_isOnePiece_150 rfl rfl rfl ?_
                refine go_getS (pc' := 154) dX14_isOnePiece_151 rfl gf_LandBaseModel_265 R (R.at rfl (by decide)) (by decide) rfl ?_
                refine go_iload (pc' := 156) dX14_isOnePiece_154 rfl rfl ?_
                obtain ⟨g124, hf⟩ := gd_some hf
                refine go_ialoadS (pc' := 157) dX14_isOnePiece_156 rfl R (R.aa rfl (by decide)) g124 ?_
                refine go_aload_n (i := 0) (pc' := 158) dX14_isOnePiece_157 rfl rfl rfl ?_
                refine go_getS (pc' := 161) dX14_isOnePiece_158 rfl gf_LandBaseModel_265 R (R.at rfl (by decide)) (by decide) rfl ?_
                refine go_iload (pc' := 163) dX14_isOnePiece_161 rfl rfl ?_
                obtain ⟨g125, hf⟩ := gd_some hf
                refine go_ialoadS (pc' := 164) dX14_isOnePiece_163 rfl R (R.aa rfl (by decide)) g125 ?_
                refine go_aload_n (i := 1) (pc' := 165) dX14_isOnePiece_164 rfl rfl rfl ?_
                refine go_getS (pc' := 168) dX14_isOnePiece_165 rfl gf_LandBaseModel_180 R (g1.at R) (by decide) rfl ?_
                obtain ⟨v126, σ127, e128, hf⟩ := bd_some hf
                refine go_invV (As := [_, _, _]) (pc' := 171) dX14_isOnePiece_168 rfl cf_X14_isOnePiece_271 rfl (R.ob (R.at rfl (by decide))) rfl rfl (Nat.le_of_ble_eq_true rfl) (c_X14_join R e128) (fun q129v h130 q129 => ?_)
                obtain ⟨rfl, R⟩ := q129
                exact t_X14_isOnePiece_171 @hk25 @ih R g1 hf
              · have hf := ie c123 hf
                refine go_iload (pc' := 144) dX14_isOnePiece_142 rfl rfl ?_
                refine go_istoreE rfl (pc' := 146) dX14_isOnePiece_144 rfl (by decide) rfl ?_
                refine go_goto (pc' := 0) (tgt := 171) dX14_isOnePiece_146 (by decide) ?_
                exact t_X14_isOnePiece_171 @hk25 @ih R g1 hf
            · have hf := it c122 hf
              refine go_iconst (v := 0) (pc' := 136) dX14_isOnePiece_135 rfl (by decide) ?_
              obtain rfl := Option.some.inj hf
              exact Go.ret (v := some (.int _)) dX14_isOnePiece_136 ⟨_, rfl⟩ ⟨rfl, rfl, R⟩
        · have hf := it c110 hf
          refine go_goto (pc' := 0) (tgt := 171) dX14_isOnePiece_110 (by decide) ?_
          exact t_X14_isOnePiece_171 @hk25 @ih R g1 hf
def l_X14_isOnePiece_38 (n : Nat) (k25 : Nat → Int32 → xσ → Option (Int32 × xσ)) : Nat → Nat → Int32 → Int32 → Int32 → xσ → Option (Int32 × xσ)
  | 0, _, _, _, _, _ => none
  | f + 1, a1, x2, x3, x4, σ => if x2 ≤ x4 then l_X14_isOnePiece_76 n k25 xFU a1 x2 x3 ((-1)) 0 σ else if x3 = 0 then b_X14_isOnePiece_63 n k25 (l_X14_isOnePiece_38 n k25 f) a1 x2 x4 0 σ else bd (f_X12_isLike n a1 x4 x2 σ) (fun v103 σ104 => if v103 = 0 then b_X14_isOnePiece_63 n k25 (l_X14_isOnePiece_38 n k25 f) a1 x2 x4 1 σ104 else b_X14_isOnePiece_63 n k25 (l_X14_isOnePiece_38 n k25 f) a1 x2 x4 0 σ104)
set_option maxRecDepth 100000 in
set_option maxHeartbeats 4000000 in
theorem t_X14_isOnePiece_38 {G : xG} {n : Nat} {k25 : Nat → Int32 → xσ → Option (Int32 × xσ)} (hk25 : ∀ {a1 : Nat} {x2 : Int32} {σ : xσ} {h : xH} {r : Int32 × xσ} {d3 : Option Value} {d4 : Option Value} {d5 : Option Value}, Rl n σ h → okM a1 → k25 a1 x2 σ = some r → Go G mX14_isOnePiece 25 [some (.ref 233), some (.ref a1), some (.int x2), d3, d4, d5] [] h (fun v h' => xRok (xRt mX14_isOnePiece) v ∧ v = some (.int r.1) ∧ Rl n r.2 h')) : ∀ (f : Nat) {a1 : Nat} {x2 : Int32} {x3 : Int32} {x4 : Int32} {σ : xσ} {h : xH} {r : Int32 × xσ} {d5 : Option Value}, Rl n σ h → okM a1 → l_X14_isOnePiece_38 n k25 f a1 x2 x3 x4 σ = some r → Go G mX14_isOnePiece 38 [some (.ref 233), some (.ref a1), some (.int x2), some (.int x3), some (.int x4), d5] [] h (fun v h' => xRok (xRt mX14_isOnePiece) v ∧ v = some (.int r.1) ∧ Rl n r.2 h') := by
  intro f
  induction f with
  | zero =>
    intros
    rename _ = some _ => hf
    rw [l_X14_isOnePiece_38] at hf
    cases hf
  | succ f ih =>
    intro a1 x2 x3 x4 σ h r d5 R g1 hf
    rw [l_X14_isOnePiece_38] at hf
    refine go_iload (pc' := 40) dX14_isOnePiece_38 rfl rfl ?_
    refine go_iload_n (i := 2) (pc' := 41) dX14_isOnePiece_40 rfl rfl rfl ?_
    refine go_icmp_ge (pc' := 44) (tgt := 70) dX14_isOnePiece_41 (by decide) rfl (fun c101 => ?_) (fun c101 => ?_)
    · have hf := it c101 hf
      refine go_iconst (v := (-1)) (pc' := 71) dX14_isOnePiece_70 rfl (by decide) ?_
      refine go_istoreE rfl (pc' := 73) dX14_isOnePiece_71 rfl (by decide) rfl ?_
      refine go_iconst (v := 0) (pc' := 74) dX14_isOnePiece_73 rfl (by decide) ?_
      refine go_istoreE rfl (pc' := 76) dX14_isOnePiece_74 rfl (by decide) rfl ?_
      exact t_X14_isOnePiece_76 @hk25 xFU R g1 hf
    · have hf := ie c101 hf
      refine go_iload_n (i := 3) (pc' := 45) dX14_isOnePiece_44 rfl rfl rfl ?_
      refine go_if_eq (pc' := 48) (tgt := 62) dX14_isOnePiece_45 (by decide) rfl (fun c102 => ?_) (fun c102 => ?_)
      · have hf := it c102 hf
        refine go_iconst (v := 0) (pc' := 63) dX14_isOnePiece_62 rfl (by decide) ?_
        exact t_X14_isOnePiece_63 @hk25 @ih R g1 hf
      · have hf := ie c102 hf
        refine go_aload_n (i := 1) (pc' := 49) dX14_isOnePiece_48 rfl rfl rfl ?_
        refine go_iload (pc' := 51) dX14_isOnePiece_49 rfl rfl ?_
        refine go_iload_n (i := 2) (pc' := 52) dX14_isOnePiece_51 rfl rfl rfl ?_
        obtain ⟨v103, σ104, e105, hf⟩ := bd_some hf
        refine go_invV (As := [_, _]) (pc' := 55) dX14_isOnePiece_52 rfl cf_X14_isOnePiece_250 rfl (R.ob (g1.at R)) rfl rfl (Nat.le_of_ble_eq_true rfl) (c_X12_isLike R e105) (fun q106v h107 q106 => ?_)
        obtain ⟨rfl, R⟩ := q106
        refine go_if_ne (pc' := 58) (tgt := 62) dX14_isOnePiece_55 (by decide) rfl (fun c108 => ?_) (fun c108 => ?_)
        · have hf := ie c108 hf
          refine go_iconst (v := 0) (pc' := 63) dX14_isOnePiece_62 rfl (by decide) ?_
          exact t_X14_isOnePiece_63 @hk25 @ih R g1 hf
        · have hf := it c108 hf
          refine go_iconst (v := 1) (pc' := 59) dX14_isOnePiece_58 rfl (by decide) ?_
          refine go_goto (pc' := 0) (tgt := 63) dX14_isOnePiece_59 (by decide) ?_
          exact t_X14_isOnePiece_63 @hk25 @ih R g1 hf
def l_X14_isOnePiece_25 (n : Nat) : Nat → Nat → Int32 → xσ → Option (Int32 × xσ)
  | 0, _, _, _ => none
  | f + 1, a1, x2, σ => if (sI σ a1 2) ≤ x2 then some (1, σ) else l_X14_isOnePiece_38 n (l_X14_isOnePiece_25 n f) xFU a1 x2 1 0 σ
set_option maxRecDepth 100000 in
set_option maxHeartbeats 4000000 in
theorem t_X14_isOnePiece_25 {G : xG} {n : Nat} : ∀ (f : Nat) {a1 : Nat} {x2 : Int32} {σ : xσ} {h : xH} {r : Int32 × xσ} {d3 : Option Value} {d4 : Option Value} {d5 : Option Value}, Rl n σ h → okM a1 → l_X14_isOnePiece_25 n f a1 x2 σ = some r → Go G mX14_isOnePiece 25 [some (.ref 233), some (.ref a1), some (.int x2), d3, d4, d5] [] h (fun v h' => xRok (xRt mX14_isOnePiece) v ∧ v = some (.int r.1) ∧ Rl n r.2 h') := by
  intro f
  induction f with
  | zero =>
    intros
    rename _ = some _ => hf
    rw [l_X14_isOnePiece_25] at hf
    cases hf
  | succ f ih =>
    intro a1 x2 σ h r d3 d4 d5 R g1 hf
    rw [l_X14_isOnePiece_25] at hf
    refine go_iload_n (i := 2) (pc' := 26) dX14_isOnePiece_25 rfl rfl rfl ?_
    refine go_aload_n (i := 1) (pc' := 27) dX14_isOnePiece_26 rfl rfl rfl ?_
    refine go_getS (pc' := 30) dX14_isOnePiece_27 rfl gf_LandBaseModel_79 R (g1.at R) (by decide) rfl ?_
    refine go_icmp_ge (pc' := 33) (tgt := 183) dX14_isOnePiece_30 (by decide) rfl (fun c101 => ?_) (fun c101 => ?_)
    · have hf := it c101 hf
      refine go_iconst (v := 1) (pc' := 184) dX14_isOnePiece_183 rfl (by decide) ?_
      obtain rfl := Option.some.inj hf
      exact Go.ret (v := some (.int _)) dX14_isOnePiece_184 ⟨_, rfl⟩ ⟨rfl, rfl, R⟩
    · have hf := ie c101 hf
      refine go_iconst (v := 1) (pc' := 34) dX14_isOnePiece_33 rfl (by decide) ?_
      refine go_istore_nE rfl (i := 3) (pc' := 35) dX14_isOnePiece_34 rfl rfl (by decide) rfl ?_
      refine go_iconst (v := 0) (pc' := 36) dX14_isOnePiece_35 rfl (by decide) ?_
      refine go_istoreE rfl (pc' := 38) dX14_isOnePiece_36 rfl (by decide) rfl ?_
      exact t_X14_isOnePiece_38 @ih xFU R g1 hf
def l_X14_isOnePiece_2 (n : Nat) : Nat → Nat → Int32 → xσ → Option (Int32 × xσ)
  | 0, _, _, _ => none
  | f + 1, a1, x2, σ => if (sI σ a1 3) ≤ x2 then l_X14_isOnePiece_25 n xFU a1 0 σ else gd (inb x2 8) (st (wI σ 249 x2.toNatClampNeg x2) (fun σ103 => (l_X14_isOnePiece_2 n f) a1 (x2 + 1) σ103))
set_option maxRecDepth 100000 in
set_option maxHeartbeats 4000000 in
theorem t_X14_isOnePiece_2 {G : xG} {n : Nat} : ∀ (f : Nat) {a1 : Nat} {x2 : Int32} {σ : xσ} {h : xH} {r : Int32 × xσ} {d3 : Option Value} {d4 : Option Value} {d5 : Option Value}, Rl n σ h → okM a1 → l_X14_isOnePiece_2 n f a1 x2 σ = some r → Go G mX14_isOnePiece 2 [some (.ref 233), some (.ref a1), some (.int x2), d3, d4, d5] [] h (fun v h' => xRok (xRt mX14_isOnePiece) v ∧ v = some (.int r.1) ∧ Rl n r.2 h') := by
  intro f
  induction f with
  | zero =>
    intros
    rename _ = some _ => hf
    rw [l_X14_isOnePiece_2] at hf
    cases hf
  | succ f ih =>
    intro a1 x2 σ h r d3 d4 d5 R g1 hf
    rw [l_X14_isOnePiece_2] at hf
    refine go_iload_n (i := 2) (pc' := 3) dX14_isOnePiece_2 rfl rfl rfl ?_
    refine go_aload_n (i := 1) (pc' := 4) dX14_isOnePiece_3 rfl rfl rfl ?_
    refine go_getS (pc' := 7) dX14_isOnePiece_4 rfl gf_LandBaseModel_180 R (g1.at R) (by decide) rfl ?_
    refine go_icmp_ge (pc' := 10) (tgt := 23) dX14_isOnePiece_7 (by decide) rfl (fun c101 => ?_) (fun c101 => ?_)
    · have hf := it c101 hf
      refine go_iconst (v := 0) (pc' := 24) dX14_isOnePiece_23 rfl (by decide) ?_
      refine go_istore_nE rfl (i := 2) (pc' := 25) dX14_isOnePiece_24 rfl rfl (by decide) rfl ?_
      exact t_X14_isOnePiece_25 xFU R g1 hf
    · have hf := ie c101 hf
      refine go_aload_n (i := 0) (pc' := 11) dX14_isOnePiece_10 rfl rfl rfl ?_
      refine go_getS (pc' := 14) dX14_isOnePiece_11 rfl gf_LandBaseModel_265 R (R.at rfl (by decide)) (by decide) rfl ?_
      refine go_iload_n (i := 2) (pc' := 15) dX14_isOnePiece_14 rfl rfl rfl ?_
      refine go_iload_n (i := 2) (pc' := 16) dX14_isOnePiece_15 rfl rfl rfl ?_
      obtain ⟨g102, hf⟩ := gd_some hf
      obtain ⟨σ103, e104, hf⟩ := st_some hf
      refine go_iastoreS (pc' := 17) dX14_isOnePiece_16 rfl R (R.aa rfl (by decide)) g102 (fun h105 R => ?_)
      have R := Rl.cast e104 R
      refine go_iincC (kk := 1) (pc' := 20) dX14_isOnePiece_17 rfl rfl (by decide) (by decide) rfl ?_
      refine go_goto (pc' := 0) (tgt := 2) dX14_isOnePiece_20 (by decide) ?_
      exact ih R g1 hf
def f_X14_isOnePiece (n : Nat) (a1 : Nat) (σ : xσ) : Option (Int32 × xσ) := gd (okM a1) (l_X14_isOnePiece_2 n xFU a1 0 σ)
set_option maxRecDepth 100000 in
set_option maxHeartbeats 4000000 in
theorem c_X14_isOnePiece {G : xG} {n : Nat} {σ : xσ} {h : xH} {a1 : Nat} {v1 : Int32} {σ1 : xσ} (R : Rl n σ h) (hf : f_X14_isOnePiece n a1 σ = some (v1, σ1)) : Ca G mX14_isOnePiece [.ref 233, .ref a1] h (fun v h' => v = some (.int v1) ∧ Rl n σ1 h') := by
  refine Ca.of rfl (Nat.le_of_ble_eq_true rfl) ?_
  generalize hr : (v1, σ1) = r at hf
  suffices q : Go G mX14_isOnePiece 0 (xent (xMl mX14_isOnePiece) [.ref 233, .ref a1]) [] h (fun v h' => xRok (xRt mX14_isOnePiece) v ∧ v = some (.int r.1) ∧ Rl n r.2 h') by
    subst hr
    exact q
  clear hr
  rw [f_X14_isOnePiece] at hf
  obtain ⟨g1, hf⟩ := gd_some hf
  refine go_iconst (v := 0) (pc' := 1) dX14_isOnePiece_0 rfl (by decide) ?_
  refine go_istore_nE rfl (i := 2) (pc' := 2) dX14_isOnePiece_1 rfl rfl (by decide) rfl ?_
  exact t_X14_isOnePiece_2 xFU R g1 hf
def l_X14_isValid_42 (n : Nat) : Nat → Nat → Int32 → xσ → Option (Int32 × xσ)
  | 0, _, _, _ => none
  | f + 1, a1, x2, σ => if (sI σ a1 3) ≤ x2 then bd (f_X14_areRingsRight n a1 σ) (fun v102 σ103 => if v102 = 0 then some (0, σ103) else bd (f_X14_isOnePiece n a1 σ103) (fun v108 σ109 => if v108 = 0 then some (0, σ109) else some (1, σ109))) else bd (f_X12_beginOf n a1 x2 σ) (fun v114 σ115 => gd (inb x2 8) (if ((sI σ115 (a1 + 1) x2.toNatClampNeg) - v114) < 4 then some (0, σ115) else gd (inb x2 8) (bd (f_X12_isLike n a1 v114 ((sI σ115 (a1 + 1) x2.toNatClampNeg) - 1) σ115) (fun v122 σ123 => if v122 = 0 then some (0, σ123) else bd (f_X14_isSimple n a1 x2 σ123) (fun v128 σ129 => if v128 = 0 then some (0, σ129) else (l_X14_isValid_42 n f) a1 (x2 + 1) σ129)))))
set_option maxRecDepth 100000 in
set_option maxHeartbeats 4000000 in
theorem t_X14_isValid_42 {G : xG} {n : Nat} : ∀ (f : Nat) {a1 : Nat} {x2 : Int32} {σ : xσ} {h : xH} {r : Int32 × xσ} {d3 : Option Value}, Rl n σ h → okM a1 → l_X14_isValid_42 n f a1 x2 σ = some r → Go G mX14_isValid 42 [some (.ref 233), some (.ref a1), some (.int x2), d3] [] h (fun v h' => xRok (xRt mX14_isValid) v ∧ v = some (.int r.1) ∧ Rl n r.2 h') := by
  intro f
  induction f with
  | zero =>
    intros
    rename _ = some _ => hf
    rw [l_X14_isValid_42] at hf
    cases hf
  | succ f ih =>
    intro a1 x2 σ h r d3 R g1 hf
    rw [l_X14_isValid_42] at hf
    refine go_iload_n (i := 2) (pc' := 43) dX14_isValid_42 rfl rfl rfl ?_
    refine go_aload_n (i := 1) (pc' := 44) dX14_isValid_43 rfl rfl rfl ?_
    refine go_getS (pc' := 47) dX14_isValid_44 rfl gf_LandBaseModel_180 R (g1.at R) (by decide) rfl ?_
    refine go_icmp_ge (pc' := 50) (tgt := 100) dX14_isValid_47 (by decide) rfl (fun c101 => ?_) (fun c101 => ?_)
    · have hf := it c101 hf
      refine go_aload_n (i := 0) (pc' := 101) dX14_isValid_100 rfl rfl rfl ?_
      refine go_aload_n (i := 1) (pc' := 102) dX14_isValid_101 rfl rfl rfl ?_
      obtain ⟨v102, σ103, e104, hf⟩ := bd_some hf
      refine go_invV (As := [_]) (pc' := 105) dX14_isValid_102 rfl cf_X14_isValid_282 rfl (R.ob (R.at rfl (by decide))) rfl rfl (Nat.le_of_ble_eq_true rfl) (c_X14_areRingsRight R e104) (fun q105v h106 q105 => ?_)
      obtain ⟨rfl, R⟩ := q105
      refine go_if_eq (pc' := 108) (tgt := 120) dX14_isValid_105 (by decide) rfl (fun c107 => ?_) (fun c107 => ?_)
      · have hf := it c107 hf
        refine go_iconst (v := 0) (pc' := 121) dX14_isValid_120 rfl (by decide) ?_
        obtain rfl := Option.some.inj hf
        exact Go.ret (v := some (.int _)) dX14_isValid_121 ⟨_, rfl⟩ ⟨rfl, rfl, R⟩
      · have hf := ie c107 hf
        refine go_aload_n (i := 0) (pc' := 109) dX14_isValid_108 rfl rfl rfl ?_
        refine go_aload_n (i := 1) (pc' := 110) dX14_isValid_109 rfl rfl rfl ?_
        obtain ⟨v108, σ109, e110, hf⟩ := bd_some hf
        refine go_invV (As := [_]) (pc' := 113) dX14_isValid_110 rfl cf_X14_isValid_285 rfl (R.ob (R.at rfl (by decide))) rfl rfl (Nat.le_of_ble_eq_true rfl) (c_X14_isOnePiece R e110) (fun q111v h112 q111 => ?_)
        obtain ⟨rfl, R⟩ := q111
        refine go_if_eq (pc' := 116) (tgt := 120) dX14_isValid_113 (by decide) rfl (fun c113 => ?_) (fun c113 => ?_)
        · have hf := it c113 hf
          refine go_iconst (v := 0) (pc' := 121) dX14_isValid_120 rfl (by decide) ?_
          obtain rfl := Option.some.inj hf
          exact Go.ret (v := some (.int _)) dX14_isValid_121 ⟨_, rfl⟩ ⟨rfl, rfl, R⟩
        · have hf := ie c113 hf
          refine go_iconst (v := 1) (pc' := 117) dX14_isValid_116 rfl (by decide) ?_
          refine go_goto (pc' := 0) (tgt := 121) dX14_isValid_117 (by decide) ?_
          obtain rfl := Option.some.inj hf
          exact Go.ret (v := some (.int _)) dX14_isValid_121 ⟨_, rfl⟩ ⟨rfl, rfl, R⟩
    · have hf := ie c101 hf
      refine go_aload_n (i := 1) (pc' := 51) dX14_isValid_50 rfl rfl rfl ?_
      refine go_iload_n (i := 2) (pc' := 52) dX14_isValid_51 rfl rfl rfl ?_
      obtain ⟨v114, σ115, e116, hf⟩ := bd_some hf
      refine go_invV (As := [_]) (pc' := 55) dX14_isValid_52 rfl cf_X14_isValid_64 rfl (R.ob (g1.at R)) rfl rfl (Nat.le_of_ble_eq_true rfl) (c_X12_beginOf R e116) (fun q117v h118 q117 => ?_)
      obtain ⟨rfl, R⟩ := q117
      refine go_istore_nE rfl (i := 3) (pc' := 56) dX14_isValid_55 rfl rfl (by decide) rfl ?_
      refine go_aload_n (i := 1) (pc' := 57) dX14_isValid_56 rfl rfl rfl ?_
      refine go_getS (pc' := 60) dX14_isValid_57 rfl gf_LandBaseModel_68 R (g1.at R) (by decide) rfl ?_
      refine go_iload_n (i := 2) (pc' := 61) dX14_isValid_60 rfl rfl rfl ?_
      obtain ⟨g119, hf⟩ := gd_some hf
      refine go_ialoadS (pc' := 62) dX14_isValid_61 rfl R (g1.e R) g119 ?_
      refine go_iload_n (i := 3) (pc' := 63) dX14_isValid_62 rfl rfl rfl ?_
      refine go_isub (pc' := 64) dX14_isValid_63 rfl ?_
      refine go_iconst (v := 4) (pc' := 65) dX14_isValid_64 rfl (by decide) ?_
      refine go_icmp_lt (pc' := 68) (tgt := 92) dX14_isValid_65 (by decide) rfl (fun c120 => ?_) (fun c120 => ?_)
      · have hf := it c120 hf
        refine go_iconst (v := 0) (pc' := 93) dX14_isValid_92 rfl (by decide) ?_
        obtain rfl := Option.some.inj hf
        exact Go.ret (v := some (.int _)) dX14_isValid_93 ⟨_, rfl⟩ ⟨rfl, rfl, R⟩
      · have hf := ie c120 hf
        refine go_aload_n (i := 1) (pc' := 69) dX14_isValid_68 rfl rfl rfl ?_
        refine go_iload_n (i := 3) (pc' := 70) dX14_isValid_69 rfl rfl rfl ?_
        refine go_aload_n (i := 1) (pc' := 71) dX14_isValid_70 rfl rfl rfl ?_
        refine go_getS (pc' := 74) dX14_isValid_71 rfl gf_LandBaseModel_68 R (g1.at R) (by decide) rfl ?_
        refine go_iload_n (i := 2) (pc' := 75) dX14_isValid_74 rfl rfl rfl ?_
        obtain ⟨g121, hf⟩ := gd_some hf
        refine go_ialoadS (pc' := 76) dX14_isValid_75 rfl R (g1.e R) g121 ?_
        refine go_iconst (v := 1) (pc' := 77) dX14_isValid_76 rfl (by decide) ?_
        refine go_isub (pc' := 78) dX14_isValid_77 rfl ?_
        obtain ⟨v122, σ123, e124, hf⟩ := bd_some hf
        refine go_invV (As := [_, _]) (pc' := 81) dX14_isValid_78 rfl cf_X14_isValid_250 rfl (R.ob (g1.at R)) rfl rfl (Nat.le_of_ble_eq_true rfl) (c_X12_isLike R e124) (fun q125v h126 q125 => ?_)
        obtain ⟨rfl, R⟩ := q125
        refine go_if_eq (pc' := 84) (tgt := 92) dX14_isValid_81 (by decide) rfl (fun c127 => ?_) (fun c127 => ?_)
        · have hf := it c127 hf
          refine go_iconst (v := 0) (pc' := 93) dX14_isValid_92 rfl (by decide) ?_
          obtain rfl := Option.some.inj hf
          exact Go.ret (v := some (.int _)) dX14_isValid_93 ⟨_, rfl⟩ ⟨rfl, rfl, R⟩
        · have hf := ie c127 hf
          refine go_aload_n (i := 1) (pc' := 85) dX14_isValid_84 rfl rfl rfl ?_
          refine go_iload_n (i := 2) (pc' := 86) dX14_isValid_85 rfl rfl rfl ?_
          obtain ⟨v128, σ129, e130, hf⟩ := bd_some hf
          refine go_invS (As := [_, _]) (pc' := 89) dX14_isValid_86 rfl cf_X14_isValid_279 rfl rfl (Nat.le_of_ble_eq_true rfl) (c_X14_isSimple R e130) (fun q131v h132 q131 => ?_)
          obtain ⟨rfl, R⟩ := q131
          refine go_if_ne (pc' := 92) (tgt := 94) dX14_isValid_89 (by decide) rfl (fun c133 => ?_) (fun c133 => ?_)
          · have hf := ie c133 hf
            refine go_iincC (kk := 1) (pc' := 97) dX14_isValid_94 rfl rfl (by decide) (by decide) rfl ?_
            refine go_goto (pc' := 0) (tgt := 42) dX14_isValid_97 (by decide) ?_
            exact ih R g1 hf
          · have hf := it c133 hf
            refine go_iconst (v := 0) (pc' := 93) dX14_isValid_92 rfl (by decide) ?_
            obtain rfl := Option.some.inj hf
            exact Go.ret (v := some (.int _)) dX14_isValid_93 ⟨_, rfl⟩ ⟨rfl, rfl, R⟩
def f_X14_isValid (n : Nat) (a1 : Nat) (σ : xσ) : Option (Int32 × xσ) := gd (okM a1) (if (sI σ a1 1) = 0 then some (1, σ) else bd (f_X14_hasSteps n a1 σ) (fun v102 σ103 => if v102 = 0 then some (0, σ103) else if (sI σ103 a1 1) = 1 then if (sI σ103 a1 2) < 2 then some (0, σ103) else some (1, σ103) else l_X14_isValid_42 n xFU a1 0 σ103))
set_option maxRecDepth 100000 in
set_option maxHeartbeats 4000000 in
theorem c_X14_isValid {G : xG} {n : Nat} {σ : xσ} {h : xH} {a1 : Nat} {v1 : Int32} {σ1 : xσ} (R : Rl n σ h) (hf : f_X14_isValid n a1 σ = some (v1, σ1)) : Ca G mX14_isValid [.ref 233, .ref a1] h (fun v h' => v = some (.int v1) ∧ Rl n σ1 h') := by
  refine Ca.of rfl (Nat.le_of_ble_eq_true rfl) ?_
  generalize hr : (v1, σ1) = r at hf
  suffices q : Go G mX14_isValid 0 (xent (xMl mX14_isValid) [.ref 233, .ref a1]) [] h (fun v h' => xRok (xRt mX14_isValid) v ∧ v = some (.int r.1) ∧ Rl n r.2 h') by
    subst hr
    exact q
  clear hr
  rw [f_X14_isValid] at hf
  obtain ⟨g1, hf⟩ := gd_some hf
  refine go_aload_n (i := 1) (pc' := 1) dX14_isValid_0 rfl rfl rfl ?_
  refine go_getS (pc' := 4) dX14_isValid_1 rfl gf_LandBaseModel_75 R (g1.at R) (by decide) rfl ?_
  refine go_if_ne (pc' := 7) (tgt := 9) dX14_isValid_4 (by decide) rfl (fun c101 => ?_) (fun c101 => ?_)
  · have hf := ie c101 hf
    refine go_aload_n (i := 1) (pc' := 10) dX14_isValid_9 rfl rfl rfl ?_
    obtain ⟨v102, σ103, e104, hf⟩ := bd_some hf
    refine go_invS (As := [_]) (pc' := 13) dX14_isValid_10 rfl cf_X14_isValid_275 rfl rfl (Nat.le_of_ble_eq_true rfl) (c_X14_hasSteps R e104) (fun q105v h106 q105 => ?_)
    obtain ⟨rfl, R⟩ := q105
    refine go_if_ne (pc' := 16) (tgt := 18) dX14_isValid_13 (by decide) rfl (fun c107 => ?_) (fun c107 => ?_)
    · have hf := ie c107 hf
      refine go_aload_n (i := 1) (pc' := 19) dX14_isValid_18 rfl rfl rfl ?_
      refine go_getS (pc' := 22) dX14_isValid_19 rfl gf_LandBaseModel_75 R (g1.at R) (by decide) rfl ?_
      refine go_iconst (v := 1) (pc' := 23) dX14_isValid_22 rfl (by decide) ?_
      refine go_icmp_ne (pc' := 26) (tgt := 40) dX14_isValid_23 (by decide) rfl (fun c108 => ?_) (fun c108 => ?_)
      · have hf := ie c108 hf
        refine go_iconst (v := 0) (pc' := 41) dX14_isValid_40 rfl (by decide) ?_
        refine go_istore_nE rfl (i := 2) (pc' := 42) dX14_isValid_41 rfl rfl (by decide) rfl ?_
        exact t_X14_isValid_42 xFU R g1 hf
      · have hf := it c108 hf
        refine go_aload_n (i := 1) (pc' := 27) dX14_isValid_26 rfl rfl rfl ?_
        refine go_getS (pc' := 30) dX14_isValid_27 rfl gf_LandBaseModel_79 R (g1.at R) (by decide) rfl ?_
        refine go_iconst (v := 2) (pc' := 31) dX14_isValid_30 rfl (by decide) ?_
        refine go_icmp_lt (pc' := 34) (tgt := 38) dX14_isValid_31 (by decide) rfl (fun c109 => ?_) (fun c109 => ?_)
        · have hf := it c109 hf
          refine go_iconst (v := 0) (pc' := 39) dX14_isValid_38 rfl (by decide) ?_
          obtain rfl := Option.some.inj hf
          exact Go.ret (v := some (.int _)) dX14_isValid_39 ⟨_, rfl⟩ ⟨rfl, rfl, R⟩
        · have hf := ie c109 hf
          refine go_iconst (v := 1) (pc' := 35) dX14_isValid_34 rfl (by decide) ?_
          refine go_goto (pc' := 0) (tgt := 39) dX14_isValid_35 (by decide) ?_
          obtain rfl := Option.some.inj hf
          exact Go.ret (v := some (.int _)) dX14_isValid_39 ⟨_, rfl⟩ ⟨rfl, rfl, R⟩
    · have hf := it c107 hf
      refine go_iconst (v := 0) (pc' := 17) dX14_isValid_16 rfl (by decide) ?_
      obtain rfl := Option.some.inj hf
      exact Go.ret (v := some (.int _)) dX14_isValid_17 ⟨_, rfl⟩ ⟨rfl, rfl, R⟩
  · have hf := it c101 hf
    refine go_iconst (v := 1) (pc' := 8) dX14_isValid_7 rfl (by decide) ?_
    obtain rfl := Option.some.inj hf
    exact Go.ret (v := some (.int _)) dX14_isValid_8 ⟨_, rfl⟩ ⟨rfl, rfl, R⟩
def f_X14_compare__ (n : Nat) (a1 : Nat) (a2 : Nat) (σ : xσ) : Option (Int32 × xσ) := gd (okE a1) (gd (okE a2) (bd (f_X14_times n 236 (a1 + 1) (a2 + 2) σ) (fun v101 σ102 => bd (f_X14_times n 237 (a2 + 1) (a1 + 2) σ102) (fun v106 σ107 => bd (f_X14_compare n 236 237 σ107) (fun v111 σ112 => some (v111, σ112))))))
set_option maxRecDepth 100000 in
set_option maxHeartbeats 4000000 in
theorem c_X14_compare__ {G : xG} {n : Nat} {σ : xσ} {h : xH} {a1 : Nat} {a2 : Nat} {v1 : Int32} {σ1 : xσ} (R : Rl n σ h) (hf : f_X14_compare__ n a1 a2 σ = some (v1, σ1)) : Ca G mX14_compare__ [.ref 233, .ref a1, .ref a2] h (fun v h' => v = some (.int v1) ∧ Rl n σ1 h') := by
  refine Ca.of rfl (Nat.le_of_ble_eq_true rfl) ?_
  generalize hr : (v1, σ1) = r at hf
  suffices q : Go G mX14_compare__ 0 (xent (xMl mX14_compare__) [.ref 233, .ref a1, .ref a2]) [] h (fun v h' => xRok (xRt mX14_compare__) v ∧ v = some (.int r.1) ∧ Rl n r.2 h') by
    subst hr
    exact q
  clear hr
  rw [f_X14_compare__] at hf
  obtain ⟨g1, hf⟩ := gd_some hf
  obtain ⟨g2, hf⟩ := gd_some hf
  refine go_aload_n (i := 0) (pc' := 1) dX14_compare___0 rfl rfl rfl ?_
  refine go_getS (pc' := 4) dX14_compare___1 rfl gf_LandBaseModel_16 R (R.at rfl (by decide)) (by decide) rfl ?_
  refine go_aload_n (i := 1) (pc' := 5) dX14_compare___4 rfl rfl rfl ?_
  refine go_getS (pc' := 8) dX14_compare___5 rfl gf_LandBaseModel_288 R (g1.at R) (by decide) rfl ?_
  refine go_aload_n (i := 2) (pc' := 9) dX14_compare___8 rfl rfl rfl ?_
  refine go_getS (pc' := 12) dX14_compare___9 rfl gf_LandBaseModel_293 R (g2.at R) (by decide) rfl ?_
  obtain ⟨v101, σ102, e103, hf⟩ := bd_some hf
  refine go_invS (As := [_, _, _]) (pc' := 15) dX14_compare___12 rfl cf_X14_compare___19 rfl rfl (Nat.le_of_ble_eq_true rfl) (c_X14_times R e103) (fun q104v h105 q104 => ?_)
  obtain ⟨rfl, R⟩ := q104
  refine go_aload_n (i := 0) (pc' := 16) dX14_compare___15 rfl rfl rfl ?_
  refine go_getS (pc' := 19) dX14_compare___16 rfl gf_LandBaseModel_23 R (R.at rfl (by decide)) (by decide) rfl ?_
  refine go_aload_n (i := 2) (pc' := 20) dX14_compare___19 rfl rfl rfl ?_
  refine go_getS (pc' := 23) dX14_compare___20 rfl gf_LandBaseModel_288 R (g2.at R) (by decide) rfl ?_
  refine go_aload_n (i := 1) (pc' := 24) dX14_compare___23 rfl rfl rfl ?_
  refine go_getS (pc' := 27) dX14_compare___24 rfl gf_LandBaseModel_293 R (g1.at R) (by decide) rfl ?_
  obtain ⟨v106, σ107, e108, hf⟩ := bd_some hf
  refine go_invS (As := [_, _, _]) (pc' := 30) dX14_compare___27 rfl cf_X14_compare___19 rfl rfl (Nat.le_of_ble_eq_true rfl) (c_X14_times R e108) (fun q109v h110 q109 => ?_)
  obtain ⟨rfl, R⟩ := q109
  refine go_aload_n (i := 0) (pc' := 31) dX14_compare___30 rfl rfl rfl ?_
  refine go_getS (pc' := 34) dX14_compare___31 rfl gf_LandBaseModel_16 R (R.at rfl (by decide)) (by decide) rfl ?_
  refine go_aload_n (i := 0) (pc' := 35) dX14_compare___34 rfl rfl rfl ?_
  refine go_getS (pc' := 38) dX14_compare___35 rfl gf_LandBaseModel_23 R (R.at rfl (by decide)) (by decide) rfl ?_
  obtain ⟨v111, σ112, e113, hf⟩ := bd_some hf
  refine go_invS (As := [_, _]) (pc' := 41) dX14_compare___38 rfl cf_X14_compare___26 rfl rfl (Nat.le_of_ble_eq_true rfl) (c_X14_compare R e113) (fun q114v h115 q114 => ?_)
  obtain ⟨rfl, R⟩ := q114
  obtain rfl := Option.some.inj hf
  exact Go.ret (v := some (.int _)) dX14_compare___41 ⟨_, rfl⟩ ⟨rfl, rfl, R⟩
def f_X14_hereIs (n : Nat) (l1 : Int64) (l3 : Int64) (σ : xσ) : Option (Unit × xσ) := bd (f_X14_set n 251 l1 σ) (fun v101 σ102 => bd (f_X14_set n 252 l3 σ102) (fun v106 σ107 => some ((), σ107)))
set_option maxRecDepth 100000 in
set_option maxHeartbeats 4000000 in
theorem c_X14_hereIs {G : xG} {n : Nat} {σ : xσ} {h : xH} {l1 : Int64} {l3 : Int64} {v1 : Unit} {σ1 : xσ} (R : Rl n σ h) (hf : f_X14_hereIs n l1 l3 σ = some (v1, σ1)) : Ca G mX14_hereIs [.ref 233, .long l1, .long l3] h (fun v h' => v = none ∧ Rl n σ1 h') := by
  refine Ca.of rfl (Nat.le_of_ble_eq_true rfl) ?_
  generalize hr : (v1, σ1) = r at hf
  suffices q : Go G mX14_hereIs 0 (xent (xMl mX14_hereIs) [.ref 233, .long l1, .long l3]) [] h (fun v h' => xRok (xRt mX14_hereIs) v ∧ v = none ∧ Rl n r.2 h') by
    subst hr
    exact q
  clear hr
  rw [f_X14_hereIs] at hf
  refine go_aload_n (i := 0) (pc' := 1) dX14_hereIs_0 rfl rfl rfl ?_
  refine go_getS (pc' := 4) dX14_hereIs_1 rfl gf_LandBaseModel_296 R (R.at rfl (by decide)) (by decide) rfl ?_
  refine go_getS (pc' := 7) dX14_hereIs_4 rfl gf_LandBaseModel_288 R (R.at rfl (by decide)) (by decide) rfl ?_
  refine go_lload_n (i := 1) (pc' := 8) dX14_hereIs_7 rfl rfl rfl ?_
  obtain ⟨v101, σ102, e103, hf⟩ := bd_some hf
  refine go_invS (As := [_, _]) (pc' := 11) dX14_hereIs_8 rfl cf_X14_hereIs_9 rfl rfl (Nat.le_of_ble_eq_true rfl) (c_X14_set R e103) (fun q104v h105 q104 => ?_)
  obtain ⟨rfl, R⟩ := q104
  refine go_aload_n (i := 0) (pc' := 12) dX14_hereIs_11 rfl rfl rfl ?_
  refine go_getS (pc' := 15) dX14_hereIs_12 rfl gf_LandBaseModel_296 R (R.at rfl (by decide)) (by decide) rfl ?_
  refine go_getS (pc' := 18) dX14_hereIs_15 rfl gf_LandBaseModel_293 R (R.at rfl (by decide)) (by decide) rfl ?_
  refine go_lload_n (i := 3) (pc' := 19) dX14_hereIs_18 rfl rfl rfl ?_
  obtain ⟨v106, σ107, e108, hf⟩ := bd_some hf
  refine go_invS (As := [_, _]) (pc' := 22) dX14_hereIs_19 rfl cf_X14_hereIs_9 rfl rfl (Nat.le_of_ble_eq_true rfl) (c_X14_set R e108) (fun q109v h110 q109 => ?_)
  obtain ⟨rfl, R⟩ := q109
  obtain rfl := Option.some.inj hf
  exact Go.ret (v := none) dX14_hereIs_22 rfl ⟨trivial, rfl, R⟩
def f_X14_fromPoint (n : Nat) (l1 : Int64) (l3 : Int64) (σ : xσ) : Option (Unit × xσ) := bd (f_X14_dot n l1 l3 l1 l3 σ) (fun v101 σ102 => bd (f_X14_hereIs n v101 ((1 : Int64)) σ102) (fun v106 σ107 => some ((), σ107)))
set_option maxRecDepth 100000 in
set_option maxHeartbeats 4000000 in
theorem c_X14_fromPoint {G : xG} {n : Nat} {σ : xσ} {h : xH} {l1 : Int64} {l3 : Int64} {v1 : Unit} {σ1 : xσ} (R : Rl n σ h) (hf : f_X14_fromPoint n l1 l3 σ = some (v1, σ1)) : Ca G mX14_fromPoint [.ref 233, .long l1, .long l3] h (fun v h' => v = none ∧ Rl n σ1 h') := by
  refine Ca.of rfl (Nat.le_of_ble_eq_true rfl) ?_
  generalize hr : (v1, σ1) = r at hf
  suffices q : Go G mX14_fromPoint 0 (xent (xMl mX14_fromPoint) [.ref 233, .long l1, .long l3]) [] h (fun v h' => xRok (xRt mX14_fromPoint) v ∧ v = none ∧ Rl n r.2 h') by
    subst hr
    exact q
  clear hr
  rw [f_X14_fromPoint] at hf
  refine go_aload_n (i := 0) (pc' := 1) dX14_fromPoint_0 rfl rfl rfl ?_
  refine go_lload_n (i := 1) (pc' := 2) dX14_fromPoint_1 rfl rfl rfl ?_
  refine go_lload_n (i := 3) (pc' := 3) dX14_fromPoint_2 rfl rfl rfl ?_
  refine go_lload_n (i := 1) (pc' := 4) dX14_fromPoint_3 rfl rfl rfl ?_
  refine go_lload_n (i := 3) (pc' := 5) dX14_fromPoint_4 rfl rfl rfl ?_
  obtain ⟨v101, σ102, e103, hf⟩ := bd_some hf
  refine go_invS (As := [_, _, _, _]) (pc' := 8) dX14_fromPoint_5 rfl cf_X14_fromPoint_123 rfl rfl (Nat.le_of_ble_eq_true rfl) (c_X14_dot R e103) (fun q104v h105 q104 => ?_)
  obtain ⟨rfl, R⟩ := q104
  refine go_lconst (v := 1) (pc' := 9) dX14_fromPoint_8 rfl (by decide) ?_
  obtain ⟨v106, σ107, e108, hf⟩ := bd_some hf
  refine go_invV (As := [_, _]) (pc' := 12) dX14_fromPoint_9 rfl cf_X14_fromPoint_300 rfl (R.ob (R.at rfl (by decide))) rfl rfl (Nat.le_of_ble_eq_true rfl) (c_X14_hereIs R e108) (fun q109v h110 q109 => ?_)
  obtain ⟨rfl, R⟩ := q109
  obtain rfl := Option.some.inj hf
  exact Go.ret (v := none) dX14_fromPoint_12 rfl ⟨trivial, rfl, R⟩
def b_X14_fromWay_164 (n : Nat) (l15 : Int64) (ls0 : Int64) (σ : xσ) : Option (Unit × xσ) := bd (f_X14_set n 234 ls0 σ) (fun v101 σ102 => bd (f_X14_times n 251 234 234 σ102) (fun v106 σ107 => bd (f_X14_set n 252 l15 σ107) (fun v111 σ112 => some ((), σ112))))
set_option maxRecDepth 100000 in
set_option maxHeartbeats 4000000 in
theorem t_X14_fromWay_164 {G : xG} {n : Nat} {l15 : Int64} {ls0 : Int64} {σ : xσ} {h : xH} {r : Unit × xσ} {d1 : Option Value} {d2 : Option Value} {d3 : Option Value} {d4 : Option Value} {d5 : Option Value} {d6 : Option Value} {d7 : Option Value} {d8 : Option Value} {d9 : Option Value} {d10 : Option Value} {d11 : Option Value} {d12 : Option Value} {d13 : Option Value} {d14 : Option Value} {d17 : Option Value} {d18 : Option Value} : Rl n σ h → b_X14_fromWay_164 n l15 ls0 σ = some r → Go G mX14_fromWay 164 [some (.ref 233), d1, d2, d3, d4, d5, d6, d7, d8, d9, d10, d11, d12, d13, d14, some (.long l15), none, d17, d18] [.long ls0, .ref 234] h (fun v h' => xRok (xRt mX14_fromWay) v ∧ v = none ∧ Rl n r.2 h') := by
  intro R hf
  rw [b_X14_fromWay_164] at hf
  obtain ⟨v101, σ102, e103, hf⟩ := bd_some hf
  refine go_invS (As := [_, _]) (pc' := 167) dX14_fromWay_164 rfl cf_X14_fromWay_9 rfl rfl (Nat.le_of_ble_eq_true rfl) (c_X14_set R e103) (fun q104v h105 q104 => ?_)
  obtain ⟨rfl, R⟩ := q104
  refine go_aload_n (i := 0) (pc' := 168) dX14_fromWay_167 rfl rfl rfl ?_
  refine go_getS (pc' := 171) dX14_fromWay_168 rfl gf_LandBaseModel_296 R (R.at rfl (by decide)) (by decide) rfl ?_
  refine go_getS (pc' := 174) dX14_fromWay_171 rfl gf_LandBaseModel_288 R (R.at rfl (by decide)) (by decide) rfl ?_
  refine go_aload_n (i := 0) (pc' := 175) dX14_fromWay_174 rfl rfl rfl ?_
  refine go_getS (pc' := 178) dX14_fromWay_175 rfl gf_LandBaseModel_5 R (R.at rfl (by decide)) (by decide) rfl ?_
  refine go_aload_n (i := 0) (pc' := 179) dX14_fromWay_178 rfl rfl rfl ?_
  refine go_getS (pc' := 182) dX14_fromWay_179 rfl gf_LandBaseModel_5 R (R.at rfl (by decide)) (by decide) rfl ?_
  obtain ⟨v106, σ107, e108, hf⟩ := bd_some hf
  refine go_invS (As := [_, _, _]) (pc' := 185) dX14_fromWay_182 rfl cf_X14_fromWay_19 rfl rfl (Nat.le_of_ble_eq_true rfl) (c_X14_times R e108) (fun q109v h110 q109 => ?_)
  obtain ⟨rfl, R⟩ := q109
  refine go_aload_n (i := 0) (pc' := 186) dX14_fromWay_185 rfl rfl rfl ?_
  refine go_getS (pc' := 189) dX14_fromWay_186 rfl gf_LandBaseModel_296 R (R.at rfl (by decide)) (by decide) rfl ?_
  refine go_getS (pc' := 192) dX14_fromWay_189 rfl gf_LandBaseModel_293 R (R.at rfl (by decide)) (by decide) rfl ?_
  refine go_lload (pc' := 194) dX14_fromWay_192 rfl rfl ?_
  obtain ⟨v111, σ112, e113, hf⟩ := bd_some hf
  refine go_invS (As := [_, _]) (pc' := 197) dX14_fromWay_194 rfl cf_X14_fromWay_9 rfl rfl (Nat.le_of_ble_eq_true rfl) (c_X14_set R e113) (fun q114v h115 q114 => ?_)
  obtain ⟨rfl, R⟩ := q114
  obtain rfl := Option.some.inj hf
  exact Go.ret (v := none) dX14_fromWay_197 rfl ⟨trivial, rfl, R⟩
def f_X14_fromWay (n : Nat) (a1 : Nat) (x2 : Int32) (x3 : Int32) (x4 : Int32) (σ : xσ) : Option (Unit × xσ) := gd (okM a1) (gd (inb (x2 + 1) 40) (gd (inb x2 40) (st (((sI σ (a1 + 2) (x2 + 1).toNatClampNeg).toInt64) - ((sI σ (a1 + 2) x2.toNatClampNeg).toInt64)) (fun l103 => gd (inb (x2 + 1) 40) (gd (inb x2 40) (st (((sI σ (a1 + 3) (x2 + 1).toNatClampNeg).toInt64) - ((sI σ (a1 + 3) x2.toNatClampNeg).toInt64)) (fun l107 => gd (inb x2 40) (st ((x3.toInt64) - ((sI σ (a1 + 2) x2.toNatClampNeg).toInt64)) (fun l110 => gd (inb x2 40) (st ((x4.toInt64) - ((sI σ (a1 + 3) x2.toNatClampNeg).toInt64)) (fun l113 => bd (f_X14_dot n l103 l107 l110 l113 σ) (fun v115 σ116 => bd (f_X14_dot n l103 l107 l103 l107 σ116) (fun v120 σ121 => if 0 < (lg_cmp v115 ((0 : Int64))) then if (lg_cmp v115 v120) < 0 then bd (f_X14_cross n l103 l107 l110 l113 σ121) (fun v127 σ128 => if 0 ≤ (lg_cmp v127 ((0 : Int64))) then b_X14_fromWay_164 n v120 v127 σ128 else b_X14_fromWay_164 n v120 (-v127) σ128) else bd (f_X14_fromPoint n (l110 - l103) (l113 - l107) σ121) (fun v133 σ134 => some ((), σ134)) else bd (f_X14_fromPoint n l110 l113 σ121) (fun v138 σ139 => some ((), σ139)))))))))))))))
set_option maxRecDepth 100000 in
set_option maxHeartbeats 4000000 in
theorem c_X14_fromWay {G : xG} {n : Nat} {σ : xσ} {h : xH} {a1 : Nat} {x2 : Int32} {x3 : Int32} {x4 : Int32} {v1 : Unit} {σ1 : xσ} (R : Rl n σ h) (hf : f_X14_fromWay n a1 x2 x3 x4 σ = some (v1, σ1)) : Ca G mX14_fromWay [.ref 233, .ref a1, .int x2, .int x3, .int x4] h (fun v h' => v = none ∧ Rl n σ1 h') := by
  refine Ca.of rfl (Nat.le_of_ble_eq_true rfl) ?_
  generalize hr : (v1, σ1) = r at hf
  suffices q : Go G mX14_fromWay 0 (xent (xMl mX14_fromWay) [.ref 233, .ref a1, .int x2, .int x3, .int x4]) [] h (fun v h' => xRok (xRt mX14_fromWay) v ∧ v = none ∧ Rl n r.2 h') by
    subst hr
    exact q
  clear hr
  rw [f_X14_fromWay] at hf
  obtain ⟨g1, hf⟩ := gd_some hf
  refine go_aload_n (i := 1) (pc' := 1) dX14_fromWay_0 rfl rfl rfl ?_
  refine go_getS (pc' := 4) dX14_fromWay_1 rfl gf_LandBaseModel_30 R (g1.at R) (by decide) rfl ?_
  refine go_iload_n (i := 2) (pc' := 5) dX14_fromWay_4 rfl rfl rfl ?_
  refine go_iconst (v := 1) (pc' := 6) dX14_fromWay_5 rfl (by decide) ?_
  refine go_iadd (pc' := 7) dX14_fromWay_6 rfl ?_
  obtain ⟨g101, hf⟩ := gd_some hf
  refine go_ialoadS (pc' := 8) dX14_fromWay_7 rfl R (g1.x R) g101 ?_
  refine go_i2l (pc' := 9) dX14_fromWay_8 rfl rfl ?_
  refine go_aload_n (i := 1) (pc' := 10) dX14_fromWay_9 rfl rfl rfl ?_
  refine go_getS (pc' := 13) dX14_fromWay_10 rfl gf_LandBaseModel_30 R (g1.at R) (by decide) rfl ?_
  refine go_iload_n (i := 2) (pc' := 14) dX14_fromWay_13 rfl rfl rfl ?_
  obtain ⟨g102, hf⟩ := gd_some hf
  refine go_ialoadS (pc' := 15) dX14_fromWay_14 rfl R (g1.x R) g102 ?_
  refine go_i2l (pc' := 16) dX14_fromWay_15 rfl rfl ?_
  refine go_lsub (pc' := 17) dX14_fromWay_16 rfl ?_
  obtain ⟨l103, e104, hf⟩ := st_some hf
  refine go_lstoreE e104 (pc' := 19) dX14_fromWay_17 rfl (by decide) rfl ?_
  refine go_aload_n (i := 1) (pc' := 20) dX14_fromWay_19 rfl rfl rfl ?_
  refine go_getS (pc' := 23) dX14_fromWay_20 rfl gf_LandBaseModel_36 R (g1.at R) (by decide) rfl ?_
  refine go_iload_n (i := 2) (pc' := 24) dX14_fromWay_23 rfl rfl rfl ?_
  refine go_iconst (v := 1) (pc' := 25) dX14_fromWay_24 rfl (by decide) ?_
  refine go_iadd (pc' := 26) dX14_fromWay_25 rfl ?_
  obtain ⟨g105, hf⟩ := gd_some hf
  refine go_ialoadS (pc' := 27) dX14_fromWay_26 rfl R (g1.y R) g105 ?_
  refine go_i2l (pc' := 28) dX14_fromWay_27 rfl rfl ?_
  refine go_aload_n (i := 1) (pc' := 29) dX14_fromWay_28 rfl rfl rfl ?_
  refine go_getS (pc' := 32) dX14_fromWay_29 rfl gf_LandBaseModel_36 R (g1.at R) (by decide) rfl ?_
  refine go_iload_n (i := 2) (pc' := 33) dX14_fromWay_32 rfl rfl rfl ?_
  obtain ⟨g106, hf⟩ := gd_some hf
  refine go_ialoadS (pc' := 34) dX14_fromWay_33 rfl R (g1.y R) g106 ?_
  refine go_i2l (pc' := 35) dX14_fromWay_34 rfl rfl ?_
  refine go_lsub (pc' := 36) dX14_fromWay_35 rfl ?_
  obtain ⟨l107, e108, hf⟩ := st_some hf
  refine go_lstoreE e108 (pc' := 38) dX14_fromWay_36 rfl (by decide) rfl ?_
  refine go_iload_n (i := 3) (pc' := 39) dX14_fromWay_38 rfl rfl rfl ?_
  refine go_i2l (pc' := 40) dX14_fromWay_39 rfl rfl ?_
  refine go_aload_n (i := 1) (pc' := 41) dX14_fromWay_40 rfl rfl rfl ?_
  refine go_getS (pc' := 44) dX14_fromWay_41 rfl gf_LandBaseModel_30 R (g1.at R) (by decide) rfl ?_
  refine go_iload_n (i := 2) (pc' := 45) dX14_fromWay_44 rfl rfl rfl ?_
  obtain ⟨g109, hf⟩ := gd_some hf
  refine go_ialoadS (pc' := 46) dX14_fromWay_45 rfl R (g1.x R) g109 ?_
  refine go_i2l (pc' := 47) dX14_fromWay_46 rfl rfl ?_
  refine go_lsub (pc' := 48) dX14_fromWay_47 rfl ?_
  obtain ⟨l110, e111, hf⟩ := st_some hf
  refine go_lstoreE e111 (pc' := 50) dX14_fromWay_48 rfl (by decide) rfl ?_
  refine go_iload (pc' := 52) dX14_fromWay_50 rfl rfl ?_
  refine go_i2l (pc' := 53) dX14_fromWay_52 rfl rfl ?_
  refine go_aload_n (i := 1) (pc' := 54) dX14_fromWay_53 rfl rfl rfl ?_
  refine go_getS (pc' := 57) dX14_fromWay_54 rfl gf_LandBaseModel_36 R (g1.at R) (by decide) rfl ?_
  refine go_iload_n (i := 2) (pc' := 58) dX14_fromWay_57 rfl rfl rfl ?_
  obtain ⟨g112, hf⟩ := gd_some hf
  refine go_ialoadS (pc' := 59) dX14_fromWay_58 rfl R (g1.y R) g112 ?_
  refine go_i2l (pc' := 60) dX14_fromWay_59 rfl rfl ?_
  refine go_lsub (pc' := 61) dX14_fromWay_60 rfl ?_
  obtain ⟨l113, e114, hf⟩ := st_some hf
  refine go_lstoreE e114 (pc' := 63) dX14_fromWay_61 rfl (by decide) rfl ?_
  refine go_lload (pc' := 65) dX14_fromWay_63 rfl rfl ?_
  refine go_lload (pc' := 67) dX14_fromWay_65 rfl rfl ?_
  refine go_lload (pc' := 69) dX14_fromWay_67 rfl rfl ?_
  refine go_lload (pc' := 71) dX14_fromWay_69 rfl rfl ?_
  obtain ⟨v115, σ116, e117, hf⟩ := bd_some hf
  refine go_invS (As := [_, _, _, _]) (pc' := 74) dX14_fromWay_71 rfl cf_X14_fromWay_123 rfl rfl (Nat.le_of_ble_eq_true rfl) (c_X14_dot R e117) (fun q118v h119 q118 => ?_)
  obtain ⟨rfl, R⟩ := q118
  refine go_lstoreE rfl (pc' := 76) dX14_fromWay_74 rfl (by decide) rfl ?_
  refine go_lload (pc' := 78) dX14_fromWay_76 rfl rfl ?_
  refine go_lload (pc' := 80) dX14_fromWay_78 rfl rfl ?_
  refine go_lload (pc' := 82) dX14_fromWay_80 rfl rfl ?_
  refine go_lload (pc' := 84) dX14_fromWay_82 rfl rfl ?_
  obtain ⟨v120, σ121, e122, hf⟩ := bd_some hf
  refine go_invS (As := [_, _, _, _]) (pc' := 87) dX14_fromWay_84 rfl cf_X14_fromWay_123 rfl rfl (Nat.le_of_ble_eq_true rfl) (c_X14_dot R e122) (fun q123v h124 q123 => ?_)
  obtain ⟨rfl, R⟩ := q123
  refine go_lstoreE rfl (pc' := 89) dX14_fromWay_87 rfl (by decide) rfl ?_
  refine go_lload (pc' := 91) dX14_fromWay_89 rfl rfl ?_
  refine go_lconst (v := 0) (pc' := 92) dX14_fromWay_91 rfl (by decide) ?_
  refine go_lcmp (pc' := 93) dX14_fromWay_92 rfl ?_
  refine go_if_gt (pc' := 96) (tgt := 107) dX14_fromWay_93 (by decide) rfl (fun c125 => ?_) (fun c125 => ?_)
  · have hf := it c125 hf
    refine go_lload (pc' := 109) dX14_fromWay_107 rfl rfl ?_
    refine go_lload (pc' := 111) dX14_fromWay_109 rfl rfl ?_
    refine go_lcmp (pc' := 112) dX14_fromWay_111 rfl ?_
    refine go_if_lt (pc' := 115) (tgt := 132) dX14_fromWay_112 (by decide) rfl (fun c126 => ?_) (fun c126 => ?_)
    · have hf := it c126 hf
      refine go_lload (pc' := 134) dX14_fromWay_132 rfl rfl ?_
      refine go_lload (pc' := 136) dX14_fromWay_134 rfl rfl ?_
      refine go_lload (pc' := 138) dX14_fromWay_136 rfl rfl ?_
      refine go_lload (pc' := 140) dX14_fromWay_138 rfl rfl ?_
      obtain ⟨v127, σ128, e129, hf⟩ := bd_some hf
      refine go_invS (As := [_, _, _, _]) (pc' := 143) dX14_fromWay_140 rfl cf_X14_fromWay_39 rfl rfl (Nat.le_of_ble_eq_true rfl) (c_X14_cross R e129) (fun q130v h131 q130 => ?_)
      obtain ⟨rfl, R⟩ := q130
      refine go_lstoreE rfl (pc' := 145) dX14_fromWay_143 rfl (by decide) rfl ?_
      refine go_aload_n (i := 0) (pc' := 146) dX14_fromWay_145 rfl rfl rfl ?_
      refine go_getS (pc' := 149) dX14_fromWay_146 rfl gf_LandBaseModel_5 R (R.at rfl (by decide)) (by decide) rfl ?_
      refine go_lload (pc' := 151) dX14_fromWay_149 rfl rfl ?_
      refine go_lconst (v := 0) (pc' := 152) dX14_fromWay_151 rfl (by decide) ?_
      refine go_lcmp (pc' := 153) dX14_fromWay_152 rfl ?_
      refine go_if_ge (pc' := 156) (tgt := 162) dX14_fromWay_153 (by decide) rfl (fun c132 => ?_) (fun c132 => ?_)
      · have hf := it c132 hf
        refine go_lload (pc' := 164) dX14_fromWay_162 rfl rfl ?_
        exact t_X14_fromWay_164 R hf
      · have hf := ie c132 hf
        refine go_lload (pc' := 158) dX14_fromWay_156 rfl rfl ?_
        refine go_lneg (pc' := 159) dX14_fromWay_158 rfl ?_
        refine go_goto (pc' := 0) (tgt := 164) dX14_fromWay_159 (by decide) ?_
        exact t_X14_fromWay_164 R hf
    · have hf := ie c126 hf
      refine go_aload_n (i := 0) (pc' := 116) dX14_fromWay_115 rfl rfl rfl ?_
      refine go_lload (pc' := 118) dX14_fromWay_116 rfl rfl ?_
      refine go_lload (pc' := 120) dX14_fromWay_118 rfl rfl ?_
      refine go_lsub (pc' := 121) dX14_fromWay_120 rfl ?_
      refine go_lload (pc' := 123) dX14_fromWay_121 rfl rfl ?_
      refine go_lload (pc' := 125) dX14_fromWay_123 rfl rfl ?_
      refine go_lsub (pc' := 126) dX14_fromWay_125 rfl ?_
      obtain ⟨v133, σ134, e135, hf⟩ := bd_some hf
      refine go_invV (As := [_, _]) (pc' := 129) dX14_fromWay_126 rfl cf_X14_fromWay_304 rfl (R.ob (R.at rfl (by decide))) rfl rfl (Nat.le_of_ble_eq_true rfl) (c_X14_fromPoint R e135) (fun q136v h137 q136 => ?_)
      obtain ⟨rfl, R⟩ := q136
      refine go_goto (pc' := 0) (tgt := 197) dX14_fromWay_129 (by decide) ?_
      obtain rfl := Option.some.inj hf
      exact Go.ret (v := none) dX14_fromWay_197 rfl ⟨trivial, rfl, R⟩
  · have hf := ie c125 hf
    refine go_aload_n (i := 0) (pc' := 97) dX14_fromWay_96 rfl rfl rfl ?_
    refine go_lload (pc' := 99) dX14_fromWay_97 rfl rfl ?_
    refine go_lload (pc' := 101) dX14_fromWay_99 rfl rfl ?_
    obtain ⟨v138, σ139, e140, hf⟩ := bd_some hf
    refine go_invV (As := [_, _]) (pc' := 104) dX14_fromWay_101 rfl cf_X14_fromWay_304 rfl (R.ob (R.at rfl (by decide))) rfl rfl (Nat.le_of_ble_eq_true rfl) (c_X14_fromPoint R e140) (fun q141v h142 q141 => ?_)
    obtain ⟨rfl, R⟩ := q141
    refine go_goto (pc' := 0) (tgt := 197) dX14_fromWay_104 (by decide) ?_
    obtain rfl := Option.some.inj hf
    exact Go.ret (v := none) dX14_fromWay_197 rfl ⟨trivial, rfl, R⟩
def b_X14_distance_115 (n : Nat) (k61 : Nat → Int32 → Int32 → Nat → Int32 → xσ → Option (Unit × xσ)) (a1 : Nat) (x2 : Int32) (x3 : Int32) (a4 : Nat) (x5 : Int32) (σ : xσ) : Option (Unit × xσ) := k61 a1 x2 x3 a4 (x5 + 1) σ
set_option maxRecDepth 100000 in
set_option maxHeartbeats 4000000 in
theorem t_X14_distance_115 {G : xG} {n : Nat} {k61 : Nat → Int32 → Int32 → Nat → Int32 → xσ → Option (Unit × xσ)} (hk61 : ∀ {a1 : Nat} {x2 : Int32} {x3 : Int32} {a4 : Nat} {x5 : Int32} {σ : xσ} {h : xH} {r : Unit × xσ}, Rl n σ h → okM a1 → okE a4 → k61 a1 x2 x3 a4 x5 σ = some r → Go G mX14_distance 61 [some (.ref 233), some (.ref a1), some (.int x2), some (.int x3), some (.ref a4), some (.int x5)] [] h (fun v h' => xRok (xRt mX14_distance) v ∧ v = none ∧ Rl n r.2 h')) {a1 : Nat} {x2 : Int32} {x3 : Int32} {a4 : Nat} {x5 : Int32} {σ : xσ} {h : xH} {r : Unit × xσ} : Rl n σ h → okM a1 → okE a4 → b_X14_distance_115 n k61 a1 x2 x3 a4 x5 σ = some r → Go G mX14_distance 115 [some (.ref 233), some (.ref a1), some (.int x2), some (.int x3), some (.ref a4), some (.int x5)] [] h (fun v h' => xRok (xRt mX14_distance) v ∧ v = none ∧ Rl n r.2 h') := by
  intro R g1 g4 hf
  rw [b_X14_distance_115] at hf
  refine go_iincC (kk := 1) (pc' := 118) dX14_distance_115 rfl rfl (by decide) (by decide) rfl ?_
  refine go_goto (pc' := 0) (tgt := 61) dX14_distance_118 (by decide) ?_
  exact hk61 R g1 g4 hf
def l_X14_distance_61 (n : Nat) : Nat → Nat → Int32 → Int32 → Nat → Int32 → xσ → Option (Unit × xσ)
  | 0, _, _, _, _, _, _ => none
  | f + 1, a1, x2, x3, a4, x5, σ => if (sI σ a1 2) ≤ (x5 + 1) then some ((), σ) else bd (f_X12_isWay n a1 x5 σ) (fun v102 σ103 => if v102 = 0 then b_X14_distance_115 n (l_X14_distance_61 n f) a1 x2 x3 a4 x5 σ103 else bd (f_X14_fromWay n a1 x5 x2 x3 σ103) (fun v108 σ109 => bd (f_X14_compare__ n 250 a4 σ109) (fun v113 σ114 => if 0 ≤ v113 then (l_X14_distance_61 n f) a1 x2 x3 a4 (x5 + 1) σ114 else bd (f_X11_take n a4 250 σ114) (fun v119 σ120 => b_X14_distance_115 n (l_X14_distance_61 n f) a1 x2 x3 a4 x5 σ120))))
set_option maxRecDepth 100000 in
set_option maxHeartbeats 4000000 in
theorem t_X14_distance_61 {G : xG} {n : Nat} : ∀ (f : Nat) {a1 : Nat} {x2 : Int32} {x3 : Int32} {a4 : Nat} {x5 : Int32} {σ : xσ} {h : xH} {r : Unit × xσ}, Rl n σ h → okM a1 → okE a4 → l_X14_distance_61 n f a1 x2 x3 a4 x5 σ = some r → Go G mX14_distance 61 [some (.ref 233), some (.ref a1), some (.int x2), some (.int x3), some (.ref a4), some (.int x5)] [] h (fun v h' => xRok (xRt mX14_distance) v ∧ v = none ∧ Rl n r.2 h') := by
  intro f
  induction f with
  | zero =>
    intros
    rename _ = some _ => hf
    rw [l_X14_distance_61] at hf
    cases hf
  | succ f ih =>
    intro a1 x2 x3 a4 x5 σ h r  R g1 g4 hf
    rw [l_X14_distance_61] at hf
    refine go_iload (pc' := 63) dX14_distance_61 rfl rfl ?_
    refine go_iconst (v := 1) (pc' := 64) dX14_distance_63 rfl (by decide) ?_
    refine go_iadd (pc' := 65) dX14_distance_64 rfl ?_
    refine go_aload_n (i := 1) (pc' := 66) dX14_distance_65 rfl rfl rfl ?_
    refine go_getS (pc' := 69) dX14_distance_66 rfl gf_LandBaseModel_79 R (g1.at R) (by decide) rfl ?_
    refine go_icmp_ge (pc' := 72) (tgt := 121) dX14_distance_69 (by decide) rfl (fun c101 => ?_) (fun c101 => ?_)
    · have hf := it c101 hf
      obtain rfl := Option.some.inj hf
      exact Go.ret (v := none) dX14_distance_121 rfl ⟨trivial, rfl, R⟩
    · have hf := ie c101 hf
      refine go_aload_n (i := 1) (pc' := 73) dX14_distance_72 rfl rfl rfl ?_
      refine go_iload (pc' := 75) dX14_distance_73 rfl rfl ?_
      obtain ⟨v102, σ103, e104, hf⟩ := bd_some hf
      refine go_invV (As := [_]) (pc' := 78) dX14_distance_75 rfl cf_X14_distance_82 rfl (R.ob (g1.at R)) rfl rfl (Nat.le_of_ble_eq_true rfl) (c_X12_isWay R e104) (fun q105v h106 q105 => ?_)
      obtain ⟨rfl, R⟩ := q105
      refine go_if_ne (pc' := 81) (tgt := 84) dX14_distance_78 (by decide) rfl (fun c107 => ?_) (fun c107 => ?_)
      · have hf := ie c107 hf
        refine go_aload_n (i := 0) (pc' := 85) dX14_distance_84 rfl rfl rfl ?_
        refine go_aload_n (i := 1) (pc' := 86) dX14_distance_85 rfl rfl rfl ?_
        refine go_iload (pc' := 88) dX14_distance_86 rfl rfl ?_
        refine go_iload_n (i := 2) (pc' := 89) dX14_distance_88 rfl rfl rfl ?_
        refine go_iload_n (i := 3) (pc' := 90) dX14_distance_89 rfl rfl rfl ?_
        obtain ⟨v108, σ109, e110, hf⟩ := bd_some hf
        refine go_invV (As := [_, _, _, _]) (pc' := 93) dX14_distance_90 rfl cf_X14_distance_311 rfl (R.ob (R.at rfl (by decide))) rfl rfl (Nat.le_of_ble_eq_true rfl) (c_X14_fromWay R e110) (fun q111v h112 q111 => ?_)
        obtain ⟨rfl, R⟩ := q111
        refine go_aload_n (i := 0) (pc' := 94) dX14_distance_93 rfl rfl rfl ?_
        refine go_aload_n (i := 0) (pc' := 95) dX14_distance_94 rfl rfl rfl ?_
        refine go_getS (pc' := 98) dX14_distance_95 rfl gf_LandBaseModel_296 R (R.at rfl (by decide)) (by decide) rfl ?_
        refine go_aload (pc' := 100) dX14_distance_98 rfl rfl ?_
        obtain ⟨v113, σ114, e115, hf⟩ := bd_some hf
        refine go_invV (As := [_, _]) (pc' := 103) dX14_distance_100 rfl cf_X14_distance_315 rfl (R.ob (R.at rfl (by decide))) rfl rfl (Nat.le_of_ble_eq_true rfl) (c_X14_compare__ R e115) (fun q116v h117 q116 => ?_)
        obtain ⟨rfl, R⟩ := q116
        refine go_if_ge (pc' := 106) (tgt := 115) dX14_distance_103 (by decide) rfl (fun c118 => ?_) (fun c118 => ?_)
        · have hf := it c118 hf
          refine go_iincC (kk := 1) (pc' := 118) dX14_distance_115 rfl rfl (by decide) (by decide) rfl ?_
          refine go_goto (pc' := 0) (tgt := 61) dX14_distance_118 (by decide) ?_
          exact ih R g1 g4 hf
        · have hf := ie c118 hf
          refine go_aload (pc' := 108) dX14_distance_106 rfl rfl ?_
          refine go_aload_n (i := 0) (pc' := 109) dX14_distance_108 rfl rfl rfl ?_
          refine go_getS (pc' := 112) dX14_distance_109 rfl gf_LandBaseModel_296 R (R.at rfl (by decide)) (by decide) rfl ?_
          obtain ⟨v119, σ120, e121, hf⟩ := bd_some hf
          refine go_invV (As := [_]) (pc' := 115) dX14_distance_112 rfl cf_X14_distance_307 rfl (R.ob (g4.at R)) rfl rfl (Nat.le_of_ble_eq_true rfl) (c_X11_take R e121) (fun q122v h123 q122 => ?_)
          obtain ⟨rfl, R⟩ := q122
          exact t_X14_distance_115 @ih R g1 g4 hf
      · have hf := it c107 hf
        refine go_goto (pc' := 0) (tgt := 115) dX14_distance_81 (by decide) ?_
        exact t_X14_distance_115 @ih R g1 g4 hf
def f_X14_distance (n : Nat) (a1 : Nat) (x2 : Int32) (x3 : Int32) (a4 : Nat) (σ : xσ) : Option (Unit × xσ) := gd (okM a1) (gd (okE a4) (bd (f_X14_locate n a1 x2 x3 σ) (fun v101 σ102 => if v101 < 0 then gd (inb 0 40) (gd (inb 0 40) (bd (f_X14_fromPoint n ((x2.toInt64) - ((sI σ102 (a1 + 2) (0 : Int32).toNatClampNeg).toInt64)) ((x3.toInt64) - ((sI σ102 (a1 + 3) (0 : Int32).toNatClampNeg).toInt64)) σ102) (fun v109 σ110 => bd (f_X11_take n a4 250 σ110) (fun v114 σ115 => l_X14_distance_61 n xFU a1 x2 x3 a4 0 σ115)))) else bd (f_X14_hereIs n ((0 : Int64)) ((1 : Int64)) σ102) (fun v119 σ120 => bd (f_X11_take n a4 250 σ120) (fun v124 σ125 => some ((), σ125))))))
set_option maxRecDepth 100000 in
set_option maxHeartbeats 4000000 in
theorem c_X14_distance {G : xG} {n : Nat} {σ : xσ} {h : xH} {a1 : Nat} {x2 : Int32} {x3 : Int32} {a4 : Nat} {v1 : Unit} {σ1 : xσ} (R : Rl n σ h) (hf : f_X14_distance n a1 x2 x3 a4 σ = some (v1, σ1)) : Ca G mX14_distance [.ref 233, .ref a1, .int x2, .int x3, .ref a4] h (fun v h' => v = none ∧ Rl n σ1 h') := by
  refine Ca.of rfl (Nat.le_of_ble_eq_true rfl) ?_
  generalize hr : (v1, σ1) = r at hf
  suffices q : Go G mX14_distance 0 (xent (xMl mX14_distance) [.ref 233, .ref a1, .int x2, .int x3, .ref a4]) [] h (fun v h' => xRok (xRt mX14_distance) v ∧ v = none ∧ Rl n r.2 h') by
    subst hr
    exact q
  clear hr
  rw [f_X14_distance] at hf
  obtain ⟨g1, hf⟩ := gd_some hf
  obtain ⟨g4, hf⟩ := gd_some hf
  refine go_aload_n (i := 1) (pc' := 1) dX14_distance_0 rfl rfl rfl ?_
  refine go_iload_n (i := 2) (pc' := 2) dX14_distance_1 rfl rfl rfl ?_
  refine go_iload_n (i := 3) (pc' := 3) dX14_distance_2 rfl rfl rfl ?_
  obtain ⟨v101, σ102, e103, hf⟩ := bd_some hf
  refine go_invS (As := [_, _, _]) (pc' := 6) dX14_distance_3 rfl cf_X14_distance_197 rfl rfl (Nat.le_of_ble_eq_true rfl) (c_X14_locate R e103) (fun q104v h105 q104 => ?_)
  obtain ⟨rfl, R⟩ := q104
  refine go_if_lt (pc' := 9) (tgt := 25) dX14_distance_6 (by decide) rfl (fun c106 => ?_) (fun c106 => ?_)
  · have hf := it c106 hf
    refine go_aload_n (i := 0) (pc' := 26) dX14_distance_25 rfl rfl rfl ?_
    refine go_iload_n (i := 2) (pc' := 27) dX14_distance_26 rfl rfl rfl ?_
    refine go_i2l (pc' := 28) dX14_distance_27 rfl rfl ?_
    refine go_aload_n (i := 1) (pc' := 29) dX14_distance_28 rfl rfl rfl ?_
    refine go_getS (pc' := 32) dX14_distance_29 rfl gf_LandBaseModel_30 R (g1.at R) (by decide) rfl ?_
    refine go_iconst (v := 0) (pc' := 33) dX14_distance_32 rfl (by decide) ?_
    obtain ⟨g107, hf⟩ := gd_some hf
    refine go_ialoadS (pc' := 34) dX14_distance_33 rfl R (g1.x R) g107 ?_
    refine go_i2l (pc' := 35) dX14_distance_34 rfl rfl ?_
    refine go_lsub (pc' := 36) dX14_distance_35 rfl ?_
    refine go_iload_n (i := 3) (pc' := 37) dX14_distance_36 rfl rfl rfl ?_
    refine go_i2l (pc' := 38) dX14_distance_37 rfl rfl ?_
    refine go_aload_n (i := 1) (pc' := 39) dX14_distance_38 rfl rfl rfl ?_
    refine go_getS (pc' := 42) dX14_distance_39 rfl gf_LandBaseModel_36 R (g1.at R) (by decide) rfl ?_
    refine go_iconst (v := 0) (pc' := 43) dX14_distance_42 rfl (by decide) ?_
    obtain ⟨g108, hf⟩ := gd_some hf
    refine go_ialoadS (pc' := 44) dX14_distance_43 rfl R (g1.y R) g108 ?_
    refine go_i2l (pc' := 45) dX14_distance_44 rfl rfl ?_
    refine go_lsub (pc' := 46) dX14_distance_45 rfl ?_
    obtain ⟨v109, σ110, e111, hf⟩ := bd_some hf
    refine go_invV (As := [_, _]) (pc' := 49) dX14_distance_46 rfl cf_X14_distance_304 rfl (R.ob (R.at rfl (by decide))) rfl rfl (Nat.le_of_ble_eq_true rfl) (c_X14_fromPoint R e111) (fun q112v h113 q112 => ?_)
    obtain ⟨rfl, R⟩ := q112
    refine go_aload (pc' := 51) dX14_distance_49 rfl rfl ?_
    refine go_aload_n (i := 0) (pc' := 52) dX14_distance_51 rfl rfl rfl ?_
    refine go_getS (pc' := 55) dX14_distance_52 rfl gf_LandBaseModel_296 R (R.at rfl (by decide)) (by decide) rfl ?_
    obtain ⟨v114, σ115, e116, hf⟩ := bd_some hf
    refine go_invV (As := [_]) (pc' := 58) dX14_distance_55 rfl cf_X14_distance_307 rfl (R.ob (g4.at R)) rfl rfl (Nat.le_of_ble_eq_true rfl) (c_X11_take R e116) (fun q117v h118 q117 => ?_)
    obtain ⟨rfl, R⟩ := q117
    refine go_iconst (v := 0) (pc' := 59) dX14_distance_58 rfl (by decide) ?_
    refine go_istoreE rfl (pc' := 61) dX14_distance_59 rfl (by decide) rfl ?_
    exact t_X14_distance_61 xFU R g1 g4 hf
  · have hf := ie c106 hf
    refine go_aload_n (i := 0) (pc' := 10) dX14_distance_9 rfl rfl rfl ?_
    refine go_lconst (v := 0) (pc' := 11) dX14_distance_10 rfl (by decide) ?_
    refine go_lconst (v := 1) (pc' := 12) dX14_distance_11 rfl (by decide) ?_
    obtain ⟨v119, σ120, e121, hf⟩ := bd_some hf
    refine go_invV (As := [_, _]) (pc' := 15) dX14_distance_12 rfl cf_X14_distance_300 rfl (R.ob (R.at rfl (by decide))) rfl rfl (Nat.le_of_ble_eq_true rfl) (c_X14_hereIs R e121) (fun q122v h123 q122 => ?_)
    obtain ⟨rfl, R⟩ := q122
    refine go_aload (pc' := 17) dX14_distance_15 rfl rfl ?_
    refine go_aload_n (i := 0) (pc' := 18) dX14_distance_17 rfl rfl rfl ?_
    refine go_getS (pc' := 21) dX14_distance_18 rfl gf_LandBaseModel_296 R (R.at rfl (by decide)) (by decide) rfl ?_
    obtain ⟨v124, σ125, e126, hf⟩ := bd_some hf
    refine go_invV (As := [_]) (pc' := 24) dX14_distance_21 rfl cf_X14_distance_307 rfl (R.ob (g4.at R)) rfl rfl (Nat.le_of_ble_eq_true rfl) (c_X11_take R e126) (fun q127v h128 q127 => ?_)
    obtain ⟨rfl, R⟩ := q127
    obtain rfl := Option.some.inj hf
    exact Go.ret (v := none) dX14_distance_24 rfl ⟨trivial, rfl, R⟩
def f_X14_fall (n : Nat)  (σ : xσ) : Option (Unit × xσ) := st (wI σ 233 33 1) (fun σ101 => st (wI σ101 233 32 0) (fun σ104 => st (wI σ104 233 37 ((-1))) (fun σ107 => some ((), σ107))))
set_option maxRecDepth 100000 in
set_option maxHeartbeats 4000000 in
theorem c_X14_fall {G : xG} {n : Nat} {σ : xσ} {h : xH}  {v1 : Unit} {σ1 : xσ} (R : Rl n σ h) (hf : f_X14_fall n σ = some (v1, σ1)) : Ca G mX14_fall [.ref 233] h (fun v h' => v = none ∧ Rl n σ1 h') := by
  refine Ca.of rfl (Nat.le_of_ble_eq_true rfl) ?_
  generalize hr : (v1, σ1) = r at hf
  suffices q : Go G mX14_fall 0 (xent (xMl mX14_fall) [.ref 233]) [] h (fun v h' => xRok (xRt mX14_fall) v ∧ v = none ∧ Rl n r.2 h') by
    subst hr
    exact q
  clear hr
  rw [f_X14_fall] at hf
  refine go_aload_n (i := 0) (pc' := 1) dX14_fall_0 rfl rfl rfl ?_
  refine go_iconst (v := 1) (pc' := 2) dX14_fall_1 rfl (by decide) ?_
  obtain ⟨σ101, e102, hf⟩ := st_some hf
  refine go_putI (pc' := 5) dX14_fall_2 rfl pf_LandBaseModel_318 R (R.at rfl (by decide)) (by decide) rfl rfl rfl (fun h103 R => ?_)
  have R := Rl.cast e102 R
  refine go_aload_n (i := 0) (pc' := 6) dX14_fall_5 rfl rfl rfl ?_
  refine go_iconst (v := 0) (pc' := 7) dX14_fall_6 rfl (by decide) ?_
  obtain ⟨σ104, e105, hf⟩ := st_some hf
  refine go_putI (pc' := 10) dX14_fall_7 rfl pf_LandBaseModel_321 R (R.at rfl (by decide)) (by decide) rfl rfl rfl (fun h106 R => ?_)
  have R := Rl.cast e105 R
  refine go_aload_n (i := 0) (pc' := 11) dX14_fall_10 rfl rfl rfl ?_
  refine go_iconst (v := (-1)) (pc' := 12) dX14_fall_11 rfl (by decide) ?_
  obtain ⟨σ107, e108, hf⟩ := st_some hf
  refine go_putI (pc' := 15) dX14_fall_12 rfl pf_LandBaseModel_323 R (R.at rfl (by decide)) (by decide) rfl rfl rfl (fun h109 R => ?_)
  have R := Rl.cast e108 R
  obtain rfl := Option.some.inj hf
  exact Go.ret (v := none) dX14_fall_15 rfl ⟨trivial, rfl, R⟩
def f_X14_isBlockWritten (n : Nat)  (σ : xσ) : Option (Int32 × xσ) := if (sI σ 233 37) = 0 then st (wI σ 233 38 ((sI σ 233 38) - 1)) (fun σ102 => if (sI σ102 233 38) ≤ 0 then bd (f_X14_fall n σ102) (fun v106 σ107 => some (0, σ107)) else some (1, σ102)) else some (1, σ)
set_option maxRecDepth 100000 in
set_option maxHeartbeats 4000000 in
theorem c_X14_isBlockWritten {G : xG} {n : Nat} {σ : xσ} {h : xH}  {v1 : Int32} {σ1 : xσ} (R : Rl n σ h) (hf : f_X14_isBlockWritten n σ = some (v1, σ1)) : Ca G mX14_isBlockWritten [.ref 233] h (fun v h' => v = some (.int v1) ∧ Rl n σ1 h') := by
  refine Ca.of rfl (Nat.le_of_ble_eq_true rfl) ?_
  generalize hr : (v1, σ1) = r at hf
  suffices q : Go G mX14_isBlockWritten 0 (xent (xMl mX14_isBlockWritten) [.ref 233]) [] h (fun v h' => xRok (xRt mX14_isBlockWritten) v ∧ v = some (.int r.1) ∧ Rl n r.2 h') by
    subst hr
    exact q
  clear hr
  rw [f_X14_isBlockWritten] at hf
  refine go_aload_n (i := 0) (pc' := 1) dX14_isBlockWritten_0 rfl rfl rfl ?_
  refine go_getS (pc' := 4) dX14_isBlockWritten_1 rfl gf_LandBaseModel_323 R (R.at rfl (by decide)) (by decide) rfl ?_
  refine go_if_eq (pc' := 7) (tgt := 9) dX14_isBlockWritten_4 (by decide) rfl (fun c101 => ?_) (fun c101 => ?_)
  · have hf := it c101 hf
    refine go_aload_n (i := 0) (pc' := 10) dX14_isBlockWritten_9 rfl rfl rfl ?_
    refine go_dup (pc' := 11) dX14_isBlockWritten_10 rfl rfl ?_
    refine go_getS (pc' := 14) dX14_isBlockWritten_11 rfl gf_LandBaseModel_326 R (R.at rfl (by decide)) (by decide) rfl ?_
    refine go_iconst (v := 1) (pc' := 15) dX14_isBlockWritten_14 rfl (by decide) ?_
    refine go_isub (pc' := 16) dX14_isBlockWritten_15 rfl ?_
    obtain ⟨σ102, e103, hf⟩ := st_some hf
    refine go_putI (pc' := 19) dX14_isBlockWritten_16 rfl pf_LandBaseModel_326 R (R.at rfl (by decide)) (by decide) rfl rfl rfl (fun h104 R => ?_)
    have R := Rl.cast e103 R
    refine go_aload_n (i := 0) (pc' := 20) dX14_isBlockWritten_19 rfl rfl rfl ?_
    refine go_getS (pc' := 23) dX14_isBlockWritten_20 rfl gf_LandBaseModel_326 R (R.at rfl (by decide)) (by decide) rfl ?_
    refine go_if_le (pc' := 26) (tgt := 28) dX14_isBlockWritten_23 (by decide) rfl (fun c105 => ?_) (fun c105 => ?_)
    · have hf := it c105 hf
      refine go_aload_n (i := 0) (pc' := 29) dX14_isBlockWritten_28 rfl rfl rfl ?_
      obtain ⟨v106, σ107, e108, hf⟩ := bd_some hf
      refine go_invV (As := []) (pc' := 32) dX14_isBlockWritten_29 rfl cf_X14_isBlockWritten_329 rfl (R.ob (R.at rfl (by decide))) rfl rfl (Nat.le_of_ble_eq_true rfl) (c_X14_fall R e108) (fun q109v h110 q109 => ?_)
      obtain ⟨rfl, R⟩ := q109
      refine go_iconst (v := 0) (pc' := 33) dX14_isBlockWritten_32 rfl (by decide) ?_
      obtain rfl := Option.some.inj hf
      exact Go.ret (v := some (.int _)) dX14_isBlockWritten_33 ⟨_, rfl⟩ ⟨rfl, rfl, R⟩
    · have hf := ie c105 hf
      refine go_iconst (v := 1) (pc' := 27) dX14_isBlockWritten_26 rfl (by decide) ?_
      obtain rfl := Option.some.inj hf
      exact Go.ret (v := some (.int _)) dX14_isBlockWritten_27 ⟨_, rfl⟩ ⟨rfl, rfl, R⟩
  · have hf := ie c101 hf
    refine go_iconst (v := 1) (pc' := 8) dX14_isBlockWritten_7 rfl (by decide) ?_
    obtain rfl := Option.some.inj hf
    exact Go.ret (v := some (.int _)) dX14_isBlockWritten_8 ⟨_, rfl⟩ ⟨rfl, rfl, R⟩
def f_X14_isSaved (n : Nat)  (σ : xσ) : Option (Int32 × xσ) := if (sI σ 233 37) = 1 then bd (f_X14_fall n σ) (fun v108 σ109 => some (0, σ109)) else st (wI σ 233 35 0) (fun σ102 => st (wI σ102 233 36 ((sI σ102 233 36) + 1)) (fun σ105 => some (1, σ105)))
set_option maxRecDepth 100000 in
set_option maxHeartbeats 4000000 in
theorem c_X14_isSaved {G : xG} {n : Nat} {σ : xσ} {h : xH}  {v1 : Int32} {σ1 : xσ} (R : Rl n σ h) (hf : f_X14_isSaved n σ = some (v1, σ1)) : Ca G mX14_isSaved [.ref 233] h (fun v h' => v = some (.int v1) ∧ Rl n σ1 h') := by
  refine Ca.of rfl (Nat.le_of_ble_eq_true rfl) ?_
  generalize hr : (v1, σ1) = r at hf
  suffices q : Go G mX14_isSaved 0 (xent (xMl mX14_isSaved) [.ref 233]) [] h (fun v h' => xRok (xRt mX14_isSaved) v ∧ v = some (.int r.1) ∧ Rl n r.2 h') by
    subst hr
    exact q
  clear hr
  rw [f_X14_isSaved] at hf
  refine go_aload_n (i := 0) (pc' := 1) dX14_isSaved_0 rfl rfl rfl ?_
  refine go_getS (pc' := 4) dX14_isSaved_1 rfl gf_LandBaseModel_323 R (R.at rfl (by decide)) (by decide) rfl ?_
  refine go_iconst (v := 1) (pc' := 5) dX14_isSaved_4 rfl (by decide) ?_
  refine go_icmp_ne (pc' := 8) (tgt := 14) dX14_isSaved_5 (by decide) rfl (fun c101 => ?_) (fun c101 => ?_)
  · have hf := ie c101 hf
    refine go_aload_n (i := 0) (pc' := 15) dX14_isSaved_14 rfl rfl rfl ?_
    refine go_iconst (v := 0) (pc' := 16) dX14_isSaved_15 rfl (by decide) ?_
    obtain ⟨σ102, e103, hf⟩ := st_some hf
    refine go_putI (pc' := 19) dX14_isSaved_16 rfl pf_LandBaseModel_332 R (R.at rfl (by decide)) (by decide) rfl rfl rfl (fun h104 R => ?_)
    have R := Rl.cast e103 R
    refine go_aload_n (i := 0) (pc' := 20) dX14_isSaved_19 rfl rfl rfl ?_
    refine go_dup (pc' := 21) dX14_isSaved_20 rfl rfl ?_
    refine go_getS (pc' := 24) dX14_isSaved_21 rfl gf_LandBaseModel_335 R (R.at rfl (by decide)) (by decide) rfl ?_
    refine go_iconst (v := 1) (pc' := 25) dX14_isSaved_24 rfl (by decide) ?_
    refine go_iadd (pc' := 26) dX14_isSaved_25 rfl ?_
    obtain ⟨σ105, e106, hf⟩ := st_some hf
    refine go_putI (pc' := 29) dX14_isSaved_26 rfl pf_LandBaseModel_335 R (R.at rfl (by decide)) (by decide) rfl rfl rfl (fun h107 R => ?_)
    have R := Rl.cast e106 R
    refine go_iconst (v := 1) (pc' := 30) dX14_isSaved_29 rfl (by decide) ?_
    obtain rfl := Option.some.inj hf
    exact Go.ret (v := some (.int _)) dX14_isSaved_30 ⟨_, rfl⟩ ⟨rfl, rfl, R⟩
  · have hf := it c101 hf
    refine go_aload_n (i := 0) (pc' := 9) dX14_isSaved_8 rfl rfl rfl ?_
    obtain ⟨v108, σ109, e110, hf⟩ := bd_some hf
    refine go_invV (As := []) (pc' := 12) dX14_isSaved_9 rfl cf_X14_isSaved_329 rfl (R.ob (R.at rfl (by decide))) rfl rfl (Nat.le_of_ble_eq_true rfl) (c_X14_fall R e110) (fun q111v h112 q111 => ?_)
    obtain ⟨rfl, R⟩ := q111
    refine go_iconst (v := 0) (pc' := 13) dX14_isSaved_12 rfl (by decide) ?_
    obtain rfl := Option.some.inj hf
    exact Go.ret (v := some (.int _)) dX14_isSaved_13 ⟨_, rfl⟩ ⟨rfl, rfl, R⟩

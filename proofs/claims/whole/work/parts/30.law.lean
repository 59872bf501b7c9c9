/-! THE LAW'S BODY, over what the calls do -/
theorem go_scrlen {G : xG} {M : xM} {pc pc' : Nat} {L : xL} {S : List Value} {h : xH} {P : Option Value → xH → Prop} (d : decode (xBy M) pc = .ok (.arraylength, 1)) (e : pc + 1 = pc') (k : Go G M pc' L (.int (nI (gN G)) :: S) h P) : Go G M pc L (.retAddr 99 :: S) h P :=
  k.go (fun _ _ _ _ _ _ _ _ _ _ _ _ _ _ _ X hH hS hL w => by
    subst e
    have hX := X.2.2.2.2.2.2.1.2.2.2.2
    have hbl : gX G 99 < gB G := by obtain ⟨scr, h1, -⟩ := hX; exact (Array.getElem?_eq_some_iff.mp h1).1
    exact va_slen X.1 X.2.1 hX hbl (fun q => Nat.not_le.mpr hbl q) hS d (w _ hL))
theorem go_sld {G : xG} {M : xM} {pc pc' : Nat} {L : xL} {S : List Value} {h : xH} {P : Option Value → xH → Prop} {i : Int32} (j : Nat) (d : decode (xBy M) pc = .ok (.iaload, 1)) (e : pc + 1 = pc') (hi : i = nI j) (hj : j < gN G) (hN : gN G < 2 ^ 31) (k : Go G M pc' L (.int (gS G j) :: S) h P) : Go G M pc L (.int i :: .retAddr 99 :: S) h P :=
  k.go (fun _ _ _ _ _ _ _ _ _ _ _ _ _ _ _ X hH hS hL w => by
    subst e; subst hi
    have hX := X.2.2.2.2.2.2.1.2.2.2.2
    have hbl : gX G 99 < gB G := by obtain ⟨scr, h1, -⟩ := hX; exact (Array.getElem?_eq_some_iff.mp h1).1
    refine va_sld X.1 X.2.1 hX hbl (fun q => Nat.not_le.mpr hbl q) hS (vp_in_nI hj hN) d ?_
    rw [nI_clamp (by omega)]
    exact w _ hL)
/-- one call of the system and the same of the reference: they answer alike -/
def Pr (G : xG) (Mc Mr : xM) (As : List Value) (J : xH → Prop) (h : xH) : Prop := Ca G Mc (.ref 0 :: As) h (fun v h1 => ∃ x F, v = some (.int x) ∧ h1.2 233 = some (.inr (13, mkF F 58)) ∧ Ca G Mr (.ref 233 :: As) h1 (fun v2 h2 => v2 = some (.int x) ∧ J h2))
/-- what each call owes, from the n-th state on -/
def Ow (G : xG) (I J : xH → Prop) : Prop :=
  (∀ h, I h → ∀ (a b c d e : Int64), Pr G mX10_feed mX14_feed [.long a, .long b, .long c, .long d, .long e] J h) ∧
  (∀ h, I h → ∀ (a : Int32), Pr G mX10_end mX14_end [.int a] J h) ∧
  (∀ h, I h → Pr G mX10_run mX14_run [] J h) ∧
  (∀ h, I h → Pr G mX10_wrong mX14_wrong [] J h) ∧
  (∀ h, I h → Pr G mX10_outputs mX14_outputs [] J h) ∧
  (∀ h, I h → ∀ (a : Int32), Pr G mX10_out mX14_out [.int a] J h) ∧
  (∀ h, I h → ∀ (a b c : Int32), Pr G mX10_crash mX14_crash [.int a, .int b, .int c] J h) ∧
  (∀ h, I h → Pr G mX10_recover mX14_recover [] J h) ∧
  (∀ h, I h → Pr G mX10_isDown mX14_isDown [] J h) ∧
  (∀ h, I h → Pr G mX10_isOpen mX14_isOpen [] J h) ∧
  (∀ h, I h → Pr G mX10_live mX14_live [] J h) ∧
  (∀ h, I h → ∀ (a : Int32), Pr G mX10_idAt mX14_idAt [.int a] J h) ∧
  (∀ h, I h → ∀ (a : Int32), Pr G mX10_kindOf mX14_kindOf [.int a] J h) ∧
  (∀ h, I h → ∀ (a : Int32), Pr G mX10_places mX14_places [.int a] J h) ∧
  (∀ h, I h → ∀ (a : Int32), Pr G mX10_rings mX14_rings [.int a] J h) ∧
  (∀ h, I h → ∀ (a b c : Int32), Pr G mX10_at mX14_at [.int a, .int b, .int c] J h) ∧
  (∀ h, I h → ∀ (a b c : Int32), Pr G mX10_relate mX14_relate [.int a, .int b, .int c] J h) ∧
  (∀ h, I h → ∀ (a b c d : Int32), Pr G mX10_nearer mX14_nearer [.int a, .int b, .int c, .int d] J h) ∧
  (∀ h, I h → Pr G mX10_used mX14_used [] J h) ∧
  (∀ h, I h → Pr G mX10_saves mX14_saves [] J h) ∧
  (∀ h, I h → Pr G mX10_flaws mX14_flaws [] J h)
set_option maxRecDepth 100000 in
theorem law_feed {G : xG} {I J : xH → Prop} {n : Nat} {h : xH} {P : Option Value → xH → Prop} (hn : 11 * n + 11 ≤ gN G) (hN : gN G ≤ 5632) (h0 : ∃ fs, h.2 0 = some (.inr (9, fs))) (hO : Ow G I J) (hI : I h) (k : ∀ h', J h' → Go G mL_law 805 [some (.retAddr 99), some (.ref 0), some (.ref 233), some (.int (nI (11 * n)))] [] h' P) : Go G mL_law 132 [some (.retAddr 99), some (.ref 0), some (.ref 233), some (.int (nI (11 * n)))] [] h P := by
  obtain ⟨o0, o1, o2, o3, o4, o5, o6, o7, o8, o9, o10, o11, o12, o13, o14, o15, o16, o17, o18, o19, o20⟩ := hO
  obtain ⟨fs, h0⟩ := h0
  first | refine go_aload_n (i := 1) (pc' := 133) dL_law_132 rfl rfl rfl ?_ | refine go_aloadX_n (i := 1) (pc' := 133) dL_law_132 rfl rfl rfl ?_ | refine go_aload_nN (i := 1) (pc' := 133) dL_law_132 rfl rfl rfl ?_
  first | refine go_aload_n (i := 0) (pc' := 134) dL_law_133 rfl rfl rfl ?_ | refine go_aloadX_n (i := 0) (pc' := 134) dL_law_133 rfl rfl rfl ?_ | refine go_aload_nN (i := 0) (pc' := 134) dL_law_133 rfl rfl rfl ?_
  refine go_iload_n (i := 3) (pc' := 135) dL_law_134 rfl rfl rfl ?_
  refine go_iconst (v := 1) (pc' := 136) dL_law_135 rfl (by decide) ?_
  refine go_iadd (pc' := 137) dL_law_136 rfl ?_
  refine go_sld (pc' := 138) (11 * n + 1) dL_law_137 rfl (nI_add (11 * n) 1) (by omega) (by omega) ?_
  refine go_i2l (pc' := 139) dL_law_138 rfl rfl ?_
  refine go_bipush (v := 32) (pc' := 141) dL_law_139 rfl (by decide) ?_
  refine go_lshl (pc' := 142) dL_law_141 rfl rfl ?_
  first | refine go_aload_n (i := 0) (pc' := 143) dL_law_142 rfl rfl rfl ?_ | refine go_aloadX_n (i := 0) (pc' := 143) dL_law_142 rfl rfl rfl ?_ | refine go_aload_nN (i := 0) (pc' := 143) dL_law_142 rfl rfl rfl ?_
  refine go_iload_n (i := 3) (pc' := 144) dL_law_143 rfl rfl rfl ?_
  refine go_iconst (v := 2) (pc' := 145) dL_law_144 rfl (by decide) ?_
  refine go_iadd (pc' := 146) dL_law_145 rfl ?_
  refine go_sld (pc' := 147) (11 * n + 2) dL_law_146 rfl (nI_add (11 * n) 2) (by omega) (by omega) ?_
  refine go_i2l (pc' := 148) dL_law_147 rfl rfl ?_
  refine go_ldc2 (pc' := 151) dL_law_148 rfl wd_1721 ?_
  refine go_land (pc' := 152) dL_law_151 rfl ?_
  refine go_lor (pc' := 153) dL_law_152 rfl ?_
  first | refine go_aload_n (i := 0) (pc' := 154) dL_law_153 rfl rfl rfl ?_ | refine go_aloadX_n (i := 0) (pc' := 154) dL_law_153 rfl rfl rfl ?_ | refine go_aload_nN (i := 0) (pc' := 154) dL_law_153 rfl rfl rfl ?_
  refine go_iload_n (i := 3) (pc' := 155) dL_law_154 rfl rfl rfl ?_
  refine go_iconst (v := 3) (pc' := 156) dL_law_155 rfl (by decide) ?_
  refine go_iadd (pc' := 157) dL_law_156 rfl ?_
  refine go_sld (pc' := 158) (11 * n + 3) dL_law_157 rfl (nI_add (11 * n) 3) (by omega) (by omega) ?_
  refine go_i2l (pc' := 159) dL_law_158 rfl rfl ?_
  refine go_bipush (v := 32) (pc' := 161) dL_law_159 rfl (by decide) ?_
  refine go_lshl (pc' := 162) dL_law_161 rfl rfl ?_
  first | refine go_aload_n (i := 0) (pc' := 163) dL_law_162 rfl rfl rfl ?_ | refine go_aloadX_n (i := 0) (pc' := 163) dL_law_162 rfl rfl rfl ?_ | refine go_aload_nN (i := 0) (pc' := 163) dL_law_162 rfl rfl rfl ?_
  refine go_iload_n (i := 3) (pc' := 164) dL_law_163 rfl rfl rfl ?_
  refine go_iconst (v := 4) (pc' := 165) dL_law_164 rfl (by decide) ?_
  refine go_iadd (pc' := 166) dL_law_165 rfl ?_
  refine go_sld (pc' := 167) (11 * n + 4) dL_law_166 rfl (nI_add (11 * n) 4) (by omega) (by omega) ?_
  refine go_i2l (pc' := 168) dL_law_167 rfl rfl ?_
  refine go_ldc2 (pc' := 171) dL_law_168 rfl wd_1721 ?_
  refine go_land (pc' := 172) dL_law_171 rfl ?_
  refine go_lor (pc' := 173) dL_law_172 rfl ?_
  first | refine go_aload_n (i := 0) (pc' := 174) dL_law_173 rfl rfl rfl ?_ | refine go_aloadX_n (i := 0) (pc' := 174) dL_law_173 rfl rfl rfl ?_ | refine go_aload_nN (i := 0) (pc' := 174) dL_law_173 rfl rfl rfl ?_
  refine go_iload_n (i := 3) (pc' := 175) dL_law_174 rfl rfl rfl ?_
  refine go_iconst (v := 5) (pc' := 176) dL_law_175 rfl (by decide) ?_
  refine go_iadd (pc' := 177) dL_law_176 rfl ?_
  refine go_sld (pc' := 178) (11 * n + 5) dL_law_177 rfl (nI_add (11 * n) 5) (by omega) (by omega) ?_
  refine go_i2l (pc' := 179) dL_law_178 rfl rfl ?_
  refine go_bipush (v := 32) (pc' := 181) dL_law_179 rfl (by decide) ?_
  refine go_lshl (pc' := 182) dL_law_181 rfl rfl ?_
  first | refine go_aload_n (i := 0) (pc' := 183) dL_law_182 rfl rfl rfl ?_ | refine go_aloadX_n (i := 0) (pc' := 183) dL_law_182 rfl rfl rfl ?_ | refine go_aload_nN (i := 0) (pc' := 183) dL_law_182 rfl rfl rfl ?_
  refine go_iload_n (i := 3) (pc' := 184) dL_law_183 rfl rfl rfl ?_
  refine go_bipush (v := 6) (pc' := 186) dL_law_184 rfl (by decide) ?_
  refine go_iadd (pc' := 187) dL_law_186 rfl ?_
  refine go_sld (pc' := 188) (11 * n + 6) dL_law_187 rfl (nI_add (11 * n) 6) (by omega) (by omega) ?_
  refine go_i2l (pc' := 189) dL_law_188 rfl rfl ?_
  refine go_ldc2 (pc' := 192) dL_law_189 rfl wd_1721 ?_
  refine go_land (pc' := 193) dL_law_192 rfl ?_
  refine go_lor (pc' := 194) dL_law_193 rfl ?_
  first | refine go_aload_n (i := 0) (pc' := 195) dL_law_194 rfl rfl rfl ?_ | refine go_aloadX_n (i := 0) (pc' := 195) dL_law_194 rfl rfl rfl ?_ | refine go_aload_nN (i := 0) (pc' := 195) dL_law_194 rfl rfl rfl ?_
  refine go_iload_n (i := 3) (pc' := 196) dL_law_195 rfl rfl rfl ?_
  refine go_bipush (v := 7) (pc' := 198) dL_law_196 rfl (by decide) ?_
  refine go_iadd (pc' := 199) dL_law_198 rfl ?_
  refine go_sld (pc' := 200) (11 * n + 7) dL_law_199 rfl (nI_add (11 * n) 7) (by omega) (by omega) ?_
  refine go_i2l (pc' := 201) dL_law_200 rfl rfl ?_
  refine go_bipush (v := 32) (pc' := 203) dL_law_201 rfl (by decide) ?_
  refine go_lshl (pc' := 204) dL_law_203 rfl rfl ?_
  first | refine go_aload_n (i := 0) (pc' := 205) dL_law_204 rfl rfl rfl ?_ | refine go_aloadX_n (i := 0) (pc' := 205) dL_law_204 rfl rfl rfl ?_ | refine go_aload_nN (i := 0) (pc' := 205) dL_law_204 rfl rfl rfl ?_
  refine go_iload_n (i := 3) (pc' := 206) dL_law_205 rfl rfl rfl ?_
  refine go_bipush (v := 8) (pc' := 208) dL_law_206 rfl (by decide) ?_
  refine go_iadd (pc' := 209) dL_law_208 rfl ?_
  refine go_sld (pc' := 210) (11 * n + 8) dL_law_209 rfl (nI_add (11 * n) 8) (by omega) (by omega) ?_
  refine go_i2l (pc' := 211) dL_law_210 rfl rfl ?_
  refine go_ldc2 (pc' := 214) dL_law_211 rfl wd_1721 ?_
  refine go_land (pc' := 215) dL_law_214 rfl ?_
  refine go_lor (pc' := 216) dL_law_215 rfl ?_
  first | refine go_aload_n (i := 0) (pc' := 217) dL_law_216 rfl rfl rfl ?_ | refine go_aloadX_n (i := 0) (pc' := 217) dL_law_216 rfl rfl rfl ?_ | refine go_aload_nN (i := 0) (pc' := 217) dL_law_216 rfl rfl rfl ?_
  refine go_iload_n (i := 3) (pc' := 218) dL_law_217 rfl rfl rfl ?_
  refine go_bipush (v := 9) (pc' := 220) dL_law_218 rfl (by decide) ?_
  refine go_iadd (pc' := 221) dL_law_220 rfl ?_
  refine go_sld (pc' := 222) (11 * n + 9) dL_law_221 rfl (nI_add (11 * n) 9) (by omega) (by omega) ?_
  refine go_i2l (pc' := 223) dL_law_222 rfl rfl ?_
  refine go_bipush (v := 32) (pc' := 225) dL_law_223 rfl (by decide) ?_
  refine go_lshl (pc' := 226) dL_law_225 rfl rfl ?_
  first | refine go_aload_n (i := 0) (pc' := 227) dL_law_226 rfl rfl rfl ?_ | refine go_aloadX_n (i := 0) (pc' := 227) dL_law_226 rfl rfl rfl ?_ | refine go_aload_nN (i := 0) (pc' := 227) dL_law_226 rfl rfl rfl ?_
  refine go_iload_n (i := 3) (pc' := 228) dL_law_227 rfl rfl rfl ?_
  refine go_bipush (v := 10) (pc' := 230) dL_law_228 rfl (by decide) ?_
  refine go_iadd (pc' := 231) dL_law_230 rfl ?_
  refine go_sld (pc' := 232) (11 * n + 10) dL_law_231 rfl (nI_add (11 * n) 10) (by omega) (by omega) ?_
  refine go_i2l (pc' := 233) dL_law_232 rfl rfl ?_
  refine go_ldc2 (pc' := 236) dL_law_233 rfl wd_1721 ?_
  refine go_land (pc' := 237) dL_law_236 rfl ?_
  refine go_lor (pc' := 238) dL_law_237 rfl ?_
  refine go_invV (As := [_, _, _, _, _]) (pc' := 241) dL_law_238 rfl cf_L_law_15 rfl h0 rfl rfl (Nat.le_of_ble_eq_true rfl) (o0 _ hI _ _ _ _ _) (fun v1 h1 q1 => ?_)
  obtain ⟨x, F, rfl, hM, q2⟩ := q1
  first | refine go_aload_n (i := 2) (pc' := 242) dL_law_241 rfl rfl rfl ?_ | refine go_aloadX_n (i := 2) (pc' := 242) dL_law_241 rfl rfl rfl ?_ | refine go_aload_nN (i := 2) (pc' := 242) dL_law_241 rfl rfl rfl ?_
  first | refine go_aload_n (i := 0) (pc' := 243) dL_law_242 rfl rfl rfl ?_ | refine go_aloadX_n (i := 0) (pc' := 243) dL_law_242 rfl rfl rfl ?_ | refine go_aload_nN (i := 0) (pc' := 243) dL_law_242 rfl rfl rfl ?_
  refine go_iload_n (i := 3) (pc' := 244) dL_law_243 rfl rfl rfl ?_
  refine go_iconst (v := 1) (pc' := 245) dL_law_244 rfl (by decide) ?_
  refine go_iadd (pc' := 246) dL_law_245 rfl ?_
  refine go_sld (pc' := 247) (11 * n + 1) dL_law_246 rfl (nI_add (11 * n) 1) (by omega) (by omega) ?_
  refine go_i2l (pc' := 248) dL_law_247 rfl rfl ?_
  refine go_bipush (v := 32) (pc' := 250) dL_law_248 rfl (by decide) ?_
  refine go_lshl (pc' := 251) dL_law_250 rfl rfl ?_
  first | refine go_aload_n (i := 0) (pc' := 252) dL_law_251 rfl rfl rfl ?_ | refine go_aloadX_n (i := 0) (pc' := 252) dL_law_251 rfl rfl rfl ?_ | refine go_aload_nN (i := 0) (pc' := 252) dL_law_251 rfl rfl rfl ?_
  refine go_iload_n (i := 3) (pc' := 253) dL_law_252 rfl rfl rfl ?_
  refine go_iconst (v := 2) (pc' := 254) dL_law_253 rfl (by decide) ?_
  refine go_iadd (pc' := 255) dL_law_254 rfl ?_
  refine go_sld (pc' := 256) (11 * n + 2) dL_law_255 rfl (nI_add (11 * n) 2) (by omega) (by omega) ?_
  refine go_i2l (pc' := 257) dL_law_256 rfl rfl ?_
  refine go_ldc2 (pc' := 260) dL_law_257 rfl wd_1721 ?_
  refine go_land (pc' := 261) dL_law_260 rfl ?_
  refine go_lor (pc' := 262) dL_law_261 rfl ?_
  first | refine go_aload_n (i := 0) (pc' := 263) dL_law_262 rfl rfl rfl ?_ | refine go_aloadX_n (i := 0) (pc' := 263) dL_law_262 rfl rfl rfl ?_ | refine go_aload_nN (i := 0) (pc' := 263) dL_law_262 rfl rfl rfl ?_
  refine go_iload_n (i := 3) (pc' := 264) dL_law_263 rfl rfl rfl ?_
  refine go_iconst (v := 3) (pc' := 265) dL_law_264 rfl (by decide) ?_
  refine go_iadd (pc' := 266) dL_law_265 rfl ?_
  refine go_sld (pc' := 267) (11 * n + 3) dL_law_266 rfl (nI_add (11 * n) 3) (by omega) (by omega) ?_
  refine go_i2l (pc' := 268) dL_law_267 rfl rfl ?_
  refine go_bipush (v := 32) (pc' := 270) dL_law_268 rfl (by decide) ?_
  refine go_lshl (pc' := 271) dL_law_270 rfl rfl ?_
  first | refine go_aload_n (i := 0) (pc' := 272) dL_law_271 rfl rfl rfl ?_ | refine go_aloadX_n (i := 0) (pc' := 272) dL_law_271 rfl rfl rfl ?_ | refine go_aload_nN (i := 0) (pc' := 272) dL_law_271 rfl rfl rfl ?_
  refine go_iload_n (i := 3) (pc' := 273) dL_law_272 rfl rfl rfl ?_
  refine go_iconst (v := 4) (pc' := 274) dL_law_273 rfl (by decide) ?_
  refine go_iadd (pc' := 275) dL_law_274 rfl ?_
  refine go_sld (pc' := 276) (11 * n + 4) dL_law_275 rfl (nI_add (11 * n) 4) (by omega) (by omega) ?_
  refine go_i2l (pc' := 277) dL_law_276 rfl rfl ?_
  refine go_ldc2 (pc' := 280) dL_law_277 rfl wd_1721 ?_
  refine go_land (pc' := 281) dL_law_280 rfl ?_
  refine go_lor (pc' := 282) dL_law_281 rfl ?_
  first | refine go_aload_n (i := 0) (pc' := 283) dL_law_282 rfl rfl rfl ?_ | refine go_aloadX_n (i := 0) (pc' := 283) dL_law_282 rfl rfl rfl ?_ | refine go_aload_nN (i := 0) (pc' := 283) dL_law_282 rfl rfl rfl ?_
  refine go_iload_n (i := 3) (pc' := 284) dL_law_283 rfl rfl rfl ?_
  refine go_iconst (v := 5) (pc' := 285) dL_law_284 rfl (by decide) ?_
  refine go_iadd (pc' := 286) dL_law_285 rfl ?_
  refine go_sld (pc' := 287) (11 * n + 5) dL_law_286 rfl (nI_add (11 * n) 5) (by omega) (by omega) ?_
  refine go_i2l (pc' := 288) dL_law_287 rfl rfl ?_
  refine go_bipush (v := 32) (pc' := 290) dL_law_288 rfl (by decide) ?_
  refine go_lshl (pc' := 291) dL_law_290 rfl rfl ?_
  first | refine go_aload_n (i := 0) (pc' := 292) dL_law_291 rfl rfl rfl ?_ | refine go_aloadX_n (i := 0) (pc' := 292) dL_law_291 rfl rfl rfl ?_ | refine go_aload_nN (i := 0) (pc' := 292) dL_law_291 rfl rfl rfl ?_
  refine go_iload_n (i := 3) (pc' := 293) dL_law_292 rfl rfl rfl ?_
  refine go_bipush (v := 6) (pc' := 295) dL_law_293 rfl (by decide) ?_
  refine go_iadd (pc' := 296) dL_law_295 rfl ?_
  refine go_sld (pc' := 297) (11 * n + 6) dL_law_296 rfl (nI_add (11 * n) 6) (by omega) (by omega) ?_
  refine go_i2l (pc' := 298) dL_law_297 rfl rfl ?_
  refine go_ldc2 (pc' := 301) dL_law_298 rfl wd_1721 ?_
  refine go_land (pc' := 302) dL_law_301 rfl ?_
  refine go_lor (pc' := 303) dL_law_302 rfl ?_
  first | refine go_aload_n (i := 0) (pc' := 304) dL_law_303 rfl rfl rfl ?_ | refine go_aloadX_n (i := 0) (pc' := 304) dL_law_303 rfl rfl rfl ?_ | refine go_aload_nN (i := 0) (pc' := 304) dL_law_303 rfl rfl rfl ?_
  refine go_iload_n (i := 3) (pc' := 305) dL_law_304 rfl rfl rfl ?_
  refine go_bipush (v := 7) (pc' := 307) dL_law_305 rfl (by decide) ?_
  refine go_iadd (pc' := 308) dL_law_307 rfl ?_
  refine go_sld (pc' := 309) (11 * n + 7) dL_law_308 rfl (nI_add (11 * n) 7) (by omega) (by omega) ?_
  refine go_i2l (pc' := 310) dL_law_309 rfl rfl ?_
  refine go_bipush (v := 32) (pc' := 312) dL_law_310 rfl (by decide) ?_
  refine go_lshl (pc' := 313) dL_law_312 rfl rfl ?_
  first | refine go_aload_n (i := 0) (pc' := 314) dL_law_313 rfl rfl rfl ?_ | refine go_aloadX_n (i := 0) (pc' := 314) dL_law_313 rfl rfl rfl ?_ | refine go_aload_nN (i := 0) (pc' := 314) dL_law_313 rfl rfl rfl ?_
  refine go_iload_n (i := 3) (pc' := 315) dL_law_314 rfl rfl rfl ?_
  refine go_bipush (v := 8) (pc' := 317) dL_law_315 rfl (by decide) ?_
  refine go_iadd (pc' := 318) dL_law_317 rfl ?_
  refine go_sld (pc' := 319) (11 * n + 8) dL_law_318 rfl (nI_add (11 * n) 8) (by omega) (by omega) ?_
  refine go_i2l (pc' := 320) dL_law_319 rfl rfl ?_
  refine go_ldc2 (pc' := 323) dL_law_320 rfl wd_1721 ?_
  refine go_land (pc' := 324) dL_law_323 rfl ?_
  refine go_lor (pc' := 325) dL_law_324 rfl ?_
  first | refine go_aload_n (i := 0) (pc' := 326) dL_law_325 rfl rfl rfl ?_ | refine go_aloadX_n (i := 0) (pc' := 326) dL_law_325 rfl rfl rfl ?_ | refine go_aload_nN (i := 0) (pc' := 326) dL_law_325 rfl rfl rfl ?_
  refine go_iload_n (i := 3) (pc' := 327) dL_law_326 rfl rfl rfl ?_
  refine go_bipush (v := 9) (pc' := 329) dL_law_327 rfl (by decide) ?_
  refine go_iadd (pc' := 330) dL_law_329 rfl ?_
  refine go_sld (pc' := 331) (11 * n + 9) dL_law_330 rfl (nI_add (11 * n) 9) (by omega) (by omega) ?_
  refine go_i2l (pc' := 332) dL_law_331 rfl rfl ?_
  refine go_bipush (v := 32) (pc' := 334) dL_law_332 rfl (by decide) ?_
  refine go_lshl (pc' := 335) dL_law_334 rfl rfl ?_
  first | refine go_aload_n (i := 0) (pc' := 336) dL_law_335 rfl rfl rfl ?_ | refine go_aloadX_n (i := 0) (pc' := 336) dL_law_335 rfl rfl rfl ?_ | refine go_aload_nN (i := 0) (pc' := 336) dL_law_335 rfl rfl rfl ?_
  refine go_iload_n (i := 3) (pc' := 337) dL_law_336 rfl rfl rfl ?_
  refine go_bipush (v := 10) (pc' := 339) dL_law_337 rfl (by decide) ?_
  refine go_iadd (pc' := 340) dL_law_339 rfl ?_
  refine go_sld (pc' := 341) (11 * n + 10) dL_law_340 rfl (nI_add (11 * n) 10) (by omega) (by omega) ?_
  refine go_i2l (pc' := 342) dL_law_341 rfl rfl ?_
  refine go_ldc2 (pc' := 345) dL_law_342 rfl wd_1721 ?_
  refine go_land (pc' := 346) dL_law_345 rfl ?_
  refine go_lor (pc' := 347) dL_law_346 rfl ?_
  refine go_invV (As := [_, _, _, _, _]) (pc' := 350) dL_law_347 rfl cf_L_law_19 rfl hM rfl rfl (Nat.le_of_ble_eq_true rfl) q2 (fun v2 h2 q3 => ?_)
  obtain ⟨rfl, hJ⟩ := q3
  refine go_icmp_eq (pc' := 353) (tgt := 805) dL_law_350 (by decide) rfl (fun c1 => ?_) (fun c1 => ?_)
  · exact k h2 hJ
  · exact absurd rfl c1
set_option maxRecDepth 100000 in
theorem law_end {G : xG} {I J : xH → Prop} {n : Nat} {h : xH} {P : Option Value → xH → Prop} (hn : 11 * n + 11 ≤ gN G) (hN : gN G ≤ 5632) (h0 : ∃ fs, h.2 0 = some (.inr (9, fs))) (hO : Ow G I J) (hI : I h) (k : ∀ h', J h' → Go G mL_law 805 [some (.retAddr 99), some (.ref 0), some (.ref 233), some (.int (nI (11 * n)))] [] h' P) : Go G mL_law 355 [some (.retAddr 99), some (.ref 0), some (.ref 233), some (.int (nI (11 * n)))] [] h P := by
  obtain ⟨o0, o1, o2, o3, o4, o5, o6, o7, o8, o9, o10, o11, o12, o13, o14, o15, o16, o17, o18, o19, o20⟩ := hO
  obtain ⟨fs, h0⟩ := h0
  first | refine go_aload_n (i := 1) (pc' := 356) dL_law_355 rfl rfl rfl ?_ | refine go_aloadX_n (i := 1) (pc' := 356) dL_law_355 rfl rfl rfl ?_ | refine go_aload_nN (i := 1) (pc' := 356) dL_law_355 rfl rfl rfl ?_
  first | refine go_aload_n (i := 0) (pc' := 357) dL_law_356 rfl rfl rfl ?_ | refine go_aloadX_n (i := 0) (pc' := 357) dL_law_356 rfl rfl rfl ?_ | refine go_aload_nN (i := 0) (pc' := 357) dL_law_356 rfl rfl rfl ?_
  refine go_iload_n (i := 3) (pc' := 358) dL_law_357 rfl rfl rfl ?_
  refine go_iconst (v := 1) (pc' := 359) dL_law_358 rfl (by decide) ?_
  refine go_iadd (pc' := 360) dL_law_359 rfl ?_
  refine go_sld (pc' := 361) (11 * n + 1) dL_law_360 rfl (nI_add (11 * n) 1) (by omega) (by omega) ?_
  refine go_invV (As := [_]) (pc' := 364) dL_law_361 rfl cf_L_law_20 rfl h0 rfl rfl (Nat.le_of_ble_eq_true rfl) (o1 _ hI _) (fun v1 h1 q1 => ?_)
  obtain ⟨x, F, rfl, hM, q2⟩ := q1
  first | refine go_aload_n (i := 2) (pc' := 365) dL_law_364 rfl rfl rfl ?_ | refine go_aloadX_n (i := 2) (pc' := 365) dL_law_364 rfl rfl rfl ?_ | refine go_aload_nN (i := 2) (pc' := 365) dL_law_364 rfl rfl rfl ?_
  first | refine go_aload_n (i := 0) (pc' := 366) dL_law_365 rfl rfl rfl ?_ | refine go_aloadX_n (i := 0) (pc' := 366) dL_law_365 rfl rfl rfl ?_ | refine go_aload_nN (i := 0) (pc' := 366) dL_law_365 rfl rfl rfl ?_
  refine go_iload_n (i := 3) (pc' := 367) dL_law_366 rfl rfl rfl ?_
  refine go_iconst (v := 1) (pc' := 368) dL_law_367 rfl (by decide) ?_
  refine go_iadd (pc' := 369) dL_law_368 rfl ?_
  refine go_sld (pc' := 370) (11 * n + 1) dL_law_369 rfl (nI_add (11 * n) 1) (by omega) (by omega) ?_
  refine go_invV (As := [_]) (pc' := 373) dL_law_370 rfl cf_L_law_24 rfl hM rfl rfl (Nat.le_of_ble_eq_true rfl) q2 (fun v2 h2 q3 => ?_)
  obtain ⟨rfl, hJ⟩ := q3
  refine go_icmp_eq (pc' := 376) (tgt := 805) dL_law_373 (by decide) rfl (fun c1 => ?_) (fun c1 => ?_)
  · exact k h2 hJ
  · exact absurd rfl c1
set_option maxRecDepth 100000 in
theorem law_run {G : xG} {I J : xH → Prop} {n : Nat} {h : xH} {P : Option Value → xH → Prop} (hn : 11 * n + 11 ≤ gN G) (hN : gN G ≤ 5632) (h0 : ∃ fs, h.2 0 = some (.inr (9, fs))) (hO : Ow G I J) (hI : I h) (k : ∀ h', J h' → Go G mL_law 805 [some (.retAddr 99), some (.ref 0), some (.ref 233), some (.int (nI (11 * n)))] [] h' P) : Go G mL_law 378 [some (.retAddr 99), some (.ref 0), some (.ref 233), some (.int (nI (11 * n)))] [] h P := by
  obtain ⟨o0, o1, o2, o3, o4, o5, o6, o7, o8, o9, o10, o11, o12, o13, o14, o15, o16, o17, o18, o19, o20⟩ := hO
  obtain ⟨fs, h0⟩ := h0
  first | refine go_aload_n (i := 1) (pc' := 379) dL_law_378 rfl rfl rfl ?_ | refine go_aloadX_n (i := 1) (pc' := 379) dL_law_378 rfl rfl rfl ?_ | refine go_aload_nN (i := 1) (pc' := 379) dL_law_378 rfl rfl rfl ?_
  refine go_invV (As := []) (pc' := 382) dL_law_379 rfl cf_L_law_25 rfl h0 rfl rfl (Nat.le_of_ble_eq_true rfl) (o2 _ hI ) (fun v1 h1 q1 => ?_)
  obtain ⟨x, F, rfl, hM, q2⟩ := q1
  first | refine go_aload_n (i := 2) (pc' := 383) dL_law_382 rfl rfl rfl ?_ | refine go_aloadX_n (i := 2) (pc' := 383) dL_law_382 rfl rfl rfl ?_ | refine go_aload_nN (i := 2) (pc' := 383) dL_law_382 rfl rfl rfl ?_
  refine go_invV (As := []) (pc' := 386) dL_law_383 rfl cf_L_law_29 rfl hM rfl rfl (Nat.le_of_ble_eq_true rfl) q2 (fun v2 h2 q3 => ?_)
  obtain ⟨rfl, hJ⟩ := q3
  refine go_icmp_eq (pc' := 389) (tgt := 805) dL_law_386 (by decide) rfl (fun c1 => ?_) (fun c1 => ?_)
  · exact k h2 hJ
  · exact absurd rfl c1
set_option maxRecDepth 100000 in
theorem law_wrong {G : xG} {I J : xH → Prop} {n : Nat} {h : xH} {P : Option Value → xH → Prop} (hn : 11 * n + 11 ≤ gN G) (hN : gN G ≤ 5632) (h0 : ∃ fs, h.2 0 = some (.inr (9, fs))) (hO : Ow G I J) (hI : I h) (k : ∀ h', J h' → Go G mL_law 805 [some (.retAddr 99), some (.ref 0), some (.ref 233), some (.int (nI (11 * n)))] [] h' P) : Go G mL_law 391 [some (.retAddr 99), some (.ref 0), some (.ref 233), some (.int (nI (11 * n)))] [] h P := by
  obtain ⟨o0, o1, o2, o3, o4, o5, o6, o7, o8, o9, o10, o11, o12, o13, o14, o15, o16, o17, o18, o19, o20⟩ := hO
  obtain ⟨fs, h0⟩ := h0
  first | refine go_aload_n (i := 1) (pc' := 392) dL_law_391 rfl rfl rfl ?_ | refine go_aloadX_n (i := 1) (pc' := 392) dL_law_391 rfl rfl rfl ?_ | refine go_aload_nN (i := 1) (pc' := 392) dL_law_391 rfl rfl rfl ?_
  refine go_invV (As := []) (pc' := 395) dL_law_392 rfl cf_L_law_30 rfl h0 rfl rfl (Nat.le_of_ble_eq_true rfl) (o3 _ hI ) (fun v1 h1 q1 => ?_)
  obtain ⟨x, F, rfl, hM, q2⟩ := q1
  first | refine go_aload_n (i := 2) (pc' := 396) dL_law_395 rfl rfl rfl ?_ | refine go_aloadX_n (i := 2) (pc' := 396) dL_law_395 rfl rfl rfl ?_ | refine go_aload_nN (i := 2) (pc' := 396) dL_law_395 rfl rfl rfl ?_
  refine go_invV (As := []) (pc' := 399) dL_law_396 rfl cf_L_law_33 rfl hM rfl rfl (Nat.le_of_ble_eq_true rfl) q2 (fun v2 h2 q3 => ?_)
  obtain ⟨rfl, hJ⟩ := q3
  refine go_icmp_eq (pc' := 402) (tgt := 805) dL_law_399 (by decide) rfl (fun c1 => ?_) (fun c1 => ?_)
  · exact k h2 hJ
  · exact absurd rfl c1
set_option maxRecDepth 100000 in
theorem law_outputs {G : xG} {I J : xH → Prop} {n : Nat} {h : xH} {P : Option Value → xH → Prop} (hn : 11 * n + 11 ≤ gN G) (hN : gN G ≤ 5632) (h0 : ∃ fs, h.2 0 = some (.inr (9, fs))) (hO : Ow G I J) (hI : I h) (k : ∀ h', J h' → Go G mL_law 805 [some (.retAddr 99), some (.ref 0), some (.ref 233), some (.int (nI (11 * n)))] [] h' P) : Go G mL_law 404 [some (.retAddr 99), some (.ref 0), some (.ref 233), some (.int (nI (11 * n)))] [] h P := by
  obtain ⟨o0, o1, o2, o3, o4, o5, o6, o7, o8, o9, o10, o11, o12, o13, o14, o15, o16, o17, o18, o19, o20⟩ := hO
  obtain ⟨fs, h0⟩ := h0
  first | refine go_aload_n (i := 1) (pc' := 405) dL_law_404 rfl rfl rfl ?_ | refine go_aloadX_n (i := 1) (pc' := 405) dL_law_404 rfl rfl rfl ?_ | refine go_aload_nN (i := 1) (pc' := 405) dL_law_404 rfl rfl rfl ?_
  refine go_invV (As := []) (pc' := 408) dL_law_405 rfl cf_L_law_34 rfl h0 rfl rfl (Nat.le_of_ble_eq_true rfl) (o4 _ hI ) (fun v1 h1 q1 => ?_)
  obtain ⟨x, F, rfl, hM, q2⟩ := q1
  first | refine go_aload_n (i := 2) (pc' := 409) dL_law_408 rfl rfl rfl ?_ | refine go_aloadX_n (i := 2) (pc' := 409) dL_law_408 rfl rfl rfl ?_ | refine go_aload_nN (i := 2) (pc' := 409) dL_law_408 rfl rfl rfl ?_
  refine go_invV (As := []) (pc' := 412) dL_law_409 rfl cf_L_law_37 rfl hM rfl rfl (Nat.le_of_ble_eq_true rfl) q2 (fun v2 h2 q3 => ?_)
  obtain ⟨rfl, hJ⟩ := q3
  refine go_icmp_eq (pc' := 415) (tgt := 805) dL_law_412 (by decide) rfl (fun c1 => ?_) (fun c1 => ?_)
  · exact k h2 hJ
  · exact absurd rfl c1
set_option maxRecDepth 100000 in
theorem law_out {G : xG} {I J : xH → Prop} {n : Nat} {h : xH} {P : Option Value → xH → Prop} (hn : 11 * n + 11 ≤ gN G) (hN : gN G ≤ 5632) (h0 : ∃ fs, h.2 0 = some (.inr (9, fs))) (hO : Ow G I J) (hI : I h) (k : ∀ h', J h' → Go G mL_law 805 [some (.retAddr 99), some (.ref 0), some (.ref 233), some (.int (nI (11 * n)))] [] h' P) : Go G mL_law 417 [some (.retAddr 99), some (.ref 0), some (.ref 233), some (.int (nI (11 * n)))] [] h P := by
  obtain ⟨o0, o1, o2, o3, o4, o5, o6, o7, o8, o9, o10, o11, o12, o13, o14, o15, o16, o17, o18, o19, o20⟩ := hO
  obtain ⟨fs, h0⟩ := h0
  first | refine go_aload_n (i := 1) (pc' := 418) dL_law_417 rfl rfl rfl ?_ | refine go_aloadX_n (i := 1) (pc' := 418) dL_law_417 rfl rfl rfl ?_ | refine go_aload_nN (i := 1) (pc' := 418) dL_law_417 rfl rfl rfl ?_
  first | refine go_aload_n (i := 0) (pc' := 419) dL_law_418 rfl rfl rfl ?_ | refine go_aloadX_n (i := 0) (pc' := 419) dL_law_418 rfl rfl rfl ?_ | refine go_aload_nN (i := 0) (pc' := 419) dL_law_418 rfl rfl rfl ?_
  refine go_iload_n (i := 3) (pc' := 420) dL_law_419 rfl rfl rfl ?_
  refine go_iconst (v := 1) (pc' := 421) dL_law_420 rfl (by decide) ?_
  refine go_iadd (pc' := 422) dL_law_421 rfl ?_
  refine go_sld (pc' := 423) (11 * n + 1) dL_law_422 rfl (nI_add (11 * n) 1) (by omega) (by omega) ?_
  refine go_invV (As := [_]) (pc' := 426) dL_law_423 rfl cf_L_law_38 rfl h0 rfl rfl (Nat.le_of_ble_eq_true rfl) (o5 _ hI _) (fun v1 h1 q1 => ?_)
  obtain ⟨x, F, rfl, hM, q2⟩ := q1
  first | refine go_aload_n (i := 2) (pc' := 427) dL_law_426 rfl rfl rfl ?_ | refine go_aloadX_n (i := 2) (pc' := 427) dL_law_426 rfl rfl rfl ?_ | refine go_aload_nN (i := 2) (pc' := 427) dL_law_426 rfl rfl rfl ?_
  first | refine go_aload_n (i := 0) (pc' := 428) dL_law_427 rfl rfl rfl ?_ | refine go_aloadX_n (i := 0) (pc' := 428) dL_law_427 rfl rfl rfl ?_ | refine go_aload_nN (i := 0) (pc' := 428) dL_law_427 rfl rfl rfl ?_
  refine go_iload_n (i := 3) (pc' := 429) dL_law_428 rfl rfl rfl ?_
  refine go_iconst (v := 1) (pc' := 430) dL_law_429 rfl (by decide) ?_
  refine go_iadd (pc' := 431) dL_law_430 rfl ?_
  refine go_sld (pc' := 432) (11 * n + 1) dL_law_431 rfl (nI_add (11 * n) 1) (by omega) (by omega) ?_
  refine go_invV (As := [_]) (pc' := 435) dL_law_432 rfl cf_L_law_41 rfl hM rfl rfl (Nat.le_of_ble_eq_true rfl) q2 (fun v2 h2 q3 => ?_)
  obtain ⟨rfl, hJ⟩ := q3
  refine go_icmp_eq (pc' := 438) (tgt := 805) dL_law_435 (by decide) rfl (fun c1 => ?_) (fun c1 => ?_)
  · exact k h2 hJ
  · exact absurd rfl c1
set_option maxRecDepth 100000 in
theorem law_crash {G : xG} {I J : xH → Prop} {n : Nat} {h : xH} {P : Option Value → xH → Prop} (hn : 11 * n + 11 ≤ gN G) (hN : gN G ≤ 5632) (h0 : ∃ fs, h.2 0 = some (.inr (9, fs))) (hO : Ow G I J) (hI : I h) (k : ∀ h', J h' → Go G mL_law 805 [some (.retAddr 99), some (.ref 0), some (.ref 233), some (.int (nI (11 * n)))] [] h' P) : Go G mL_law 440 [some (.retAddr 99), some (.ref 0), some (.ref 233), some (.int (nI (11 * n)))] [] h P := by
  obtain ⟨o0, o1, o2, o3, o4, o5, o6, o7, o8, o9, o10, o11, o12, o13, o14, o15, o16, o17, o18, o19, o20⟩ := hO
  obtain ⟨fs, h0⟩ := h0
  first | refine go_aload_n (i := 1) (pc' := 441) dL_law_440 rfl rfl rfl ?_ | refine go_aloadX_n (i := 1) (pc' := 441) dL_law_440 rfl rfl rfl ?_ | refine go_aload_nN (i := 1) (pc' := 441) dL_law_440 rfl rfl rfl ?_
  first | refine go_aload_n (i := 0) (pc' := 442) dL_law_441 rfl rfl rfl ?_ | refine go_aloadX_n (i := 0) (pc' := 442) dL_law_441 rfl rfl rfl ?_ | refine go_aload_nN (i := 0) (pc' := 442) dL_law_441 rfl rfl rfl ?_
  refine go_iload_n (i := 3) (pc' := 443) dL_law_442 rfl rfl rfl ?_
  refine go_iconst (v := 1) (pc' := 444) dL_law_443 rfl (by decide) ?_
  refine go_iadd (pc' := 445) dL_law_444 rfl ?_
  refine go_sld (pc' := 446) (11 * n + 1) dL_law_445 rfl (nI_add (11 * n) 1) (by omega) (by omega) ?_
  first | refine go_aload_n (i := 0) (pc' := 447) dL_law_446 rfl rfl rfl ?_ | refine go_aloadX_n (i := 0) (pc' := 447) dL_law_446 rfl rfl rfl ?_ | refine go_aload_nN (i := 0) (pc' := 447) dL_law_446 rfl rfl rfl ?_
  refine go_iload_n (i := 3) (pc' := 448) dL_law_447 rfl rfl rfl ?_
  refine go_iconst (v := 2) (pc' := 449) dL_law_448 rfl (by decide) ?_
  refine go_iadd (pc' := 450) dL_law_449 rfl ?_
  refine go_sld (pc' := 451) (11 * n + 2) dL_law_450 rfl (nI_add (11 * n) 2) (by omega) (by omega) ?_
  first | refine go_aload_n (i := 0) (pc' := 452) dL_law_451 rfl rfl rfl ?_ | refine go_aloadX_n (i := 0) (pc' := 452) dL_law_451 rfl rfl rfl ?_ | refine go_aload_nN (i := 0) (pc' := 452) dL_law_451 rfl rfl rfl ?_
  refine go_iload_n (i := 3) (pc' := 453) dL_law_452 rfl rfl rfl ?_
  refine go_iconst (v := 3) (pc' := 454) dL_law_453 rfl (by decide) ?_
  refine go_iadd (pc' := 455) dL_law_454 rfl ?_
  refine go_sld (pc' := 456) (11 * n + 3) dL_law_455 rfl (nI_add (11 * n) 3) (by omega) (by omega) ?_
  refine go_invV (As := [_, _, _]) (pc' := 459) dL_law_456 rfl cf_L_law_42 rfl h0 rfl rfl (Nat.le_of_ble_eq_true rfl) (o6 _ hI _ _ _) (fun v1 h1 q1 => ?_)
  obtain ⟨x, F, rfl, hM, q2⟩ := q1
  first | refine go_aload_n (i := 2) (pc' := 460) dL_law_459 rfl rfl rfl ?_ | refine go_aloadX_n (i := 2) (pc' := 460) dL_law_459 rfl rfl rfl ?_ | refine go_aload_nN (i := 2) (pc' := 460) dL_law_459 rfl rfl rfl ?_
  first | refine go_aload_n (i := 0) (pc' := 461) dL_law_460 rfl rfl rfl ?_ | refine go_aloadX_n (i := 0) (pc' := 461) dL_law_460 rfl rfl rfl ?_ | refine go_aload_nN (i := 0) (pc' := 461) dL_law_460 rfl rfl rfl ?_
  refine go_iload_n (i := 3) (pc' := 462) dL_law_461 rfl rfl rfl ?_
  refine go_iconst (v := 1) (pc' := 463) dL_law_462 rfl (by decide) ?_
  refine go_iadd (pc' := 464) dL_law_463 rfl ?_
  refine go_sld (pc' := 465) (11 * n + 1) dL_law_464 rfl (nI_add (11 * n) 1) (by omega) (by omega) ?_
  first | refine go_aload_n (i := 0) (pc' := 466) dL_law_465 rfl rfl rfl ?_ | refine go_aloadX_n (i := 0) (pc' := 466) dL_law_465 rfl rfl rfl ?_ | refine go_aload_nN (i := 0) (pc' := 466) dL_law_465 rfl rfl rfl ?_
  refine go_iload_n (i := 3) (pc' := 467) dL_law_466 rfl rfl rfl ?_
  refine go_iconst (v := 2) (pc' := 468) dL_law_467 rfl (by decide) ?_
  refine go_iadd (pc' := 469) dL_law_468 rfl ?_
  refine go_sld (pc' := 470) (11 * n + 2) dL_law_469 rfl (nI_add (11 * n) 2) (by omega) (by omega) ?_
  first | refine go_aload_n (i := 0) (pc' := 471) dL_law_470 rfl rfl rfl ?_ | refine go_aloadX_n (i := 0) (pc' := 471) dL_law_470 rfl rfl rfl ?_ | refine go_aload_nN (i := 0) (pc' := 471) dL_law_470 rfl rfl rfl ?_
  refine go_iload_n (i := 3) (pc' := 472) dL_law_471 rfl rfl rfl ?_
  refine go_iconst (v := 3) (pc' := 473) dL_law_472 rfl (by decide) ?_
  refine go_iadd (pc' := 474) dL_law_473 rfl ?_
  refine go_sld (pc' := 475) (11 * n + 3) dL_law_474 rfl (nI_add (11 * n) 3) (by omega) (by omega) ?_
  refine go_invV (As := [_, _, _]) (pc' := 478) dL_law_475 rfl cf_L_law_46 rfl hM rfl rfl (Nat.le_of_ble_eq_true rfl) q2 (fun v2 h2 q3 => ?_)
  obtain ⟨rfl, hJ⟩ := q3
  refine go_icmp_eq (pc' := 481) (tgt := 805) dL_law_478 (by decide) rfl (fun c1 => ?_) (fun c1 => ?_)
  · exact k h2 hJ
  · exact absurd rfl c1
set_option maxRecDepth 100000 in
theorem law_recover {G : xG} {I J : xH → Prop} {n : Nat} {h : xH} {P : Option Value → xH → Prop} (hn : 11 * n + 11 ≤ gN G) (hN : gN G ≤ 5632) (h0 : ∃ fs, h.2 0 = some (.inr (9, fs))) (hO : Ow G I J) (hI : I h) (k : ∀ h', J h' → Go G mL_law 805 [some (.retAddr 99), some (.ref 0), some (.ref 233), some (.int (nI (11 * n)))] [] h' P) : Go G mL_law 483 [some (.retAddr 99), some (.ref 0), some (.ref 233), some (.int (nI (11 * n)))] [] h P := by
  obtain ⟨o0, o1, o2, o3, o4, o5, o6, o7, o8, o9, o10, o11, o12, o13, o14, o15, o16, o17, o18, o19, o20⟩ := hO
  obtain ⟨fs, h0⟩ := h0
  first | refine go_aload_n (i := 1) (pc' := 484) dL_law_483 rfl rfl rfl ?_ | refine go_aloadX_n (i := 1) (pc' := 484) dL_law_483 rfl rfl rfl ?_ | refine go_aload_nN (i := 1) (pc' := 484) dL_law_483 rfl rfl rfl ?_
  refine go_invV (As := []) (pc' := 487) dL_law_484 rfl cf_L_law_47 rfl h0 rfl rfl (Nat.le_of_ble_eq_true rfl) (o7 _ hI ) (fun v1 h1 q1 => ?_)
  obtain ⟨x, F, rfl, hM, q2⟩ := q1
  first | refine go_aload_n (i := 2) (pc' := 488) dL_law_487 rfl rfl rfl ?_ | refine go_aloadX_n (i := 2) (pc' := 488) dL_law_487 rfl rfl rfl ?_ | refine go_aload_nN (i := 2) (pc' := 488) dL_law_487 rfl rfl rfl ?_
  refine go_invV (As := []) (pc' := 491) dL_law_488 rfl cf_L_law_50 rfl hM rfl rfl (Nat.le_of_ble_eq_true rfl) q2 (fun v2 h2 q3 => ?_)
  obtain ⟨rfl, hJ⟩ := q3
  refine go_icmp_eq (pc' := 494) (tgt := 805) dL_law_491 (by decide) rfl (fun c1 => ?_) (fun c1 => ?_)
  · exact k h2 hJ
  · exact absurd rfl c1
set_option maxRecDepth 100000 in
theorem law_isDown {G : xG} {I J : xH → Prop} {n : Nat} {h : xH} {P : Option Value → xH → Prop} (hn : 11 * n + 11 ≤ gN G) (hN : gN G ≤ 5632) (h0 : ∃ fs, h.2 0 = some (.inr (9, fs))) (hO : Ow G I J) (hI : I h) (k : ∀ h', J h' → Go G mL_law 805 [some (.retAddr 99), some (.ref 0), some (.ref 233), some (.int (nI (11 * n)))] [] h' P) : Go G mL_law 496 [some (.retAddr 99), some (.ref 0), some (.ref 233), some (.int (nI (11 * n)))] [] h P := by
  obtain ⟨o0, o1, o2, o3, o4, o5, o6, o7, o8, o9, o10, o11, o12, o13, o14, o15, o16, o17, o18, o19, o20⟩ := hO
  obtain ⟨fs, h0⟩ := h0
  first | refine go_aload_n (i := 1) (pc' := 497) dL_law_496 rfl rfl rfl ?_ | refine go_aloadX_n (i := 1) (pc' := 497) dL_law_496 rfl rfl rfl ?_ | refine go_aload_nN (i := 1) (pc' := 497) dL_law_496 rfl rfl rfl ?_
  refine go_invV (As := []) (pc' := 500) dL_law_497 rfl cf_L_law_51 rfl h0 rfl rfl (Nat.le_of_ble_eq_true rfl) (o8 _ hI ) (fun v1 h1 q1 => ?_)
  obtain ⟨x, F, rfl, hM, q2⟩ := q1
  first | refine go_aload_n (i := 2) (pc' := 501) dL_law_500 rfl rfl rfl ?_ | refine go_aloadX_n (i := 2) (pc' := 501) dL_law_500 rfl rfl rfl ?_ | refine go_aload_nN (i := 2) (pc' := 501) dL_law_500 rfl rfl rfl ?_
  refine go_invV (As := []) (pc' := 504) dL_law_501 rfl cf_L_law_55 rfl hM rfl rfl (Nat.le_of_ble_eq_true rfl) q2 (fun v2 h2 q3 => ?_)
  obtain ⟨rfl, hJ⟩ := q3
  refine go_icmp_eq (pc' := 507) (tgt := 805) dL_law_504 (by decide) rfl (fun c1 => ?_) (fun c1 => ?_)
  · exact k h2 hJ
  · exact absurd rfl c1
set_option maxRecDepth 100000 in
theorem law_isOpen {G : xG} {I J : xH → Prop} {n : Nat} {h : xH} {P : Option Value → xH → Prop} (hn : 11 * n + 11 ≤ gN G) (hN : gN G ≤ 5632) (h0 : ∃ fs, h.2 0 = some (.inr (9, fs))) (hO : Ow G I J) (hI : I h) (k : ∀ h', J h' → Go G mL_law 805 [some (.retAddr 99), some (.ref 0), some (.ref 233), some (.int (nI (11 * n)))] [] h' P) : Go G mL_law 509 [some (.retAddr 99), some (.ref 0), some (.ref 233), some (.int (nI (11 * n)))] [] h P := by
  obtain ⟨o0, o1, o2, o3, o4, o5, o6, o7, o8, o9, o10, o11, o12, o13, o14, o15, o16, o17, o18, o19, o20⟩ := hO
  obtain ⟨fs, h0⟩ := h0
  first | refine go_aload_n (i := 1) (pc' := 510) dL_law_509 rfl rfl rfl ?_ | refine go_aloadX_n (i := 1) (pc' := 510) dL_law_509 rfl rfl rfl ?_ | refine go_aload_nN (i := 1) (pc' := 510) dL_law_509 rfl rfl rfl ?_
  refine go_invV (As := []) (pc' := 513) dL_law_510 rfl cf_L_law_56 rfl h0 rfl rfl (Nat.le_of_ble_eq_true rfl) (o9 _ hI ) (fun v1 h1 q1 => ?_)
  obtain ⟨x, F, rfl, hM, q2⟩ := q1
  first | refine go_aload_n (i := 2) (pc' := 514) dL_law_513 rfl rfl rfl ?_ | refine go_aloadX_n (i := 2) (pc' := 514) dL_law_513 rfl rfl rfl ?_ | refine go_aload_nN (i := 2) (pc' := 514) dL_law_513 rfl rfl rfl ?_
  refine go_invV (As := []) (pc' := 517) dL_law_514 rfl cf_L_law_59 rfl hM rfl rfl (Nat.le_of_ble_eq_true rfl) q2 (fun v2 h2 q3 => ?_)
  obtain ⟨rfl, hJ⟩ := q3
  refine go_icmp_eq (pc' := 520) (tgt := 805) dL_law_517 (by decide) rfl (fun c1 => ?_) (fun c1 => ?_)
  · exact k h2 hJ
  · exact absurd rfl c1
set_option maxRecDepth 100000 in
theorem law_live {G : xG} {I J : xH → Prop} {n : Nat} {h : xH} {P : Option Value → xH → Prop} (hn : 11 * n + 11 ≤ gN G) (hN : gN G ≤ 5632) (h0 : ∃ fs, h.2 0 = some (.inr (9, fs))) (hO : Ow G I J) (hI : I h) (k : ∀ h', J h' → Go G mL_law 805 [some (.retAddr 99), some (.ref 0), some (.ref 233), some (.int (nI (11 * n)))] [] h' P) : Go G mL_law 522 [some (.retAddr 99), some (.ref 0), some (.ref 233), some (.int (nI (11 * n)))] [] h P := by
  obtain ⟨o0, o1, o2, o3, o4, o5, o6, o7, o8, o9, o10, o11, o12, o13, o14, o15, o16, o17, o18, o19, o20⟩ := hO
  obtain ⟨fs, h0⟩ := h0
  first | refine go_aload_n (i := 1) (pc' := 523) dL_law_522 rfl rfl rfl ?_ | refine go_aloadX_n (i := 1) (pc' := 523) dL_law_522 rfl rfl rfl ?_ | refine go_aload_nN (i := 1) (pc' := 523) dL_law_522 rfl rfl rfl ?_
  refine go_invV (As := []) (pc' := 526) dL_law_523 rfl cf_L_law_60 rfl h0 rfl rfl (Nat.le_of_ble_eq_true rfl) (o10 _ hI ) (fun v1 h1 q1 => ?_)
  obtain ⟨x, F, rfl, hM, q2⟩ := q1
  first | refine go_aload_n (i := 2) (pc' := 527) dL_law_526 rfl rfl rfl ?_ | refine go_aloadX_n (i := 2) (pc' := 527) dL_law_526 rfl rfl rfl ?_ | refine go_aload_nN (i := 2) (pc' := 527) dL_law_526 rfl rfl rfl ?_
  refine go_invV (As := []) (pc' := 530) dL_law_527 rfl cf_L_law_63 rfl hM rfl rfl (Nat.le_of_ble_eq_true rfl) q2 (fun v2 h2 q3 => ?_)
  obtain ⟨rfl, hJ⟩ := q3
  refine go_icmp_eq (pc' := 533) (tgt := 805) dL_law_530 (by decide) rfl (fun c1 => ?_) (fun c1 => ?_)
  · exact k h2 hJ
  · exact absurd rfl c1
set_option maxRecDepth 100000 in
theorem law_idAt {G : xG} {I J : xH → Prop} {n : Nat} {h : xH} {P : Option Value → xH → Prop} (hn : 11 * n + 11 ≤ gN G) (hN : gN G ≤ 5632) (h0 : ∃ fs, h.2 0 = some (.inr (9, fs))) (hO : Ow G I J) (hI : I h) (k : ∀ h', J h' → Go G mL_law 805 [some (.retAddr 99), some (.ref 0), some (.ref 233), some (.int (nI (11 * n)))] [] h' P) : Go G mL_law 535 [some (.retAddr 99), some (.ref 0), some (.ref 233), some (.int (nI (11 * n)))] [] h P := by
  obtain ⟨o0, o1, o2, o3, o4, o5, o6, o7, o8, o9, o10, o11, o12, o13, o14, o15, o16, o17, o18, o19, o20⟩ := hO
  obtain ⟨fs, h0⟩ := h0
  first | refine go_aload_n (i := 1) (pc' := 536) dL_law_535 rfl rfl rfl ?_ | refine go_aloadX_n (i := 1) (pc' := 536) dL_law_535 rfl rfl rfl ?_ | refine go_aload_nN (i := 1) (pc' := 536) dL_law_535 rfl rfl rfl ?_
  first | refine go_aload_n (i := 0) (pc' := 537) dL_law_536 rfl rfl rfl ?_ | refine go_aloadX_n (i := 0) (pc' := 537) dL_law_536 rfl rfl rfl ?_ | refine go_aload_nN (i := 0) (pc' := 537) dL_law_536 rfl rfl rfl ?_
  refine go_iload_n (i := 3) (pc' := 538) dL_law_537 rfl rfl rfl ?_
  refine go_iconst (v := 1) (pc' := 539) dL_law_538 rfl (by decide) ?_
  refine go_iadd (pc' := 540) dL_law_539 rfl ?_
  refine go_sld (pc' := 541) (11 * n + 1) dL_law_540 rfl (nI_add (11 * n) 1) (by omega) (by omega) ?_
  refine go_invV (As := [_]) (pc' := 544) dL_law_541 rfl cf_L_law_64 rfl h0 rfl rfl (Nat.le_of_ble_eq_true rfl) (o11 _ hI _) (fun v1 h1 q1 => ?_)
  obtain ⟨x, F, rfl, hM, q2⟩ := q1
  first | refine go_aload_n (i := 2) (pc' := 545) dL_law_544 rfl rfl rfl ?_ | refine go_aloadX_n (i := 2) (pc' := 545) dL_law_544 rfl rfl rfl ?_ | refine go_aload_nN (i := 2) (pc' := 545) dL_law_544 rfl rfl rfl ?_
  first | refine go_aload_n (i := 0) (pc' := 546) dL_law_545 rfl rfl rfl ?_ | refine go_aloadX_n (i := 0) (pc' := 546) dL_law_545 rfl rfl rfl ?_ | refine go_aload_nN (i := 0) (pc' := 546) dL_law_545 rfl rfl rfl ?_
  refine go_iload_n (i := 3) (pc' := 547) dL_law_546 rfl rfl rfl ?_
  refine go_iconst (v := 1) (pc' := 548) dL_law_547 rfl (by decide) ?_
  refine go_iadd (pc' := 549) dL_law_548 rfl ?_
  refine go_sld (pc' := 550) (11 * n + 1) dL_law_549 rfl (nI_add (11 * n) 1) (by omega) (by omega) ?_
  refine go_invV (As := [_]) (pc' := 553) dL_law_550 rfl cf_L_law_67 rfl hM rfl rfl (Nat.le_of_ble_eq_true rfl) q2 (fun v2 h2 q3 => ?_)
  obtain ⟨rfl, hJ⟩ := q3
  refine go_icmp_eq (pc' := 556) (tgt := 805) dL_law_553 (by decide) rfl (fun c1 => ?_) (fun c1 => ?_)
  · exact k h2 hJ
  · exact absurd rfl c1
set_option maxRecDepth 100000 in
theorem law_kindOf {G : xG} {I J : xH → Prop} {n : Nat} {h : xH} {P : Option Value → xH → Prop} (hn : 11 * n + 11 ≤ gN G) (hN : gN G ≤ 5632) (h0 : ∃ fs, h.2 0 = some (.inr (9, fs))) (hO : Ow G I J) (hI : I h) (k : ∀ h', J h' → Go G mL_law 805 [some (.retAddr 99), some (.ref 0), some (.ref 233), some (.int (nI (11 * n)))] [] h' P) : Go G mL_law 558 [some (.retAddr 99), some (.ref 0), some (.ref 233), some (.int (nI (11 * n)))] [] h P := by
  obtain ⟨o0, o1, o2, o3, o4, o5, o6, o7, o8, o9, o10, o11, o12, o13, o14, o15, o16, o17, o18, o19, o20⟩ := hO
  obtain ⟨fs, h0⟩ := h0
  first | refine go_aload_n (i := 1) (pc' := 559) dL_law_558 rfl rfl rfl ?_ | refine go_aloadX_n (i := 1) (pc' := 559) dL_law_558 rfl rfl rfl ?_ | refine go_aload_nN (i := 1) (pc' := 559) dL_law_558 rfl rfl rfl ?_
  first | refine go_aload_n (i := 0) (pc' := 560) dL_law_559 rfl rfl rfl ?_ | refine go_aloadX_n (i := 0) (pc' := 560) dL_law_559 rfl rfl rfl ?_ | refine go_aload_nN (i := 0) (pc' := 560) dL_law_559 rfl rfl rfl ?_
  refine go_iload_n (i := 3) (pc' := 561) dL_law_560 rfl rfl rfl ?_
  refine go_iconst (v := 1) (pc' := 562) dL_law_561 rfl (by decide) ?_
  refine go_iadd (pc' := 563) dL_law_562 rfl ?_
  refine go_sld (pc' := 564) (11 * n + 1) dL_law_563 rfl (nI_add (11 * n) 1) (by omega) (by omega) ?_
  refine go_invV (As := [_]) (pc' := 567) dL_law_564 rfl cf_L_law_68 rfl h0 rfl rfl (Nat.le_of_ble_eq_true rfl) (o12 _ hI _) (fun v1 h1 q1 => ?_)
  obtain ⟨x, F, rfl, hM, q2⟩ := q1
  first | refine go_aload_n (i := 2) (pc' := 568) dL_law_567 rfl rfl rfl ?_ | refine go_aloadX_n (i := 2) (pc' := 568) dL_law_567 rfl rfl rfl ?_ | refine go_aload_nN (i := 2) (pc' := 568) dL_law_567 rfl rfl rfl ?_
  first | refine go_aload_n (i := 0) (pc' := 569) dL_law_568 rfl rfl rfl ?_ | refine go_aloadX_n (i := 0) (pc' := 569) dL_law_568 rfl rfl rfl ?_ | refine go_aload_nN (i := 0) (pc' := 569) dL_law_568 rfl rfl rfl ?_
  refine go_iload_n (i := 3) (pc' := 570) dL_law_569 rfl rfl rfl ?_
  refine go_iconst (v := 1) (pc' := 571) dL_law_570 rfl (by decide) ?_
  refine go_iadd (pc' := 572) dL_law_571 rfl ?_
  refine go_sld (pc' := 573) (11 * n + 1) dL_law_572 rfl (nI_add (11 * n) 1) (by omega) (by omega) ?_
  refine go_invV (As := [_]) (pc' := 576) dL_law_573 rfl cf_L_law_71 rfl hM rfl rfl (Nat.le_of_ble_eq_true rfl) q2 (fun v2 h2 q3 => ?_)
  obtain ⟨rfl, hJ⟩ := q3
  refine go_icmp_eq (pc' := 579) (tgt := 805) dL_law_576 (by decide) rfl (fun c1 => ?_) (fun c1 => ?_)
  · exact k h2 hJ
  · exact absurd rfl c1
set_option maxRecDepth 100000 in
theorem law_places {G : xG} {I J : xH → Prop} {n : Nat} {h : xH} {P : Option Value → xH → Prop} (hn : 11 * n + 11 ≤ gN G) (hN : gN G ≤ 5632) (h0 : ∃ fs, h.2 0 = some (.inr (9, fs))) (hO : Ow G I J) (hI : I h) (k : ∀ h', J h' → Go G mL_law 805 [some (.retAddr 99), some (.ref 0), some (.ref 233), some (.int (nI (11 * n)))] [] h' P) : Go G mL_law 581 [some (.retAddr 99), some (.ref 0), some (.ref 233), some (.int (nI (11 * n)))] [] h P := by
  obtain ⟨o0, o1, o2, o3, o4, o5, o6, o7, o8, o9, o10, o11, o12, o13, o14, o15, o16, o17, o18, o19, o20⟩ := hO
  obtain ⟨fs, h0⟩ := h0
  first | refine go_aload_n (i := 1) (pc' := 582) dL_law_581 rfl rfl rfl ?_ | refine go_aloadX_n (i := 1) (pc' := 582) dL_law_581 rfl rfl rfl ?_ | refine go_aload_nN (i := 1) (pc' := 582) dL_law_581 rfl rfl rfl ?_
  first | refine go_aload_n (i := 0) (pc' := 583) dL_law_582 rfl rfl rfl ?_ | refine go_aloadX_n (i := 0) (pc' := 583) dL_law_582 rfl rfl rfl ?_ | refine go_aload_nN (i := 0) (pc' := 583) dL_law_582 rfl rfl rfl ?_
  refine go_iload_n (i := 3) (pc' := 584) dL_law_583 rfl rfl rfl ?_
  refine go_iconst (v := 1) (pc' := 585) dL_law_584 rfl (by decide) ?_
  refine go_iadd (pc' := 586) dL_law_585 rfl ?_
  refine go_sld (pc' := 587) (11 * n + 1) dL_law_586 rfl (nI_add (11 * n) 1) (by omega) (by omega) ?_
  refine go_invV (As := [_]) (pc' := 590) dL_law_587 rfl cf_L_law_72 rfl h0 rfl rfl (Nat.le_of_ble_eq_true rfl) (o13 _ hI _) (fun v1 h1 q1 => ?_)
  obtain ⟨x, F, rfl, hM, q2⟩ := q1
  first | refine go_aload_n (i := 2) (pc' := 591) dL_law_590 rfl rfl rfl ?_ | refine go_aloadX_n (i := 2) (pc' := 591) dL_law_590 rfl rfl rfl ?_ | refine go_aload_nN (i := 2) (pc' := 591) dL_law_590 rfl rfl rfl ?_
  first | refine go_aload_n (i := 0) (pc' := 592) dL_law_591 rfl rfl rfl ?_ | refine go_aloadX_n (i := 0) (pc' := 592) dL_law_591 rfl rfl rfl ?_ | refine go_aload_nN (i := 0) (pc' := 592) dL_law_591 rfl rfl rfl ?_
  refine go_iload_n (i := 3) (pc' := 593) dL_law_592 rfl rfl rfl ?_
  refine go_iconst (v := 1) (pc' := 594) dL_law_593 rfl (by decide) ?_
  refine go_iadd (pc' := 595) dL_law_594 rfl ?_
  refine go_sld (pc' := 596) (11 * n + 1) dL_law_595 rfl (nI_add (11 * n) 1) (by omega) (by omega) ?_
  refine go_invV (As := [_]) (pc' := 599) dL_law_596 rfl cf_L_law_75 rfl hM rfl rfl (Nat.le_of_ble_eq_true rfl) q2 (fun v2 h2 q3 => ?_)
  obtain ⟨rfl, hJ⟩ := q3
  refine go_icmp_eq (pc' := 602) (tgt := 805) dL_law_599 (by decide) rfl (fun c1 => ?_) (fun c1 => ?_)
  · exact k h2 hJ
  · exact absurd rfl c1
set_option maxRecDepth 100000 in
theorem law_rings {G : xG} {I J : xH → Prop} {n : Nat} {h : xH} {P : Option Value → xH → Prop} (hn : 11 * n + 11 ≤ gN G) (hN : gN G ≤ 5632) (h0 : ∃ fs, h.2 0 = some (.inr (9, fs))) (hO : Ow G I J) (hI : I h) (k : ∀ h', J h' → Go G mL_law 805 [some (.retAddr 99), some (.ref 0), some (.ref 233), some (.int (nI (11 * n)))] [] h' P) : Go G mL_law 604 [some (.retAddr 99), some (.ref 0), some (.ref 233), some (.int (nI (11 * n)))] [] h P := by
  obtain ⟨o0, o1, o2, o3, o4, o5, o6, o7, o8, o9, o10, o11, o12, o13, o14, o15, o16, o17, o18, o19, o20⟩ := hO
  obtain ⟨fs, h0⟩ := h0
  first | refine go_aload_n (i := 1) (pc' := 605) dL_law_604 rfl rfl rfl ?_ | refine go_aloadX_n (i := 1) (pc' := 605) dL_law_604 rfl rfl rfl ?_ | refine go_aload_nN (i := 1) (pc' := 605) dL_law_604 rfl rfl rfl ?_
  first | refine go_aload_n (i := 0) (pc' := 606) dL_law_605 rfl rfl rfl ?_ | refine go_aloadX_n (i := 0) (pc' := 606) dL_law_605 rfl rfl rfl ?_ | refine go_aload_nN (i := 0) (pc' := 606) dL_law_605 rfl rfl rfl ?_
  refine go_iload_n (i := 3) (pc' := 607) dL_law_606 rfl rfl rfl ?_
  refine go_iconst (v := 1) (pc' := 608) dL_law_607 rfl (by decide) ?_
  refine go_iadd (pc' := 609) dL_law_608 rfl ?_
  refine go_sld (pc' := 610) (11 * n + 1) dL_law_609 rfl (nI_add (11 * n) 1) (by omega) (by omega) ?_
  refine go_invV (As := [_]) (pc' := 613) dL_law_610 rfl cf_L_law_76 rfl h0 rfl rfl (Nat.le_of_ble_eq_true rfl) (o14 _ hI _) (fun v1 h1 q1 => ?_)
  obtain ⟨x, F, rfl, hM, q2⟩ := q1
  first | refine go_aload_n (i := 2) (pc' := 614) dL_law_613 rfl rfl rfl ?_ | refine go_aloadX_n (i := 2) (pc' := 614) dL_law_613 rfl rfl rfl ?_ | refine go_aload_nN (i := 2) (pc' := 614) dL_law_613 rfl rfl rfl ?_
  first | refine go_aload_n (i := 0) (pc' := 615) dL_law_614 rfl rfl rfl ?_ | refine go_aloadX_n (i := 0) (pc' := 615) dL_law_614 rfl rfl rfl ?_ | refine go_aload_nN (i := 0) (pc' := 615) dL_law_614 rfl rfl rfl ?_
  refine go_iload_n (i := 3) (pc' := 616) dL_law_615 rfl rfl rfl ?_
  refine go_iconst (v := 1) (pc' := 617) dL_law_616 rfl (by decide) ?_
  refine go_iadd (pc' := 618) dL_law_617 rfl ?_
  refine go_sld (pc' := 619) (11 * n + 1) dL_law_618 rfl (nI_add (11 * n) 1) (by omega) (by omega) ?_
  refine go_invV (As := [_]) (pc' := 622) dL_law_619 rfl cf_L_law_79 rfl hM rfl rfl (Nat.le_of_ble_eq_true rfl) q2 (fun v2 h2 q3 => ?_)
  obtain ⟨rfl, hJ⟩ := q3
  refine go_icmp_eq (pc' := 625) (tgt := 805) dL_law_622 (by decide) rfl (fun c1 => ?_) (fun c1 => ?_)
  · exact k h2 hJ
  · exact absurd rfl c1
set_option maxRecDepth 100000 in
theorem law_at {G : xG} {I J : xH → Prop} {n : Nat} {h : xH} {P : Option Value → xH → Prop} (hn : 11 * n + 11 ≤ gN G) (hN : gN G ≤ 5632) (h0 : ∃ fs, h.2 0 = some (.inr (9, fs))) (hO : Ow G I J) (hI : I h) (k : ∀ h', J h' → Go G mL_law 805 [some (.retAddr 99), some (.ref 0), some (.ref 233), some (.int (nI (11 * n)))] [] h' P) : Go G mL_law 627 [some (.retAddr 99), some (.ref 0), some (.ref 233), some (.int (nI (11 * n)))] [] h P := by
  obtain ⟨o0, o1, o2, o3, o4, o5, o6, o7, o8, o9, o10, o11, o12, o13, o14, o15, o16, o17, o18, o19, o20⟩ := hO
  obtain ⟨fs, h0⟩ := h0
  first | refine go_aload_n (i := 1) (pc' := 628) dL_law_627 rfl rfl rfl ?_ | refine go_aloadX_n (i := 1) (pc' := 628) dL_law_627 rfl rfl rfl ?_ | refine go_aload_nN (i := 1) (pc' := 628) dL_law_627 rfl rfl rfl ?_
  first | refine go_aload_n (i := 0) (pc' := 629) dL_law_628 rfl rfl rfl ?_ | refine go_aloadX_n (i := 0) (pc' := 629) dL_law_628 rfl rfl rfl ?_ | refine go_aload_nN (i := 0) (pc' := 629) dL_law_628 rfl rfl rfl ?_
  refine go_iload_n (i := 3) (pc' := 630) dL_law_629 rfl rfl rfl ?_
  refine go_iconst (v := 1) (pc' := 631) dL_law_630 rfl (by decide) ?_
  refine go_iadd (pc' := 632) dL_law_631 rfl ?_
  refine go_sld (pc' := 633) (11 * n + 1) dL_law_632 rfl (nI_add (11 * n) 1) (by omega) (by omega) ?_
  first | refine go_aload_n (i := 0) (pc' := 634) dL_law_633 rfl rfl rfl ?_ | refine go_aloadX_n (i := 0) (pc' := 634) dL_law_633 rfl rfl rfl ?_ | refine go_aload_nN (i := 0) (pc' := 634) dL_law_633 rfl rfl rfl ?_
  refine go_iload_n (i := 3) (pc' := 635) dL_law_634 rfl rfl rfl ?_
  refine go_iconst (v := 2) (pc' := 636) dL_law_635 rfl (by decide) ?_
  refine go_iadd (pc' := 637) dL_law_636 rfl ?_
  refine go_sld (pc' := 638) (11 * n + 2) dL_law_637 rfl (nI_add (11 * n) 2) (by omega) (by omega) ?_
  first | refine go_aload_n (i := 0) (pc' := 639) dL_law_638 rfl rfl rfl ?_ | refine go_aloadX_n (i := 0) (pc' := 639) dL_law_638 rfl rfl rfl ?_ | refine go_aload_nN (i := 0) (pc' := 639) dL_law_638 rfl rfl rfl ?_
  refine go_iload_n (i := 3) (pc' := 640) dL_law_639 rfl rfl rfl ?_
  refine go_iconst (v := 3) (pc' := 641) dL_law_640 rfl (by decide) ?_
  refine go_iadd (pc' := 642) dL_law_641 rfl ?_
  refine go_sld (pc' := 643) (11 * n + 3) dL_law_642 rfl (nI_add (11 * n) 3) (by omega) (by omega) ?_
  refine go_invV (As := [_, _, _]) (pc' := 646) dL_law_643 rfl cf_L_law_80 rfl h0 rfl rfl (Nat.le_of_ble_eq_true rfl) (o15 _ hI _ _ _) (fun v1 h1 q1 => ?_)
  obtain ⟨x, F, rfl, hM, q2⟩ := q1
  first | refine go_aload_n (i := 2) (pc' := 647) dL_law_646 rfl rfl rfl ?_ | refine go_aloadX_n (i := 2) (pc' := 647) dL_law_646 rfl rfl rfl ?_ | refine go_aload_nN (i := 2) (pc' := 647) dL_law_646 rfl rfl rfl ?_
  first | refine go_aload_n (i := 0) (pc' := 648) dL_law_647 rfl rfl rfl ?_ | refine go_aloadX_n (i := 0) (pc' := 648) dL_law_647 rfl rfl rfl ?_ | refine go_aload_nN (i := 0) (pc' := 648) dL_law_647 rfl rfl rfl ?_
  refine go_iload_n (i := 3) (pc' := 649) dL_law_648 rfl rfl rfl ?_
  refine go_iconst (v := 1) (pc' := 650) dL_law_649 rfl (by decide) ?_
  refine go_iadd (pc' := 651) dL_law_650 rfl ?_
  refine go_sld (pc' := 652) (11 * n + 1) dL_law_651 rfl (nI_add (11 * n) 1) (by omega) (by omega) ?_
  first | refine go_aload_n (i := 0) (pc' := 653) dL_law_652 rfl rfl rfl ?_ | refine go_aloadX_n (i := 0) (pc' := 653) dL_law_652 rfl rfl rfl ?_ | refine go_aload_nN (i := 0) (pc' := 653) dL_law_652 rfl rfl rfl ?_
  refine go_iload_n (i := 3) (pc' := 654) dL_law_653 rfl rfl rfl ?_
  refine go_iconst (v := 2) (pc' := 655) dL_law_654 rfl (by decide) ?_
  refine go_iadd (pc' := 656) dL_law_655 rfl ?_
  refine go_sld (pc' := 657) (11 * n + 2) dL_law_656 rfl (nI_add (11 * n) 2) (by omega) (by omega) ?_
  first | refine go_aload_n (i := 0) (pc' := 658) dL_law_657 rfl rfl rfl ?_ | refine go_aloadX_n (i := 0) (pc' := 658) dL_law_657 rfl rfl rfl ?_ | refine go_aload_nN (i := 0) (pc' := 658) dL_law_657 rfl rfl rfl ?_
  refine go_iload_n (i := 3) (pc' := 659) dL_law_658 rfl rfl rfl ?_
  refine go_iconst (v := 3) (pc' := 660) dL_law_659 rfl (by decide) ?_
  refine go_iadd (pc' := 661) dL_law_660 rfl ?_
  refine go_sld (pc' := 662) (11 * n + 3) dL_law_661 rfl (nI_add (11 * n) 3) (by omega) (by omega) ?_
  refine go_invV (As := [_, _, _]) (pc' := 665) dL_law_662 rfl cf_L_law_84 rfl hM rfl rfl (Nat.le_of_ble_eq_true rfl) q2 (fun v2 h2 q3 => ?_)
  obtain ⟨rfl, hJ⟩ := q3
  refine go_icmp_eq (pc' := 668) (tgt := 805) dL_law_665 (by decide) rfl (fun c1 => ?_) (fun c1 => ?_)
  · exact k h2 hJ
  · exact absurd rfl c1
set_option maxRecDepth 100000 in
theorem law_relate {G : xG} {I J : xH → Prop} {n : Nat} {h : xH} {P : Option Value → xH → Prop} (hn : 11 * n + 11 ≤ gN G) (hN : gN G ≤ 5632) (h0 : ∃ fs, h.2 0 = some (.inr (9, fs))) (hO : Ow G I J) (hI : I h) (k : ∀ h', J h' → Go G mL_law 805 [some (.retAddr 99), some (.ref 0), some (.ref 233), some (.int (nI (11 * n)))] [] h' P) : Go G mL_law 670 [some (.retAddr 99), some (.ref 0), some (.ref 233), some (.int (nI (11 * n)))] [] h P := by
  obtain ⟨o0, o1, o2, o3, o4, o5, o6, o7, o8, o9, o10, o11, o12, o13, o14, o15, o16, o17, o18, o19, o20⟩ := hO
  obtain ⟨fs, h0⟩ := h0
  first | refine go_aload_n (i := 1) (pc' := 671) dL_law_670 rfl rfl rfl ?_ | refine go_aloadX_n (i := 1) (pc' := 671) dL_law_670 rfl rfl rfl ?_ | refine go_aload_nN (i := 1) (pc' := 671) dL_law_670 rfl rfl rfl ?_
  first | refine go_aload_n (i := 0) (pc' := 672) dL_law_671 rfl rfl rfl ?_ | refine go_aloadX_n (i := 0) (pc' := 672) dL_law_671 rfl rfl rfl ?_ | refine go_aload_nN (i := 0) (pc' := 672) dL_law_671 rfl rfl rfl ?_
  refine go_iload_n (i := 3) (pc' := 673) dL_law_672 rfl rfl rfl ?_
  refine go_iconst (v := 1) (pc' := 674) dL_law_673 rfl (by decide) ?_
  refine go_iadd (pc' := 675) dL_law_674 rfl ?_
  refine go_sld (pc' := 676) (11 * n + 1) dL_law_675 rfl (nI_add (11 * n) 1) (by omega) (by omega) ?_
  first | refine go_aload_n (i := 0) (pc' := 677) dL_law_676 rfl rfl rfl ?_ | refine go_aloadX_n (i := 0) (pc' := 677) dL_law_676 rfl rfl rfl ?_ | refine go_aload_nN (i := 0) (pc' := 677) dL_law_676 rfl rfl rfl ?_
  refine go_iload_n (i := 3) (pc' := 678) dL_law_677 rfl rfl rfl ?_
  refine go_iconst (v := 2) (pc' := 679) dL_law_678 rfl (by decide) ?_
  refine go_iadd (pc' := 680) dL_law_679 rfl ?_
  refine go_sld (pc' := 681) (11 * n + 2) dL_law_680 rfl (nI_add (11 * n) 2) (by omega) (by omega) ?_
  first | refine go_aload_n (i := 0) (pc' := 682) dL_law_681 rfl rfl rfl ?_ | refine go_aloadX_n (i := 0) (pc' := 682) dL_law_681 rfl rfl rfl ?_ | refine go_aload_nN (i := 0) (pc' := 682) dL_law_681 rfl rfl rfl ?_
  refine go_iload_n (i := 3) (pc' := 683) dL_law_682 rfl rfl rfl ?_
  refine go_iconst (v := 3) (pc' := 684) dL_law_683 rfl (by decide) ?_
  refine go_iadd (pc' := 685) dL_law_684 rfl ?_
  refine go_sld (pc' := 686) (11 * n + 3) dL_law_685 rfl (nI_add (11 * n) 3) (by omega) (by omega) ?_
  refine go_invV (As := [_, _, _]) (pc' := 689) dL_law_686 rfl cf_L_law_85 rfl h0 rfl rfl (Nat.le_of_ble_eq_true rfl) (o16 _ hI _ _ _) (fun v1 h1 q1 => ?_)
  obtain ⟨x, F, rfl, hM, q2⟩ := q1
  first | refine go_aload_n (i := 2) (pc' := 690) dL_law_689 rfl rfl rfl ?_ | refine go_aloadX_n (i := 2) (pc' := 690) dL_law_689 rfl rfl rfl ?_ | refine go_aload_nN (i := 2) (pc' := 690) dL_law_689 rfl rfl rfl ?_
  first | refine go_aload_n (i := 0) (pc' := 691) dL_law_690 rfl rfl rfl ?_ | refine go_aloadX_n (i := 0) (pc' := 691) dL_law_690 rfl rfl rfl ?_ | refine go_aload_nN (i := 0) (pc' := 691) dL_law_690 rfl rfl rfl ?_
  refine go_iload_n (i := 3) (pc' := 692) dL_law_691 rfl rfl rfl ?_
  refine go_iconst (v := 1) (pc' := 693) dL_law_692 rfl (by decide) ?_
  refine go_iadd (pc' := 694) dL_law_693 rfl ?_
  refine go_sld (pc' := 695) (11 * n + 1) dL_law_694 rfl (nI_add (11 * n) 1) (by omega) (by omega) ?_
  first | refine go_aload_n (i := 0) (pc' := 696) dL_law_695 rfl rfl rfl ?_ | refine go_aloadX_n (i := 0) (pc' := 696) dL_law_695 rfl rfl rfl ?_ | refine go_aload_nN (i := 0) (pc' := 696) dL_law_695 rfl rfl rfl ?_
  refine go_iload_n (i := 3) (pc' := 697) dL_law_696 rfl rfl rfl ?_
  refine go_iconst (v := 2) (pc' := 698) dL_law_697 rfl (by decide) ?_
  refine go_iadd (pc' := 699) dL_law_698 rfl ?_
  refine go_sld (pc' := 700) (11 * n + 2) dL_law_699 rfl (nI_add (11 * n) 2) (by omega) (by omega) ?_
  first | refine go_aload_n (i := 0) (pc' := 701) dL_law_700 rfl rfl rfl ?_ | refine go_aloadX_n (i := 0) (pc' := 701) dL_law_700 rfl rfl rfl ?_ | refine go_aload_nN (i := 0) (pc' := 701) dL_law_700 rfl rfl rfl ?_
  refine go_iload_n (i := 3) (pc' := 702) dL_law_701 rfl rfl rfl ?_
  refine go_iconst (v := 3) (pc' := 703) dL_law_702 rfl (by decide) ?_
  refine go_iadd (pc' := 704) dL_law_703 rfl ?_
  refine go_sld (pc' := 705) (11 * n + 3) dL_law_704 rfl (nI_add (11 * n) 3) (by omega) (by omega) ?_
  refine go_invV (As := [_, _, _]) (pc' := 708) dL_law_705 rfl cf_L_law_88 rfl hM rfl rfl (Nat.le_of_ble_eq_true rfl) q2 (fun v2 h2 q3 => ?_)
  obtain ⟨rfl, hJ⟩ := q3
  refine go_icmp_eq (pc' := 711) (tgt := 805) dL_law_708 (by decide) rfl (fun c1 => ?_) (fun c1 => ?_)
  · exact k h2 hJ
  · exact absurd rfl c1
set_option maxRecDepth 100000 in
theorem law_nearer {G : xG} {I J : xH → Prop} {n : Nat} {h : xH} {P : Option Value → xH → Prop} (hn : 11 * n + 11 ≤ gN G) (hN : gN G ≤ 5632) (h0 : ∃ fs, h.2 0 = some (.inr (9, fs))) (hO : Ow G I J) (hI : I h) (k : ∀ h', J h' → Go G mL_law 805 [some (.retAddr 99), some (.ref 0), some (.ref 233), some (.int (nI (11 * n)))] [] h' P) : Go G mL_law 713 [some (.retAddr 99), some (.ref 0), some (.ref 233), some (.int (nI (11 * n)))] [] h P := by
  obtain ⟨o0, o1, o2, o3, o4, o5, o6, o7, o8, o9, o10, o11, o12, o13, o14, o15, o16, o17, o18, o19, o20⟩ := hO
  obtain ⟨fs, h0⟩ := h0
  first | refine go_aload_n (i := 1) (pc' := 714) dL_law_713 rfl rfl rfl ?_ | refine go_aloadX_n (i := 1) (pc' := 714) dL_law_713 rfl rfl rfl ?_ | refine go_aload_nN (i := 1) (pc' := 714) dL_law_713 rfl rfl rfl ?_
  first | refine go_aload_n (i := 0) (pc' := 715) dL_law_714 rfl rfl rfl ?_ | refine go_aloadX_n (i := 0) (pc' := 715) dL_law_714 rfl rfl rfl ?_ | refine go_aload_nN (i := 0) (pc' := 715) dL_law_714 rfl rfl rfl ?_
  refine go_iload_n (i := 3) (pc' := 716) dL_law_715 rfl rfl rfl ?_
  refine go_iconst (v := 1) (pc' := 717) dL_law_716 rfl (by decide) ?_
  refine go_iadd (pc' := 718) dL_law_717 rfl ?_
  refine go_sld (pc' := 719) (11 * n + 1) dL_law_718 rfl (nI_add (11 * n) 1) (by omega) (by omega) ?_
  first | refine go_aload_n (i := 0) (pc' := 720) dL_law_719 rfl rfl rfl ?_ | refine go_aloadX_n (i := 0) (pc' := 720) dL_law_719 rfl rfl rfl ?_ | refine go_aload_nN (i := 0) (pc' := 720) dL_law_719 rfl rfl rfl ?_
  refine go_iload_n (i := 3) (pc' := 721) dL_law_720 rfl rfl rfl ?_
  refine go_iconst (v := 2) (pc' := 722) dL_law_721 rfl (by decide) ?_
  refine go_iadd (pc' := 723) dL_law_722 rfl ?_
  refine go_sld (pc' := 724) (11 * n + 2) dL_law_723 rfl (nI_add (11 * n) 2) (by omega) (by omega) ?_
  first | refine go_aload_n (i := 0) (pc' := 725) dL_law_724 rfl rfl rfl ?_ | refine go_aloadX_n (i := 0) (pc' := 725) dL_law_724 rfl rfl rfl ?_ | refine go_aload_nN (i := 0) (pc' := 725) dL_law_724 rfl rfl rfl ?_
  refine go_iload_n (i := 3) (pc' := 726) dL_law_725 rfl rfl rfl ?_
  refine go_iconst (v := 3) (pc' := 727) dL_law_726 rfl (by decide) ?_
  refine go_iadd (pc' := 728) dL_law_727 rfl ?_
  refine go_sld (pc' := 729) (11 * n + 3) dL_law_728 rfl (nI_add (11 * n) 3) (by omega) (by omega) ?_
  first | refine go_aload_n (i := 0) (pc' := 730) dL_law_729 rfl rfl rfl ?_ | refine go_aloadX_n (i := 0) (pc' := 730) dL_law_729 rfl rfl rfl ?_ | refine go_aload_nN (i := 0) (pc' := 730) dL_law_729 rfl rfl rfl ?_
  refine go_iload_n (i := 3) (pc' := 731) dL_law_730 rfl rfl rfl ?_
  refine go_iconst (v := 4) (pc' := 732) dL_law_731 rfl (by decide) ?_
  refine go_iadd (pc' := 733) dL_law_732 rfl ?_
  refine go_sld (pc' := 734) (11 * n + 4) dL_law_733 rfl (nI_add (11 * n) 4) (by omega) (by omega) ?_
  refine go_invV (As := [_, _, _, _]) (pc' := 737) dL_law_734 rfl cf_L_law_89 rfl h0 rfl rfl (Nat.le_of_ble_eq_true rfl) (o17 _ hI _ _ _ _) (fun v1 h1 q1 => ?_)
  obtain ⟨x, F, rfl, hM, q2⟩ := q1
  first | refine go_aload_n (i := 2) (pc' := 738) dL_law_737 rfl rfl rfl ?_ | refine go_aloadX_n (i := 2) (pc' := 738) dL_law_737 rfl rfl rfl ?_ | refine go_aload_nN (i := 2) (pc' := 738) dL_law_737 rfl rfl rfl ?_
  first | refine go_aload_n (i := 0) (pc' := 739) dL_law_738 rfl rfl rfl ?_ | refine go_aloadX_n (i := 0) (pc' := 739) dL_law_738 rfl rfl rfl ?_ | refine go_aload_nN (i := 0) (pc' := 739) dL_law_738 rfl rfl rfl ?_
  refine go_iload_n (i := 3) (pc' := 740) dL_law_739 rfl rfl rfl ?_
  refine go_iconst (v := 1) (pc' := 741) dL_law_740 rfl (by decide) ?_
  refine go_iadd (pc' := 742) dL_law_741 rfl ?_
  refine go_sld (pc' := 743) (11 * n + 1) dL_law_742 rfl (nI_add (11 * n) 1) (by omega) (by omega) ?_
  first | refine go_aload_n (i := 0) (pc' := 744) dL_law_743 rfl rfl rfl ?_ | refine go_aloadX_n (i := 0) (pc' := 744) dL_law_743 rfl rfl rfl ?_ | refine go_aload_nN (i := 0) (pc' := 744) dL_law_743 rfl rfl rfl ?_
  refine go_iload_n (i := 3) (pc' := 745) dL_law_744 rfl rfl rfl ?_
  refine go_iconst (v := 2) (pc' := 746) dL_law_745 rfl (by decide) ?_
  refine go_iadd (pc' := 747) dL_law_746 rfl ?_
  refine go_sld (pc' := 748) (11 * n + 2) dL_law_747 rfl (nI_add (11 * n) 2) (by omega) (by omega) ?_
  first | refine go_aload_n (i := 0) (pc' := 749) dL_law_748 rfl rfl rfl ?_ | refine go_aloadX_n (i := 0) (pc' := 749) dL_law_748 rfl rfl rfl ?_ | refine go_aload_nN (i := 0) (pc' := 749) dL_law_748 rfl rfl rfl ?_
  refine go_iload_n (i := 3) (pc' := 750) dL_law_749 rfl rfl rfl ?_
  refine go_iconst (v := 3) (pc' := 751) dL_law_750 rfl (by decide) ?_
  refine go_iadd (pc' := 752) dL_law_751 rfl ?_
  refine go_sld (pc' := 753) (11 * n + 3) dL_law_752 rfl (nI_add (11 * n) 3) (by omega) (by omega) ?_
  first | refine go_aload_n (i := 0) (pc' := 754) dL_law_753 rfl rfl rfl ?_ | refine go_aloadX_n (i := 0) (pc' := 754) dL_law_753 rfl rfl rfl ?_ | refine go_aload_nN (i := 0) (pc' := 754) dL_law_753 rfl rfl rfl ?_
  refine go_iload_n (i := 3) (pc' := 755) dL_law_754 rfl rfl rfl ?_
  refine go_iconst (v := 4) (pc' := 756) dL_law_755 rfl (by decide) ?_
  refine go_iadd (pc' := 757) dL_law_756 rfl ?_
  refine go_sld (pc' := 758) (11 * n + 4) dL_law_757 rfl (nI_add (11 * n) 4) (by omega) (by omega) ?_
  refine go_invV (As := [_, _, _, _]) (pc' := 761) dL_law_758 rfl cf_L_law_93 rfl hM rfl rfl (Nat.le_of_ble_eq_true rfl) q2 (fun v2 h2 q3 => ?_)
  obtain ⟨rfl, hJ⟩ := q3
  refine go_icmp_eq (pc' := 764) (tgt := 805) dL_law_761 (by decide) rfl (fun c1 => ?_) (fun c1 => ?_)
  · exact k h2 hJ
  · exact absurd rfl c1
set_option maxRecDepth 100000 in
theorem law_used {G : xG} {I J : xH → Prop} {n : Nat} {h : xH} {P : Option Value → xH → Prop} (hn : 11 * n + 11 ≤ gN G) (hN : gN G ≤ 5632) (h0 : ∃ fs, h.2 0 = some (.inr (9, fs))) (hO : Ow G I J) (hI : I h) (k : ∀ h', J h' → Go G mL_law 805 [some (.retAddr 99), some (.ref 0), some (.ref 233), some (.int (nI (11 * n)))] [] h' P) : Go G mL_law 766 [some (.retAddr 99), some (.ref 0), some (.ref 233), some (.int (nI (11 * n)))] [] h P := by
  obtain ⟨o0, o1, o2, o3, o4, o5, o6, o7, o8, o9, o10, o11, o12, o13, o14, o15, o16, o17, o18, o19, o20⟩ := hO
  obtain ⟨fs, h0⟩ := h0
  first | refine go_aload_n (i := 1) (pc' := 767) dL_law_766 rfl rfl rfl ?_ | refine go_aloadX_n (i := 1) (pc' := 767) dL_law_766 rfl rfl rfl ?_ | refine go_aload_nN (i := 1) (pc' := 767) dL_law_766 rfl rfl rfl ?_
  refine go_invV (As := []) (pc' := 770) dL_law_767 rfl cf_L_law_94 rfl h0 rfl rfl (Nat.le_of_ble_eq_true rfl) (o18 _ hI ) (fun v1 h1 q1 => ?_)
  obtain ⟨x, F, rfl, hM, q2⟩ := q1
  first | refine go_aload_n (i := 2) (pc' := 771) dL_law_770 rfl rfl rfl ?_ | refine go_aloadX_n (i := 2) (pc' := 771) dL_law_770 rfl rfl rfl ?_ | refine go_aload_nN (i := 2) (pc' := 771) dL_law_770 rfl rfl rfl ?_
  refine go_invV (As := []) (pc' := 774) dL_law_771 rfl cf_L_law_97 rfl hM rfl rfl (Nat.le_of_ble_eq_true rfl) q2 (fun v2 h2 q3 => ?_)
  obtain ⟨rfl, hJ⟩ := q3
  refine go_icmp_eq (pc' := 777) (tgt := 805) dL_law_774 (by decide) rfl (fun c1 => ?_) (fun c1 => ?_)
  · exact k h2 hJ
  · exact absurd rfl c1
set_option maxRecDepth 100000 in
theorem law_saves {G : xG} {I J : xH → Prop} {n : Nat} {h : xH} {P : Option Value → xH → Prop} (hn : 11 * n + 11 ≤ gN G) (hN : gN G ≤ 5632) (h0 : ∃ fs, h.2 0 = some (.inr (9, fs))) (hO : Ow G I J) (hI : I h) (k : ∀ h', J h' → Go G mL_law 805 [some (.retAddr 99), some (.ref 0), some (.ref 233), some (.int (nI (11 * n)))] [] h' P) : Go G mL_law 779 [some (.retAddr 99), some (.ref 0), some (.ref 233), some (.int (nI (11 * n)))] [] h P := by
  obtain ⟨o0, o1, o2, o3, o4, o5, o6, o7, o8, o9, o10, o11, o12, o13, o14, o15, o16, o17, o18, o19, o20⟩ := hO
  obtain ⟨fs, h0⟩ := h0
  first | refine go_aload_n (i := 1) (pc' := 780) dL_law_779 rfl rfl rfl ?_ | refine go_aloadX_n (i := 1) (pc' := 780) dL_law_779 rfl rfl rfl ?_ | refine go_aload_nN (i := 1) (pc' := 780) dL_law_779 rfl rfl rfl ?_
  refine go_invV (As := []) (pc' := 783) dL_law_780 rfl cf_L_law_98 rfl h0 rfl rfl (Nat.le_of_ble_eq_true rfl) (o19 _ hI ) (fun v1 h1 q1 => ?_)
  obtain ⟨x, F, rfl, hM, q2⟩ := q1
  first | refine go_aload_n (i := 2) (pc' := 784) dL_law_783 rfl rfl rfl ?_ | refine go_aloadX_n (i := 2) (pc' := 784) dL_law_783 rfl rfl rfl ?_ | refine go_aload_nN (i := 2) (pc' := 784) dL_law_783 rfl rfl rfl ?_
  refine go_invV (As := []) (pc' := 787) dL_law_784 rfl cf_L_law_101 rfl hM rfl rfl (Nat.le_of_ble_eq_true rfl) q2 (fun v2 h2 q3 => ?_)
  obtain ⟨rfl, hJ⟩ := q3
  refine go_icmp_eq (pc' := 790) (tgt := 805) dL_law_787 (by decide) rfl (fun c1 => ?_) (fun c1 => ?_)
  · exact k h2 hJ
  · exact absurd rfl c1
set_option maxRecDepth 100000 in
theorem law_flaws {G : xG} {I J : xH → Prop} {n : Nat} {h : xH} {P : Option Value → xH → Prop} (hn : 11 * n + 11 ≤ gN G) (hN : gN G ≤ 5632) (h0 : ∃ fs, h.2 0 = some (.inr (9, fs))) (hO : Ow G I J) (hI : I h) (k : ∀ h', J h' → Go G mL_law 805 [some (.retAddr 99), some (.ref 0), some (.ref 233), some (.int (nI (11 * n)))] [] h' P) : Go G mL_law 792 [some (.retAddr 99), some (.ref 0), some (.ref 233), some (.int (nI (11 * n)))] [] h P := by
  obtain ⟨o0, o1, o2, o3, o4, o5, o6, o7, o8, o9, o10, o11, o12, o13, o14, o15, o16, o17, o18, o19, o20⟩ := hO
  obtain ⟨fs, h0⟩ := h0
  first | refine go_aload_n (i := 1) (pc' := 793) dL_law_792 rfl rfl rfl ?_ | refine go_aloadX_n (i := 1) (pc' := 793) dL_law_792 rfl rfl rfl ?_ | refine go_aload_nN (i := 1) (pc' := 793) dL_law_792 rfl rfl rfl ?_
  refine go_invV (As := []) (pc' := 796) dL_law_793 rfl cf_L_law_102 rfl h0 rfl rfl (Nat.le_of_ble_eq_true rfl) (o20 _ hI ) (fun v1 h1 q1 => ?_)
  obtain ⟨x, F, rfl, hM, q2⟩ := q1
  first | refine go_aload_n (i := 2) (pc' := 797) dL_law_796 rfl rfl rfl ?_ | refine go_aloadX_n (i := 2) (pc' := 797) dL_law_796 rfl rfl rfl ?_ | refine go_aload_nN (i := 2) (pc' := 797) dL_law_796 rfl rfl rfl ?_
  refine go_invV (As := []) (pc' := 800) dL_law_797 rfl cf_L_law_105 rfl hM rfl rfl (Nat.le_of_ble_eq_true rfl) q2 (fun v2 h2 q3 => ?_)
  obtain ⟨rfl, hJ⟩ := q3
  refine go_icmp_eq (pc' := 803) (tgt := 805) dL_law_800 (by decide) rfl (fun c1 => ?_) (fun c1 => ?_)
  · exact k h2 hJ
  · exact absurd rfl c1
/-- the loop: I n holds ahead of the n-th call -/
def Bd (h : xH) : Prop := h.1.1 ≤ 600000 ∧ h.1.2 ≤ 7302250
set_option maxRecDepth 100000 in
theorem law_loop {G : xG} {I : Nat → xH → Prop} (hN : gN G ≤ 5632) (hB : ∀ n h, I n h → Bd h ∧ ∃ fs, h.2 0 = some (.inr (9, fs))) (hKeep : ∀ n h, I n h → I (n + 1) h) (hO : ∀ n, 11 * n + 11 ≤ gN G → Ow G (I n) (I (n + 1))) :
    ∀ (m n : Nat) (h : xH), gN G < 11 * (n + m) → n + m ≤ 513 → I n h → Go G mL_law 18 [some (.retAddr 99), some (.ref 0), some (.ref 233), some (.int (nI (11 * n)))] [] h (fun v h' => v = some (.int 1) ∧ Bd h') := by
  intro m
  induction m with
  | zero =>
    intro n h hm hm2 hI
    refine go_iload_n (i := 3) (pc' := 19) dL_law_18 rfl rfl rfl ?_
    first | refine go_aload_n (i := 0) (pc' := 20) dL_law_19 rfl rfl rfl ?_ | refine go_aloadX_n (i := 0) (pc' := 20) dL_law_19 rfl rfl rfl ?_ | refine go_aload_nN (i := 0) (pc' := 20) dL_law_19 rfl rfl rfl ?_
    refine go_scrlen (pc' := 21) dL_law_20 rfl ?_
    refine go_bipush (v := 11) (pc' := 23) dL_law_21 rfl (by decide) ?_
    refine go_isub (pc' := 24) dL_law_23 rfl ?_
    refine go_icmp_gt (pc' := 27) (tgt := 811) dL_law_24 (by decide) rfl (fun c1 => ?_) (fun c1 => ?_)
    · refine go_iconst (v := 1) (pc' := 812) dL_law_811 rfl (by decide) ?_
      exact Go.ret (v := some (.int _)) dL_law_812 ⟨_, rfl⟩ ⟨rfl,(hB n h hI).1⟩
    · refine absurd ?_ c1
      rw [Int32.lt_iff_toInt_lt, show (11 : Int32) = nI 11 from rfl, pk_sub_toInt (by omega) (by omega), nI_toInt (by omega)]
      omega
  | succ m ih =>
    intro n h hm hm2 hI
    refine go_iload_n (i := 3) (pc' := 19) dL_law_18 rfl rfl rfl ?_
    first | refine go_aload_n (i := 0) (pc' := 20) dL_law_19 rfl rfl rfl ?_ | refine go_aloadX_n (i := 0) (pc' := 20) dL_law_19 rfl rfl rfl ?_ | refine go_aload_nN (i := 0) (pc' := 20) dL_law_19 rfl rfl rfl ?_
    refine go_scrlen (pc' := 21) dL_law_20 rfl ?_
    refine go_bipush (v := 11) (pc' := 23) dL_law_21 rfl (by decide) ?_
    refine go_isub (pc' := 24) dL_law_23 rfl ?_
    refine go_icmp_gt (pc' := 27) (tgt := 811) dL_law_24 (by decide) rfl (fun c1 => ?_) (fun c1 => ?_)
    · refine go_iconst (v := 1) (pc' := 812) dL_law_811 rfl (by decide) ?_
      exact Go.ret (v := some (.int _)) dL_law_812 ⟨_, rfl⟩ ⟨rfl,(hB n h hI).1⟩
    · have hlt : 11 * n + 11 ≤ gN G := by
        rw [Int32.lt_iff_toInt_lt, show (11 : Int32) = nI 11 from rfl, pk_sub_toInt (by omega) (by omega), nI_toInt (by omega)] at c1
        omega
      have k : ∀ h', I (n + 1) h' → Go G mL_law 805 [some (.retAddr 99), some (.ref 0), some (.ref 233), some (.int (nI (11 * n)))] [] h' (fun v h' => v = some (.int 1) ∧ Bd h') := by
        intro h' hI'
        refine go_iincC (kk := 11) (pc' := 808) dL_law_805 rfl rfl (by decide) (by decide) rfl ?_
        refine go_goto (pc' := 0) (tgt := 18) dL_law_808 (by decide) ?_
        have e : nI (11 * n) + 11 = nI (11 * (n + 1)) := nI_add (11 * n) 11
        rw [e]
        exact ih (n + 1) h' (by omega) (by omega) hI'
      first | refine go_aload_n (i := 0) (pc' := 28) dL_law_27 rfl rfl rfl ?_ | refine go_aloadX_n (i := 0) (pc' := 28) dL_law_27 rfl rfl rfl ?_ | refine go_aload_nN (i := 0) (pc' := 28) dL_law_27 rfl rfl rfl ?_
      refine go_iload_n (i := 3) (pc' := 29) dL_law_28 rfl rfl rfl ?_
      refine go_sld (pc' := 30) (11 * n) dL_law_29 rfl rfl (by omega) (by omega) ?_
      refine go_bipush (v := 31) (pc' := 32) dL_law_30 rfl (by decide) ?_
      refine go_iand (pc' := 33) dL_law_32 rfl ?_
      obtain ⟨j, hj, ej⟩ := pk_andE (gS G (11 * n)) (m := 31) 5 (by decide)
      rw [ej]
      have h0 := (hB n h hI).2
      rcases Nat.lt_or_ge j 21 with hj21 | hj21
      · rcases (show j = 0 ∨ j = 1 ∨ j = 2 ∨ j = 3 ∨ j = 4 ∨ j = 5 ∨ j = 6 ∨ j = 7 ∨ j = 8 ∨ j = 9 ∨ j = 10 ∨ j = 11 ∨ j = 12 ∨ j = 13 ∨ j = 14 ∨ j = 15 ∨ j = 16 ∨ j = 17 ∨ j = 18 ∨ j = 19 ∨ j = 20 by omega) with rfl | rfl | rfl | rfl | rfl | rfl | rfl | rfl | rfl | rfl | rfl | rfl | rfl | rfl | rfl | rfl | rfl | rfl | rfl | rfl | rfl
        · exact go_tableIn (pc' := 0) (tgt := 132) dL_law_33 (by decide) (by decide) rfl (by decide) (law_feed hlt hN h0 (hO n hlt) hI k)
        · exact go_tableIn (pc' := 0) (tgt := 355) dL_law_33 (by decide) (by decide) rfl (by decide) (law_end hlt hN h0 (hO n hlt) hI k)
        · exact go_tableIn (pc' := 0) (tgt := 378) dL_law_33 (by decide) (by decide) rfl (by decide) (law_run hlt hN h0 (hO n hlt) hI k)
        · exact go_tableIn (pc' := 0) (tgt := 391) dL_law_33 (by decide) (by decide) rfl (by decide) (law_wrong hlt hN h0 (hO n hlt) hI k)
        · exact go_tableIn (pc' := 0) (tgt := 404) dL_law_33 (by decide) (by decide) rfl (by decide) (law_outputs hlt hN h0 (hO n hlt) hI k)
        · exact go_tableIn (pc' := 0) (tgt := 417) dL_law_33 (by decide) (by decide) rfl (by decide) (law_out hlt hN h0 (hO n hlt) hI k)
        · exact go_tableIn (pc' := 0) (tgt := 440) dL_law_33 (by decide) (by decide) rfl (by decide) (law_crash hlt hN h0 (hO n hlt) hI k)
        · exact go_tableIn (pc' := 0) (tgt := 483) dL_law_33 (by decide) (by decide) rfl (by decide) (law_recover hlt hN h0 (hO n hlt) hI k)
        · exact go_tableIn (pc' := 0) (tgt := 496) dL_law_33 (by decide) (by decide) rfl (by decide) (law_isDown hlt hN h0 (hO n hlt) hI k)
        · exact go_tableIn (pc' := 0) (tgt := 509) dL_law_33 (by decide) (by decide) rfl (by decide) (law_isOpen hlt hN h0 (hO n hlt) hI k)
        · exact go_tableIn (pc' := 0) (tgt := 522) dL_law_33 (by decide) (by decide) rfl (by decide) (law_live hlt hN h0 (hO n hlt) hI k)
        · exact go_tableIn (pc' := 0) (tgt := 535) dL_law_33 (by decide) (by decide) rfl (by decide) (law_idAt hlt hN h0 (hO n hlt) hI k)
        · exact go_tableIn (pc' := 0) (tgt := 558) dL_law_33 (by decide) (by decide) rfl (by decide) (law_kindOf hlt hN h0 (hO n hlt) hI k)
        · exact go_tableIn (pc' := 0) (tgt := 581) dL_law_33 (by decide) (by decide) rfl (by decide) (law_places hlt hN h0 (hO n hlt) hI k)
        · exact go_tableIn (pc' := 0) (tgt := 604) dL_law_33 (by decide) (by decide) rfl (by decide) (law_rings hlt hN h0 (hO n hlt) hI k)
        · exact go_tableIn (pc' := 0) (tgt := 627) dL_law_33 (by decide) (by decide) rfl (by decide) (law_at hlt hN h0 (hO n hlt) hI k)
        · exact go_tableIn (pc' := 0) (tgt := 670) dL_law_33 (by decide) (by decide) rfl (by decide) (law_relate hlt hN h0 (hO n hlt) hI k)
        · exact go_tableIn (pc' := 0) (tgt := 713) dL_law_33 (by decide) (by decide) rfl (by decide) (law_nearer hlt hN h0 (hO n hlt) hI k)
        · exact go_tableIn (pc' := 0) (tgt := 766) dL_law_33 (by decide) (by decide) rfl (by decide) (law_used hlt hN h0 (hO n hlt) hI k)
        · exact go_tableIn (pc' := 0) (tgt := 779) dL_law_33 (by decide) (by decide) rfl (by decide) (law_saves hlt hN h0 (hO n hlt) hI k)
        · exact go_tableIn (pc' := 0) (tgt := 792) dL_law_33 (by decide) (by decide) rfl (by decide) (law_flaws hlt hN h0 (hO n hlt) hI k)
      · refine go_tableOut (pc' := 0) (tgt := 805) dL_law_33 (Or.inr ?_) (by decide) (k h (hKeep n h hI))
        rw [nI_toInt (by omega)]
        omega

set_option maxRecDepth 100000 in
/-- from the entry: both are made, then the loop -/
theorem law_all {G : xG} {I : Nat → xH → Prop} (hN : gN G ≤ 5632) (h0 : ∀ h : xH, h.1 = (2476, 103911) → CIn h → MIn h → I 0 h) (hB : ∀ n h, I n h → Bd h ∧ ∃ fs, h.2 0 = some (.inr (9, fs))) (hKeep : ∀ n h, I n h → I (n + 1) h) (hO : ∀ n, 11 * n + 11 ≤ gN G → Ow G (I n) (I (n + 1))) : Go G mL_law 0 [some (.retAddr 99), none, none, none] [] ((0, 0), fun _ => none) (fun v h' => v = some (.int 1) ∧ Bd h') := by
  have hz : (((0, 0), fun _ => none) : xH).1 = (0, 0) := rfl
  generalize (((0, 0), fun _ => none) : xH) = h at hz ⊢
  refine go_newK (pc' := 3) dL_law_0 rfl nw_LandBaseLaw_7 hz (fun hp1 zp1 cp1 fp1 => ?_)
  have hz := zp1
  have hh := cp1
  refine go_dup (pc' := 4) dL_law_3 rfl rfl ?_
  refine go_invI (As := []) (pc' := 7) dL_law_4 rfl cf_L_law_9 rfl rfl (Nat.le_of_ble_eq_true rfl) (c_Land_init (hz:=hz) (hh:=hh)) (fun v2 h2 q2 => ?_)
  obtain ⟨rfl, hz, hC⟩ := q2
  first | refine go_astore_n (i := 1) (pc' := 8) dL_law_7 rfl rfl (by decide) rfl ?_ | refine go_astoreX_n (i := 1) (pc' := 8) dL_law_7 rfl rfl (by decide) rfl ?_ | refine go_astore_nN (i := 1) (pc' := 8) dL_law_7 rfl rfl (by decide) rfl ?_
  refine go_newK (pc' := 11) dL_law_8 rfl nw_LandBaseLaw_10 hz (fun hp3 zp3 cp3 fp3 => ?_)
  have hz := zp3
  have hm := cp3
  refine go_dup (pc' := 12) dL_law_11 rfl rfl ?_
  have hm2 : hp3.2 233 = some (.inr (13, mkF mF0 58)) := hm
  refine go_invI (As := []) (pc' := 15) dL_law_12 rfl cf_L_law_12 rfl rfl (Nat.le_of_ble_eq_true rfl) (c_Model_init (hz:=hz) (hh:=hm2)) (fun v4 h4 q4 => ?_)
  obtain ⟨rfl, hz4, hM, fr4⟩ := q4
  have hC4 : CIn h4 := hC.kept (fun b hb => (fr4 b hb).trans (fp3 b (by omega)))
  first | refine go_astore_n (i := 2) (pc' := 16) dL_law_15 rfl rfl (by decide) rfl ?_ | refine go_astoreX_n (i := 2) (pc' := 16) dL_law_15 rfl rfl (by decide) rfl ?_ | refine go_astore_nN (i := 2) (pc' := 16) dL_law_15 rfl rfl (by decide) rfl ?_
  refine go_iconst (v := 0) (pc' := 17) dL_law_16 rfl (by decide) ?_
  refine go_istore_n (i := 3) (pc' := 18) dL_law_17 rfl rfl (by decide) rfl ?_
  exact law_loop hN hB hKeep hO 513 0 h4 (by omega) (by omega) (h0 h4 hz4 hC4 hM)

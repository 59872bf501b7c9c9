/-! the system -/
def b_X10_run_254  (x1 : Int32) (n : Nat) (σ : xσ) : Option (Int32 × Nat × xσ) := bd (f_X9_clear n σ) (fun v101 σ102 => some (x1, n, σ102))
set_option maxRecDepth 100000 in
set_option maxHeartbeats 4000000 in
theorem t_X10_run_254 {G : xG} {n : Nat} {x1 : Int32} {σ : xσ} {h : xH} {r : Int32 × Nat × xσ} {d2 : Option Value} : Rl n σ h → b_X10_run_254 x1 n σ = some r → Go G mX10_run 254 [some (.ref 0), some (.int x1), d2] [] h (fun v h' => xRok (xRt mX10_run) v ∧ v = some (.int r.1) ∧ Rl r.2.1 r.2.2 h') := by
  intro R hf
  rw [b_X10_run_254] at hf
  refine go_aload_n (i := 0) (pc' := 255) dX10_run_254 rfl rfl rfl ?_
  refine go_getS (pc' := 258) dX10_run_255 rfl gf_LandBase_10 R (R.at rfl (by decide)) (by decide) rfl ?_
  obtain ⟨v101, σ102, e103, hf⟩ := bd_some hf
  refine go_invV (As := []) (pc' := 261) dX10_run_258 rfl cf_X10_run_133 rfl (R.ob (R.at rfl (by decide))) rfl rfl (Nat.le_of_ble_eq_true rfl) (c_X9_clear R e103) (fun q104v h105 q104 => ?_)
  obtain ⟨rfl, R⟩ := q104
  refine go_iload_n (i := 1) (pc' := 262) dX10_run_261 rfl rfl rfl ?_
  obtain rfl := Option.some.inj hf
  exact Go.ret (v := some (.int _)) dX10_run_262 ⟨_, rfl⟩ ⟨rfl, rfl, R⟩
def b_X10_run_235  (k31 : Int32 → Nat → xσ → Option (Int32 × Nat × xσ)) (x1 : Int32) (x2 : Int32) (n : Nat) (σ : xσ) : Option (Int32 × Nat × xσ) := if x2 = ((-1)) then b_X10_run_254 x1 n σ else bd (f_X10_putAnswer n x2 σ) (fun v102 σ103 => k31 (x1 + 1) n σ103)
set_option maxRecDepth 100000 in
set_option maxHeartbeats 4000000 in
theorem t_X10_run_235 {G : xG} {k31 : Int32 → Nat → xσ → Option (Int32 × Nat × xσ)} (hk31 : ∀ {n : Nat} {x1 : Int32} {σ : xσ} {h : xH} {r : Int32 × Nat × xσ} {d2 : Option Value}, Rl n σ h → k31 x1 n σ = some r → Go G mX10_run 31 [some (.ref 0), some (.int x1), d2] [] h (fun v h' => xRok (xRt mX10_run) v ∧ v = some (.int r.1) ∧ Rl r.2.1 r.2.2 h')) {n : Nat} {x1 : Int32} {x2 : Int32} {σ : xσ} {h : xH} {r : Int32 × Nat × xσ} : Rl n σ h → b_X10_run_235 k31 x1 x2 n σ = some r → Go G mX10_run 235 [some (.ref 0), some (.int x1), some (.int x2)] [] h (fun v h' => xRok (xRt mX10_run) v ∧ v = some (.int r.1) ∧ Rl r.2.1 r.2.2 h') := by
  intro R hf
  rw [b_X10_run_235] at hf
  refine go_iload_n (i := 2) (pc' := 236) dX10_run_235 rfl rfl rfl ?_
  refine go_iconst (v := (-1)) (pc' := 237) dX10_run_236 rfl (by decide) ?_
  refine go_icmp_ne (pc' := 240) (tgt := 243) dX10_run_237 (by decide) rfl (fun c101 => ?_) (fun c101 => ?_)
  · have hf := ie c101 hf
    refine go_aload_n (i := 0) (pc' := 244) dX10_run_243 rfl rfl rfl ?_
    refine go_iload_n (i := 2) (pc' := 245) dX10_run_244 rfl rfl rfl ?_
    obtain ⟨v102, σ103, e104, hf⟩ := bd_some hf
    refine go_invV (As := [_]) (pc' := 248) dX10_run_245 rfl cf_X10_run_129 rfl (R.ob (R.at rfl (by decide))) rfl rfl (Nat.le_of_ble_eq_true rfl) (c_X10_putAnswer R e104) (fun q105v h106 q105 => ?_)
    obtain ⟨rfl, R⟩ := q105
    refine go_iincC (kk := 1) (pc' := 251) dX10_run_248 rfl rfl (by decide) (by decide) rfl ?_
    refine go_goto (pc' := 0) (tgt := 31) dX10_run_251 (by decide) ?_
    exact hk31 R hf
  · have hf := it c101 hf
    refine go_goto (pc' := 0) (tgt := 254) dX10_run_240 (by decide) ?_
    exact t_X10_run_254 R hf
def l_X10_run_31  : Nat → Int32 → Nat → xσ → Option (Int32 × Nat × xσ)
  | 0, _, _, _ => none
  | f + 1, x1, n, σ => if 4000 ≤ x1 then bd (f_X9_clear n σ) (fun v102 σ103 => some (x1, n, σ103)) else if (sI σ 1 2) = 0 then bd (f_X9_clear n σ) (fun v108 σ109 => some (x1, n, σ109)) else bd (f_X5_readStatement n σ) (fun v113 σ114 => if v113 = 0 then st (wI σ114 0 10 (sI σ114 1 3)) (fun σ205 => b_X10_run_254 x1 n σ205) else st (wI σ114 0 9 0) (fun σ119 => if sI σ119 3 3 = 0 then bn (f_X10_add n σ119) (fun v123 n σ124 => b_X10_run_235 (l_X10_run_31 f) x1 v123 n σ124) else if sI σ119 3 3 = 1 then bd (f_X10_drop n σ119) (fun v129 σ130 => b_X10_run_235 (l_X10_run_31 f) x1 v129 n σ130) else if sI σ119 3 3 = 2 then bn (f_X10_move n σ119) (fun v135 n σ136 => b_X10_run_235 (l_X10_run_31 f) x1 v135 n σ136) else if sI σ119 3 3 = 3 then bn (f_X10_fill n σ119) (fun v141 n σ142 => b_X10_run_235 (l_X10_run_31 f) x1 v141 n σ142) else if sI σ119 3 3 = 4 then bd (f_X3_turn n (sI σ119 3 3) σ119) (fun v147 σ148 => b_X10_run_235 (l_X10_run_31 f) x1 v147 n σ148) else if sI σ119 3 3 = 5 then bd (f_X3_turn n (sI σ119 3 3) σ119) (fun v153 σ154 => b_X10_run_235 (l_X10_run_31 f) x1 v153 n σ154) else if sI σ119 3 3 = 6 then bd (f_X3_turn n (sI σ119 3 3) σ119) (fun v159 σ160 => b_X10_run_235 (l_X10_run_31 f) x1 v159 n σ160) else if sI σ119 3 3 = 7 then bd (f_X3_turn n (sI σ119 3 3) σ119) (fun v165 σ166 => b_X10_run_235 (l_X10_run_31 f) x1 v165 n σ166) else if sI σ119 3 3 = 8 then bd (f_X3_turn n (sI σ119 3 3) σ119) (fun v171 σ172 => b_X10_run_235 (l_X10_run_31 f) x1 v171 n σ172) else if sI σ119 3 3 = 9 then bd (f_X10_find n σ119) (fun v177 σ178 => b_X10_run_235 (l_X10_run_31 f) x1 v177 n σ178) else if sI σ119 3 3 = 10 then bd (f_X10_window n σ119) (fun v183 σ184 => b_X10_run_235 (l_X10_run_31 f) x1 v183 n σ184) else if sI σ119 3 3 = 11 then bd (f_X10_near n σ119) (fun v189 σ190 => b_X10_run_235 (l_X10_run_31 f) x1 v189 n σ190) else if sI σ119 3 3 = 12 then bd (f_X10_join n σ119) (fun v195 σ196 => b_X10_run_235 (l_X10_run_31 f) x1 v195 n σ196) else bd (f_X3_turn n (sI σ119 3 3) σ119) (fun v200 σ201 => b_X10_run_235 (l_X10_run_31 f) x1 v200 n σ201)))
set_option maxRecDepth 100000 in
set_option maxHeartbeats 4000000 in
theorem t_X10_run_31 {G : xG} : ∀ (f : Nat) {n : Nat} {x1 : Int32} {σ : xσ} {h : xH} {r : Int32 × Nat × xσ} {d2 : Option Value}, Rl n σ h → l_X10_run_31 f x1 n σ = some r → Go G mX10_run 31 [some (.ref 0), some (.int x1), d2] [] h (fun v h' => xRok (xRt mX10_run) v ∧ v = some (.int r.1) ∧ Rl r.2.1 r.2.2 h') := by
  intro f
  induction f with
  | zero =>
    intros
    rename _ = some _ => hf
    rw [l_X10_run_31] at hf
    cases hf
  | succ f ih =>
    intro n x1 σ h r d2 R hf
    rw [l_X10_run_31] at hf
    refine go_iload_n (i := 1) (pc' := 32) dX10_run_31 rfl rfl rfl ?_
    refine go_sipush (v := 4000) (pc' := 35) dX10_run_32 rfl (by decide) ?_
    refine go_icmp_ge (pc' := 38) (tgt := 254) dX10_run_35 (by decide) rfl (fun c101 => ?_) (fun c101 => ?_)
    · have hf := it c101 hf
      refine go_aload_n (i := 0) (pc' := 255) dX10_run_254 rfl rfl rfl ?_
      refine go_getS (pc' := 258) dX10_run_255 rfl gf_LandBase_10 R (R.at rfl (by decide)) (by decide) rfl ?_
      obtain ⟨v102, σ103, e104, hf⟩ := bd_some hf
      refine go_invV (As := []) (pc' := 261) dX10_run_258 rfl cf_X10_run_133 rfl (R.ob (R.at rfl (by decide))) rfl rfl (Nat.le_of_ble_eq_true rfl) (c_X9_clear R e104) (fun q105v h106 q105 => ?_)
      obtain ⟨rfl, R⟩ := q105
      refine go_iload_n (i := 1) (pc' := 262) dX10_run_261 rfl rfl rfl ?_
      obtain rfl := Option.some.inj hf
      exact Go.ret (v := some (.int _)) dX10_run_262 ⟨_, rfl⟩ ⟨rfl, rfl, R⟩
    · have hf := ie c101 hf
      refine go_aload_n (i := 0) (pc' := 39) dX10_run_38 rfl rfl rfl ?_
      refine go_getS (pc' := 42) dX10_run_39 rfl gf_LandBase_10 R (R.at rfl (by decide)) (by decide) rfl ?_
      refine go_getS (pc' := 45) dX10_run_42 rfl gf_LandBase_87 R (R.at rfl (by decide)) (by decide) rfl ?_
      refine go_if_eq (pc' := 48) (tgt := 254) dX10_run_45 (by decide) rfl (fun c107 => ?_) (fun c107 => ?_)
      · have hf := it c107 hf
        refine go_aload_n (i := 0) (pc' := 255) dX10_run_254 rfl rfl rfl ?_
        refine go_getS (pc' := 258) dX10_run_255 rfl gf_LandBase_10 R (R.at rfl (by decide)) (by decide) rfl ?_
        obtain ⟨v108, σ109, e110, hf⟩ := bd_some hf
        refine go_invV (As := []) (pc' := 261) dX10_run_258 rfl cf_X10_run_133 rfl (R.ob (R.at rfl (by decide))) rfl rfl (Nat.le_of_ble_eq_true rfl) (c_X9_clear R e110) (fun q111v h112 q111 => ?_)
        obtain ⟨rfl, R⟩ := q111
        refine go_iload_n (i := 1) (pc' := 262) dX10_run_261 rfl rfl rfl ?_
        obtain rfl := Option.some.inj hf
        exact Go.ret (v := some (.int _)) dX10_run_262 ⟨_, rfl⟩ ⟨rfl, rfl, R⟩
      · have hf := ie c107 hf
        refine go_aload_n (i := 0) (pc' := 49) dX10_run_48 rfl rfl rfl ?_
        refine go_getS (pc' := 52) dX10_run_49 rfl gf_LandBase_19 R (R.at rfl (by decide)) (by decide) rfl ?_
        refine go_aload_n (i := 0) (pc' := 53) dX10_run_52 rfl rfl rfl ?_
        refine go_getS (pc' := 56) dX10_run_53 rfl gf_LandBase_10 R (R.at rfl (by decide)) (by decide) rfl ?_
        obtain ⟨v113, σ114, e115, hf⟩ := bd_some hf
        refine go_invV (As := [_]) (pc' := 59) dX10_run_56 rfl cf_X10_run_90 rfl (R.ob (R.at rfl (by decide))) rfl rfl (Nat.le_of_ble_eq_true rfl) (c_X5_readStatement R e115) (fun q116v h117 q116 => ?_)
        obtain ⟨rfl, R⟩ := q116
        refine go_if_ne (pc' := 62) (tgt := 76) dX10_run_59 (by decide) rfl (fun c118 => ?_) (fun c118 => ?_)
        · have hf := ie c118 hf
          refine go_aload_n (i := 0) (pc' := 77) dX10_run_76 rfl rfl rfl ?_
          refine go_iconst (v := 0) (pc' := 78) dX10_run_77 rfl (by decide) ?_
          obtain ⟨σ119, e120, hf⟩ := st_some hf
          refine go_putI (pc' := 81) dX10_run_78 rfl pf_LandBase_67 R (R.at rfl (by decide)) (by decide) rfl rfl rfl (fun h121 R => ?_)
          have R := Rl.cast e120 R
          refine go_aload_n (i := 0) (pc' := 82) dX10_run_81 rfl rfl rfl ?_
          refine go_getS (pc' := 85) dX10_run_82 rfl gf_LandBase_19 R (R.at rfl (by decide)) (by decide) rfl ?_
          refine go_getS (pc' := 88) dX10_run_85 rfl gf_LandBase_97 R (R.at rfl (by decide)) (by decide) rfl ?_
          by_cases c122 : sI σ119 3 3 = 0
          · have hf := it c122 hf
            refine go_tableIn (pc' := 0) (off := 68) (tgt := 156) dX10_run_88 (by rw [c122]; decide) (by rw [c122]; decide) (by rw [c122]; rfl) (by decide) ?_
            refine go_aload_n (i := 0) (pc' := 157) dX10_run_156 rfl rfl rfl ?_
            obtain ⟨v123, n, σ124, e125, hf⟩ := bn_some hf
            refine go_invV (As := []) (pc' := 160) dX10_run_157 rfl cf_X10_run_100 rfl (R.ob (R.at rfl (by decide))) rfl rfl (Nat.le_of_ble_eq_true rfl) (c_X10_add R e125) (fun q126v h127 q126 => ?_)
            obtain ⟨rfl, R⟩ := q126
            refine go_istore_nE rfl (i := 2) (pc' := 161) dX10_run_160 rfl rfl (by decide) rfl ?_
            refine go_goto (pc' := 0) (tgt := 235) dX10_run_161 (by decide) ?_
            exact t_X10_run_235 @ih R hf
          have hf := ie c122 hf
          by_cases c128 : sI σ119 3 3 = 1
          · have hf := it c128 hf
            refine go_tableIn (pc' := 0) (off := 76) (tgt := 164) dX10_run_88 (by rw [c128]; decide) (by rw [c128]; decide) (by rw [c128]; rfl) (by decide) ?_
            refine go_aload_n (i := 0) (pc' := 165) dX10_run_164 rfl rfl rfl ?_
            obtain ⟨v129, σ130, e131, hf⟩ := bd_some hf
            refine go_invV (As := []) (pc' := 168) dX10_run_165 rfl cf_X10_run_104 rfl (R.ob (R.at rfl (by decide))) rfl rfl (Nat.le_of_ble_eq_true rfl) (c_X10_drop R e131) (fun q132v h133 q132 => ?_)
            obtain ⟨rfl, R⟩ := q132
            refine go_istore_nE rfl (i := 2) (pc' := 169) dX10_run_168 rfl rfl (by decide) rfl ?_
            refine go_goto (pc' := 0) (tgt := 235) dX10_run_169 (by decide) ?_
            exact t_X10_run_235 @ih R hf
          have hf := ie c128 hf
          by_cases c134 : sI σ119 3 3 = 2
          · have hf := it c134 hf
            refine go_tableIn (pc' := 0) (off := 84) (tgt := 172) dX10_run_88 (by rw [c134]; decide) (by rw [c134]; decide) (by rw [c134]; rfl) (by decide) ?_
            refine go_aload_n (i := 0) (pc' := 173) dX10_run_172 rfl rfl rfl ?_
            obtain ⟨v135, n, σ136, e137, hf⟩ := bn_some hf
            refine go_invV (As := []) (pc' := 176) dX10_run_173 rfl cf_X10_run_107 rfl (R.ob (R.at rfl (by decide))) rfl rfl (Nat.le_of_ble_eq_true rfl) (c_X10_move R e137) (fun q138v h139 q138 => ?_)
            obtain ⟨rfl, R⟩ := q138
            refine go_istore_nE rfl (i := 2) (pc' := 177) dX10_run_176 rfl rfl (by decide) rfl ?_
            refine go_goto (pc' := 0) (tgt := 235) dX10_run_177 (by decide) ?_
            exact t_X10_run_235 @ih R hf
          have hf := ie c134 hf
          by_cases c140 : sI σ119 3 3 = 3
          · have hf := it c140 hf
            refine go_tableIn (pc' := 0) (off := 92) (tgt := 180) dX10_run_88 (by rw [c140]; decide) (by rw [c140]; decide) (by rw [c140]; rfl) (by decide) ?_
            refine go_aload_n (i := 0) (pc' := 181) dX10_run_180 rfl rfl rfl ?_
            obtain ⟨v141, n, σ142, e143, hf⟩ := bn_some hf
            refine go_invV (As := []) (pc' := 184) dX10_run_181 rfl cf_X10_run_110 rfl (R.ob (R.at rfl (by decide))) rfl rfl (Nat.le_of_ble_eq_true rfl) (c_X10_fill R e143) (fun q144v h145 q144 => ?_)
            obtain ⟨rfl, R⟩ := q144
            refine go_istore_nE rfl (i := 2) (pc' := 185) dX10_run_184 rfl rfl (by decide) rfl ?_
            refine go_goto (pc' := 0) (tgt := 235) dX10_run_185 (by decide) ?_
            exact t_X10_run_235 @ih R hf
          have hf := ie c140 hf
          by_cases c146 : sI σ119 3 3 = 4
          · have hf := it c146 hf
            refine go_tableIn (pc' := 0) (off := 132) (tgt := 220) dX10_run_88 (by rw [c146]; decide) (by rw [c146]; decide) (by rw [c146]; rfl) (by decide) ?_
            refine go_aload_n (i := 0) (pc' := 221) dX10_run_220 rfl rfl rfl ?_
            refine go_getS (pc' := 224) dX10_run_221 rfl gf_LandBase_26 R (R.at rfl (by decide)) (by decide) rfl ?_
            refine go_aload_n (i := 0) (pc' := 225) dX10_run_224 rfl rfl rfl ?_
            refine go_getS (pc' := 228) dX10_run_225 rfl gf_LandBase_19 R (R.at rfl (by decide)) (by decide) rfl ?_
            refine go_getS (pc' := 231) dX10_run_228 rfl gf_LandBase_97 R (R.at rfl (by decide)) (by decide) rfl ?_
            obtain ⟨v147, σ148, e149, hf⟩ := bd_some hf
            refine go_invV (As := [_]) (pc' := 234) dX10_run_231 rfl cf_X10_run_125 rfl (R.ob (R.at rfl (by decide))) rfl rfl (Nat.le_of_ble_eq_true rfl) (c_X3_turn R e149) (fun q150v h151 q150 => ?_)
            obtain ⟨rfl, R⟩ := q150
            refine go_istore_nE rfl (i := 2) (pc' := 235) dX10_run_234 rfl rfl (by decide) rfl ?_
            exact t_X10_run_235 @ih R hf
          have hf := ie c146 hf
          by_cases c152 : sI σ119 3 3 = 5
          · have hf := it c152 hf
            refine go_tableIn (pc' := 0) (off := 132) (tgt := 220) dX10_run_88 (by rw [c152]; decide) (by rw [c152]; decide) (by rw [c152]; rfl) (by decide) ?_
            refine go_aload_n (i := 0) (pc' := 221) dX10_run_220 rfl rfl rfl ?_
            refine go_getS (pc' := 224) dX10_run_221 rfl gf_LandBase_26 R (R.at rfl (by decide)) (by decide) rfl ?_
            refine go_aload_n (i := 0) (pc' := 225) dX10_run_224 rfl rfl rfl ?_
            refine go_getS (pc' := 228) dX10_run_225 rfl gf_LandBase_19 R (R.at rfl (by decide)) (by decide) rfl ?_
            refine go_getS (pc' := 231) dX10_run_228 rfl gf_LandBase_97 R (R.at rfl (by decide)) (by decide) rfl ?_
            obtain ⟨v153, σ154, e155, hf⟩ := bd_some hf
            refine go_invV (As := [_]) (pc' := 234) dX10_run_231 rfl cf_X10_run_125 rfl (R.ob (R.at rfl (by decide))) rfl rfl (Nat.le_of_ble_eq_true rfl) (c_X3_turn R e155) (fun q156v h157 q156 => ?_)
            obtain ⟨rfl, R⟩ := q156
            refine go_istore_nE rfl (i := 2) (pc' := 235) dX10_run_234 rfl rfl (by decide) rfl ?_
            exact t_X10_run_235 @ih R hf
          have hf := ie c152 hf
          by_cases c158 : sI σ119 3 3 = 6
          · have hf := it c158 hf
            refine go_tableIn (pc' := 0) (off := 132) (tgt := 220) dX10_run_88 (by rw [c158]; decide) (by rw [c158]; decide) (by rw [c158]; rfl) (by decide) ?_
            refine go_aload_n (i := 0) (pc' := 221) dX10_run_220 rfl rfl rfl ?_
            refine go_getS (pc' := 224) dX10_run_221 rfl gf_LandBase_26 R (R.at rfl (by decide)) (by decide) rfl ?_
            refine go_aload_n (i := 0) (pc' := 225) dX10_run_224 rfl rfl rfl ?_
            refine go_getS (pc' := 228) dX10_run_225 rfl gf_LandBase_19 R (R.at rfl (by decide)) (by decide) rfl ?_
            refine go_getS (pc' := 231) dX10_run_228 rfl gf_LandBase_97 R (R.at rfl (by decide)) (by decide) rfl ?_
            obtain ⟨v159, σ160, e161, hf⟩ := bd_some hf
            refine go_invV (As := [_]) (pc' := 234) dX10_run_231 rfl cf_X10_run_125 rfl (R.ob (R.at rfl (by decide))) rfl rfl (Nat.le_of_ble_eq_true rfl) (c_X3_turn R e161) (fun q162v h163 q162 => ?_)
            obtain ⟨rfl, R⟩ := q162
            refine go_istore_nE rfl (i := 2) (pc' := 235) dX10_run_234 rfl rfl (by decide) rfl ?_
            exact t_X10_run_235 @ih R hf
          have hf := ie c158 hf
          by_cases c164 : sI σ119 3 3 = 7
          · have hf := it c164 hf
            refine go_tableIn (pc' := 0) (off := 132) (tgt := 220) dX10_run_88 (by rw [c164]; decide) (by rw [c164]; decide) (by rw [c164]; rfl) (by decide) ?_
            refine go_aload_n (i := 0) (pc' := 221) dX10_run_220 rfl rfl rfl ?_
            refine go_getS (pc' := 224) dX10_run_221 rfl gf_LandBase_26 R (R.at rfl (by decide)) (by decide) rfl ?_
            refine go_aload_n (i := 0) (pc' := 225) dX10_run_224 rfl rfl rfl ?_
            refine go_getS (pc' := 228) dX10_run_225 rfl gf_LandBase_19 R (R.at rfl (by decide)) (by decide) rfl ?_
            refine go_getS (pc' := 231) dX10_run_228 rfl gf_LandBase_97 R (R.at rfl (by decide)) (by decide) rfl ?_
            obtain ⟨v165, σ166, e167, hf⟩ := bd_some hf
            refine go_invV (As := [_]) (pc' := 234) dX10_run_231 rfl cf_X10_run_125 rfl (R.ob (R.at rfl (by decide))) rfl rfl (Nat.le_of_ble_eq_true rfl) (c_X3_turn R e167) (fun q168v h169 q168 => ?_)
            obtain ⟨rfl, R⟩ := q168
            refine go_istore_nE rfl (i := 2) (pc' := 235) dX10_run_234 rfl rfl (by decide) rfl ?_
            exact t_X10_run_235 @ih R hf
          have hf := ie c164 hf
          by_cases c170 : sI σ119 3 3 = 8
          · have hf := it c170 hf
            refine go_tableIn (pc' := 0) (off := 132) (tgt := 220) dX10_run_88 (by rw [c170]; decide) (by rw [c170]; decide) (by rw [c170]; rfl) (by decide) ?_
            refine go_aload_n (i := 0) (pc' := 221) dX10_run_220 rfl rfl rfl ?_
            refine go_getS (pc' := 224) dX10_run_221 rfl gf_LandBase_26 R (R.at rfl (by decide)) (by decide) rfl ?_
            refine go_aload_n (i := 0) (pc' := 225) dX10_run_224 rfl rfl rfl ?_
            refine go_getS (pc' := 228) dX10_run_225 rfl gf_LandBase_19 R (R.at rfl (by decide)) (by decide) rfl ?_
            refine go_getS (pc' := 231) dX10_run_228 rfl gf_LandBase_97 R (R.at rfl (by decide)) (by decide) rfl ?_
            obtain ⟨v171, σ172, e173, hf⟩ := bd_some hf
            refine go_invV (As := [_]) (pc' := 234) dX10_run_231 rfl cf_X10_run_125 rfl (R.ob (R.at rfl (by decide))) rfl rfl (Nat.le_of_ble_eq_true rfl) (c_X3_turn R e173) (fun q174v h175 q174 => ?_)
            obtain ⟨rfl, R⟩ := q174
            refine go_istore_nE rfl (i := 2) (pc' := 235) dX10_run_234 rfl rfl (by decide) rfl ?_
            exact t_X10_run_235 @ih R hf
          have hf := ie c170 hf
          by_cases c176 : sI σ119 3 3 = 9
          · have hf := it c176 hf
            refine go_tableIn (pc' := 0) (off := 100) (tgt := 188) dX10_run_88 (by rw [c176]; decide) (by rw [c176]; decide) (by rw [c176]; rfl) (by decide) ?_
            refine go_aload_n (i := 0) (pc' := 189) dX10_run_188 rfl rfl rfl ?_
            obtain ⟨v177, σ178, e179, hf⟩ := bd_some hf
            refine go_invV (As := []) (pc' := 192) dX10_run_189 rfl cf_X10_run_113 rfl (R.ob (R.at rfl (by decide))) rfl rfl (Nat.le_of_ble_eq_true rfl) (c_X10_find R e179) (fun q180v h181 q180 => ?_)
            obtain ⟨rfl, R⟩ := q180
            refine go_istore_nE rfl (i := 2) (pc' := 193) dX10_run_192 rfl rfl (by decide) rfl ?_
            refine go_goto (pc' := 0) (tgt := 235) dX10_run_193 (by decide) ?_
            exact t_X10_run_235 @ih R hf
          have hf := ie c176 hf
          by_cases c182 : sI σ119 3 3 = 10
          · have hf := it c182 hf
            refine go_tableIn (pc' := 0) (off := 108) (tgt := 196) dX10_run_88 (by rw [c182]; decide) (by rw [c182]; decide) (by rw [c182]; rfl) (by decide) ?_
            refine go_aload_n (i := 0) (pc' := 197) dX10_run_196 rfl rfl rfl ?_
            obtain ⟨v183, σ184, e185, hf⟩ := bd_some hf
            refine go_invV (As := []) (pc' := 200) dX10_run_197 rfl cf_X10_run_116 rfl (R.ob (R.at rfl (by decide))) rfl rfl (Nat.le_of_ble_eq_true rfl) (c_X10_window R e185) (fun q186v h187 q186 => ?_)
            obtain ⟨rfl, R⟩ := q186
            refine go_istore_nE rfl (i := 2) (pc' := 201) dX10_run_200 rfl rfl (by decide) rfl ?_
            refine go_goto (pc' := 0) (tgt := 235) dX10_run_201 (by decide) ?_
            exact t_X10_run_235 @ih R hf
          have hf := ie c182 hf
          by_cases c188 : sI σ119 3 3 = 11
          · have hf := it c188 hf
            refine go_tableIn (pc' := 0) (off := 116) (tgt := 204) dX10_run_88 (by rw [c188]; decide) (by rw [c188]; decide) (by rw [c188]; rfl) (by decide) ?_
            refine go_aload_n (i := 0) (pc' := 205) dX10_run_204 rfl rfl rfl ?_
            obtain ⟨v189, σ190, e191, hf⟩ := bd_some hf
            refine go_invV (As := []) (pc' := 208) dX10_run_205 rfl cf_X10_run_119 rfl (R.ob (R.at rfl (by decide))) rfl rfl (Nat.le_of_ble_eq_true rfl) (c_X10_near R e191) (fun q192v h193 q192 => ?_)
            obtain ⟨rfl, R⟩ := q192
            refine go_istore_nE rfl (i := 2) (pc' := 209) dX10_run_208 rfl rfl (by decide) rfl ?_
            refine go_goto (pc' := 0) (tgt := 235) dX10_run_209 (by decide) ?_
            exact t_X10_run_235 @ih R hf
          have hf := ie c188 hf
          by_cases c194 : sI σ119 3 3 = 12
          · have hf := it c194 hf
            refine go_tableIn (pc' := 0) (off := 124) (tgt := 212) dX10_run_88 (by rw [c194]; decide) (by rw [c194]; decide) (by rw [c194]; rfl) (by decide) ?_
            refine go_aload_n (i := 0) (pc' := 213) dX10_run_212 rfl rfl rfl ?_
            obtain ⟨v195, σ196, e197, hf⟩ := bd_some hf
            refine go_invV (As := []) (pc' := 216) dX10_run_213 rfl cf_X10_run_122 rfl (R.ob (R.at rfl (by decide))) rfl rfl (Nat.le_of_ble_eq_true rfl) (c_X10_join R e197) (fun q198v h199 q198 => ?_)
            obtain ⟨rfl, R⟩ := q198
            refine go_istore_nE rfl (i := 2) (pc' := 217) dX10_run_216 rfl rfl (by decide) rfl ?_
            refine go_goto (pc' := 0) (tgt := 235) dX10_run_217 (by decide) ?_
            exact t_X10_run_235 @ih R hf
          have hf := ie c194 hf
          refine go_tableOut (pc' := 0) (tgt := 220) dX10_run_88 (sw_out 0 12 (fun v h1 h2 h3 => ?_)) (by decide) ?_
          · rcases (show v = 0 ∨ v = 1 ∨ v = 2 ∨ v = 3 ∨ v = 4 ∨ v = 5 ∨ v = 6 ∨ v = 7 ∨ v = 8 ∨ v = 9 ∨ v = 10 ∨ v = 11 ∨ v = 12 by omega) with rfl | rfl | rfl | rfl | rfl | rfl | rfl | rfl | rfl | rfl | rfl | rfl | rfl
            · exact c122 h3
            · exact c128 h3
            · exact c134 h3
            · exact c140 h3
            · exact c146 h3
            · exact c152 h3
            · exact c158 h3
            · exact c164 h3
            · exact c170 h3
            · exact c176 h3
            · exact c182 h3
            · exact c188 h3
            · exact c194 h3
          · refine go_aload_n (i := 0) (pc' := 221) dX10_run_220 rfl rfl rfl ?_
            refine go_getS (pc' := 224) dX10_run_221 rfl gf_LandBase_26 R (R.at rfl (by decide)) (by decide) rfl ?_
            refine go_aload_n (i := 0) (pc' := 225) dX10_run_224 rfl rfl rfl ?_
            refine go_getS (pc' := 228) dX10_run_225 rfl gf_LandBase_19 R (R.at rfl (by decide)) (by decide) rfl ?_
            refine go_getS (pc' := 231) dX10_run_228 rfl gf_LandBase_97 R (R.at rfl (by decide)) (by decide) rfl ?_
            obtain ⟨v200, σ201, e202, hf⟩ := bd_some hf
            refine go_invV (As := [_]) (pc' := 234) dX10_run_231 rfl cf_X10_run_125 rfl (R.ob (R.at rfl (by decide))) rfl rfl (Nat.le_of_ble_eq_true rfl) (c_X3_turn R e202) (fun q203v h204 q203 => ?_)
            obtain ⟨rfl, R⟩ := q203
            refine go_istore_nE rfl (i := 2) (pc' := 235) dX10_run_234 rfl rfl (by decide) rfl ?_
            exact t_X10_run_235 @ih R hf
        · have hf := it c118 hf
          refine go_aload_n (i := 0) (pc' := 63) dX10_run_62 rfl rfl rfl ?_
          refine go_aload_n (i := 0) (pc' := 64) dX10_run_63 rfl rfl rfl ?_
          refine go_getS (pc' := 67) dX10_run_64 rfl gf_LandBase_10 R (R.at rfl (by decide)) (by decide) rfl ?_
          refine go_getS (pc' := 70) dX10_run_67 rfl gf_LandBase_94 R (R.at rfl (by decide)) (by decide) rfl ?_
          obtain ⟨σ205, e206, hf⟩ := st_some hf
          refine go_putI (pc' := 73) dX10_run_70 rfl pf_LandBase_70 R (R.at rfl (by decide)) (by decide) rfl rfl rfl (fun h207 R => ?_)
          have R := Rl.cast e206 R
          refine go_goto (pc' := 0) (tgt := 254) dX10_run_73 (by decide) ?_
          exact t_X10_run_254 R hf
def f_X10_run (n : Nat)  (σ : xσ) : Option (Int32 × Nat × xσ) := if (sI σ 10 6) = 0 then st (wI σ 0 8 0) (fun σ102 => st (wI σ102 0 10 ((-1))) (fun σ105 => bd (f_X9_rewind n σ105) (fun v108 σ109 => l_X10_run_31 xFU 0 n σ109))) else some ((-1), n, σ)
set_option maxRecDepth 100000 in
set_option maxHeartbeats 4000000 in
theorem c_X10_run {G : xG} {n : Nat} {σ : xσ} {h : xH}  {v1 : Int32} {n1 : Nat} {σ1 : xσ} (R : Rl n σ h) (hf : f_X10_run n σ = some (v1, n1, σ1)) : Ca G mX10_run [.ref 0] h (fun v h' => v = some (.int v1) ∧ Rl n1 σ1 h') := by
  refine Ca.of rfl (Nat.le_of_ble_eq_true rfl) ?_
  generalize hr : (v1, n1, σ1) = r at hf
  suffices q : Go G mX10_run 0 (xent (xMl mX10_run) [.ref 0]) [] h (fun v h' => xRok (xRt mX10_run) v ∧ v = some (.int r.1) ∧ Rl r.2.1 r.2.2 h') by
    subst hr
    exact q
  clear hr
  rw [f_X10_run] at hf
  refine go_aload_n (i := 0) (pc' := 1) dX10_run_0 rfl rfl rfl ?_
  refine go_getS (pc' := 4) dX10_run_1 rfl gf_LandBase_26 R (R.at rfl (by decide)) (by decide) rfl ?_
  refine go_getS (pc' := 7) dX10_run_4 rfl gf_LandBase_80 R (R.at rfl (by decide)) (by decide) rfl ?_
  refine go_if_eq (pc' := 10) (tgt := 12) dX10_run_7 (by decide) rfl (fun c101 => ?_) (fun c101 => ?_)
  · have hf := it c101 hf
    refine go_aload_n (i := 0) (pc' := 13) dX10_run_12 rfl rfl rfl ?_
    refine go_iconst (v := 0) (pc' := 14) dX10_run_13 rfl (by decide) ?_
    obtain ⟨σ102, e103, hf⟩ := st_some hf
    refine go_putI (pc' := 17) dX10_run_14 rfl pf_LandBase_63 R (R.at rfl (by decide)) (by decide) rfl rfl rfl (fun h104 R => ?_)
    have R := Rl.cast e103 R
    refine go_aload_n (i := 0) (pc' := 18) dX10_run_17 rfl rfl rfl ?_
    refine go_iconst (v := (-1)) (pc' := 19) dX10_run_18 rfl (by decide) ?_
    obtain ⟨σ105, e106, hf⟩ := st_some hf
    refine go_putI (pc' := 22) dX10_run_19 rfl pf_LandBase_70 R (R.at rfl (by decide)) (by decide) rfl rfl rfl (fun h107 R => ?_)
    have R := Rl.cast e106 R
    refine go_iconst (v := 0) (pc' := 23) dX10_run_22 rfl (by decide) ?_
    refine go_istore_nE rfl (i := 1) (pc' := 24) dX10_run_23 rfl rfl (by decide) rfl ?_
    refine go_aload_n (i := 0) (pc' := 25) dX10_run_24 rfl rfl rfl ?_
    refine go_getS (pc' := 28) dX10_run_25 rfl gf_LandBase_10 R (R.at rfl (by decide)) (by decide) rfl ?_
    obtain ⟨v108, σ109, e110, hf⟩ := bd_some hf
    refine go_invV (As := []) (pc' := 31) dX10_run_28 rfl cf_X10_run_84 rfl (R.ob (R.at rfl (by decide))) rfl rfl (Nat.le_of_ble_eq_true rfl) (c_X9_rewind R e110) (fun q111v h112 q111 => ?_)
    obtain ⟨rfl, R⟩ := q111
    exact t_X10_run_31 xFU R hf
  · have hf := ie c101 hf
    refine go_iconst (v := (-1)) (pc' := 11) dX10_run_10 rfl (by decide) ?_
    obtain rfl := Option.some.inj hf
    exact Go.ret (v := some (.int _)) dX10_run_11 ⟨_, rfl⟩ ⟨rfl, rfl, R⟩

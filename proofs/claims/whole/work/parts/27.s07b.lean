/-! the system -/
def b_X10_join_240 (n : Nat) (k83 : Int32 → Int32 → Int32 → Int32 → Int32 → xσ → Option (Int32 × xσ)) (x1 : Int32) (x2 : Int32) (x3 : Int32) (x4 : Int32) (x6 : Int32) (σ : xσ) : Option (Int32 × xσ) := k83 x1 x2 x3 x4 (x6 + 1) σ
set_option maxRecDepth 100000 in
set_option maxHeartbeats 4000000 in
theorem t_X10_join_240 {G : xG} {n : Nat} {k83 : Int32 → Int32 → Int32 → Int32 → Int32 → xσ → Option (Int32 × xσ)} (hk83 : ∀ {x1 : Int32} {x2 : Int32} {x3 : Int32} {x4 : Int32} {x6 : Int32} {σ : xσ} {h : xH} {r : Int32 × xσ} {d7 : Option Value} {d8 : Option Value}, Rl n σ h → k83 x1 x2 x3 x4 x6 σ = some r → Go G mX10_join 83 [some (.ref 0), some (.int x1), some (.int x2), some (.int x3), some (.int x4), some (.ref 11), some (.int x6), d7, d8] [] h (fun v h' => xRok (xRt mX10_join) v ∧ v = some (.int r.1) ∧ Rl n r.2 h')) {x1 : Int32} {x2 : Int32} {x3 : Int32} {x4 : Int32} {x6 : Int32} {σ : xσ} {h : xH} {r : Int32 × xσ} {d7 : Option Value} {d8 : Option Value} : Rl n σ h → b_X10_join_240 n k83 x1 x2 x3 x4 x6 σ = some r → Go G mX10_join 240 [some (.ref 0), some (.int x1), some (.int x2), some (.int x3), some (.int x4), some (.ref 11), some (.int x6), d7, d8] [] h (fun v h' => xRok (xRt mX10_join) v ∧ v = some (.int r.1) ∧ Rl n r.2 h') := by
  intro R hf
  rw [b_X10_join_240] at hf
  refine go_iincC (kk := 1) (pc' := 243) dX10_join_240 rfl rfl (by decide) (by decide) rfl ?_
  refine go_goto (pc' := 0) (tgt := 83) dX10_join_243 (by decide) ?_
  exact hk83 R hf
def b_X10_join_234 (n : Nat) (k83 : Int32 → Int32 → Int32 → Int32 → Int32 → xσ → Option (Int32 × xσ)) (k123 : Int32 → Int32 → Int32 → Int32 → Int32 → Int32 → xσ → Option (Int32 × xσ)) (x1 : Int32) (x2 : Int32) (x3 : Int32) (x4 : Int32) (x6 : Int32) (x7 : Int32) (σ : xσ) : Option (Int32 × xσ) := k123 x1 x2 x3 x4 x6 (x7 + 1) σ
set_option maxRecDepth 100000 in
set_option maxHeartbeats 4000000 in
theorem t_X10_join_234 {G : xG} {n : Nat} {k83 : Int32 → Int32 → Int32 → Int32 → Int32 → xσ → Option (Int32 × xσ)} {k123 : Int32 → Int32 → Int32 → Int32 → Int32 → Int32 → xσ → Option (Int32 × xσ)} (hk83 : ∀ {x1 : Int32} {x2 : Int32} {x3 : Int32} {x4 : Int32} {x6 : Int32} {σ : xσ} {h : xH} {r : Int32 × xσ} {d7 : Option Value} {d8 : Option Value}, Rl n σ h → k83 x1 x2 x3 x4 x6 σ = some r → Go G mX10_join 83 [some (.ref 0), some (.int x1), some (.int x2), some (.int x3), some (.int x4), some (.ref 11), some (.int x6), d7, d8] [] h (fun v h' => xRok (xRt mX10_join) v ∧ v = some (.int r.1) ∧ Rl n r.2 h')) (hk123 : ∀ {x1 : Int32} {x2 : Int32} {x3 : Int32} {x4 : Int32} {x6 : Int32} {x7 : Int32} {σ : xσ} {h : xH} {r : Int32 × xσ} {d8 : Option Value}, Rl n σ h → k123 x1 x2 x3 x4 x6 x7 σ = some r → Go G mX10_join 123 [some (.ref 0), some (.int x1), some (.int x2), some (.int x3), some (.int x4), some (.ref 11), some (.int x6), some (.int x7), d8] [] h (fun v h' => xRok (xRt mX10_join) v ∧ v = some (.int r.1) ∧ Rl n r.2 h')) {x1 : Int32} {x2 : Int32} {x3 : Int32} {x4 : Int32} {x6 : Int32} {x7 : Int32} {σ : xσ} {h : xH} {r : Int32 × xσ} {d8 : Option Value} : Rl n σ h → b_X10_join_234 n k83 k123 x1 x2 x3 x4 x6 x7 σ = some r → Go G mX10_join 234 [some (.ref 0), some (.int x1), some (.int x2), some (.int x3), some (.int x4), some (.ref 11), some (.int x6), some (.int x7), d8] [] h (fun v h' => xRok (xRt mX10_join) v ∧ v = some (.int r.1) ∧ Rl n r.2 h') := by
  intro R hf
  rw [b_X10_join_234] at hf
  refine go_iincC (kk := 1) (pc' := 237) dX10_join_234 rfl rfl (by decide) (by decide) rfl ?_
  refine go_goto (pc' := 0) (tgt := 123) dX10_join_237 (by decide) ?_
  exact hk123 R hf
def b_X10_join_170 (n : Nat) (k83 : Int32 → Int32 → Int32 → Int32 → Int32 → xσ → Option (Int32 × xσ)) (k123 : Int32 → Int32 → Int32 → Int32 → Int32 → Int32 → xσ → Option (Int32 × xσ)) (x1 : Int32) (x2 : Int32) (x3 : Int32) (x4 : Int32) (x6 : Int32) (x7 : Int32) (xs0 : Int32) (σ : xσ) : Option (Int32 × xσ) := if xs0 = 0 then k123 x1 x2 x3 x4 x6 (x7 + 1) σ else gd (inb x6 200) (nn (sR σ 13 x6.toNatClampNeg) (fun a103 => gd (okS n a103) (gd (inb x7 200) (nn (sR σ 13 x7.toNatClampNeg) (fun a107 => gd (okS n a107) (bd (f_X6_holds n (sI σ 3 4) a103 a107 σ) (fun v110 σ111 => if v110 = 0 then k123 x1 x2 x3 x4 x6 (x7 + 1) σ111 else gd (inb x6 200) (bd (f_X10_offer n (sI σ111 12 x6.toNatClampNeg) σ111) (fun v117 σ118 => gd (inb x7 200) (bd (f_X10_offer n (sI σ118 12 x7.toNatClampNeg) σ118) (fun v123 σ124 => b_X10_join_234 n k83 k123 x1 x2 x3 x4 x6 x7 σ124)))))))))))
set_option maxRecDepth 100000 in
set_option maxHeartbeats 4000000 in
theorem t_X10_join_170 {G : xG} {n : Nat} {k83 : Int32 → Int32 → Int32 → Int32 → Int32 → xσ → Option (Int32 × xσ)} {k123 : Int32 → Int32 → Int32 → Int32 → Int32 → Int32 → xσ → Option (Int32 × xσ)} (hk83 : ∀ {x1 : Int32} {x2 : Int32} {x3 : Int32} {x4 : Int32} {x6 : Int32} {σ : xσ} {h : xH} {r : Int32 × xσ} {d7 : Option Value} {d8 : Option Value}, Rl n σ h → k83 x1 x2 x3 x4 x6 σ = some r → Go G mX10_join 83 [some (.ref 0), some (.int x1), some (.int x2), some (.int x3), some (.int x4), some (.ref 11), some (.int x6), d7, d8] [] h (fun v h' => xRok (xRt mX10_join) v ∧ v = some (.int r.1) ∧ Rl n r.2 h')) (hk123 : ∀ {x1 : Int32} {x2 : Int32} {x3 : Int32} {x4 : Int32} {x6 : Int32} {x7 : Int32} {σ : xσ} {h : xH} {r : Int32 × xσ} {d8 : Option Value}, Rl n σ h → k123 x1 x2 x3 x4 x6 x7 σ = some r → Go G mX10_join 123 [some (.ref 0), some (.int x1), some (.int x2), some (.int x3), some (.int x4), some (.ref 11), some (.int x6), some (.int x7), d8] [] h (fun v h' => xRok (xRt mX10_join) v ∧ v = some (.int r.1) ∧ Rl n r.2 h')) {x1 : Int32} {x2 : Int32} {x3 : Int32} {x4 : Int32} {x6 : Int32} {x7 : Int32} {xs0 : Int32} {σ : xσ} {h : xH} {r : Int32 × xσ} {d8 : Option Value} : Rl n σ h → b_X10_join_170 n k83 k123 x1 x2 x3 x4 x6 x7 xs0 σ = some r → Go G mX10_join 170 [some (.ref 0), some (.int x1), some (.int x2), some (.int x3), some (.int x4), some (.ref 11), some (.int x6), some (.int x7), d8] [.int xs0] h (fun v h' => xRok (xRt mX10_join) v ∧ v = some (.int r.1) ∧ Rl n r.2 h') := by
  intro R hf
  rw [b_X10_join_170] at hf
  refine go_istoreE rfl (pc' := 172) dX10_join_170 rfl (by decide) rfl ?_
  refine go_iload (pc' := 174) dX10_join_172 rfl rfl ?_
  refine go_if_eq (pc' := 177) (tgt := 234) dX10_join_174 (by decide) rfl (fun c101 => ?_) (fun c101 => ?_)
  · have hf := it c101 hf
    refine go_iincC (kk := 1) (pc' := 237) dX10_join_234 rfl rfl (by decide) (by decide) rfl ?_
    refine go_goto (pc' := 0) (tgt := 123) dX10_join_237 (by decide) ?_
    exact hk123 R hf
  · have hf := ie c101 hf
    refine go_aload_n (i := 0) (pc' := 178) dX10_join_177 rfl rfl rfl ?_
    refine go_getS (pc' := 181) dX10_join_178 rfl gf_LandBase_45 R (R.at rfl (by decide)) (by decide) rfl ?_
    refine go_aload_n (i := 0) (pc' := 182) dX10_join_181 rfl rfl rfl ?_
    refine go_getS (pc' := 185) dX10_join_182 rfl gf_LandBase_19 R (R.at rfl (by decide)) (by decide) rfl ?_
    refine go_getS (pc' := 188) dX10_join_185 rfl gf_LandBase_299 R (R.at rfl (by decide)) (by decide) rfl ?_
    refine go_aload (pc' := 190) dX10_join_188 rfl rfl ?_
    refine go_getS (pc' := 193) dX10_join_190 rfl gf_LandBase_252 R (R.at rfl (by decide)) (by decide) rfl ?_
    refine go_iload (pc' := 195) dX10_join_193 rfl rfl ?_
    obtain ⟨g102, hf⟩ := gd_some hf
    obtain ⟨a103, e104, hf⟩ := nn_some hf
    obtain ⟨g105, hf⟩ := gd_some hf
    refine go_aaloadS (pc' := 196) dX10_join_195 rfl (by decide) R (R.aa rfl (by decide)) g102 e104 ?_
    refine go_aload (pc' := 198) dX10_join_196 rfl rfl ?_
    refine go_getS (pc' := 201) dX10_join_198 rfl gf_LandBase_252 R (R.at rfl (by decide)) (by decide) rfl ?_
    refine go_iload (pc' := 203) dX10_join_201 rfl rfl ?_
    obtain ⟨g106, hf⟩ := gd_some hf
    obtain ⟨a107, e108, hf⟩ := nn_some hf
    obtain ⟨g109, hf⟩ := gd_some hf
    refine go_aaloadS (pc' := 204) dX10_join_203 rfl (by decide) R (R.aa rfl (by decide)) g106 e108 ?_
    obtain ⟨v110, σ111, e112, hf⟩ := bd_some hf
    refine go_invV (As := [_, _, _]) (pc' := 207) dX10_join_204 rfl cf_X10_join_179 rfl (R.ob (R.at rfl (by decide))) rfl rfl (Nat.le_of_ble_eq_true rfl) (c_X6_holds R e112) (fun q113v h114 q113 => ?_)
    obtain ⟨rfl, R⟩ := q113
    refine go_if_eq (pc' := 210) (tgt := 234) dX10_join_207 (by decide) rfl (fun c115 => ?_) (fun c115 => ?_)
    · have hf := it c115 hf
      refine go_iincC (kk := 1) (pc' := 237) dX10_join_234 rfl rfl (by decide) (by decide) rfl ?_
      refine go_goto (pc' := 0) (tgt := 123) dX10_join_237 (by decide) ?_
      exact hk123 R hf
    · have hf := ie c115 hf
      refine go_aload_n (i := 0) (pc' := 211) dX10_join_210 rfl rfl rfl ?_
      refine go_aload (pc' := 213) dX10_join_211 rfl rfl ?_
      refine go_getS (pc' := 216) dX10_join_213 rfl gf_LandBase_157 R (R.at rfl (by decide)) (by decide) rfl ?_
      refine go_iload (pc' := 218) dX10_join_216 rfl rfl ?_
      obtain ⟨g116, hf⟩ := gd_some hf
      refine go_ialoadS (pc' := 219) dX10_join_218 rfl R (R.aa rfl (by decide)) g116 ?_
      obtain ⟨v117, σ118, e119, hf⟩ := bd_some hf
      refine go_invV (As := [_]) (pc' := 222) dX10_join_219 rfl cf_X10_join_302 rfl (R.ob (R.at rfl (by decide))) rfl rfl (Nat.le_of_ble_eq_true rfl) (c_X10_offer R e119) (fun q120v h121 q120 => ?_)
      obtain ⟨rfl, R⟩ := q120
      refine go_aload_n (i := 0) (pc' := 223) dX10_join_222 rfl rfl rfl ?_
      refine go_aload (pc' := 225) dX10_join_223 rfl rfl ?_
      refine go_getS (pc' := 228) dX10_join_225 rfl gf_LandBase_157 R (R.at rfl (by decide)) (by decide) rfl ?_
      refine go_iload (pc' := 230) dX10_join_228 rfl rfl ?_
      obtain ⟨g122, hf⟩ := gd_some hf
      refine go_ialoadS (pc' := 231) dX10_join_230 rfl R (R.aa rfl (by decide)) g122 ?_
      obtain ⟨v123, σ124, e125, hf⟩ := bd_some hf
      refine go_invV (As := [_]) (pc' := 234) dX10_join_231 rfl cf_X10_join_302 rfl (R.ob (R.at rfl (by decide))) rfl rfl (Nat.le_of_ble_eq_true rfl) (c_X10_offer R e125) (fun q126v h127 q126 => ?_)
      obtain ⟨rfl, R⟩ := q126
      exact t_X10_join_234 @hk83 @hk123 R hf
def l_X10_join_123 (n : Nat) (k83 : Int32 → Int32 → Int32 → Int32 → Int32 → xσ → Option (Int32 × xσ)) : Nat → Int32 → Int32 → Int32 → Int32 → Int32 → Int32 → xσ → Option (Int32 × xσ)
  | 0, _, _, _, _, _, _, _ => none
  | f + 1, x1, x2, x3, x4, x6, x7, σ => if (sI σ 11 2) ≤ x7 then k83 x1 x2 x3 x4 (x6 + 1) σ else if x7 = x6 then b_X10_join_170 n k83 (l_X10_join_123 n k83 f) x1 x2 x3 x4 x6 x7 0 σ else gd (inb x7 200) (if (sI σ 12 x7.toNatClampNeg) < x3 then b_X10_join_170 n k83 (l_X10_join_123 n k83 f) x1 x2 x3 x4 x6 x7 0 σ else gd (inb x7 200) (if x4 < (sI σ 12 x7.toNatClampNeg) then b_X10_join_170 n k83 (l_X10_join_123 n k83 f) x1 x2 x3 x4 x6 x7 0 σ else b_X10_join_170 n k83 (l_X10_join_123 n k83 f) x1 x2 x3 x4 x6 x7 1 σ))
set_option maxRecDepth 100000 in
set_option maxHeartbeats 4000000 in
theorem t_X10_join_123 {G : xG} {n : Nat} {k83 : Int32 → Int32 → Int32 → Int32 → Int32 → xσ → Option (Int32 × xσ)} (hk83 : ∀ {x1 : Int32} {x2 : Int32} {x3 : Int32} {x4 : Int32} {x6 : Int32} {σ : xσ} {h : xH} {r : Int32 × xσ} {d7 : Option Value} {d8 : Option Value}, Rl n σ h → k83 x1 x2 x3 x4 x6 σ = some r → Go G mX10_join 83 [some (.ref 0), some (.int x1), some (.int x2), some (.int x3), some (.int x4), some (.ref 11), some (.int x6), d7, d8] [] h (fun v h' => xRok (xRt mX10_join) v ∧ v = some (.int r.1) ∧ Rl n r.2 h')) : ∀ (f : Nat) {x1 : Int32} {x2 : Int32} {x3 : Int32} {x4 : Int32} {x6 : Int32} {x7 : Int32} {σ : xσ} {h : xH} {r : Int32 × xσ} {d8 : Option Value}, Rl n σ h → l_X10_join_123 n k83 f x1 x2 x3 x4 x6 x7 σ = some r → Go G mX10_join 123 [some (.ref 0), some (.int x1), some (.int x2), some (.int x3), some (.int x4), some (.ref 11), some (.int x6), some (.int x7), d8] [] h (fun v h' => xRok (xRt mX10_join) v ∧ v = some (.int r.1) ∧ Rl n r.2 h') := by
  intro f
  induction f with
  | zero =>
    intros
    rename _ = some _ => hf
    rw [l_X10_join_123] at hf
    cases hf
  | succ f ih =>
    intro x1 x2 x3 x4 x6 x7 σ h r d8 R hf
    rw [l_X10_join_123] at hf
    refine go_iload (pc' := 125) dX10_join_123 rfl rfl ?_
    refine go_aload (pc' := 127) dX10_join_125 rfl rfl ?_
    refine go_getS (pc' := 130) dX10_join_127 rfl gf_LandBase_149 R (R.at rfl (by decide)) (by decide) rfl ?_
    refine go_icmp_ge (pc' := 133) (tgt := 240) dX10_join_130 (by decide) rfl (fun c101 => ?_) (fun c101 => ?_)
    · have hf := it c101 hf
      refine go_iincC (kk := 1) (pc' := 243) dX10_join_240 rfl rfl (by decide) (by decide) rfl ?_
      refine go_goto (pc' := 0) (tgt := 83) dX10_join_243 (by decide) ?_
      exact hk83 R hf
    · have hf := ie c101 hf
      refine go_iload (pc' := 135) dX10_join_133 rfl rfl ?_
      refine go_iload (pc' := 137) dX10_join_135 rfl rfl ?_
      refine go_icmp_eq (pc' := 140) (tgt := 169) dX10_join_137 (by decide) rfl (fun c102 => ?_) (fun c102 => ?_)
      · have hf := it c102 hf
        refine go_iconst (v := 0) (pc' := 170) dX10_join_169 rfl (by decide) ?_
        exact t_X10_join_170 @hk83 @ih R hf
      · have hf := ie c102 hf
        refine go_aload (pc' := 142) dX10_join_140 rfl rfl ?_
        refine go_getS (pc' := 145) dX10_join_142 rfl gf_LandBase_157 R (R.at rfl (by decide)) (by decide) rfl ?_
        refine go_iload (pc' := 147) dX10_join_145 rfl rfl ?_
        obtain ⟨g103, hf⟩ := gd_some hf
        refine go_ialoadS (pc' := 148) dX10_join_147 rfl R (R.aa rfl (by decide)) g103 ?_
        refine go_iload_n (i := 3) (pc' := 149) dX10_join_148 rfl rfl rfl ?_
        refine go_icmp_lt (pc' := 152) (tgt := 169) dX10_join_149 (by decide) rfl (fun c104 => ?_) (fun c104 => ?_)
        · have hf := it c104 hf
          refine go_iconst (v := 0) (pc' := 170) dX10_join_169 rfl (by decide) ?_
          exact t_X10_join_170 @hk83 @ih R hf
        · have hf := ie c104 hf
          refine go_aload (pc' := 154) dX10_join_152 rfl rfl ?_
          refine go_getS (pc' := 157) dX10_join_154 rfl gf_LandBase_157 R (R.at rfl (by decide)) (by decide) rfl ?_
          refine go_iload (pc' := 159) dX10_join_157 rfl rfl ?_
          obtain ⟨g105, hf⟩ := gd_some hf
          refine go_ialoadS (pc' := 160) dX10_join_159 rfl R (R.aa rfl (by decide)) g105 ?_
          refine go_iload (pc' := 162) dX10_join_160 rfl rfl ?_
          refine go_icmp_gt (pc' := 165) (tgt := 169) dX10_join_162 (by decide) rfl (fun c106 => ?_) (fun c106 => ?_)
          · have hf := it c106 hf
            refine go_iconst (v := 0) (pc' := 170) dX10_join_169 rfl (by decide) ?_
            exact t_X10_join_170 @hk83 @ih R hf
          · have hf := ie c106 hf
            refine go_iconst (v := 1) (pc' := 166) dX10_join_165 rfl (by decide) ?_
            refine go_goto (pc' := 0) (tgt := 170) dX10_join_166 (by decide) ?_
            exact t_X10_join_170 @hk83 @ih R hf
def l_X10_join_83 (n : Nat) : Nat → Int32 → Int32 → Int32 → Int32 → Int32 → xσ → Option (Int32 × xσ)
  | 0, _, _, _, _, _, _ => none
  | f + 1, x1, x2, x3, x4, x6, σ => if (sI σ 11 2) ≤ x6 then some (0, σ) else gd (inb x6 200) (if (sI σ 12 x6.toNatClampNeg) < x1 then (l_X10_join_83 n f) x1 x2 x3 x4 (x6 + 1) σ else gd (inb x6 200) (if (sI σ 12 x6.toNatClampNeg) ≤ x2 then l_X10_join_123 n (l_X10_join_83 n f) xFU x1 x2 x3 x4 x6 0 σ else b_X10_join_240 n (l_X10_join_83 n f) x1 x2 x3 x4 x6 σ))
set_option maxRecDepth 100000 in
set_option maxHeartbeats 4000000 in
theorem t_X10_join_83 {G : xG} {n : Nat} : ∀ (f : Nat) {x1 : Int32} {x2 : Int32} {x3 : Int32} {x4 : Int32} {x6 : Int32} {σ : xσ} {h : xH} {r : Int32 × xσ} {d7 : Option Value} {d8 : Option Value}, Rl n σ h → l_X10_join_83 n f x1 x2 x3 x4 x6 σ = some r → Go G mX10_join 83 [some (.ref 0), some (.int x1), some (.int x2), some (.int x3), some (.int x4), some (.ref 11), some (.int x6), d7, d8] [] h (fun v h' => xRok (xRt mX10_join) v ∧ v = some (.int r.1) ∧ Rl n r.2 h') := by
  intro f
  induction f with
  | zero =>
    intros
    rename _ = some _ => hf
    rw [l_X10_join_83] at hf
    cases hf
  | succ f ih =>
    intro x1 x2 x3 x4 x6 σ h r d7 d8 R hf
    rw [l_X10_join_83] at hf
    refine go_iload (pc' := 85) dX10_join_83 rfl rfl ?_
    refine go_aload (pc' := 87) dX10_join_85 rfl rfl ?_
    refine go_getS (pc' := 90) dX10_join_87 rfl gf_LandBase_149 R (R.at rfl (by decide)) (by decide) rfl ?_
    refine go_icmp_ge (pc' := 93) (tgt := 246) dX10_join_90 (by decide) rfl (fun c101 => ?_) (fun c101 => ?_)
    · have hf := it c101 hf
      refine go_iconst (v := 0) (pc' := 247) dX10_join_246 rfl (by decide) ?_
      obtain rfl := Option.some.inj hf
      exact Go.ret (v := some (.int _)) dX10_join_247 ⟨_, rfl⟩ ⟨rfl, rfl, R⟩
    · have hf := ie c101 hf
      refine go_aload (pc' := 95) dX10_join_93 rfl rfl ?_
      refine go_getS (pc' := 98) dX10_join_95 rfl gf_LandBase_157 R (R.at rfl (by decide)) (by decide) rfl ?_
      refine go_iload (pc' := 100) dX10_join_98 rfl rfl ?_
      obtain ⟨g102, hf⟩ := gd_some hf
      refine go_ialoadS (pc' := 101) dX10_join_100 rfl R (R.aa rfl (by decide)) g102 ?_
      refine go_iload_n (i := 1) (pc' := 102) dX10_join_101 rfl rfl rfl ?_
      refine go_icmp_lt (pc' := 105) (tgt := 240) dX10_join_102 (by decide) rfl (fun c103 => ?_) (fun c103 => ?_)
      · have hf := it c103 hf
        refine go_iincC (kk := 1) (pc' := 243) dX10_join_240 rfl rfl (by decide) (by decide) rfl ?_
        refine go_goto (pc' := 0) (tgt := 83) dX10_join_243 (by decide) ?_
        exact ih R hf
      · have hf := ie c103 hf
        refine go_aload (pc' := 107) dX10_join_105 rfl rfl ?_
        refine go_getS (pc' := 110) dX10_join_107 rfl gf_LandBase_157 R (R.at rfl (by decide)) (by decide) rfl ?_
        refine go_iload (pc' := 112) dX10_join_110 rfl rfl ?_
        obtain ⟨g104, hf⟩ := gd_some hf
        refine go_ialoadS (pc' := 113) dX10_join_112 rfl R (R.aa rfl (by decide)) g104 ?_
        refine go_iload_n (i := 2) (pc' := 114) dX10_join_113 rfl rfl rfl ?_
        refine go_icmp_le (pc' := 117) (tgt := 120) dX10_join_114 (by decide) rfl (fun c105 => ?_) (fun c105 => ?_)
        · have hf := it c105 hf
          refine go_iconst (v := 0) (pc' := 121) dX10_join_120 rfl (by decide) ?_
          refine go_istoreE rfl (pc' := 123) dX10_join_121 rfl (by decide) rfl ?_
          exact t_X10_join_123 @ih xFU R hf
        · have hf := ie c105 hf
          refine go_goto (pc' := 0) (tgt := 240) dX10_join_117 (by decide) ?_
          exact t_X10_join_240 @ih R hf
def f_X10_join (n : Nat)  (σ : xσ) : Option (Int32 × xσ) := gd (inb 0 6) (st (sI σ 4 (0 : Int32).toNatClampNeg) (fun x102 => gd (inb 1 6) (st (sI σ 4 (1 : Int32).toNatClampNeg) (fun x105 => gd (inb 2 6) (st (sI σ 4 (2 : Int32).toNatClampNeg) (fun x108 => gd (inb 3 6) (st (sI σ 4 (3 : Int32).toNatClampNeg) (fun x111 => if x105 < x102 then some (5, σ) else if x111 < x108 then some (5, σ) else if 63 < (x105 - x102) then some (5, σ) else if (x111 - x108) ≤ 63 then l_X10_join_83 n xFU x102 x105 x108 x111 0 σ else some (5, σ)))))))))
set_option maxRecDepth 100000 in
set_option maxHeartbeats 4000000 in
theorem c_X10_join {G : xG} {n : Nat} {σ : xσ} {h : xH}  {v1 : Int32} {σ1 : xσ} (R : Rl n σ h) (hf : f_X10_join n σ = some (v1, σ1)) : Ca G mX10_join [.ref 0] h (fun v h' => v = some (.int v1) ∧ Rl n σ1 h') := by
  refine Ca.of rfl (Nat.le_of_ble_eq_true rfl) ?_
  generalize hr : (v1, σ1) = r at hf
  suffices q : Go G mX10_join 0 (xent (xMl mX10_join) [.ref 0]) [] h (fun v h' => xRok (xRt mX10_join) v ∧ v = some (.int r.1) ∧ Rl n r.2 h') by
    subst hr
    exact q
  clear hr
  rw [f_X10_join] at hf
  refine go_aload_n (i := 0) (pc' := 1) dX10_join_0 rfl rfl rfl ?_
  refine go_getS (pc' := 4) dX10_join_1 rfl gf_LandBase_19 R (R.at rfl (by decide)) (by decide) rfl ?_
  refine go_getS (pc' := 7) dX10_join_4 rfl gf_LandBase_214 R (R.at rfl (by decide)) (by decide) rfl ?_
  refine go_iconst (v := 0) (pc' := 8) dX10_join_7 rfl (by decide) ?_
  obtain ⟨g101, hf⟩ := gd_some hf
  refine go_ialoadS (pc' := 9) dX10_join_8 rfl R (R.aa rfl (by decide)) g101 ?_
  obtain ⟨x102, e103, hf⟩ := st_some hf
  refine go_istore_nE e103 (i := 1) (pc' := 10) dX10_join_9 rfl rfl (by decide) rfl ?_
  refine go_aload_n (i := 0) (pc' := 11) dX10_join_10 rfl rfl rfl ?_
  refine go_getS (pc' := 14) dX10_join_11 rfl gf_LandBase_19 R (R.at rfl (by decide)) (by decide) rfl ?_
  refine go_getS (pc' := 17) dX10_join_14 rfl gf_LandBase_214 R (R.at rfl (by decide)) (by decide) rfl ?_
  refine go_iconst (v := 1) (pc' := 18) dX10_join_17 rfl (by decide) ?_
  obtain ⟨g104, hf⟩ := gd_some hf
  refine go_ialoadS (pc' := 19) dX10_join_18 rfl R (R.aa rfl (by decide)) g104 ?_
  obtain ⟨x105, e106, hf⟩ := st_some hf
  refine go_istore_nE e106 (i := 2) (pc' := 20) dX10_join_19 rfl rfl (by decide) rfl ?_
  refine go_aload_n (i := 0) (pc' := 21) dX10_join_20 rfl rfl rfl ?_
  refine go_getS (pc' := 24) dX10_join_21 rfl gf_LandBase_19 R (R.at rfl (by decide)) (by decide) rfl ?_
  refine go_getS (pc' := 27) dX10_join_24 rfl gf_LandBase_214 R (R.at rfl (by decide)) (by decide) rfl ?_
  refine go_iconst (v := 2) (pc' := 28) dX10_join_27 rfl (by decide) ?_
  obtain ⟨g107, hf⟩ := gd_some hf
  refine go_ialoadS (pc' := 29) dX10_join_28 rfl R (R.aa rfl (by decide)) g107 ?_
  obtain ⟨x108, e109, hf⟩ := st_some hf
  refine go_istore_nE e109 (i := 3) (pc' := 30) dX10_join_29 rfl rfl (by decide) rfl ?_
  refine go_aload_n (i := 0) (pc' := 31) dX10_join_30 rfl rfl rfl ?_
  refine go_getS (pc' := 34) dX10_join_31 rfl gf_LandBase_19 R (R.at rfl (by decide)) (by decide) rfl ?_
  refine go_getS (pc' := 37) dX10_join_34 rfl gf_LandBase_214 R (R.at rfl (by decide)) (by decide) rfl ?_
  refine go_iconst (v := 3) (pc' := 38) dX10_join_37 rfl (by decide) ?_
  obtain ⟨g110, hf⟩ := gd_some hf
  refine go_ialoadS (pc' := 39) dX10_join_38 rfl R (R.aa rfl (by decide)) g110 ?_
  obtain ⟨x111, e112, hf⟩ := st_some hf
  refine go_istoreE e112 (pc' := 41) dX10_join_39 rfl (by decide) rfl ?_
  refine go_iload_n (i := 2) (pc' := 42) dX10_join_41 rfl rfl rfl ?_
  refine go_iload_n (i := 1) (pc' := 43) dX10_join_42 rfl rfl rfl ?_
  refine go_icmp_lt (pc' := 46) (tgt := 69) dX10_join_43 (by decide) rfl (fun c113 => ?_) (fun c113 => ?_)
  · have hf := it c113 hf
    refine go_iconst (v := 5) (pc' := 70) dX10_join_69 rfl (by decide) ?_
    obtain rfl := Option.some.inj hf
    exact Go.ret (v := some (.int _)) dX10_join_70 ⟨_, rfl⟩ ⟨rfl, rfl, R⟩
  · have hf := ie c113 hf
    refine go_iload (pc' := 48) dX10_join_46 rfl rfl ?_
    refine go_iload_n (i := 3) (pc' := 49) dX10_join_48 rfl rfl rfl ?_
    refine go_icmp_lt (pc' := 52) (tgt := 69) dX10_join_49 (by decide) rfl (fun c114 => ?_) (fun c114 => ?_)
    · have hf := it c114 hf
      refine go_iconst (v := 5) (pc' := 70) dX10_join_69 rfl (by decide) ?_
      obtain rfl := Option.some.inj hf
      exact Go.ret (v := some (.int _)) dX10_join_70 ⟨_, rfl⟩ ⟨rfl, rfl, R⟩
    · have hf := ie c114 hf
      refine go_iload_n (i := 2) (pc' := 53) dX10_join_52 rfl rfl rfl ?_
      refine go_iload_n (i := 1) (pc' := 54) dX10_join_53 rfl rfl rfl ?_
      refine go_isub (pc' := 55) dX10_join_54 rfl ?_
      refine go_bipush (v := 63) (pc' := 57) dX10_join_55 rfl (by decide) ?_
      refine go_icmp_gt (pc' := 60) (tgt := 69) dX10_join_57 (by decide) rfl (fun c115 => ?_) (fun c115 => ?_)
      · have hf := it c115 hf
        refine go_iconst (v := 5) (pc' := 70) dX10_join_69 rfl (by decide) ?_
        obtain rfl := Option.some.inj hf
        exact Go.ret (v := some (.int _)) dX10_join_70 ⟨_, rfl⟩ ⟨rfl, rfl, R⟩
      · have hf := ie c115 hf
        refine go_iload (pc' := 62) dX10_join_60 rfl rfl ?_
        refine go_iload_n (i := 3) (pc' := 63) dX10_join_62 rfl rfl rfl ?_
        refine go_isub (pc' := 64) dX10_join_63 rfl ?_
        refine go_bipush (v := 63) (pc' := 66) dX10_join_64 rfl (by decide) ?_
        refine go_icmp_le (pc' := 69) (tgt := 71) dX10_join_66 (by decide) rfl (fun c116 => ?_) (fun c116 => ?_)
        · have hf := it c116 hf
          refine go_aload_n (i := 0) (pc' := 72) dX10_join_71 rfl rfl rfl ?_
          refine go_getS (pc' := 75) dX10_join_72 rfl gf_LandBase_26 R (R.at rfl (by decide)) (by decide) rfl ?_
          refine go_getS (pc' := 78) dX10_join_75 rfl gf_LandBase_145 R (R.at rfl (by decide)) (by decide) rfl ?_
          refine go_astore (pc' := 80) dX10_join_78 rfl (by decide) rfl ?_
          refine go_iconst (v := 0) (pc' := 81) dX10_join_80 rfl (by decide) ?_
          refine go_istoreE rfl (pc' := 83) dX10_join_81 rfl (by decide) rfl ?_
          exact t_X10_join_83 xFU R hf
        · have hf := ie c116 hf
          refine go_iconst (v := 5) (pc' := 70) dX10_join_69 rfl (by decide) ?_
          obtain rfl := Option.some.inj hf
          exact Go.ret (v := some (.int _)) dX10_join_70 ⟨_, rfl⟩ ⟨rfl, rfl, R⟩
def f_X10_putInt (n : Nat) (x1 : Int32) (σ : xσ) : Option (Unit × xσ) := if 20000 ≤ (sI σ 0 8) then some ((), σ) else gd (inb (sI σ 0 8) 20000) (st (wI σ 232 (sI σ 0 8).toNatClampNeg x1) (fun σ103 => st (wI σ103 0 8 ((sI σ103 0 8) + 1)) (fun σ106 => some ((), σ106))))
set_option maxRecDepth 100000 in
set_option maxHeartbeats 4000000 in
theorem c_X10_putInt {G : xG} {n : Nat} {σ : xσ} {h : xH} {x1 : Int32} {v1 : Unit} {σ1 : xσ} (R : Rl n σ h) (hf : f_X10_putInt n x1 σ = some (v1, σ1)) : Ca G mX10_putInt [.ref 0, .int x1] h (fun v h' => v = none ∧ Rl n σ1 h') := by
  refine Ca.of rfl (Nat.le_of_ble_eq_true rfl) ?_
  generalize hr : (v1, σ1) = r at hf
  suffices q : Go G mX10_putInt 0 (xent (xMl mX10_putInt) [.ref 0, .int x1]) [] h (fun v h' => xRok (xRt mX10_putInt) v ∧ v = none ∧ Rl n r.2 h') by
    subst hr
    exact q
  clear hr
  rw [f_X10_putInt] at hf
  refine go_aload_n (i := 0) (pc' := 1) dX10_putInt_0 rfl rfl rfl ?_
  refine go_getS (pc' := 4) dX10_putInt_1 rfl gf_LandBase_63 R (R.at rfl (by decide)) (by decide) rfl ?_
  refine go_sipush (v := 20000) (pc' := 7) dX10_putInt_4 rfl (by decide) ?_
  refine go_icmp_ge (pc' := 10) (tgt := 30) dX10_putInt_7 (by decide) rfl (fun c101 => ?_) (fun c101 => ?_)
  · have hf := it c101 hf
    obtain rfl := Option.some.inj hf
    exact Go.ret (v := none) dX10_putInt_30 rfl ⟨trivial, rfl, R⟩
  · have hf := ie c101 hf
    refine go_aload_n (i := 0) (pc' := 11) dX10_putInt_10 rfl rfl rfl ?_
    refine go_getS (pc' := 14) dX10_putInt_11 rfl gf_LandBase_60 R (R.at rfl (by decide)) (by decide) rfl ?_
    refine go_aload_n (i := 0) (pc' := 15) dX10_putInt_14 rfl rfl rfl ?_
    refine go_getS (pc' := 18) dX10_putInt_15 rfl gf_LandBase_63 R (R.at rfl (by decide)) (by decide) rfl ?_
    refine go_iload_n (i := 1) (pc' := 19) dX10_putInt_18 rfl rfl rfl ?_
    obtain ⟨g102, hf⟩ := gd_some hf
    obtain ⟨σ103, e104, hf⟩ := st_some hf
    refine go_iastoreS (pc' := 20) dX10_putInt_19 rfl R (R.aa rfl (by decide)) g102 (fun h105 R => ?_)
    have R := Rl.cast e104 R
    refine go_aload_n (i := 0) (pc' := 21) dX10_putInt_20 rfl rfl rfl ?_
    refine go_dup (pc' := 22) dX10_putInt_21 rfl rfl ?_
    refine go_getS (pc' := 25) dX10_putInt_22 rfl gf_LandBase_63 R (R.at rfl (by decide)) (by decide) rfl ?_
    refine go_iconst (v := 1) (pc' := 26) dX10_putInt_25 rfl (by decide) ?_
    refine go_iadd (pc' := 27) dX10_putInt_26 rfl ?_
    obtain ⟨σ106, e107, hf⟩ := st_some hf
    refine go_putI (pc' := 30) dX10_putInt_27 rfl pf_LandBase_63 R (R.at rfl (by decide)) (by decide) rfl rfl rfl (fun h108 R => ?_)
    have R := Rl.cast e107 R
    obtain rfl := Option.some.inj hf
    exact Go.ret (v := none) dX10_putInt_30 rfl ⟨trivial, rfl, R⟩
def b_X10_putAnswer_79 (n : Nat) (x2 : Int32) (xs0 : Int32) (σ : xσ) : Option (Unit × xσ) := bd (f_X10_putInt n xs0 σ) (fun v101 σ102 => st (wI σ102 0 8 x2) (fun σ106 => some ((), σ106)))
set_option maxRecDepth 100000 in
set_option maxHeartbeats 4000000 in
theorem t_X10_putAnswer_79 {G : xG} {n : Nat} {x2 : Int32} {xs0 : Int32} {σ : xσ} {h : xH} {r : Unit × xσ} {d1 : Option Value} : Rl n σ h → b_X10_putAnswer_79 n x2 xs0 σ = some r → Go G mX10_putAnswer 79 [some (.ref 0), d1, some (.int x2)] [.int xs0, .ref 0] h (fun v h' => xRok (xRt mX10_putAnswer) v ∧ v = none ∧ Rl n r.2 h') := by
  intro R hf
  rw [b_X10_putAnswer_79] at hf
  obtain ⟨v101, σ102, e103, hf⟩ := bd_some hf
  refine go_invV (As := [_]) (pc' := 82) dX10_putAnswer_79 rfl cf_X10_putAnswer_211 rfl (R.ob (R.at rfl (by decide))) rfl rfl (Nat.le_of_ble_eq_true rfl) (c_X10_putInt R e103) (fun q104v h105 q104 => ?_)
  obtain ⟨rfl, R⟩ := q104
  refine go_aload_n (i := 0) (pc' := 83) dX10_putAnswer_82 rfl rfl rfl ?_
  refine go_iload_n (i := 2) (pc' := 84) dX10_putAnswer_83 rfl rfl rfl ?_
  obtain ⟨σ106, e107, hf⟩ := st_some hf
  refine go_putI (pc' := 87) dX10_putAnswer_84 rfl pf_LandBase_63 R (R.at rfl (by decide)) (by decide) rfl rfl rfl (fun h108 R => ?_)
  have R := Rl.cast e107 R
  obtain rfl := Option.some.inj hf
  exact Go.ret (v := none) dX10_putAnswer_87 rfl ⟨trivial, rfl, R⟩
def f_X10_putAnswer (n : Nat) (x1 : Int32) (σ : xσ) : Option (Unit × xσ) := if (sI σ 3 3) < 9 then bd (f_X10_putInt n x1 σ) (fun v102 σ103 => some ((), σ103)) else if x1 = 0 then st (((sI σ 0 8) + 2) + (sI σ 0 9)) (fun x108 => if x108 ≤ 19000 then bd (f_X10_putInt n 0 σ) (fun v111 σ112 => if (sI σ112 3 3) = 12 then b_X10_putAnswer_79 n x108 ((sI σ112 0 9) / 2) σ112 else b_X10_putAnswer_79 n x108 (sI σ112 0 9) σ112) else bd (f_X10_putInt n 7 σ) (fun v117 σ118 => some ((), σ118))) else bd (f_X10_putInt n x1 σ) (fun v122 σ123 => some ((), σ123))
set_option maxRecDepth 100000 in
set_option maxHeartbeats 4000000 in
theorem c_X10_putAnswer {G : xG} {n : Nat} {σ : xσ} {h : xH} {x1 : Int32} {v1 : Unit} {σ1 : xσ} (R : Rl n σ h) (hf : f_X10_putAnswer n x1 σ = some (v1, σ1)) : Ca G mX10_putAnswer [.ref 0, .int x1] h (fun v h' => v = none ∧ Rl n σ1 h') := by
  refine Ca.of rfl (Nat.le_of_ble_eq_true rfl) ?_
  generalize hr : (v1, σ1) = r at hf
  suffices q : Go G mX10_putAnswer 0 (xent (xMl mX10_putAnswer) [.ref 0, .int x1]) [] h (fun v h' => xRok (xRt mX10_putAnswer) v ∧ v = none ∧ Rl n r.2 h') by
    subst hr
    exact q
  clear hr
  rw [f_X10_putAnswer] at hf
  refine go_aload_n (i := 0) (pc' := 1) dX10_putAnswer_0 rfl rfl rfl ?_
  refine go_getS (pc' := 4) dX10_putAnswer_1 rfl gf_LandBase_19 R (R.at rfl (by decide)) (by decide) rfl ?_
  refine go_getS (pc' := 7) dX10_putAnswer_4 rfl gf_LandBase_97 R (R.at rfl (by decide)) (by decide) rfl ?_
  refine go_bipush (v := 9) (pc' := 9) dX10_putAnswer_7 rfl (by decide) ?_
  refine go_icmp_lt (pc' := 12) (tgt := 16) dX10_putAnswer_9 (by decide) rfl (fun c101 => ?_) (fun c101 => ?_)
  · have hf := it c101 hf
    refine go_aload_n (i := 0) (pc' := 17) dX10_putAnswer_16 rfl rfl rfl ?_
    refine go_iload_n (i := 1) (pc' := 18) dX10_putAnswer_17 rfl rfl rfl ?_
    obtain ⟨v102, σ103, e104, hf⟩ := bd_some hf
    refine go_invV (As := [_]) (pc' := 21) dX10_putAnswer_18 rfl cf_X10_putAnswer_211 rfl (R.ob (R.at rfl (by decide))) rfl rfl (Nat.le_of_ble_eq_true rfl) (c_X10_putInt R e104) (fun q105v h106 q105 => ?_)
    obtain ⟨rfl, R⟩ := q105
    obtain rfl := Option.some.inj hf
    exact Go.ret (v := none) dX10_putAnswer_21 rfl ⟨trivial, rfl, R⟩
  · have hf := ie c101 hf
    refine go_iload_n (i := 1) (pc' := 13) dX10_putAnswer_12 rfl rfl rfl ?_
    refine go_if_eq (pc' := 16) (tgt := 22) dX10_putAnswer_13 (by decide) rfl (fun c107 => ?_) (fun c107 => ?_)
    · have hf := it c107 hf
      refine go_aload_n (i := 0) (pc' := 23) dX10_putAnswer_22 rfl rfl rfl ?_
      refine go_getS (pc' := 26) dX10_putAnswer_23 rfl gf_LandBase_63 R (R.at rfl (by decide)) (by decide) rfl ?_
      refine go_iconst (v := 2) (pc' := 27) dX10_putAnswer_26 rfl (by decide) ?_
      refine go_iadd (pc' := 28) dX10_putAnswer_27 rfl ?_
      refine go_aload_n (i := 0) (pc' := 29) dX10_putAnswer_28 rfl rfl rfl ?_
      refine go_getS (pc' := 32) dX10_putAnswer_29 rfl gf_LandBase_67 R (R.at rfl (by decide)) (by decide) rfl ?_
      refine go_iadd (pc' := 33) dX10_putAnswer_32 rfl ?_
      obtain ⟨x108, e109, hf⟩ := st_some hf
      refine go_istore_nE e109 (i := 2) (pc' := 34) dX10_putAnswer_33 rfl rfl (by decide) rfl ?_
      refine go_iload_n (i := 2) (pc' := 35) dX10_putAnswer_34 rfl rfl rfl ?_
      refine go_sipush (v := 19000) (pc' := 38) dX10_putAnswer_35 rfl (by decide) ?_
      refine go_icmp_le (pc' := 41) (tgt := 48) dX10_putAnswer_38 (by decide) rfl (fun c110 => ?_) (fun c110 => ?_)
      · have hf := it c110 hf
        refine go_aload_n (i := 0) (pc' := 49) dX10_putAnswer_48 rfl rfl rfl ?_
        refine go_iconst (v := 0) (pc' := 50) dX10_putAnswer_49 rfl (by decide) ?_
        obtain ⟨v111, σ112, e113, hf⟩ := bd_some hf
        refine go_invV (As := [_]) (pc' := 53) dX10_putAnswer_50 rfl cf_X10_putAnswer_211 rfl (R.ob (R.at rfl (by decide))) rfl rfl (Nat.le_of_ble_eq_true rfl) (c_X10_putInt R e113) (fun q114v h115 q114 => ?_)
        obtain ⟨rfl, R⟩ := q114
        refine go_aload_n (i := 0) (pc' := 54) dX10_putAnswer_53 rfl rfl rfl ?_
        refine go_aload_n (i := 0) (pc' := 55) dX10_putAnswer_54 rfl rfl rfl ?_
        refine go_getS (pc' := 58) dX10_putAnswer_55 rfl gf_LandBase_19 R (R.at rfl (by decide)) (by decide) rfl ?_
        refine go_getS (pc' := 61) dX10_putAnswer_58 rfl gf_LandBase_97 R (R.at rfl (by decide)) (by decide) rfl ?_
        refine go_bipush (v := 12) (pc' := 63) dX10_putAnswer_61 rfl (by decide) ?_
        refine go_icmp_ne (pc' := 66) (tgt := 75) dX10_putAnswer_63 (by decide) rfl (fun c116 => ?_) (fun c116 => ?_)
        · have hf := ie c116 hf
          refine go_aload_n (i := 0) (pc' := 76) dX10_putAnswer_75 rfl rfl rfl ?_
          refine go_getS (pc' := 79) dX10_putAnswer_76 rfl gf_LandBase_67 R (R.at rfl (by decide)) (by decide) rfl ?_
          exact t_X10_putAnswer_79 R hf
        · have hf := it c116 hf
          refine go_aload_n (i := 0) (pc' := 67) dX10_putAnswer_66 rfl rfl rfl ?_
          refine go_getS (pc' := 70) dX10_putAnswer_67 rfl gf_LandBase_67 R (R.at rfl (by decide)) (by decide) rfl ?_
          refine go_iconst (v := 2) (pc' := 71) dX10_putAnswer_70 rfl (by decide) ?_
          refine go_idiv (pc' := 72) dX10_putAnswer_71 rfl (by decide) ?_
          refine go_goto (pc' := 0) (tgt := 79) dX10_putAnswer_72 (by decide) ?_
          exact t_X10_putAnswer_79 R hf
      · have hf := ie c110 hf
        refine go_aload_n (i := 0) (pc' := 42) dX10_putAnswer_41 rfl rfl rfl ?_
        refine go_bipush (v := 7) (pc' := 44) dX10_putAnswer_42 rfl (by decide) ?_
        obtain ⟨v117, σ118, e119, hf⟩ := bd_some hf
        refine go_invV (As := [_]) (pc' := 47) dX10_putAnswer_44 rfl cf_X10_putAnswer_211 rfl (R.ob (R.at rfl (by decide))) rfl rfl (Nat.le_of_ble_eq_true rfl) (c_X10_putInt R e119) (fun q120v h121 q120 => ?_)
        obtain ⟨rfl, R⟩ := q120
        obtain rfl := Option.some.inj hf
        exact Go.ret (v := none) dX10_putAnswer_47 rfl ⟨trivial, rfl, R⟩
    · have hf := ie c107 hf
      refine go_aload_n (i := 0) (pc' := 17) dX10_putAnswer_16 rfl rfl rfl ?_
      refine go_iload_n (i := 1) (pc' := 18) dX10_putAnswer_17 rfl rfl rfl ?_
      obtain ⟨v122, σ123, e124, hf⟩ := bd_some hf
      refine go_invV (As := [_]) (pc' := 21) dX10_putAnswer_18 rfl cf_X10_putAnswer_211 rfl (R.ob (R.at rfl (by decide))) rfl rfl (Nat.le_of_ble_eq_true rfl) (c_X10_putInt R e124) (fun q125v h126 q125 => ?_)
      obtain ⟨rfl, R⟩ := q125
      obtain rfl := Option.some.inj hf
      exact Go.ret (v := none) dX10_putAnswer_21 rfl ⟨trivial, rfl, R⟩

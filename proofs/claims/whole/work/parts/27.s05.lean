/-! methods as functions, by program (gen/dcmall.py) -/
def b_X5_readStatement_242 (n : Nat) (x2 : Int32) (σ : xσ) : Option (Int32 × xσ) := if x2 = 0 then some (0, σ) else bd (f_X9_skipSign n 59 σ) (fun v102 σ103 => if v102 = 0 then some (0, σ103) else some (1, σ103))
set_option maxRecDepth 100000 in
set_option maxHeartbeats 4000000 in
theorem t_X5_readStatement_242 {G : xG} {n : Nat} {x2 : Int32} {σ : xσ} {h : xH} {r : Int32 × xσ} {d0 : Option Value} : Rl n σ h → b_X5_readStatement_242 n x2 σ = some r → Go G mX5_readStatement 242 [d0, some (.ref 1), some (.int x2)] [] h (fun v h' => xRok (xRt mX5_readStatement) v ∧ v = some (.int r.1) ∧ Rl n r.2 h') := by
  intro R hf
  rw [b_X5_readStatement_242] at hf
  refine go_iload_n (i := 2) (pc' := 243) dX5_readStatement_242 rfl rfl rfl ?_
  refine go_if_eq (pc' := 246) (tgt := 259) dX5_readStatement_243 (by decide) rfl (fun c101 => ?_) (fun c101 => ?_)
  · have hf := it c101 hf
    refine go_iconst (v := 0) (pc' := 260) dX5_readStatement_259 rfl (by decide) ?_
    obtain rfl := Option.some.inj hf
    exact Go.ret (v := some (.int _)) dX5_readStatement_260 ⟨_, rfl⟩ ⟨rfl, rfl, R⟩
  · have hf := ie c101 hf
    refine go_aload_n (i := 1) (pc' := 247) dX5_readStatement_246 rfl rfl rfl ?_
    refine go_bipush (v := 59) (pc' := 249) dX5_readStatement_247 rfl (by decide) ?_
    obtain ⟨v102, σ103, e104, hf⟩ := bd_some hf
    refine go_invV (As := [_]) (pc' := 252) dX5_readStatement_249 rfl cf_X5_readStatement_51 rfl (R.ob (R.at rfl (by decide))) rfl rfl (Nat.le_of_ble_eq_true rfl) (c_X9_skipSign R e104) (fun q105v h106 q105 => ?_)
    obtain ⟨rfl, R⟩ := q105
    refine go_if_eq (pc' := 255) (tgt := 259) dX5_readStatement_252 (by decide) rfl (fun c107 => ?_) (fun c107 => ?_)
    · have hf := it c107 hf
      refine go_iconst (v := 0) (pc' := 260) dX5_readStatement_259 rfl (by decide) ?_
      obtain rfl := Option.some.inj hf
      exact Go.ret (v := some (.int _)) dX5_readStatement_260 ⟨_, rfl⟩ ⟨rfl, rfl, R⟩
    · have hf := ie c107 hf
      refine go_iconst (v := 1) (pc' := 256) dX5_readStatement_255 rfl (by decide) ?_
      refine go_goto (pc' := 0) (tgt := 260) dX5_readStatement_256 (by decide) ?_
      obtain rfl := Option.some.inj hf
      exact Go.ret (v := some (.int _)) dX5_readStatement_260 ⟨_, rfl⟩ ⟨rfl, rfl, R⟩
def b_X5_readStatement_122 (n : Nat) (xs0 : Int32) (σ : xσ) : Option (Int32 × xσ) := b_X5_readStatement_242 n xs0 σ
set_option maxRecDepth 100000 in
set_option maxHeartbeats 4000000 in
theorem t_X5_readStatement_122 {G : xG} {n : Nat} {xs0 : Int32} {σ : xσ} {h : xH} {r : Int32 × xσ} {d0 : Option Value} {d2 : Option Value} : Rl n σ h → b_X5_readStatement_122 n xs0 σ = some r → Go G mX5_readStatement 122 [d0, some (.ref 1), d2] [.int xs0] h (fun v h' => xRok (xRt mX5_readStatement) v ∧ v = some (.int r.1) ∧ Rl n r.2 h') := by
  intro R hf
  rw [b_X5_readStatement_122] at hf
  refine go_istore_nE rfl (i := 2) (pc' := 123) dX5_readStatement_122 rfl rfl (by decide) rfl ?_
  refine go_goto (pc' := 0) (tgt := 242) dX5_readStatement_123 (by decide) ?_
  exact t_X5_readStatement_242 R hf
def b_X5_readStatement_177 (n : Nat) (xs0 : Int32) (σ : xσ) : Option (Int32 × xσ) := b_X5_readStatement_242 n xs0 σ
set_option maxRecDepth 100000 in
set_option maxHeartbeats 4000000 in
theorem t_X5_readStatement_177 {G : xG} {n : Nat} {xs0 : Int32} {σ : xσ} {h : xH} {r : Int32 × xσ} {d0 : Option Value} {d2 : Option Value} : Rl n σ h → b_X5_readStatement_177 n xs0 σ = some r → Go G mX5_readStatement 177 [d0, some (.ref 1), d2] [.int xs0] h (fun v h' => xRok (xRt mX5_readStatement) v ∧ v = some (.int r.1) ∧ Rl n r.2 h') := by
  intro R hf
  rw [b_X5_readStatement_177] at hf
  refine go_istore_nE rfl (i := 2) (pc' := 178) dX5_readStatement_177 rfl rfl (by decide) rfl ?_
  refine go_goto (pc' := 0) (tgt := 242) dX5_readStatement_178 (by decide) ?_
  exact t_X5_readStatement_242 R hf
def b_X5_readStatement_202 (n : Nat) (xs0 : Int32) (σ : xσ) : Option (Int32 × xσ) := b_X5_readStatement_242 n xs0 σ
set_option maxRecDepth 100000 in
set_option maxHeartbeats 4000000 in
theorem t_X5_readStatement_202 {G : xG} {n : Nat} {xs0 : Int32} {σ : xσ} {h : xH} {r : Int32 × xσ} {d0 : Option Value} {d2 : Option Value} : Rl n σ h → b_X5_readStatement_202 n xs0 σ = some r → Go G mX5_readStatement 202 [d0, some (.ref 1), d2] [.int xs0] h (fun v h' => xRok (xRt mX5_readStatement) v ∧ v = some (.int r.1) ∧ Rl n r.2 h') := by
  intro R hf
  rw [b_X5_readStatement_202] at hf
  refine go_istore_nE rfl (i := 2) (pc' := 203) dX5_readStatement_202 rfl rfl (by decide) rfl ?_
  refine go_goto (pc' := 0) (tgt := 242) dX5_readStatement_203 (by decide) ?_
  exact t_X5_readStatement_242 R hf
def b_X5_readStatement_238 (n : Nat) (xs0 : Int32) (σ : xσ) : Option (Int32 × xσ) := b_X5_readStatement_242 n xs0 σ
set_option maxRecDepth 100000 in
set_option maxHeartbeats 4000000 in
theorem t_X5_readStatement_238 {G : xG} {n : Nat} {xs0 : Int32} {σ : xσ} {h : xH} {r : Int32 × xσ} {d0 : Option Value} {d2 : Option Value} : Rl n σ h → b_X5_readStatement_238 n xs0 σ = some r → Go G mX5_readStatement 238 [d0, some (.ref 1), d2] [.int xs0] h (fun v h' => xRok (xRt mX5_readStatement) v ∧ v = some (.int r.1) ∧ Rl n r.2 h') := by
  intro R hf
  rw [b_X5_readStatement_238] at hf
  refine go_istore_nE rfl (i := 2) (pc' := 239) dX5_readStatement_238 rfl rfl (by decide) rfl ?_
  refine go_goto (pc' := 0) (tgt := 242) dX5_readStatement_239 (by decide) ?_
  exact t_X5_readStatement_242 R hf
def b_X5_readStatement_27 (n : Nat) (xs0 : Int32) (σ : xσ) : Option (Int32 × xσ) := if sI σ 3 3 = 0 then bd (f_X5_readNumbers n 1 σ) (fun v102 σ103 => if v102 = 0 then b_X5_readStatement_122 n 0 σ103 else bd (f_X5_readShape n σ103) (fun v108 σ109 => if v108 = 0 then b_X5_readStatement_122 n 0 σ109 else b_X5_readStatement_122 n 1 σ109)) else if sI σ 3 3 = 1 then bd (f_X5_readNumbers n 1 σ) (fun v115 σ116 => b_X5_readStatement_242 n v115 σ116) else if sI σ 3 3 = 2 then bd (f_X5_readNumbers n 3 σ) (fun v121 σ122 => b_X5_readStatement_242 n v121 σ122) else if sI σ 3 3 = 3 then bd (f_X5_readNumbers n 2 σ) (fun v127 σ128 => if v127 = 0 then b_X5_readStatement_177 n 0 σ128 else bd (f_X5_readFillKind n σ128) (fun v133 σ134 => if v133 = 0 then b_X5_readStatement_177 n 0 σ134 else bd (f_X5_readNumbers n 4 σ134) (fun v139 σ140 => if v139 = 0 then b_X5_readStatement_177 n 0 σ140 else b_X5_readStatement_177 n 1 σ140))) else if sI σ 3 3 = 4 then if xs0 = 0 then some (0, σ) else bd (f_X9_skipSign n 59 σ) (fun v147 σ148 => if v147 = 0 then some (0, σ148) else some (1, σ148)) else if sI σ 3 3 = 5 then if xs0 = 0 then some (0, σ) else bd (f_X9_skipSign n 59 σ) (fun v155 σ156 => if v155 = 0 then some (0, σ156) else some (1, σ156)) else if sI σ 3 3 = 6 then if xs0 = 0 then some (0, σ) else bd (f_X9_skipSign n 59 σ) (fun v163 σ164 => if v163 = 0 then some (0, σ164) else some (1, σ164)) else if sI σ 3 3 = 7 then if xs0 = 0 then some (0, σ) else bd (f_X9_skipSign n 59 σ) (fun v171 σ172 => if v171 = 0 then some (0, σ172) else some (1, σ172)) else if sI σ 3 3 = 8 then if xs0 = 0 then some (0, σ) else bd (f_X9_skipSign n 59 σ) (fun v179 σ180 => if v179 = 0 then some (0, σ180) else some (1, σ180)) else if sI σ 3 3 = 9 then bd (f_X5_readRelation n σ) (fun v186 σ187 => if v186 = 0 then b_X5_readStatement_202 n 0 σ187 else bd (f_X5_readShape n σ187) (fun v192 σ193 => if v192 = 0 then b_X5_readStatement_202 n 0 σ193 else b_X5_readStatement_202 n 1 σ193)) else if sI σ 3 3 = 10 then bd (f_X5_readNumbers n 4 σ) (fun v199 σ200 => b_X5_readStatement_242 n v199 σ200) else if sI σ 3 3 = 11 then bd (f_X5_readNumbers n 3 σ) (fun v205 σ206 => b_X5_readStatement_242 n v205 σ206) else if sI σ 3 3 = 12 then bd (f_X5_readRelation n σ) (fun v211 σ212 => if v211 = 0 then b_X5_readStatement_238 n 0 σ212 else bd (f_X5_readNumbers n 4 σ212) (fun v217 σ218 => if v217 = 0 then b_X5_readStatement_238 n 0 σ218 else b_X5_readStatement_238 n 1 σ218)) else if xs0 = 0 then some (0, σ) else bd (f_X9_skipSign n 59 σ) (fun v224 σ225 => if v224 = 0 then some (0, σ225) else some (1, σ225))
set_option maxRecDepth 100000 in
set_option maxHeartbeats 4000000 in
theorem t_X5_readStatement_27 {G : xG} {n : Nat} {xs0 : Int32} {σ : xσ} {h : xH} {r : Int32 × xσ} {d2 : Option Value} : Rl n σ h → b_X5_readStatement_27 n xs0 σ = some r → Go G mX5_readStatement 27 [some (.ref 3), some (.ref 1), d2] [.int xs0] h (fun v h' => xRok (xRt mX5_readStatement) v ∧ v = some (.int r.1) ∧ Rl n r.2 h') := by
  intro R hf
  rw [b_X5_readStatement_27] at hf
  refine go_istore_nE rfl (i := 2) (pc' := 28) dX5_readStatement_27 rfl rfl (by decide) rfl ?_
  refine go_aload_n (i := 0) (pc' := 29) dX5_readStatement_28 rfl rfl rfl ?_
  refine go_getS (pc' := 32) dX5_readStatement_29 rfl gf_LandBase_Reader_34 R (R.at rfl (by decide)) (by decide) rfl ?_
  by_cases c101 : sI σ 3 3 = 0
  · have hf := it c101 hf
    refine go_tableIn (pc' := 0) (off := 68) (tgt := 100) dX5_readStatement_32 (by rw [c101]; decide) (by rw [c101]; decide) (by rw [c101]; rfl) (by decide) ?_
    refine go_aload_n (i := 0) (pc' := 101) dX5_readStatement_100 rfl rfl rfl ?_
    refine go_aload_n (i := 1) (pc' := 102) dX5_readStatement_101 rfl rfl rfl ?_
    refine go_iconst (v := 1) (pc' := 103) dX5_readStatement_102 rfl (by decide) ?_
    obtain ⟨v102, σ103, e104, hf⟩ := bd_some hf
    refine go_invV (As := [_, _]) (pc' := 106) dX5_readStatement_103 rfl cf_X5_readStatement_37 rfl (R.ob (R.at rfl (by decide))) rfl rfl (Nat.le_of_ble_eq_true rfl) (c_X5_readNumbers R e104) (fun q105v h106 q105 => ?_)
    obtain ⟨rfl, R⟩ := q105
    refine go_if_eq (pc' := 109) (tgt := 121) dX5_readStatement_106 (by decide) rfl (fun c107 => ?_) (fun c107 => ?_)
    · have hf := it c107 hf
      refine go_iconst (v := 0) (pc' := 122) dX5_readStatement_121 rfl (by decide) ?_
      exact t_X5_readStatement_122 R hf
    · have hf := ie c107 hf
      refine go_aload_n (i := 0) (pc' := 110) dX5_readStatement_109 rfl rfl rfl ?_
      refine go_aload_n (i := 1) (pc' := 111) dX5_readStatement_110 rfl rfl rfl ?_
      obtain ⟨v108, σ109, e110, hf⟩ := bd_some hf
      refine go_invV (As := [_]) (pc' := 114) dX5_readStatement_111 rfl cf_X5_readStatement_41 rfl (R.ob (R.at rfl (by decide))) rfl rfl (Nat.le_of_ble_eq_true rfl) (c_X5_readShape R e110) (fun q111v h112 q111 => ?_)
      obtain ⟨rfl, R⟩ := q111
      refine go_if_eq (pc' := 117) (tgt := 121) dX5_readStatement_114 (by decide) rfl (fun c113 => ?_) (fun c113 => ?_)
      · have hf := it c113 hf
        refine go_iconst (v := 0) (pc' := 122) dX5_readStatement_121 rfl (by decide) ?_
        exact t_X5_readStatement_122 R hf
      · have hf := ie c113 hf
        refine go_iconst (v := 1) (pc' := 118) dX5_readStatement_117 rfl (by decide) ?_
        refine go_goto (pc' := 0) (tgt := 122) dX5_readStatement_118 (by decide) ?_
        exact t_X5_readStatement_122 R hf
  have hf := ie c101 hf
  by_cases c114 : sI σ 3 3 = 1
  · have hf := it c114 hf
    refine go_tableIn (pc' := 0) (off := 94) (tgt := 126) dX5_readStatement_32 (by rw [c114]; decide) (by rw [c114]; decide) (by rw [c114]; rfl) (by decide) ?_
    refine go_aload_n (i := 0) (pc' := 127) dX5_readStatement_126 rfl rfl rfl ?_
    refine go_aload_n (i := 1) (pc' := 128) dX5_readStatement_127 rfl rfl rfl ?_
    refine go_iconst (v := 1) (pc' := 129) dX5_readStatement_128 rfl (by decide) ?_
    obtain ⟨v115, σ116, e117, hf⟩ := bd_some hf
    refine go_invV (As := [_, _]) (pc' := 132) dX5_readStatement_129 rfl cf_X5_readStatement_37 rfl (R.ob (R.at rfl (by decide))) rfl rfl (Nat.le_of_ble_eq_true rfl) (c_X5_readNumbers R e117) (fun q118v h119 q118 => ?_)
    obtain ⟨rfl, R⟩ := q118
    refine go_istore_nE rfl (i := 2) (pc' := 133) dX5_readStatement_132 rfl rfl (by decide) rfl ?_
    refine go_goto (pc' := 0) (tgt := 242) dX5_readStatement_133 (by decide) ?_
    exact t_X5_readStatement_242 R hf
  have hf := ie c114 hf
  by_cases c120 : sI σ 3 3 = 2
  · have hf := it c120 hf
    refine go_tableIn (pc' := 0) (off := 104) (tgt := 136) dX5_readStatement_32 (by rw [c120]; decide) (by rw [c120]; decide) (by rw [c120]; rfl) (by decide) ?_
    refine go_aload_n (i := 0) (pc' := 137) dX5_readStatement_136 rfl rfl rfl ?_
    refine go_aload_n (i := 1) (pc' := 138) dX5_readStatement_137 rfl rfl rfl ?_
    refine go_iconst (v := 3) (pc' := 139) dX5_readStatement_138 rfl (by decide) ?_
    obtain ⟨v121, σ122, e123, hf⟩ := bd_some hf
    refine go_invV (As := [_, _]) (pc' := 142) dX5_readStatement_139 rfl cf_X5_readStatement_37 rfl (R.ob (R.at rfl (by decide))) rfl rfl (Nat.le_of_ble_eq_true rfl) (c_X5_readNumbers R e123) (fun q124v h125 q124 => ?_)
    obtain ⟨rfl, R⟩ := q124
    refine go_istore_nE rfl (i := 2) (pc' := 143) dX5_readStatement_142 rfl rfl (by decide) rfl ?_
    refine go_goto (pc' := 0) (tgt := 242) dX5_readStatement_143 (by decide) ?_
    exact t_X5_readStatement_242 R hf
  have hf := ie c120 hf
  by_cases c126 : sI σ 3 3 = 3
  · have hf := it c126 hf
    refine go_tableIn (pc' := 0) (off := 114) (tgt := 146) dX5_readStatement_32 (by rw [c126]; decide) (by rw [c126]; decide) (by rw [c126]; rfl) (by decide) ?_
    refine go_aload_n (i := 0) (pc' := 147) dX5_readStatement_146 rfl rfl rfl ?_
    refine go_aload_n (i := 1) (pc' := 148) dX5_readStatement_147 rfl rfl rfl ?_
    refine go_iconst (v := 2) (pc' := 149) dX5_readStatement_148 rfl (by decide) ?_
    obtain ⟨v127, σ128, e129, hf⟩ := bd_some hf
    refine go_invV (As := [_, _]) (pc' := 152) dX5_readStatement_149 rfl cf_X5_readStatement_37 rfl (R.ob (R.at rfl (by decide))) rfl rfl (Nat.le_of_ble_eq_true rfl) (c_X5_readNumbers R e129) (fun q130v h131 q130 => ?_)
    obtain ⟨rfl, R⟩ := q130
    refine go_if_eq (pc' := 155) (tgt := 176) dX5_readStatement_152 (by decide) rfl (fun c132 => ?_) (fun c132 => ?_)
    · have hf := it c132 hf
      refine go_iconst (v := 0) (pc' := 177) dX5_readStatement_176 rfl (by decide) ?_
      exact t_X5_readStatement_177 R hf
    · have hf := ie c132 hf
      refine go_aload_n (i := 0) (pc' := 156) dX5_readStatement_155 rfl rfl rfl ?_
      refine go_aload_n (i := 1) (pc' := 157) dX5_readStatement_156 rfl rfl rfl ?_
      obtain ⟨v133, σ134, e135, hf⟩ := bd_some hf
      refine go_invV (As := [_]) (pc' := 160) dX5_readStatement_157 rfl cf_X5_readStatement_45 rfl (R.ob (R.at rfl (by decide))) rfl rfl (Nat.le_of_ble_eq_true rfl) (c_X5_readFillKind R e135) (fun q136v h137 q136 => ?_)
      obtain ⟨rfl, R⟩ := q136
      refine go_if_eq (pc' := 163) (tgt := 176) dX5_readStatement_160 (by decide) rfl (fun c138 => ?_) (fun c138 => ?_)
      · have hf := it c138 hf
        refine go_iconst (v := 0) (pc' := 177) dX5_readStatement_176 rfl (by decide) ?_
        exact t_X5_readStatement_177 R hf
      · have hf := ie c138 hf
        refine go_aload_n (i := 0) (pc' := 164) dX5_readStatement_163 rfl rfl rfl ?_
        refine go_aload_n (i := 1) (pc' := 165) dX5_readStatement_164 rfl rfl rfl ?_
        refine go_iconst (v := 4) (pc' := 166) dX5_readStatement_165 rfl (by decide) ?_
        obtain ⟨v139, σ140, e141, hf⟩ := bd_some hf
        refine go_invV (As := [_, _]) (pc' := 169) dX5_readStatement_166 rfl cf_X5_readStatement_37 rfl (R.ob (R.at rfl (by decide))) rfl rfl (Nat.le_of_ble_eq_true rfl) (c_X5_readNumbers R e141) (fun q142v h143 q142 => ?_)
        obtain ⟨rfl, R⟩ := q142
        refine go_if_eq (pc' := 172) (tgt := 176) dX5_readStatement_169 (by decide) rfl (fun c144 => ?_) (fun c144 => ?_)
        · have hf := it c144 hf
          refine go_iconst (v := 0) (pc' := 177) dX5_readStatement_176 rfl (by decide) ?_
          exact t_X5_readStatement_177 R hf
        · have hf := ie c144 hf
          refine go_iconst (v := 1) (pc' := 173) dX5_readStatement_172 rfl (by decide) ?_
          refine go_goto (pc' := 0) (tgt := 177) dX5_readStatement_173 (by decide) ?_
          exact t_X5_readStatement_177 R hf
  have hf := ie c126 hf
  by_cases c145 : sI σ 3 3 = 4
  · have hf := it c145 hf
    refine go_tableIn (pc' := 0) (off := 210) (tgt := 242) dX5_readStatement_32 (by rw [c145]; decide) (by rw [c145]; decide) (by rw [c145]; rfl) (by decide) ?_
    refine go_iload_n (i := 2) (pc' := 243) dX5_readStatement_242 rfl rfl rfl ?_
    refine go_if_eq (pc' := 246) (tgt := 259) dX5_readStatement_243 (by decide) rfl (fun c146 => ?_) (fun c146 => ?_)
    · have hf := it c146 hf
      refine go_iconst (v := 0) (pc' := 260) dX5_readStatement_259 rfl (by decide) ?_
      obtain rfl := Option.some.inj hf
      exact Go.ret (v := some (.int _)) dX5_readStatement_260 ⟨_, rfl⟩ ⟨rfl, rfl, R⟩
    · have hf := ie c146 hf
      refine go_aload_n (i := 1) (pc' := 247) dX5_readStatement_246 rfl rfl rfl ?_
      refine go_bipush (v := 59) (pc' := 249) dX5_readStatement_247 rfl (by decide) ?_
      obtain ⟨v147, σ148, e149, hf⟩ := bd_some hf
      refine go_invV (As := [_]) (pc' := 252) dX5_readStatement_249 rfl cf_X5_readStatement_51 rfl (R.ob (R.at rfl (by decide))) rfl rfl (Nat.le_of_ble_eq_true rfl) (c_X9_skipSign R e149) (fun q150v h151 q150 => ?_)
      obtain ⟨rfl, R⟩ := q150
      refine go_if_eq (pc' := 255) (tgt := 259) dX5_readStatement_252 (by decide) rfl (fun c152 => ?_) (fun c152 => ?_)
      · have hf := it c152 hf
        refine go_iconst (v := 0) (pc' := 260) dX5_readStatement_259 rfl (by decide) ?_
        obtain rfl := Option.some.inj hf
        exact Go.ret (v := some (.int _)) dX5_readStatement_260 ⟨_, rfl⟩ ⟨rfl, rfl, R⟩
      · have hf := ie c152 hf
        refine go_iconst (v := 1) (pc' := 256) dX5_readStatement_255 rfl (by decide) ?_
        refine go_goto (pc' := 0) (tgt := 260) dX5_readStatement_256 (by decide) ?_
        obtain rfl := Option.some.inj hf
        exact Go.ret (v := some (.int _)) dX5_readStatement_260 ⟨_, rfl⟩ ⟨rfl, rfl, R⟩
  have hf := ie c145 hf
  by_cases c153 : sI σ 3 3 = 5
  · have hf := it c153 hf
    refine go_tableIn (pc' := 0) (off := 210) (tgt := 242) dX5_readStatement_32 (by rw [c153]; decide) (by rw [c153]; decide) (by rw [c153]; rfl) (by decide) ?_
    refine go_iload_n (i := 2) (pc' := 243) dX5_readStatement_242 rfl rfl rfl ?_
    refine go_if_eq (pc' := 246) (tgt := 259) dX5_readStatement_243 (by decide) rfl (fun c154 => ?_) (fun c154 => ?_)
    · have hf := it c154 hf
      refine go_iconst (v := 0) (pc' := 260) dX5_readStatement_259 rfl (by decide) ?_
      obtain rfl := Option.some.inj hf
      exact Go.ret (v := some (.int _)) dX5_readStatement_260 ⟨_, rfl⟩ ⟨rfl, rfl, R⟩
    · have hf := ie c154 hf
      refine go_aload_n (i := 1) (pc' := 247) dX5_readStatement_246 rfl rfl rfl ?_
      refine go_bipush (v := 59) (pc' := 249) dX5_readStatement_247 rfl (by decide) ?_
      obtain ⟨v155, σ156, e157, hf⟩ := bd_some hf
      refine go_invV (As := [_]) (pc' := 252) dX5_readStatement_249 rfl cf_X5_readStatement_51 rfl (R.ob (R.at rfl (by decide))) rfl rfl (Nat.le_of_ble_eq_true rfl) (c_X9_skipSign R e157) (fun q158v h159 q158 => ?_)
      obtain ⟨rfl, R⟩ := q158
      refine go_if_eq (pc' := 255) (tgt := 259) dX5_readStatement_252 (by decide) rfl (fun c160 => ?_) (fun c160 => ?_)
      · have hf := it c160 hf
        refine go_iconst (v := 0) (pc' := 260) dX5_readStatement_259 rfl (by decide) ?_
        obtain rfl := Option.some.inj hf
        exact Go.ret (v := some (.int _)) dX5_readStatement_260 ⟨_, rfl⟩ ⟨rfl, rfl, R⟩
      · have hf := ie c160 hf
        refine go_iconst (v := 1) (pc' := 256) dX5_readStatement_255 rfl (by decide) ?_
        refine go_goto (pc' := 0) (tgt := 260) dX5_readStatement_256 (by decide) ?_
        obtain rfl := Option.some.inj hf
        exact Go.ret (v := some (.int _)) dX5_readStatement_260 ⟨_, rfl⟩ ⟨rfl, rfl, R⟩
  have hf := ie c153 hf
  by_cases c161 : sI σ 3 3 = 6
  · have hf := it c161 hf
    refine go_tableIn (pc' := 0) (off := 210) (tgt := 242) dX5_readStatement_32 (by rw [c161]; decide) (by rw [c161]; decide) (by rw [c161]; rfl) (by decide) ?_
    refine go_iload_n (i := 2) (pc' := 243) dX5_readStatement_242 rfl rfl rfl ?_
    refine go_if_eq (pc' := 246) (tgt := 259) dX5_readStatement_243 (by decide) rfl (fun c162 => ?_) (fun c162 => ?_)
    · have hf := it c162 hf
      refine go_iconst (v := 0) (pc' := 260) dX5_readStatement_259 rfl (by decide) ?_
      obtain rfl := Option.some.inj hf
      exact Go.ret (v := some (.int _)) dX5_readStatement_260 ⟨_, rfl⟩ ⟨rfl, rfl, R⟩
    · have hf := ie c162 hf
      refine go_aload_n (i := 1) (pc' := 247) dX5_readStatement_246 rfl rfl rfl ?_
      refine go_bipush (v := 59) (pc' := 249) dX5_readStatement_247 rfl (by decide) ?_
      obtain ⟨v163, σ164, e165, hf⟩ := bd_some hf
      refine go_invV (As := [_]) (pc' := 252) dX5_readStatement_249 rfl cf_X5_readStatement_51 rfl (R.ob (R.at rfl (by decide))) rfl rfl (Nat.le_of_ble_eq_true rfl) (c_X9_skipSign R e165) (fun q166v h167 q166 => ?_)
      obtain ⟨rfl, R⟩ := q166
      refine go_if_eq (pc' := 255) (tgt := 259) dX5_readStatement_252 (by decide) rfl (fun c168 => ?_) (fun c168 => ?_)
      · have hf := it c168 hf
        refine go_iconst (v := 0) (pc' := 260) dX5_readStatement_259 rfl (by decide) ?_
        obtain rfl := Option.some.inj hf
        exact Go.ret (v := some (.int _)) dX5_readStatement_260 ⟨_, rfl⟩ ⟨rfl, rfl, R⟩
      · have hf := ie c168 hf
        refine go_iconst (v := 1) (pc' := 256) dX5_readStatement_255 rfl (by decide) ?_
        refine go_goto (pc' := 0) (tgt := 260) dX5_readStatement_256 (by decide) ?_
        obtain rfl := Option.some.inj hf
        exact Go.ret (v := some (.int _)) dX5_readStatement_260 ⟨_, rfl⟩ ⟨rfl, rfl, R⟩
  have hf := ie c161 hf
  by_cases c169 : sI σ 3 3 = 7
  · have hf := it c169 hf
    refine go_tableIn (pc' := 0) (off := 210) (tgt := 242) dX5_readStatement_32 (by rw [c169]; decide) (by rw [c169]; decide) (by rw [c169]; rfl) (by decide) ?_
    refine go_iload_n (i := 2) (pc' := 243) dX5_readStatement_242 rfl rfl rfl ?_
    refine go_if_eq (pc' := 246) (tgt := 259) dX5_readStatement_243 (by decide) rfl (fun c170 => ?_) (fun c170 => ?_)
    · have hf := it c170 hf
      refine go_iconst (v := 0) (pc' := 260) dX5_readStatement_259 rfl (by decide) ?_
      obtain rfl := Option.some.inj hf
      exact Go.ret (v := some (.int _)) dX5_readStatement_260 ⟨_, rfl⟩ ⟨rfl, rfl, R⟩
    · have hf := ie c170 hf
      refine go_aload_n (i := 1) (pc' := 247) dX5_readStatement_246 rfl rfl rfl ?_
      refine go_bipush (v := 59) (pc' := 249) dX5_readStatement_247 rfl (by decide) ?_
      obtain ⟨v171, σ172, e173, hf⟩ := bd_some hf
      refine go_invV (As := [_]) (pc' := 252) dX5_readStatement_249 rfl cf_X5_readStatement_51 rfl (R.ob (R.at rfl (by decide))) rfl rfl (Nat.le_of_ble_eq_true rfl) (c_X9_skipSign R e173) (fun q174v h175 q174 => ?_)
      obtain ⟨rfl, R⟩ := q174
      refine go_if_eq (pc' := 255) (tgt := 259) dX5_readStatement_252 (by decide) rfl (fun c176 => ?_) (fun c176 => ?_)
      · have hf := it c176 hf
        refine go_iconst (v := 0) (pc' := 260) dX5_readStatement_259 rfl (by decide) ?_
        obtain rfl := Option.some.inj hf
        exact Go.ret (v := some (.int _)) dX5_readStatement_260 ⟨_, rfl⟩ ⟨rfl, rfl, R⟩
      · have hf := ie c176 hf
        refine go_iconst (v := 1) (pc' := 256) dX5_readStatement_255 rfl (by decide) ?_
        refine go_goto (pc' := 0) (tgt := 260) dX5_readStatement_256 (by decide) ?_
        obtain rfl := Option.some.inj hf
        exact Go.ret (v := some (.int _)) dX5_readStatement_260 ⟨_, rfl⟩ ⟨rfl, rfl, R⟩
  have hf := ie c169 hf
  by_cases c177 : sI σ 3 3 = 8
  · have hf := it c177 hf
    refine go_tableIn (pc' := 0) (off := 210) (tgt := 242) dX5_readStatement_32 (by rw [c177]; decide) (by rw [c177]; decide) (by rw [c177]; rfl) (by decide) ?_
    refine go_iload_n (i := 2) (pc' := 243) dX5_readStatement_242 rfl rfl rfl ?_
    refine go_if_eq (pc' := 246) (tgt := 259) dX5_readStatement_243 (by decide) rfl (fun c178 => ?_) (fun c178 => ?_)
    · have hf := it c178 hf
      refine go_iconst (v := 0) (pc' := 260) dX5_readStatement_259 rfl (by decide) ?_
      obtain rfl := Option.some.inj hf
      exact Go.ret (v := some (.int _)) dX5_readStatement_260 ⟨_, rfl⟩ ⟨rfl, rfl, R⟩
    · have hf := ie c178 hf
      refine go_aload_n (i := 1) (pc' := 247) dX5_readStatement_246 rfl rfl rfl ?_
      refine go_bipush (v := 59) (pc' := 249) dX5_readStatement_247 rfl (by decide) ?_
      obtain ⟨v179, σ180, e181, hf⟩ := bd_some hf
      refine go_invV (As := [_]) (pc' := 252) dX5_readStatement_249 rfl cf_X5_readStatement_51 rfl (R.ob (R.at rfl (by decide))) rfl rfl (Nat.le_of_ble_eq_true rfl) (c_X9_skipSign R e181) (fun q182v h183 q182 => ?_)
      obtain ⟨rfl, R⟩ := q182
      refine go_if_eq (pc' := 255) (tgt := 259) dX5_readStatement_252 (by decide) rfl (fun c184 => ?_) (fun c184 => ?_)
      · have hf := it c184 hf
        refine go_iconst (v := 0) (pc' := 260) dX5_readStatement_259 rfl (by decide) ?_
        obtain rfl := Option.some.inj hf
        exact Go.ret (v := some (.int _)) dX5_readStatement_260 ⟨_, rfl⟩ ⟨rfl, rfl, R⟩
      · have hf := ie c184 hf
        refine go_iconst (v := 1) (pc' := 256) dX5_readStatement_255 rfl (by decide) ?_
        refine go_goto (pc' := 0) (tgt := 260) dX5_readStatement_256 (by decide) ?_
        obtain rfl := Option.some.inj hf
        exact Go.ret (v := some (.int _)) dX5_readStatement_260 ⟨_, rfl⟩ ⟨rfl, rfl, R⟩
  have hf := ie c177 hf
  by_cases c185 : sI σ 3 3 = 9
  · have hf := it c185 hf
    refine go_tableIn (pc' := 0) (off := 149) (tgt := 181) dX5_readStatement_32 (by rw [c185]; decide) (by rw [c185]; decide) (by rw [c185]; rfl) (by decide) ?_
    refine go_aload_n (i := 0) (pc' := 182) dX5_readStatement_181 rfl rfl rfl ?_
    refine go_aload_n (i := 1) (pc' := 183) dX5_readStatement_182 rfl rfl rfl ?_
    obtain ⟨v186, σ187, e188, hf⟩ := bd_some hf
    refine go_invV (As := [_]) (pc' := 186) dX5_readStatement_183 rfl cf_X5_readStatement_48 rfl (R.ob (R.at rfl (by decide))) rfl rfl (Nat.le_of_ble_eq_true rfl) (c_X5_readRelation R e188) (fun q189v h190 q189 => ?_)
    obtain ⟨rfl, R⟩ := q189
    refine go_if_eq (pc' := 189) (tgt := 201) dX5_readStatement_186 (by decide) rfl (fun c191 => ?_) (fun c191 => ?_)
    · have hf := it c191 hf
      refine go_iconst (v := 0) (pc' := 202) dX5_readStatement_201 rfl (by decide) ?_
      exact t_X5_readStatement_202 R hf
    · have hf := ie c191 hf
      refine go_aload_n (i := 0) (pc' := 190) dX5_readStatement_189 rfl rfl rfl ?_
      refine go_aload_n (i := 1) (pc' := 191) dX5_readStatement_190 rfl rfl rfl ?_
      obtain ⟨v192, σ193, e194, hf⟩ := bd_some hf
      refine go_invV (As := [_]) (pc' := 194) dX5_readStatement_191 rfl cf_X5_readStatement_41 rfl (R.ob (R.at rfl (by decide))) rfl rfl (Nat.le_of_ble_eq_true rfl) (c_X5_readShape R e194) (fun q195v h196 q195 => ?_)
      obtain ⟨rfl, R⟩ := q195
      refine go_if_eq (pc' := 197) (tgt := 201) dX5_readStatement_194 (by decide) rfl (fun c197 => ?_) (fun c197 => ?_)
      · have hf := it c197 hf
        refine go_iconst (v := 0) (pc' := 202) dX5_readStatement_201 rfl (by decide) ?_
        exact t_X5_readStatement_202 R hf
      · have hf := ie c197 hf
        refine go_iconst (v := 1) (pc' := 198) dX5_readStatement_197 rfl (by decide) ?_
        refine go_goto (pc' := 0) (tgt := 202) dX5_readStatement_198 (by decide) ?_
        exact t_X5_readStatement_202 R hf
  have hf := ie c185 hf
  by_cases c198 : sI σ 3 3 = 10
  · have hf := it c198 hf
    refine go_tableIn (pc' := 0) (off := 174) (tgt := 206) dX5_readStatement_32 (by rw [c198]; decide) (by rw [c198]; decide) (by rw [c198]; rfl) (by decide) ?_
    refine go_aload_n (i := 0) (pc' := 207) dX5_readStatement_206 rfl rfl rfl ?_
    refine go_aload_n (i := 1) (pc' := 208) dX5_readStatement_207 rfl rfl rfl ?_
    refine go_iconst (v := 4) (pc' := 209) dX5_readStatement_208 rfl (by decide) ?_
    obtain ⟨v199, σ200, e201, hf⟩ := bd_some hf
    refine go_invV (As := [_, _]) (pc' := 212) dX5_readStatement_209 rfl cf_X5_readStatement_37 rfl (R.ob (R.at rfl (by decide))) rfl rfl (Nat.le_of_ble_eq_true rfl) (c_X5_readNumbers R e201) (fun q202v h203 q202 => ?_)
    obtain ⟨rfl, R⟩ := q202
    refine go_istore_nE rfl (i := 2) (pc' := 213) dX5_readStatement_212 rfl rfl (by decide) rfl ?_
    refine go_goto (pc' := 0) (tgt := 242) dX5_readStatement_213 (by decide) ?_
    exact t_X5_readStatement_242 R hf
  have hf := ie c198 hf
  by_cases c204 : sI σ 3 3 = 11
  · have hf := it c204 hf
    refine go_tableIn (pc' := 0) (off := 104) (tgt := 136) dX5_readStatement_32 (by rw [c204]; decide) (by rw [c204]; decide) (by rw [c204]; rfl) (by decide) ?_
    refine go_aload_n (i := 0) (pc' := 137) dX5_readStatement_136 rfl rfl rfl ?_
    refine go_aload_n (i := 1) (pc' := 138) dX5_readStatement_137 rfl rfl rfl ?_
    refine go_iconst (v := 3) (pc' := 139) dX5_readStatement_138 rfl (by decide) ?_
    obtain ⟨v205, σ206, e207, hf⟩ := bd_some hf
    refine go_invV (As := [_, _]) (pc' := 142) dX5_readStatement_139 rfl cf_X5_readStatement_37 rfl (R.ob (R.at rfl (by decide))) rfl rfl (Nat.le_of_ble_eq_true rfl) (c_X5_readNumbers R e207) (fun q208v h209 q208 => ?_)
    obtain ⟨rfl, R⟩ := q208
    refine go_istore_nE rfl (i := 2) (pc' := 143) dX5_readStatement_142 rfl rfl (by decide) rfl ?_
    refine go_goto (pc' := 0) (tgt := 242) dX5_readStatement_143 (by decide) ?_
    exact t_X5_readStatement_242 R hf
  have hf := ie c204 hf
  by_cases c210 : sI σ 3 3 = 12
  · have hf := it c210 hf
    refine go_tableIn (pc' := 0) (off := 184) (tgt := 216) dX5_readStatement_32 (by rw [c210]; decide) (by rw [c210]; decide) (by rw [c210]; rfl) (by decide) ?_
    refine go_aload_n (i := 0) (pc' := 217) dX5_readStatement_216 rfl rfl rfl ?_
    refine go_aload_n (i := 1) (pc' := 218) dX5_readStatement_217 rfl rfl rfl ?_
    obtain ⟨v211, σ212, e213, hf⟩ := bd_some hf
    refine go_invV (As := [_]) (pc' := 221) dX5_readStatement_218 rfl cf_X5_readStatement_48 rfl (R.ob (R.at rfl (by decide))) rfl rfl (Nat.le_of_ble_eq_true rfl) (c_X5_readRelation R e213) (fun q214v h215 q214 => ?_)
    obtain ⟨rfl, R⟩ := q214
    refine go_if_eq (pc' := 224) (tgt := 237) dX5_readStatement_221 (by decide) rfl (fun c216 => ?_) (fun c216 => ?_)
    · have hf := it c216 hf
      refine go_iconst (v := 0) (pc' := 238) dX5_readStatement_237 rfl (by decide) ?_
      exact t_X5_readStatement_238 R hf
    · have hf := ie c216 hf
      refine go_aload_n (i := 0) (pc' := 225) dX5_readStatement_224 rfl rfl rfl ?_
      refine go_aload_n (i := 1) (pc' := 226) dX5_readStatement_225 rfl rfl rfl ?_
      refine go_iconst (v := 4) (pc' := 227) dX5_readStatement_226 rfl (by decide) ?_
      obtain ⟨v217, σ218, e219, hf⟩ := bd_some hf
      refine go_invV (As := [_, _]) (pc' := 230) dX5_readStatement_227 rfl cf_X5_readStatement_37 rfl (R.ob (R.at rfl (by decide))) rfl rfl (Nat.le_of_ble_eq_true rfl) (c_X5_readNumbers R e219) (fun q220v h221 q220 => ?_)
      obtain ⟨rfl, R⟩ := q220
      refine go_if_eq (pc' := 233) (tgt := 237) dX5_readStatement_230 (by decide) rfl (fun c222 => ?_) (fun c222 => ?_)
      · have hf := it c222 hf
        refine go_iconst (v := 0) (pc' := 238) dX5_readStatement_237 rfl (by decide) ?_
        exact t_X5_readStatement_238 R hf
      · have hf := ie c222 hf
        refine go_iconst (v := 1) (pc' := 234) dX5_readStatement_233 rfl (by decide) ?_
        refine go_goto (pc' := 0) (tgt := 238) dX5_readStatement_234 (by decide) ?_
        exact t_X5_readStatement_238 R hf
  have hf := ie c210 hf
  refine go_tableOut (pc' := 0) (tgt := 242) dX5_readStatement_32 (sw_out 0 12 (fun v h1 h2 h3 => ?_)) (by decide) ?_
  · rcases (show v = 0 ∨ v = 1 ∨ v = 2 ∨ v = 3 ∨ v = 4 ∨ v = 5 ∨ v = 6 ∨ v = 7 ∨ v = 8 ∨ v = 9 ∨ v = 10 ∨ v = 11 ∨ v = 12 by omega) with rfl | rfl | rfl | rfl | rfl | rfl | rfl | rfl | rfl | rfl | rfl | rfl | rfl
    · exact c101 h3
    · exact c114 h3
    · exact c120 h3
    · exact c126 h3
    · exact c145 h3
    · exact c153 h3
    · exact c161 h3
    · exact c169 h3
    · exact c177 h3
    · exact c185 h3
    · exact c198 h3
    · exact c204 h3
    · exact c210 h3
  · refine go_iload_n (i := 2) (pc' := 243) dX5_readStatement_242 rfl rfl rfl ?_
    refine go_if_eq (pc' := 246) (tgt := 259) dX5_readStatement_243 (by decide) rfl (fun c223 => ?_) (fun c223 => ?_)
    · have hf := it c223 hf
      refine go_iconst (v := 0) (pc' := 260) dX5_readStatement_259 rfl (by decide) ?_
      obtain rfl := Option.some.inj hf
      exact Go.ret (v := some (.int _)) dX5_readStatement_260 ⟨_, rfl⟩ ⟨rfl, rfl, R⟩
    · have hf := ie c223 hf
      refine go_aload_n (i := 1) (pc' := 247) dX5_readStatement_246 rfl rfl rfl ?_
      refine go_bipush (v := 59) (pc' := 249) dX5_readStatement_247 rfl (by decide) ?_
      obtain ⟨v224, σ225, e226, hf⟩ := bd_some hf
      refine go_invV (As := [_]) (pc' := 252) dX5_readStatement_249 rfl cf_X5_readStatement_51 rfl (R.ob (R.at rfl (by decide))) rfl rfl (Nat.le_of_ble_eq_true rfl) (c_X9_skipSign R e226) (fun q227v h228 q227 => ?_)
      obtain ⟨rfl, R⟩ := q227
      refine go_if_eq (pc' := 255) (tgt := 259) dX5_readStatement_252 (by decide) rfl (fun c229 => ?_) (fun c229 => ?_)
      · have hf := it c229 hf
        refine go_iconst (v := 0) (pc' := 260) dX5_readStatement_259 rfl (by decide) ?_
        obtain rfl := Option.some.inj hf
        exact Go.ret (v := some (.int _)) dX5_readStatement_260 ⟨_, rfl⟩ ⟨rfl, rfl, R⟩
      · have hf := ie c229 hf
        refine go_iconst (v := 1) (pc' := 256) dX5_readStatement_255 rfl (by decide) ?_
        refine go_goto (pc' := 0) (tgt := 260) dX5_readStatement_256 (by decide) ?_
        obtain rfl := Option.some.inj hf
        exact Go.ret (v := some (.int _)) dX5_readStatement_260 ⟨_, rfl⟩ ⟨rfl, rfl, R⟩
def f_X5_readStatement (n : Nat)  (σ : xσ) : Option (Int32 × xσ) := st (wI σ 3 2 0) (fun σ101 => bd (f_X9_skipWord n 0 σ101) (fun v104 σ105 => st (wI σ105 3 3 v104) (fun σ109 => if (sI σ109 3 3) < 0 then b_X5_readStatement_27 n 0 σ109 else b_X5_readStatement_27 n 1 σ109)))
set_option maxRecDepth 100000 in
set_option maxHeartbeats 4000000 in
theorem c_X5_readStatement {G : xG} {n : Nat} {σ : xσ} {h : xH}  {v1 : Int32} {σ1 : xσ} (R : Rl n σ h) (hf : f_X5_readStatement n σ = some (v1, σ1)) : Ca G mX5_readStatement [.ref 3, .ref 1] h (fun v h' => v = some (.int v1) ∧ Rl n σ1 h') := by
  refine Ca.of rfl (Nat.le_of_ble_eq_true rfl) ?_
  generalize hr : (v1, σ1) = r at hf
  suffices q : Go G mX5_readStatement 0 (xent (xMl mX5_readStatement) [.ref 3, .ref 1]) [] h (fun v h' => xRok (xRt mX5_readStatement) v ∧ v = some (.int r.1) ∧ Rl n r.2 h') by
    subst hr
    exact q
  clear hr
  rw [f_X5_readStatement] at hf
  refine go_aload_n (i := 0) (pc' := 1) dX5_readStatement_0 rfl rfl rfl ?_
  refine go_iconst (v := 0) (pc' := 2) dX5_readStatement_1 rfl (by decide) ?_
  obtain ⟨σ101, e102, hf⟩ := st_some hf
  refine go_putI (pc' := 5) dX5_readStatement_2 rfl pf_LandBase_Reader_22 R (R.at rfl (by decide)) (by decide) rfl rfl rfl (fun h103 R => ?_)
  have R := Rl.cast e102 R
  refine go_aload_n (i := 0) (pc' := 6) dX5_readStatement_5 rfl rfl rfl ?_
  refine go_aload_n (i := 1) (pc' := 7) dX5_readStatement_6 rfl rfl rfl ?_
  refine go_ldcS (j := 0) (pc' := 9) dX5_readStatement_7 rfl rfl ?_
  obtain ⟨v104, σ105, e106, hf⟩ := bd_some hf
  refine go_invV (As := [_]) (pc' := 12) dX5_readStatement_9 rfl cf_X5_readStatement_28 rfl (R.ob (R.at rfl (by decide))) rfl rfl (Nat.le_of_ble_eq_true rfl) (c_X9_skipWord R e106) (fun q107v h108 q107 => ?_)
  obtain ⟨rfl, R⟩ := q107
  obtain ⟨σ109, e110, hf⟩ := st_some hf
  refine go_putI (pc' := 15) dX5_readStatement_12 rfl pf_LandBase_Reader_34 R (R.at rfl (by decide)) (by decide) rfl rfl rfl (fun h111 R => ?_)
  have R := Rl.cast e110 R
  refine go_aload_n (i := 0) (pc' := 16) dX5_readStatement_15 rfl rfl rfl ?_
  refine go_getS (pc' := 19) dX5_readStatement_16 rfl gf_LandBase_Reader_34 R (R.at rfl (by decide)) (by decide) rfl ?_
  refine go_if_lt (pc' := 22) (tgt := 26) dX5_readStatement_19 (by decide) rfl (fun c112 => ?_) (fun c112 => ?_)
  · have hf := it c112 hf
    refine go_iconst (v := 0) (pc' := 27) dX5_readStatement_26 rfl (by decide) ?_
    exact t_X5_readStatement_27 R hf
  · have hf := ie c112 hf
    refine go_iconst (v := 1) (pc' := 23) dX5_readStatement_22 rfl (by decide) ?_
    refine go_goto (pc' := 0) (tgt := 27) dX5_readStatement_23 (by decide) ?_
    exact t_X5_readStatement_27 R hf
def f_X7_isBoxApart (n : Nat) (a0 : Nat) (a1 : Nat) (σ : xσ) : Option (Int32 × xσ) := gd (okS n a0) (gd (okS n a1) (if (sI σ a0 6) < (sI σ a1 4) then some (1, σ) else if (sI σ a1 6) < (sI σ a0 4) then some (1, σ) else if (sI σ a0 7) < (sI σ a1 5) then some (1, σ) else if (sI σ a0 5) ≤ (sI σ a1 7) then some (0, σ) else some (1, σ)))
set_option maxRecDepth 100000 in
set_option maxHeartbeats 4000000 in
theorem c_X7_isBoxApart {G : xG} {n : Nat} {σ : xσ} {h : xH} {a0 : Nat} {a1 : Nat} {v1 : Int32} {σ1 : xσ} (R : Rl n σ h) (hf : f_X7_isBoxApart n a0 a1 σ = some (v1, σ1)) : Ca G mX7_isBoxApart [.ref a0, .ref a1] h (fun v h' => v = some (.int v1) ∧ Rl n σ1 h') := by
  refine Ca.of rfl (Nat.le_of_ble_eq_true rfl) ?_
  generalize hr : (v1, σ1) = r at hf
  suffices q : Go G mX7_isBoxApart 0 (xent (xMl mX7_isBoxApart) [.ref a0, .ref a1]) [] h (fun v h' => xRok (xRt mX7_isBoxApart) v ∧ v = some (.int r.1) ∧ Rl n r.2 h') by
    subst hr
    exact q
  clear hr
  rw [f_X7_isBoxApart] at hf
  obtain ⟨g0, hf⟩ := gd_some hf
  obtain ⟨g1, hf⟩ := gd_some hf
  refine go_aload_n (i := 0) (pc' := 1) dX7_isBoxApart_0 rfl rfl rfl ?_
  refine go_getS (pc' := 4) dX7_isBoxApart_1 rfl gf_LandBase_Shape_42 R g0.at (by decide) rfl ?_
  refine go_aload_n (i := 1) (pc' := 5) dX7_isBoxApart_4 rfl rfl rfl ?_
  refine go_getS (pc' := 8) dX7_isBoxApart_5 rfl gf_LandBase_Shape_39 R g1.at (by decide) rfl ?_
  refine go_icmp_lt (pc' := 11) (tgt := 44) dX7_isBoxApart_8 (by decide) rfl (fun c101 => ?_) (fun c101 => ?_)
  · have hf := it c101 hf
    refine go_iconst (v := 1) (pc' := 45) dX7_isBoxApart_44 rfl (by decide) ?_
    refine go_goto (pc' := 0) (tgt := 49) dX7_isBoxApart_45 (by decide) ?_
    obtain rfl := Option.some.inj hf
    exact Go.ret (v := some (.int _)) dX7_isBoxApart_49 ⟨_, rfl⟩ ⟨rfl, rfl, R⟩
  · have hf := ie c101 hf
    refine go_aload_n (i := 1) (pc' := 12) dX7_isBoxApart_11 rfl rfl rfl ?_
    refine go_getS (pc' := 15) dX7_isBoxApart_12 rfl gf_LandBase_Shape_42 R g1.at (by decide) rfl ?_
    refine go_aload_n (i := 0) (pc' := 16) dX7_isBoxApart_15 rfl rfl rfl ?_
    refine go_getS (pc' := 19) dX7_isBoxApart_16 rfl gf_LandBase_Shape_39 R g0.at (by decide) rfl ?_
    refine go_icmp_lt (pc' := 22) (tgt := 44) dX7_isBoxApart_19 (by decide) rfl (fun c102 => ?_) (fun c102 => ?_)
    · have hf := it c102 hf
      refine go_iconst (v := 1) (pc' := 45) dX7_isBoxApart_44 rfl (by decide) ?_
      refine go_goto (pc' := 0) (tgt := 49) dX7_isBoxApart_45 (by decide) ?_
      obtain rfl := Option.some.inj hf
      exact Go.ret (v := some (.int _)) dX7_isBoxApart_49 ⟨_, rfl⟩ ⟨rfl, rfl, R⟩
    · have hf := ie c102 hf
      refine go_aload_n (i := 0) (pc' := 23) dX7_isBoxApart_22 rfl rfl rfl ?_
      refine go_getS (pc' := 26) dX7_isBoxApart_23 rfl gf_LandBase_Shape_48 R g0.at (by decide) rfl ?_
      refine go_aload_n (i := 1) (pc' := 27) dX7_isBoxApart_26 rfl rfl rfl ?_
      refine go_getS (pc' := 30) dX7_isBoxApart_27 rfl gf_LandBase_Shape_45 R g1.at (by decide) rfl ?_
      refine go_icmp_lt (pc' := 33) (tgt := 44) dX7_isBoxApart_30 (by decide) rfl (fun c103 => ?_) (fun c103 => ?_)
      · have hf := it c103 hf
        refine go_iconst (v := 1) (pc' := 45) dX7_isBoxApart_44 rfl (by decide) ?_
        refine go_goto (pc' := 0) (tgt := 49) dX7_isBoxApart_45 (by decide) ?_
        obtain rfl := Option.some.inj hf
        exact Go.ret (v := some (.int _)) dX7_isBoxApart_49 ⟨_, rfl⟩ ⟨rfl, rfl, R⟩
      · have hf := ie c103 hf
        refine go_aload_n (i := 1) (pc' := 34) dX7_isBoxApart_33 rfl rfl rfl ?_
        refine go_getS (pc' := 37) dX7_isBoxApart_34 rfl gf_LandBase_Shape_48 R g1.at (by decide) rfl ?_
        refine go_aload_n (i := 0) (pc' := 38) dX7_isBoxApart_37 rfl rfl rfl ?_
        refine go_getS (pc' := 41) dX7_isBoxApart_38 rfl gf_LandBase_Shape_45 R g0.at (by decide) rfl ?_
        refine go_icmp_ge (pc' := 44) (tgt := 48) dX7_isBoxApart_41 (by decide) rfl (fun c104 => ?_) (fun c104 => ?_)
        · have hf := it c104 hf
          refine go_iconst (v := 0) (pc' := 49) dX7_isBoxApart_48 rfl (by decide) ?_
          obtain rfl := Option.some.inj hf
          exact Go.ret (v := some (.int _)) dX7_isBoxApart_49 ⟨_, rfl⟩ ⟨rfl, rfl, R⟩
        · have hf := ie c104 hf
          refine go_iconst (v := 1) (pc' := 45) dX7_isBoxApart_44 rfl (by decide) ?_
          refine go_goto (pc' := 0) (tgt := 49) dX7_isBoxApart_45 (by decide) ?_
          obtain rfl := Option.some.inj hf
          exact Go.ret (v := some (.int _)) dX7_isBoxApart_49 ⟨_, rfl⟩ ⟨rfl, rfl, R⟩
def l_X6_doLinesMeet_14 (n : Nat) (k2 : Nat → Nat → Int32 → xσ → Option (Int32 × xσ)) : Nat → Nat → Nat → Int32 → Int32 → xσ → Option (Int32 × xσ)
  | 0, _, _, _, _, _ => none
  | f + 1, a0, a1, x2, x3, σ => if (sI σ a1 1) ≤ (x3 + 1) then k2 a0 a1 (x2 + 1) σ else bd (f_X4_countCommon n a0 x2 a1 x3 σ) (fun v102 σ103 => if v102 ≤ 0 then (l_X6_doLinesMeet_14 n k2 f) a0 a1 x2 (x3 + 1) σ103 else some (1, σ103))
set_option maxRecDepth 100000 in
set_option maxHeartbeats 4000000 in
theorem t_X6_doLinesMeet_14 {G : xG} {n : Nat} {k2 : Nat → Nat → Int32 → xσ → Option (Int32 × xσ)} (hk2 : ∀ {a0 : Nat} {a1 : Nat} {x2 : Int32} {σ : xσ} {h : xH} {r : Int32 × xσ} {d3 : Option Value}, Rl n σ h → okS n a0 → okS n a1 → k2 a0 a1 x2 σ = some r → Go G mX6_doLinesMeet 2 [some (.ref a0), some (.ref a1), some (.int x2), d3] [] h (fun v h' => xRok (xRt mX6_doLinesMeet) v ∧ v = some (.int r.1) ∧ Rl n r.2 h')) : ∀ (f : Nat) {a0 : Nat} {a1 : Nat} {x2 : Int32} {x3 : Int32} {σ : xσ} {h : xH} {r : Int32 × xσ}, Rl n σ h → okS n a0 → okS n a1 → l_X6_doLinesMeet_14 n k2 f a0 a1 x2 x3 σ = some r → Go G mX6_doLinesMeet 14 [some (.ref a0), some (.ref a1), some (.int x2), some (.int x3)] [] h (fun v h' => xRok (xRt mX6_doLinesMeet) v ∧ v = some (.int r.1) ∧ Rl n r.2 h') := by
  intro f
  induction f with
  | zero =>
    intros
    rename _ = some _ => hf
    rw [l_X6_doLinesMeet_14] at hf
    cases hf
  | succ f ih =>
    intro a0 a1 x2 x3 σ h r  R g0 g1 hf
    rw [l_X6_doLinesMeet_14] at hf
    refine go_iload_n (i := 3) (pc' := 15) dX6_doLinesMeet_14 rfl rfl rfl ?_
    refine go_iconst (v := 1) (pc' := 16) dX6_doLinesMeet_15 rfl (by decide) ?_
    refine go_iadd (pc' := 17) dX6_doLinesMeet_16 rfl ?_
    refine go_aload_n (i := 1) (pc' := 18) dX6_doLinesMeet_17 rfl rfl rfl ?_
    refine go_getS (pc' := 21) dX6_doLinesMeet_18 rfl gf_LandBase_Relations_53 R g1.at (by decide) rfl ?_
    refine go_icmp_ge (pc' := 24) (tgt := 42) dX6_doLinesMeet_21 (by decide) rfl (fun c101 => ?_) (fun c101 => ?_)
    · have hf := it c101 hf
      refine go_iincC (kk := 1) (pc' := 45) dX6_doLinesMeet_42 rfl rfl (by decide) (by decide) rfl ?_
      refine go_goto (pc' := 0) (tgt := 2) dX6_doLinesMeet_45 (by decide) ?_
      exact hk2 R g0 g1 hf
    · have hf := ie c101 hf
      refine go_aload_n (i := 0) (pc' := 25) dX6_doLinesMeet_24 rfl rfl rfl ?_
      refine go_iload_n (i := 2) (pc' := 26) dX6_doLinesMeet_25 rfl rfl rfl ?_
      refine go_aload_n (i := 1) (pc' := 27) dX6_doLinesMeet_26 rfl rfl rfl ?_
      refine go_iload_n (i := 3) (pc' := 28) dX6_doLinesMeet_27 rfl rfl rfl ?_
      obtain ⟨v102, σ103, e104, hf⟩ := bd_some hf
      refine go_invS (As := [_, _, _, _]) (pc' := 31) dX6_doLinesMeet_28 rfl cf_X6_doLinesMeet_64 rfl rfl (Nat.le_of_ble_eq_true rfl) (c_X4_countCommon R e104) (fun q105v h106 q105 => ?_)
      obtain ⟨rfl, R⟩ := q105
      refine go_if_le (pc' := 34) (tgt := 36) dX6_doLinesMeet_31 (by decide) rfl (fun c107 => ?_) (fun c107 => ?_)
      · have hf := it c107 hf
        refine go_iincC (kk := 1) (pc' := 39) dX6_doLinesMeet_36 rfl rfl (by decide) (by decide) rfl ?_
        refine go_goto (pc' := 0) (tgt := 14) dX6_doLinesMeet_39 (by decide) ?_
        exact ih R g0 g1 hf
      · have hf := ie c107 hf
        refine go_iconst (v := 1) (pc' := 35) dX6_doLinesMeet_34 rfl (by decide) ?_
        obtain rfl := Option.some.inj hf
        exact Go.ret (v := some (.int _)) dX6_doLinesMeet_35 ⟨_, rfl⟩ ⟨rfl, rfl, R⟩
def l_X6_doLinesMeet_2 (n : Nat) : Nat → Nat → Nat → Int32 → xσ → Option (Int32 × xσ)
  | 0, _, _, _, _ => none
  | f + 1, a0, a1, x2, σ => if (sI σ a0 1) ≤ (x2 + 1) then some (0, σ) else l_X6_doLinesMeet_14 n (l_X6_doLinesMeet_2 n f) xFU a0 a1 x2 0 σ
set_option maxRecDepth 100000 in
set_option maxHeartbeats 4000000 in
theorem t_X6_doLinesMeet_2 {G : xG} {n : Nat} : ∀ (f : Nat) {a0 : Nat} {a1 : Nat} {x2 : Int32} {σ : xσ} {h : xH} {r : Int32 × xσ} {d3 : Option Value}, Rl n σ h → okS n a0 → okS n a1 → l_X6_doLinesMeet_2 n f a0 a1 x2 σ = some r → Go G mX6_doLinesMeet 2 [some (.ref a0), some (.ref a1), some (.int x2), d3] [] h (fun v h' => xRok (xRt mX6_doLinesMeet) v ∧ v = some (.int r.1) ∧ Rl n r.2 h') := by
  intro f
  induction f with
  | zero =>
    intros
    rename _ = some _ => hf
    rw [l_X6_doLinesMeet_2] at hf
    cases hf
  | succ f ih =>
    intro a0 a1 x2 σ h r d3 R g0 g1 hf
    rw [l_X6_doLinesMeet_2] at hf
    refine go_iload_n (i := 2) (pc' := 3) dX6_doLinesMeet_2 rfl rfl rfl ?_
    refine go_iconst (v := 1) (pc' := 4) dX6_doLinesMeet_3 rfl (by decide) ?_
    refine go_iadd (pc' := 5) dX6_doLinesMeet_4 rfl ?_
    refine go_aload_n (i := 0) (pc' := 6) dX6_doLinesMeet_5 rfl rfl rfl ?_
    refine go_getS (pc' := 9) dX6_doLinesMeet_6 rfl gf_LandBase_Relations_53 R g0.at (by decide) rfl ?_
    refine go_icmp_ge (pc' := 12) (tgt := 48) dX6_doLinesMeet_9 (by decide) rfl (fun c101 => ?_) (fun c101 => ?_)
    · have hf := it c101 hf
      refine go_iconst (v := 0) (pc' := 49) dX6_doLinesMeet_48 rfl (by decide) ?_
      obtain rfl := Option.some.inj hf
      exact Go.ret (v := some (.int _)) dX6_doLinesMeet_49 ⟨_, rfl⟩ ⟨rfl, rfl, R⟩
    · have hf := ie c101 hf
      refine go_iconst (v := 0) (pc' := 13) dX6_doLinesMeet_12 rfl (by decide) ?_
      refine go_istore_nE rfl (i := 3) (pc' := 14) dX6_doLinesMeet_13 rfl rfl (by decide) rfl ?_
      exact t_X6_doLinesMeet_14 @ih xFU R g0 g1 hf
def f_X6_doLinesMeet (n : Nat) (a0 : Nat) (a1 : Nat) (σ : xσ) : Option (Int32 × xσ) := gd (okS n a0) (gd (okS n a1) (l_X6_doLinesMeet_2 n xFU a0 a1 0 σ))
set_option maxRecDepth 100000 in
set_option maxHeartbeats 4000000 in
theorem c_X6_doLinesMeet {G : xG} {n : Nat} {σ : xσ} {h : xH} {a0 : Nat} {a1 : Nat} {v1 : Int32} {σ1 : xσ} (R : Rl n σ h) (hf : f_X6_doLinesMeet n a0 a1 σ = some (v1, σ1)) : Ca G mX6_doLinesMeet [.ref a0, .ref a1] h (fun v h' => v = some (.int v1) ∧ Rl n σ1 h') := by
  refine Ca.of rfl (Nat.le_of_ble_eq_true rfl) ?_
  generalize hr : (v1, σ1) = r at hf
  suffices q : Go G mX6_doLinesMeet 0 (xent (xMl mX6_doLinesMeet) [.ref a0, .ref a1]) [] h (fun v h' => xRok (xRt mX6_doLinesMeet) v ∧ v = some (.int r.1) ∧ Rl n r.2 h') by
    subst hr
    exact q
  clear hr
  rw [f_X6_doLinesMeet] at hf
  obtain ⟨g0, hf⟩ := gd_some hf
  obtain ⟨g1, hf⟩ := gd_some hf
  refine go_iconst (v := 0) (pc' := 1) dX6_doLinesMeet_0 rfl (by decide) ?_
  refine go_istore_nE rfl (i := 2) (pc' := 2) dX6_doLinesMeet_1 rfl rfl (by decide) rfl ?_
  exact t_X6_doLinesMeet_2 xFU R g0 g1 hf
def b_X6_doMeet_43 (n : Nat) (a3 : Nat) (as0 : Nat) (σ : xσ) : Option (Int32 × xσ) := if (sI σ a3 0) = 0 then gd (inb 0 40) (gd (inb 0 40) (bd (f_X4_locate n as0 (sI σ (a3 + 1) (0 : Int32).toNatClampNeg) (sI σ (a3 + 2) (0 : Int32).toNatClampNeg) σ) (fun v131 σ132 => if v131 < 0 then some (0, σ132) else some (1, σ132)))) else if (sI σ as0 0) = 1 then bd (f_X6_doLinesMeet n a3 as0 σ) (fun v123 σ124 => gd (v123 = 0 ∨ v123 = 1) (some (v123, σ124))) else bd (f_X1_aim n as0 0 (sI σ as0 1) σ) (fun v103 σ104 => bd (f_X1_scan n a3 0 (sI σ104 a3 1) 13 σ104) (fun v108 σ109 => if (v108 &&& 13) = 0 then if (sI σ109 a3 0) = 2 then gd (inb 0 40) (gd (inb 0 40) (bd (f_X4_locate n a3 (sI σ109 (as0 + 1) (0 : Int32).toNatClampNeg) (sI σ109 (as0 + 2) (0 : Int32).toNatClampNeg) σ109) (fun v117 σ118 => if v117 < 0 then some (0, σ118) else some (1, σ118)))) else some (0, σ109) else some (1, σ109)))
set_option maxRecDepth 100000 in
set_option maxHeartbeats 4000000 in
theorem t_X6_doMeet_43 {G : xG} {n : Nat} {a3 : Nat} {as0 : Nat} {σ : xσ} {h : xH} {r : Int32 × xσ} {d1 : Option Value} {d2 : Option Value} {d4 : Option Value} {d5 : Option Value} : Rl n σ h → okS n a3 → okS n as0 → b_X6_doMeet_43 n a3 as0 σ = some r → Go G mX6_doMeet 43 [some (.ref 29), d1, d2, some (.ref a3), d4, d5] [.ref as0] h (fun v h' => xRok (xRt mX6_doMeet) v ∧ v = some (.int r.1) ∧ Rl n r.2 h') := by
  intro R g3 gs0 hf
  rw [b_X6_doMeet_43] at hf
  refine go_astore (pc' := 45) dX6_doMeet_43 rfl (by decide) rfl ?_
  refine go_aload_n (i := 3) (pc' := 46) dX6_doMeet_45 rfl rfl rfl ?_
  refine go_getS (pc' := 49) dX6_doMeet_46 rfl gf_LandBase_Relations_31 R g3.at (by decide) rfl ?_
  refine go_if_ne (pc' := 52) (tgt := 78) dX6_doMeet_49 (by decide) rfl (fun c101 => ?_) (fun c101 => ?_)
  · have hf := ie c101 hf
    refine go_aload (pc' := 80) dX6_doMeet_78 rfl rfl ?_
    refine go_getS (pc' := 83) dX6_doMeet_80 rfl gf_LandBase_Relations_31 R gs0.at (by decide) rfl ?_
    refine go_iconst (v := 1) (pc' := 84) dX6_doMeet_83 rfl (by decide) ?_
    refine go_icmp_ne (pc' := 87) (tgt := 94) dX6_doMeet_84 (by decide) rfl (fun c102 => ?_) (fun c102 => ?_)
    · have hf := ie c102 hf
      refine go_bipush (v := 13) (pc' := 96) dX6_doMeet_94 rfl (by decide) ?_
      refine go_istoreE rfl (pc' := 98) dX6_doMeet_96 rfl (by decide) rfl ?_
      refine go_aload_n (i := 0) (pc' := 99) dX6_doMeet_98 rfl rfl rfl ?_
      refine go_getS (pc' := 102) dX6_doMeet_99 rfl gf_LandBase_Relations_9 R (R.at rfl (by decide)) (by decide) rfl ?_
      refine go_aload (pc' := 104) dX6_doMeet_102 rfl rfl ?_
      refine go_iconst (v := 0) (pc' := 105) dX6_doMeet_104 rfl (by decide) ?_
      refine go_aload (pc' := 107) dX6_doMeet_105 rfl rfl ?_
      refine go_getS (pc' := 110) dX6_doMeet_107 rfl gf_LandBase_Relations_53 R gs0.at (by decide) rfl ?_
      obtain ⟨v103, σ104, e105, hf⟩ := bd_some hf
      refine go_invV (As := [_, _, _]) (pc' := 113) dX6_doMeet_110 rfl cf_X6_doMeet_56 rfl (R.ob (R.at rfl (by decide))) rfl rfl (Nat.le_of_ble_eq_true rfl) (c_X1_aim R e105) (fun q106v h107 q106 => ?_)
      obtain ⟨rfl, R⟩ := q106
      refine go_aload_n (i := 0) (pc' := 114) dX6_doMeet_113 rfl rfl rfl ?_
      refine go_getS (pc' := 117) dX6_doMeet_114 rfl gf_LandBase_Relations_9 R (R.at rfl (by decide)) (by decide) rfl ?_
      refine go_aload_n (i := 3) (pc' := 118) dX6_doMeet_117 rfl rfl rfl ?_
      refine go_iconst (v := 0) (pc' := 119) dX6_doMeet_118 rfl (by decide) ?_
      refine go_aload_n (i := 3) (pc' := 120) dX6_doMeet_119 rfl rfl rfl ?_
      refine go_getS (pc' := 123) dX6_doMeet_120 rfl gf_LandBase_Relations_53 R g3.at (by decide) rfl ?_
      refine go_iload (pc' := 125) dX6_doMeet_123 rfl rfl ?_
      obtain ⟨v108, σ109, e110, hf⟩ := bd_some hf
      refine go_invV (As := [_, _, _, _]) (pc' := 128) dX6_doMeet_125 rfl cf_X6_doMeet_60 rfl (R.ob (R.at rfl (by decide))) rfl rfl (Nat.le_of_ble_eq_true rfl) (c_X1_scan R e110) (fun q111v h112 q111 => ?_)
      obtain ⟨rfl, R⟩ := q111
      refine go_iload (pc' := 130) dX6_doMeet_128 rfl rfl ?_
      refine go_iand (pc' := 131) dX6_doMeet_130 rfl ?_
      refine go_if_eq (pc' := 134) (tgt := 136) dX6_doMeet_131 (by decide) rfl (fun c113 => ?_) (fun c113 => ?_)
      · have hf := it c113 hf
        refine go_aload_n (i := 3) (pc' := 137) dX6_doMeet_136 rfl rfl rfl ?_
        refine go_getS (pc' := 140) dX6_doMeet_137 rfl gf_LandBase_Relations_31 R g3.at (by decide) rfl ?_
        refine go_iconst (v := 2) (pc' := 141) dX6_doMeet_140 rfl (by decide) ?_
        refine go_icmp_ne (pc' := 144) (tgt := 169) dX6_doMeet_141 (by decide) rfl (fun c114 => ?_) (fun c114 => ?_)
        · have hf := ie c114 hf
          refine go_iconst (v := 0) (pc' := 170) dX6_doMeet_169 rfl (by decide) ?_
          obtain rfl := Option.some.inj hf
          exact Go.ret (v := some (.int _)) dX6_doMeet_170 ⟨_, rfl⟩ ⟨rfl, rfl, R⟩
        · have hf := it c114 hf
          refine go_aload_n (i := 3) (pc' := 145) dX6_doMeet_144 rfl rfl rfl ?_
          refine go_aload (pc' := 147) dX6_doMeet_145 rfl rfl ?_
          refine go_getS (pc' := 150) dX6_doMeet_147 rfl gf_LandBase_Relations_35 R gs0.at (by decide) rfl ?_
          refine go_iconst (v := 0) (pc' := 151) dX6_doMeet_150 rfl (by decide) ?_
          obtain ⟨g115, hf⟩ := gd_some hf
          refine go_ialoadS (pc' := 152) dX6_doMeet_151 rfl R gs0.x g115 ?_
          refine go_aload (pc' := 154) dX6_doMeet_152 rfl rfl ?_
          refine go_getS (pc' := 157) dX6_doMeet_154 rfl gf_LandBase_Relations_39 R gs0.at (by decide) rfl ?_
          refine go_iconst (v := 0) (pc' := 158) dX6_doMeet_157 rfl (by decide) ?_
          obtain ⟨g116, hf⟩ := gd_some hf
          refine go_ialoadS (pc' := 159) dX6_doMeet_158 rfl R gs0.y g116 ?_
          obtain ⟨v117, σ118, e119, hf⟩ := bd_some hf
          refine go_invS (As := [_, _, _]) (pc' := 162) dX6_doMeet_159 rfl cf_X6_doMeet_42 rfl rfl (Nat.le_of_ble_eq_true rfl) (c_X4_locate R e119) (fun q120v h121 q120 => ?_)
          obtain ⟨rfl, R⟩ := q120
          refine go_if_lt (pc' := 165) (tgt := 169) dX6_doMeet_162 (by decide) rfl (fun c122 => ?_) (fun c122 => ?_)
          · have hf := it c122 hf
            refine go_iconst (v := 0) (pc' := 170) dX6_doMeet_169 rfl (by decide) ?_
            obtain rfl := Option.some.inj hf
            exact Go.ret (v := some (.int _)) dX6_doMeet_170 ⟨_, rfl⟩ ⟨rfl, rfl, R⟩
          · have hf := ie c122 hf
            refine go_iconst (v := 1) (pc' := 166) dX6_doMeet_165 rfl (by decide) ?_
            refine go_goto (pc' := 0) (tgt := 170) dX6_doMeet_166 (by decide) ?_
            obtain rfl := Option.some.inj hf
            exact Go.ret (v := some (.int _)) dX6_doMeet_170 ⟨_, rfl⟩ ⟨rfl, rfl, R⟩
      · have hf := ie c113 hf
        refine go_iconst (v := 1) (pc' := 135) dX6_doMeet_134 rfl (by decide) ?_
        obtain rfl := Option.some.inj hf
        exact Go.ret (v := some (.int _)) dX6_doMeet_135 ⟨_, rfl⟩ ⟨rfl, rfl, R⟩
    · have hf := it c102 hf
      refine go_aload_n (i := 3) (pc' := 88) dX6_doMeet_87 rfl rfl rfl ?_
      refine go_aload (pc' := 90) dX6_doMeet_88 rfl rfl ?_
      obtain ⟨v123, σ124, e125, hf⟩ := bd_some hf
      refine go_invS (As := [_, _]) (pc' := 93) dX6_doMeet_90 rfl cf_X6_doMeet_48 rfl rfl (Nat.le_of_ble_eq_true rfl) (c_X6_doLinesMeet R e125) (fun q126v h127 q126 => ?_)
      obtain ⟨rfl, R⟩ := q126
      obtain ⟨g128, hf⟩ := gd_some hf
      obtain rfl := Option.some.inj hf
      exact Go.ret (v := some (.int _)) dX6_doMeet_93 ⟨_, rfl⟩ ⟨(nb g128), rfl, R⟩
  · have hf := it c101 hf
    refine go_aload (pc' := 54) dX6_doMeet_52 rfl rfl ?_
    refine go_aload_n (i := 3) (pc' := 55) dX6_doMeet_54 rfl rfl rfl ?_
    refine go_getS (pc' := 58) dX6_doMeet_55 rfl gf_LandBase_Relations_35 R g3.at (by decide) rfl ?_
    refine go_iconst (v := 0) (pc' := 59) dX6_doMeet_58 rfl (by decide) ?_
    obtain ⟨g129, hf⟩ := gd_some hf
    refine go_ialoadS (pc' := 60) dX6_doMeet_59 rfl R g3.x g129 ?_
    refine go_aload_n (i := 3) (pc' := 61) dX6_doMeet_60 rfl rfl rfl ?_
    refine go_getS (pc' := 64) dX6_doMeet_61 rfl gf_LandBase_Relations_39 R g3.at (by decide) rfl ?_
    refine go_iconst (v := 0) (pc' := 65) dX6_doMeet_64 rfl (by decide) ?_
    obtain ⟨g130, hf⟩ := gd_some hf
    refine go_ialoadS (pc' := 66) dX6_doMeet_65 rfl R g3.y g130 ?_
    obtain ⟨v131, σ132, e133, hf⟩ := bd_some hf
    refine go_invS (As := [_, _, _]) (pc' := 69) dX6_doMeet_66 rfl cf_X6_doMeet_42 rfl rfl (Nat.le_of_ble_eq_true rfl) (c_X4_locate R e133) (fun q134v h135 q134 => ?_)
    obtain ⟨rfl, R⟩ := q134
    refine go_if_lt (pc' := 72) (tgt := 76) dX6_doMeet_69 (by decide) rfl (fun c136 => ?_) (fun c136 => ?_)
    · have hf := it c136 hf
      refine go_iconst (v := 0) (pc' := 77) dX6_doMeet_76 rfl (by decide) ?_
      obtain rfl := Option.some.inj hf
      exact Go.ret (v := some (.int _)) dX6_doMeet_77 ⟨_, rfl⟩ ⟨rfl, rfl, R⟩
    · have hf := ie c136 hf
      refine go_iconst (v := 1) (pc' := 73) dX6_doMeet_72 rfl (by decide) ?_
      refine go_goto (pc' := 0) (tgt := 77) dX6_doMeet_73 (by decide) ?_
      obtain rfl := Option.some.inj hf
      exact Go.ret (v := some (.int _)) dX6_doMeet_77 ⟨_, rfl⟩ ⟨rfl, rfl, R⟩
def b_X6_doMeet_26 (n : Nat) (a1 : Nat) (a2 : Nat) (as0 : Nat) (σ : xσ) : Option (Int32 × xσ) := if (sI σ a2 0) < (sI σ a1 0) then b_X6_doMeet_43 n as0 a1 σ else b_X6_doMeet_43 n as0 a2 σ
set_option maxRecDepth 100000 in
set_option maxHeartbeats 4000000 in
theorem t_X6_doMeet_26 {G : xG} {n : Nat} {a1 : Nat} {a2 : Nat} {as0 : Nat} {σ : xσ} {h : xH} {r : Int32 × xσ} {d3 : Option Value} {d4 : Option Value} {d5 : Option Value} : Rl n σ h → okS n a1 → okS n a2 → okS n as0 → b_X6_doMeet_26 n a1 a2 as0 σ = some r → Go G mX6_doMeet 26 [some (.ref 29), some (.ref a1), some (.ref a2), d3, d4, d5] [.ref as0] h (fun v h' => xRok (xRt mX6_doMeet) v ∧ v = some (.int r.1) ∧ Rl n r.2 h') := by
  intro R g1 g2 gs0 hf
  rw [b_X6_doMeet_26] at hf
  refine go_astore_n (i := 3) (pc' := 27) dX6_doMeet_26 rfl rfl (by decide) rfl ?_
  refine go_aload_n (i := 1) (pc' := 28) dX6_doMeet_27 rfl rfl rfl ?_
  refine go_getS (pc' := 31) dX6_doMeet_28 rfl gf_LandBase_Relations_31 R g1.at (by decide) rfl ?_
  refine go_aload_n (i := 2) (pc' := 32) dX6_doMeet_31 rfl rfl rfl ?_
  refine go_getS (pc' := 35) dX6_doMeet_32 rfl gf_LandBase_Relations_31 R g2.at (by decide) rfl ?_
  refine go_icmp_gt (pc' := 38) (tgt := 42) dX6_doMeet_35 (by decide) rfl (fun c101 => ?_) (fun c101 => ?_)
  · have hf := it c101 hf
    refine go_aload_n (i := 1) (pc' := 43) dX6_doMeet_42 rfl rfl rfl ?_
    exact t_X6_doMeet_43 R gs0 g1 hf
  · have hf := ie c101 hf
    refine go_aload_n (i := 2) (pc' := 39) dX6_doMeet_38 rfl rfl rfl ?_
    refine go_goto (pc' := 0) (tgt := 43) dX6_doMeet_39 (by decide) ?_
    exact t_X6_doMeet_43 R gs0 g2 hf
def f_X6_doMeet (n : Nat) (a1 : Nat) (a2 : Nat) (σ : xσ) : Option (Int32 × xσ) := gd (okS n a1) (gd (okS n a2) (bd (f_X7_isBoxApart n a1 a2 σ) (fun v101 σ102 => if v101 = 0 then if (sI σ102 a2 0) < (sI σ102 a1 0) then b_X6_doMeet_26 n a1 a2 a2 σ102 else b_X6_doMeet_26 n a1 a2 a1 σ102 else some (0, σ102))))
set_option maxRecDepth 100000 in
set_option maxHeartbeats 4000000 in
theorem c_X6_doMeet {G : xG} {n : Nat} {σ : xσ} {h : xH} {a1 : Nat} {a2 : Nat} {v1 : Int32} {σ1 : xσ} (R : Rl n σ h) (hf : f_X6_doMeet n a1 a2 σ = some (v1, σ1)) : Ca G mX6_doMeet [.ref 29, .ref a1, .ref a2] h (fun v h' => v = some (.int v1) ∧ Rl n σ1 h') := by
  refine Ca.of rfl (Nat.le_of_ble_eq_true rfl) ?_
  generalize hr : (v1, σ1) = r at hf
  suffices q : Go G mX6_doMeet 0 (xent (xMl mX6_doMeet) [.ref 29, .ref a1, .ref a2]) [] h (fun v h' => xRok (xRt mX6_doMeet) v ∧ v = some (.int r.1) ∧ Rl n r.2 h') by
    subst hr
    exact q
  clear hr
  rw [f_X6_doMeet] at hf
  obtain ⟨g1, hf⟩ := gd_some hf
  obtain ⟨g2, hf⟩ := gd_some hf
  refine go_aload_n (i := 1) (pc' := 1) dX6_doMeet_0 rfl rfl rfl ?_
  refine go_aload_n (i := 2) (pc' := 2) dX6_doMeet_1 rfl rfl rfl ?_
  obtain ⟨v101, σ102, e103, hf⟩ := bd_some hf
  refine go_invV (As := [_]) (pc' := 5) dX6_doMeet_2 rfl cf_X6_doMeet_25 rfl (R.ob g1.at) rfl rfl (Nat.le_of_ble_eq_true rfl) (c_X7_isBoxApart R e103) (fun q104v h105 q104 => ?_)
  obtain ⟨rfl, R⟩ := q104
  refine go_if_eq (pc' := 8) (tgt := 10) dX6_doMeet_5 (by decide) rfl (fun c106 => ?_) (fun c106 => ?_)
  · have hf := it c106 hf
    refine go_aload_n (i := 1) (pc' := 11) dX6_doMeet_10 rfl rfl rfl ?_
    refine go_getS (pc' := 14) dX6_doMeet_11 rfl gf_LandBase_Relations_31 R g1.at (by decide) rfl ?_
    refine go_aload_n (i := 2) (pc' := 15) dX6_doMeet_14 rfl rfl rfl ?_
    refine go_getS (pc' := 18) dX6_doMeet_15 rfl gf_LandBase_Relations_31 R g2.at (by decide) rfl ?_
    refine go_icmp_gt (pc' := 21) (tgt := 25) dX6_doMeet_18 (by decide) rfl (fun c107 => ?_) (fun c107 => ?_)
    · have hf := it c107 hf
      refine go_aload_n (i := 2) (pc' := 26) dX6_doMeet_25 rfl rfl rfl ?_
      exact t_X6_doMeet_26 R g1 g2 g2 hf
    · have hf := ie c107 hf
      refine go_aload_n (i := 1) (pc' := 22) dX6_doMeet_21 rfl rfl rfl ?_
      refine go_goto (pc' := 0) (tgt := 26) dX6_doMeet_22 (by decide) ?_
      exact t_X6_doMeet_26 R g1 g2 g1 hf
  · have hf := ie c106 hf
    refine go_iconst (v := 0) (pc' := 9) dX6_doMeet_8 rfl (by decide) ?_
    obtain rfl := Option.some.inj hf
    exact Go.ret (v := some (.int _)) dX6_doMeet_9 ⟨_, rfl⟩ ⟨rfl, rfl, R⟩
def f_X6_isAtTip (n : Nat) (a0 : Nat) (x1 : Int32) (a2 : Nat) (a3 : Nat) (x4 : Int32) (σ : xσ) : Option (Int32 × xσ) := gd (okS n a0) (gd (okS n a2) (gd (okS n a3) (st ((sI σ a2 1) - 1) (fun x101 => if x101 < 1 then some (0, σ) else bd (f_X7_isAlike n a2 0 x101 σ) (fun v104 σ105 => if v104 = 0 then gd (inb 0 40) (gd (inb 0 40) (bd (f_X4_isOnWay n a0 x1 (sI σ105 (a2 + 1) (0 : Int32).toNatClampNeg) (sI σ105 (a2 + 2) (0 : Int32).toNatClampNeg) σ105) (fun v112 σ113 => if v112 = 0 then gd (inb x101 40) (gd (inb x101 40) (bd (f_X4_isOnWay n a0 x1 (sI σ113 (a2 + 1) x101.toNatClampNeg) (sI σ113 (a2 + 2) x101.toNatClampNeg) σ113) (fun v120 σ121 => if v120 = 0 then some (0, σ121) else gd (inb x101 40) (gd (inb x101 40) (bd (f_X4_isOnWay n a3 x4 (sI σ121 (a2 + 1) x101.toNatClampNeg) (sI σ121 (a2 + 2) x101.toNatClampNeg) σ121) (fun v128 σ129 => if v128 = 0 then some (0, σ129) else some (1, σ129))))))) else gd (inb 0 40) (gd (inb 0 40) (bd (f_X4_isOnWay n a3 x4 (sI σ113 (a2 + 1) (0 : Int32).toNatClampNeg) (sI σ113 (a2 + 2) (0 : Int32).toNatClampNeg) σ113) (fun v136 σ137 => if v136 = 0 then gd (inb x101 40) (gd (inb x101 40) (bd (f_X4_isOnWay n a0 x1 (sI σ137 (a2 + 1) x101.toNatClampNeg) (sI σ137 (a2 + 2) x101.toNatClampNeg) σ137) (fun v144 σ145 => if v144 = 0 then some (0, σ145) else gd (inb x101 40) (gd (inb x101 40) (bd (f_X4_isOnWay n a3 x4 (sI σ145 (a2 + 1) x101.toNatClampNeg) (sI σ145 (a2 + 2) x101.toNatClampNeg) σ145) (fun v152 σ153 => if v152 = 0 then some (0, σ153) else some (1, σ153))))))) else some (1, σ137))))))) else some (0, σ105))))))
set_option maxRecDepth 100000 in
set_option maxHeartbeats 4000000 in
theorem c_X6_isAtTip {G : xG} {n : Nat} {σ : xσ} {h : xH} {a0 : Nat} {x1 : Int32} {a2 : Nat} {a3 : Nat} {x4 : Int32} {v1 : Int32} {σ1 : xσ} (R : Rl n σ h) (hf : f_X6_isAtTip n a0 x1 a2 a3 x4 σ = some (v1, σ1)) : Ca G mX6_isAtTip [.ref a0, .int x1, .ref a2, .ref a3, .int x4] h (fun v h' => v = some (.int v1) ∧ Rl n σ1 h') := by
  refine Ca.of rfl (Nat.le_of_ble_eq_true rfl) ?_
  generalize hr : (v1, σ1) = r at hf
  suffices q : Go G mX6_isAtTip 0 (xent (xMl mX6_isAtTip) [.ref a0, .int x1, .ref a2, .ref a3, .int x4]) [] h (fun v h' => xRok (xRt mX6_isAtTip) v ∧ v = some (.int r.1) ∧ Rl n r.2 h') by
    subst hr
    exact q
  clear hr
  rw [f_X6_isAtTip] at hf
  obtain ⟨g0, hf⟩ := gd_some hf
  obtain ⟨g2, hf⟩ := gd_some hf
  obtain ⟨g3, hf⟩ := gd_some hf
  refine go_aload_n (i := 2) (pc' := 1) dX6_isAtTip_0 rfl rfl rfl ?_
  refine go_getS (pc' := 4) dX6_isAtTip_1 rfl gf_LandBase_Relations_53 R g2.at (by decide) rfl ?_
  refine go_iconst (v := 1) (pc' := 5) dX6_isAtTip_4 rfl (by decide) ?_
  refine go_isub (pc' := 6) dX6_isAtTip_5 rfl ?_
  obtain ⟨x101, e102, hf⟩ := st_some hf
  refine go_istoreE e102 (pc' := 8) dX6_isAtTip_6 rfl (by decide) rfl ?_
  refine go_iload (pc' := 10) dX6_isAtTip_8 rfl rfl ?_
  refine go_iconst (v := 1) (pc' := 11) dX6_isAtTip_10 rfl (by decide) ?_
  refine go_icmp_lt (pc' := 14) (tgt := 24) dX6_isAtTip_11 (by decide) rfl (fun c103 => ?_) (fun c103 => ?_)
  · have hf := it c103 hf
    refine go_iconst (v := 0) (pc' := 25) dX6_isAtTip_24 rfl (by decide) ?_
    obtain rfl := Option.some.inj hf
    exact Go.ret (v := some (.int _)) dX6_isAtTip_25 ⟨_, rfl⟩ ⟨rfl, rfl, R⟩
  · have hf := ie c103 hf
    refine go_aload_n (i := 2) (pc' := 15) dX6_isAtTip_14 rfl rfl rfl ?_
    refine go_iconst (v := 0) (pc' := 16) dX6_isAtTip_15 rfl (by decide) ?_
    refine go_iload (pc' := 18) dX6_isAtTip_16 rfl rfl ?_
    obtain ⟨v104, σ105, e106, hf⟩ := bd_some hf
    refine go_invV (As := [_, _]) (pc' := 21) dX6_isAtTip_18 rfl cf_X6_isAtTip_79 rfl (R.ob g2.at) rfl rfl (Nat.le_of_ble_eq_true rfl) (c_X7_isAlike R e106) (fun q107v h108 q107 => ?_)
    obtain ⟨rfl, R⟩ := q107
    refine go_if_eq (pc' := 24) (tgt := 26) dX6_isAtTip_21 (by decide) rfl (fun c109 => ?_) (fun c109 => ?_)
    · have hf := it c109 hf
      refine go_aload_n (i := 0) (pc' := 27) dX6_isAtTip_26 rfl rfl rfl ?_
      refine go_iload_n (i := 1) (pc' := 28) dX6_isAtTip_27 rfl rfl rfl ?_
      refine go_aload_n (i := 2) (pc' := 29) dX6_isAtTip_28 rfl rfl rfl ?_
      refine go_getS (pc' := 32) dX6_isAtTip_29 rfl gf_LandBase_Relations_35 R g2.at (by decide) rfl ?_
      refine go_iconst (v := 0) (pc' := 33) dX6_isAtTip_32 rfl (by decide) ?_
      obtain ⟨g110, hf⟩ := gd_some hf
      refine go_ialoadS (pc' := 34) dX6_isAtTip_33 rfl R g2.x g110 ?_
      refine go_aload_n (i := 2) (pc' := 35) dX6_isAtTip_34 rfl rfl rfl ?_
      refine go_getS (pc' := 38) dX6_isAtTip_35 rfl gf_LandBase_Relations_39 R g2.at (by decide) rfl ?_
      refine go_iconst (v := 0) (pc' := 39) dX6_isAtTip_38 rfl (by decide) ?_
      obtain ⟨g111, hf⟩ := gd_some hf
      refine go_ialoadS (pc' := 40) dX6_isAtTip_39 rfl R g2.y g111 ?_
      obtain ⟨v112, σ113, e114, hf⟩ := bd_some hf
      refine go_invS (As := [_, _, _, _]) (pc' := 43) dX6_isAtTip_40 rfl cf_X6_isAtTip_82 rfl rfl (Nat.le_of_ble_eq_true rfl) (c_X4_isOnWay R e114) (fun q115v h116 q115 => ?_)
      obtain ⟨rfl, R⟩ := q115
      refine go_if_eq (pc' := 46) (tgt := 67) dX6_isAtTip_43 (by decide) rfl (fun c117 => ?_) (fun c117 => ?_)
      · have hf := it c117 hf
        refine go_aload_n (i := 0) (pc' := 68) dX6_isAtTip_67 rfl rfl rfl ?_
        refine go_iload_n (i := 1) (pc' := 69) dX6_isAtTip_68 rfl rfl rfl ?_
        refine go_aload_n (i := 2) (pc' := 70) dX6_isAtTip_69 rfl rfl rfl ?_
        refine go_getS (pc' := 73) dX6_isAtTip_70 rfl gf_LandBase_Relations_35 R g2.at (by decide) rfl ?_
        refine go_iload (pc' := 75) dX6_isAtTip_73 rfl rfl ?_
        obtain ⟨g118, hf⟩ := gd_some hf
        refine go_ialoadS (pc' := 76) dX6_isAtTip_75 rfl R g2.x g118 ?_
        refine go_aload_n (i := 2) (pc' := 77) dX6_isAtTip_76 rfl rfl rfl ?_
        refine go_getS (pc' := 80) dX6_isAtTip_77 rfl gf_LandBase_Relations_39 R g2.at (by decide) rfl ?_
        refine go_iload (pc' := 82) dX6_isAtTip_80 rfl rfl ?_
        obtain ⟨g119, hf⟩ := gd_some hf
        refine go_ialoadS (pc' := 83) dX6_isAtTip_82 rfl R g2.y g119 ?_
        obtain ⟨v120, σ121, e122, hf⟩ := bd_some hf
        refine go_invS (As := [_, _, _, _]) (pc' := 86) dX6_isAtTip_83 rfl cf_X6_isAtTip_82 rfl rfl (Nat.le_of_ble_eq_true rfl) (c_X4_isOnWay R e122) (fun q123v h124 q123 => ?_)
        obtain ⟨rfl, R⟩ := q123
        refine go_if_eq (pc' := 89) (tgt := 116) dX6_isAtTip_86 (by decide) rfl (fun c125 => ?_) (fun c125 => ?_)
        · have hf := it c125 hf
          refine go_iconst (v := 0) (pc' := 117) dX6_isAtTip_116 rfl (by decide) ?_
          obtain rfl := Option.some.inj hf
          exact Go.ret (v := some (.int _)) dX6_isAtTip_117 ⟨_, rfl⟩ ⟨rfl, rfl, R⟩
        · have hf := ie c125 hf
          refine go_aload_n (i := 3) (pc' := 90) dX6_isAtTip_89 rfl rfl rfl ?_
          refine go_iload (pc' := 92) dX6_isAtTip_90 rfl rfl ?_
          refine go_aload_n (i := 2) (pc' := 93) dX6_isAtTip_92 rfl rfl rfl ?_
          refine go_getS (pc' := 96) dX6_isAtTip_93 rfl gf_LandBase_Relations_35 R g2.at (by decide) rfl ?_
          refine go_iload (pc' := 98) dX6_isAtTip_96 rfl rfl ?_
          obtain ⟨g126, hf⟩ := gd_some hf
          refine go_ialoadS (pc' := 99) dX6_isAtTip_98 rfl R g2.x g126 ?_
          refine go_aload_n (i := 2) (pc' := 100) dX6_isAtTip_99 rfl rfl rfl ?_
          refine go_getS (pc' := 103) dX6_isAtTip_100 rfl gf_LandBase_Relations_39 R g2.at (by decide) rfl ?_
          refine go_iload (pc' := 105) dX6_isAtTip_103 rfl rfl ?_
          obtain ⟨g127, hf⟩ := gd_some hf
          refine go_ialoadS (pc' := 106) dX6_isAtTip_105 rfl R g2.y g127 ?_
          obtain ⟨v128, σ129, e130, hf⟩ := bd_some hf
          refine go_invS (As := [_, _, _, _]) (pc' := 109) dX6_isAtTip_106 rfl cf_X6_isAtTip_82 rfl rfl (Nat.le_of_ble_eq_true rfl) (c_X4_isOnWay R e130) (fun q131v h132 q131 => ?_)
          obtain ⟨rfl, R⟩ := q131
          refine go_if_eq (pc' := 112) (tgt := 116) dX6_isAtTip_109 (by decide) rfl (fun c133 => ?_) (fun c133 => ?_)
          · have hf := it c133 hf
            refine go_iconst (v := 0) (pc' := 117) dX6_isAtTip_116 rfl (by decide) ?_
            obtain rfl := Option.some.inj hf
            exact Go.ret (v := some (.int _)) dX6_isAtTip_117 ⟨_, rfl⟩ ⟨rfl, rfl, R⟩
          · have hf := ie c133 hf
            refine go_iconst (v := 1) (pc' := 113) dX6_isAtTip_112 rfl (by decide) ?_
            refine go_goto (pc' := 0) (tgt := 117) dX6_isAtTip_113 (by decide) ?_
            obtain rfl := Option.some.inj hf
            exact Go.ret (v := some (.int _)) dX6_isAtTip_117 ⟨_, rfl⟩ ⟨rfl, rfl, R⟩
      · have hf := ie c117 hf
        refine go_aload_n (i := 3) (pc' := 47) dX6_isAtTip_46 rfl rfl rfl ?_
        refine go_iload (pc' := 49) dX6_isAtTip_47 rfl rfl ?_
        refine go_aload_n (i := 2) (pc' := 50) dX6_isAtTip_49 rfl rfl rfl ?_
        refine go_getS (pc' := 53) dX6_isAtTip_50 rfl gf_LandBase_Relations_35 R g2.at (by decide) rfl ?_
        refine go_iconst (v := 0) (pc' := 54) dX6_isAtTip_53 rfl (by decide) ?_
        obtain ⟨g134, hf⟩ := gd_some hf
        refine go_ialoadS (pc' := 55) dX6_isAtTip_54 rfl R g2.x g134 ?_
        refine go_aload_n (i := 2) (pc' := 56) dX6_isAtTip_55 rfl rfl rfl ?_
        refine go_getS (pc' := 59) dX6_isAtTip_56 rfl gf_LandBase_Relations_39 R g2.at (by decide) rfl ?_
        refine go_iconst (v := 0) (pc' := 60) dX6_isAtTip_59 rfl (by decide) ?_
        obtain ⟨g135, hf⟩ := gd_some hf
        refine go_ialoadS (pc' := 61) dX6_isAtTip_60 rfl R g2.y g135 ?_
        obtain ⟨v136, σ137, e138, hf⟩ := bd_some hf
        refine go_invS (As := [_, _, _, _]) (pc' := 64) dX6_isAtTip_61 rfl cf_X6_isAtTip_82 rfl rfl (Nat.le_of_ble_eq_true rfl) (c_X4_isOnWay R e138) (fun q139v h140 q139 => ?_)
        obtain ⟨rfl, R⟩ := q139
        refine go_if_ne (pc' := 67) (tgt := 112) dX6_isAtTip_64 (by decide) rfl (fun c141 => ?_) (fun c141 => ?_)
        · have hf := ie c141 hf
          refine go_iconst (v := 1) (pc' := 113) dX6_isAtTip_112 rfl (by decide) ?_
          refine go_goto (pc' := 0) (tgt := 117) dX6_isAtTip_113 (by decide) ?_
          obtain rfl := Option.some.inj hf
          exact Go.ret (v := some (.int _)) dX6_isAtTip_117 ⟨_, rfl⟩ ⟨rfl, rfl, R⟩
        · have hf := it c141 hf
          refine go_aload_n (i := 0) (pc' := 68) dX6_isAtTip_67 rfl rfl rfl ?_
          refine go_iload_n (i := 1) (pc' := 69) dX6_isAtTip_68 rfl rfl rfl ?_
          refine go_aload_n (i := 2) (pc' := 70) dX6_isAtTip_69 rfl rfl rfl ?_
          refine go_getS (pc' := 73) dX6_isAtTip_70 rfl gf_LandBase_Relations_35 R g2.at (by decide) rfl ?_
          refine go_iload (pc' := 75) dX6_isAtTip_73 rfl rfl ?_
          obtain ⟨g142, hf⟩ := gd_some hf
          refine go_ialoadS (pc' := 76) dX6_isAtTip_75 rfl R g2.x g142 ?_
          refine go_aload_n (i := 2) (pc' := 77) dX6_isAtTip_76 rfl rfl rfl ?_
          refine go_getS (pc' := 80) dX6_isAtTip_77 rfl gf_LandBase_Relations_39 R g2.at (by decide) rfl ?_
          refine go_iload (pc' := 82) dX6_isAtTip_80 rfl rfl ?_
          obtain ⟨g143, hf⟩ := gd_some hf
          refine go_ialoadS (pc' := 83) dX6_isAtTip_82 rfl R g2.y g143 ?_
          obtain ⟨v144, σ145, e146, hf⟩ := bd_some hf
          refine go_invS (As := [_, _, _, _]) (pc' := 86) dX6_isAtTip_83 rfl cf_X6_isAtTip_82 rfl rfl (Nat.le_of_ble_eq_true rfl) (c_X4_isOnWay R e146) (fun q147v h148 q147 => ?_)
          obtain ⟨rfl, R⟩ := q147
          refine go_if_eq (pc' := 89) (tgt := 116) dX6_isAtTip_86 (by decide) rfl (fun c149 => ?_) (fun c149 => ?_)
          · have hf := it c149 hf
            refine go_iconst (v := 0) (pc' := 117) dX6_isAtTip_116 rfl (by decide) ?_
            obtain rfl := Option.some.inj hf
            exact Go.ret (v := some (.int _)) dX6_isAtTip_117 ⟨_, rfl⟩ ⟨rfl, rfl, R⟩
          · have hf := ie c149 hf
            refine go_aload_n (i := 3) (pc' := 90) dX6_isAtTip_89 rfl rfl rfl ?_
            refine go_iload (pc' := 92) dX6_isAtTip_90 rfl rfl ?_
            refine go_aload_n (i := 2) (pc' := 93) dX6_isAtTip_92 rfl rfl rfl ?_
            refine go_getS (pc' := 96) dX6_isAtTip_93 rfl gf_LandBase_Relations_35 R g2.at (by decide) rfl ?_
            refine go_iload (pc' := 98) dX6_isAtTip_96 rfl rfl ?_
            obtain ⟨g150, hf⟩ := gd_some hf
            refine go_ialoadS (pc' := 99) dX6_isAtTip_98 rfl R g2.x g150 ?_
            refine go_aload_n (i := 2) (pc' := 100) dX6_isAtTip_99 rfl rfl rfl ?_
            refine go_getS (pc' := 103) dX6_isAtTip_100 rfl gf_LandBase_Relations_39 R g2.at (by decide) rfl ?_
            refine go_iload (pc' := 105) dX6_isAtTip_103 rfl rfl ?_
            obtain ⟨g151, hf⟩ := gd_some hf
            refine go_ialoadS (pc' := 106) dX6_isAtTip_105 rfl R g2.y g151 ?_
            obtain ⟨v152, σ153, e154, hf⟩ := bd_some hf
            refine go_invS (As := [_, _, _, _]) (pc' := 109) dX6_isAtTip_106 rfl cf_X6_isAtTip_82 rfl rfl (Nat.le_of_ble_eq_true rfl) (c_X4_isOnWay R e154) (fun q155v h156 q155 => ?_)
            obtain ⟨rfl, R⟩ := q155
            refine go_if_eq (pc' := 112) (tgt := 116) dX6_isAtTip_109 (by decide) rfl (fun c157 => ?_) (fun c157 => ?_)
            · have hf := it c157 hf
              refine go_iconst (v := 0) (pc' := 117) dX6_isAtTip_116 rfl (by decide) ?_
              obtain rfl := Option.some.inj hf
              exact Go.ret (v := some (.int _)) dX6_isAtTip_117 ⟨_, rfl⟩ ⟨rfl, rfl, R⟩
            · have hf := ie c157 hf
              refine go_iconst (v := 1) (pc' := 113) dX6_isAtTip_112 rfl (by decide) ?_
              refine go_goto (pc' := 0) (tgt := 117) dX6_isAtTip_113 (by decide) ?_
              obtain rfl := Option.some.inj hf
              exact Go.ret (v := some (.int _)) dX6_isAtTip_117 ⟨_, rfl⟩ ⟨rfl, rfl, R⟩
    · have hf := ie c109 hf
      refine go_iconst (v := 0) (pc' := 25) dX6_isAtTip_24 rfl (by decide) ?_
      obtain rfl := Option.some.inj hf
      exact Go.ret (v := some (.int _)) dX6_isAtTip_25 ⟨_, rfl⟩ ⟨rfl, rfl, R⟩
def l_X6_doLineInteriorsMeet_14 (n : Nat) (k2 : Nat → Nat → Int32 → xσ → Option (Int32 × xσ)) : Nat → Nat → Nat → Int32 → Int32 → xσ → Option (Int32 × xσ)
  | 0, _, _, _, _, _ => none
  | f + 1, a0, a1, x2, x3, σ => if (sI σ a1 1) ≤ (x3 + 1) then k2 a0 a1 (x2 + 1) σ else bd (f_X4_countCommon n a0 x2 a1 x3 σ) (fun v102 σ103 => if v102 = 2 then some (1, σ103) else if v102 = 1 then bd (f_X6_isAtTip n a0 x2 a0 a1 x3 σ103) (fun v109 σ110 => if v109 = 0 then bd (f_X6_isAtTip n a1 x3 a1 a0 x2 σ110) (fun v115 σ116 => if v115 = 0 then some (1, σ116) else (l_X6_doLineInteriorsMeet_14 n k2 f) a0 a1 x2 (x3 + 1) σ116) else (l_X6_doLineInteriorsMeet_14 n k2 f) a0 a1 x2 (x3 + 1) σ110) else (l_X6_doLineInteriorsMeet_14 n k2 f) a0 a1 x2 (x3 + 1) σ103)
set_option maxRecDepth 100000 in
set_option maxHeartbeats 4000000 in
theorem t_X6_doLineInteriorsMeet_14 {G : xG} {n : Nat} {k2 : Nat → Nat → Int32 → xσ → Option (Int32 × xσ)} (hk2 : ∀ {a0 : Nat} {a1 : Nat} {x2 : Int32} {σ : xσ} {h : xH} {r : Int32 × xσ} {d3 : Option Value} {d4 : Option Value}, Rl n σ h → okS n a0 → okS n a1 → k2 a0 a1 x2 σ = some r → Go G mX6_doLineInteriorsMeet 2 [some (.ref a0), some (.ref a1), some (.int x2), d3, d4] [] h (fun v h' => xRok (xRt mX6_doLineInteriorsMeet) v ∧ v = some (.int r.1) ∧ Rl n r.2 h')) : ∀ (f : Nat) {a0 : Nat} {a1 : Nat} {x2 : Int32} {x3 : Int32} {σ : xσ} {h : xH} {r : Int32 × xσ} {d4 : Option Value}, Rl n σ h → okS n a0 → okS n a1 → l_X6_doLineInteriorsMeet_14 n k2 f a0 a1 x2 x3 σ = some r → Go G mX6_doLineInteriorsMeet 14 [some (.ref a0), some (.ref a1), some (.int x2), some (.int x3), d4] [] h (fun v h' => xRok (xRt mX6_doLineInteriorsMeet) v ∧ v = some (.int r.1) ∧ Rl n r.2 h') := by
  intro f
  induction f with
  | zero =>
    intros
    rename _ = some _ => hf
    rw [l_X6_doLineInteriorsMeet_14] at hf
    cases hf
  | succ f ih =>
    intro a0 a1 x2 x3 σ h r d4 R g0 g1 hf
    rw [l_X6_doLineInteriorsMeet_14] at hf
    refine go_iload_n (i := 3) (pc' := 15) dX6_doLineInteriorsMeet_14 rfl rfl rfl ?_
    refine go_iconst (v := 1) (pc' := 16) dX6_doLineInteriorsMeet_15 rfl (by decide) ?_
    refine go_iadd (pc' := 17) dX6_doLineInteriorsMeet_16 rfl ?_
    refine go_aload_n (i := 1) (pc' := 18) dX6_doLineInteriorsMeet_17 rfl rfl rfl ?_
    refine go_getS (pc' := 21) dX6_doLineInteriorsMeet_18 rfl gf_LandBase_Relations_53 R g1.at (by decide) rfl ?_
    refine go_icmp_ge (pc' := 24) (tgt := 75) dX6_doLineInteriorsMeet_21 (by decide) rfl (fun c101 => ?_) (fun c101 => ?_)
    · have hf := it c101 hf
      refine go_iincC (kk := 1) (pc' := 78) dX6_doLineInteriorsMeet_75 rfl rfl (by decide) (by decide) rfl ?_
      refine go_goto (pc' := 0) (tgt := 2) dX6_doLineInteriorsMeet_78 (by decide) ?_
      exact hk2 R g0 g1 hf
    · have hf := ie c101 hf
      refine go_aload_n (i := 0) (pc' := 25) dX6_doLineInteriorsMeet_24 rfl rfl rfl ?_
      refine go_iload_n (i := 2) (pc' := 26) dX6_doLineInteriorsMeet_25 rfl rfl rfl ?_
      refine go_aload_n (i := 1) (pc' := 27) dX6_doLineInteriorsMeet_26 rfl rfl rfl ?_
      refine go_iload_n (i := 3) (pc' := 28) dX6_doLineInteriorsMeet_27 rfl rfl rfl ?_
      obtain ⟨v102, σ103, e104, hf⟩ := bd_some hf
      refine go_invS (As := [_, _, _, _]) (pc' := 31) dX6_doLineInteriorsMeet_28 rfl cf_X6_doLineInteriorsMeet_64 rfl rfl (Nat.le_of_ble_eq_true rfl) (c_X4_countCommon R e104) (fun q105v h106 q105 => ?_)
      obtain ⟨rfl, R⟩ := q105
      refine go_istoreE rfl (pc' := 33) dX6_doLineInteriorsMeet_31 rfl (by decide) rfl ?_
      refine go_iload (pc' := 35) dX6_doLineInteriorsMeet_33 rfl rfl ?_
      refine go_iconst (v := 2) (pc' := 36) dX6_doLineInteriorsMeet_35 rfl (by decide) ?_
      refine go_icmp_eq (pc' := 39) (tgt := 67) dX6_doLineInteriorsMeet_36 (by decide) rfl (fun c107 => ?_) (fun c107 => ?_)
      · have hf := it c107 hf
        refine go_iconst (v := 1) (pc' := 68) dX6_doLineInteriorsMeet_67 rfl (by decide) ?_
        obtain rfl := Option.some.inj hf
        exact Go.ret (v := some (.int _)) dX6_doLineInteriorsMeet_68 ⟨_, rfl⟩ ⟨rfl, rfl, R⟩
      · have hf := ie c107 hf
        refine go_iload (pc' := 41) dX6_doLineInteriorsMeet_39 rfl rfl ?_
        refine go_iconst (v := 1) (pc' := 42) dX6_doLineInteriorsMeet_41 rfl (by decide) ?_
        refine go_icmp_ne (pc' := 45) (tgt := 69) dX6_doLineInteriorsMeet_42 (by decide) rfl (fun c108 => ?_) (fun c108 => ?_)
        · have hf := ie c108 hf
          refine go_iincC (kk := 1) (pc' := 72) dX6_doLineInteriorsMeet_69 rfl rfl (by decide) (by decide) rfl ?_
          refine go_goto (pc' := 0) (tgt := 14) dX6_doLineInteriorsMeet_72 (by decide) ?_
          exact ih R g0 g1 hf
        · have hf := it c108 hf
          refine go_aload_n (i := 0) (pc' := 46) dX6_doLineInteriorsMeet_45 rfl rfl rfl ?_
          refine go_iload_n (i := 2) (pc' := 47) dX6_doLineInteriorsMeet_46 rfl rfl rfl ?_
          refine go_aload_n (i := 0) (pc' := 48) dX6_doLineInteriorsMeet_47 rfl rfl rfl ?_
          refine go_aload_n (i := 1) (pc' := 49) dX6_doLineInteriorsMeet_48 rfl rfl rfl ?_
          refine go_iload_n (i := 3) (pc' := 50) dX6_doLineInteriorsMeet_49 rfl rfl rfl ?_
          obtain ⟨v109, σ110, e111, hf⟩ := bd_some hf
          refine go_invS (As := [_, _, _, _, _]) (pc' := 53) dX6_doLineInteriorsMeet_50 rfl cf_X6_doLineInteriorsMeet_75 rfl rfl (Nat.le_of_ble_eq_true rfl) (c_X6_isAtTip R e111) (fun q112v h113 q112 => ?_)
          obtain ⟨rfl, R⟩ := q112
          refine go_if_ne (pc' := 56) (tgt := 69) dX6_doLineInteriorsMeet_53 (by decide) rfl (fun c114 => ?_) (fun c114 => ?_)
          · have hf := ie c114 hf
            refine go_iincC (kk := 1) (pc' := 72) dX6_doLineInteriorsMeet_69 rfl rfl (by decide) (by decide) rfl ?_
            refine go_goto (pc' := 0) (tgt := 14) dX6_doLineInteriorsMeet_72 (by decide) ?_
            exact ih R g0 g1 hf
          · have hf := it c114 hf
            refine go_aload_n (i := 1) (pc' := 57) dX6_doLineInteriorsMeet_56 rfl rfl rfl ?_
            refine go_iload_n (i := 3) (pc' := 58) dX6_doLineInteriorsMeet_57 rfl rfl rfl ?_
            refine go_aload_n (i := 1) (pc' := 59) dX6_doLineInteriorsMeet_58 rfl rfl rfl ?_
            refine go_aload_n (i := 0) (pc' := 60) dX6_doLineInteriorsMeet_59 rfl rfl rfl ?_
            refine go_iload_n (i := 2) (pc' := 61) dX6_doLineInteriorsMeet_60 rfl rfl rfl ?_
            obtain ⟨v115, σ116, e117, hf⟩ := bd_some hf
            refine go_invS (As := [_, _, _, _, _]) (pc' := 64) dX6_doLineInteriorsMeet_61 rfl cf_X6_doLineInteriorsMeet_75 rfl rfl (Nat.le_of_ble_eq_true rfl) (c_X6_isAtTip R e117) (fun q118v h119 q118 => ?_)
            obtain ⟨rfl, R⟩ := q118
            refine go_if_ne (pc' := 67) (tgt := 69) dX6_doLineInteriorsMeet_64 (by decide) rfl (fun c120 => ?_) (fun c120 => ?_)
            · have hf := ie c120 hf
              refine go_iincC (kk := 1) (pc' := 72) dX6_doLineInteriorsMeet_69 rfl rfl (by decide) (by decide) rfl ?_
              refine go_goto (pc' := 0) (tgt := 14) dX6_doLineInteriorsMeet_72 (by decide) ?_
              exact ih R g0 g1 hf
            · have hf := it c120 hf
              refine go_iconst (v := 1) (pc' := 68) dX6_doLineInteriorsMeet_67 rfl (by decide) ?_
              obtain rfl := Option.some.inj hf
              exact Go.ret (v := some (.int _)) dX6_doLineInteriorsMeet_68 ⟨_, rfl⟩ ⟨rfl, rfl, R⟩
def l_X6_doLineInteriorsMeet_2 (n : Nat) : Nat → Nat → Nat → Int32 → xσ → Option (Int32 × xσ)
  | 0, _, _, _, _ => none
  | f + 1, a0, a1, x2, σ => if (sI σ a0 1) ≤ (x2 + 1) then some (0, σ) else l_X6_doLineInteriorsMeet_14 n (l_X6_doLineInteriorsMeet_2 n f) xFU a0 a1 x2 0 σ
set_option maxRecDepth 100000 in
set_option maxHeartbeats 4000000 in
theorem t_X6_doLineInteriorsMeet_2 {G : xG} {n : Nat} : ∀ (f : Nat) {a0 : Nat} {a1 : Nat} {x2 : Int32} {σ : xσ} {h : xH} {r : Int32 × xσ} {d3 : Option Value} {d4 : Option Value}, Rl n σ h → okS n a0 → okS n a1 → l_X6_doLineInteriorsMeet_2 n f a0 a1 x2 σ = some r → Go G mX6_doLineInteriorsMeet 2 [some (.ref a0), some (.ref a1), some (.int x2), d3, d4] [] h (fun v h' => xRok (xRt mX6_doLineInteriorsMeet) v ∧ v = some (.int r.1) ∧ Rl n r.2 h') := by
  intro f
  induction f with
  | zero =>
    intros
    rename _ = some _ => hf
    rw [l_X6_doLineInteriorsMeet_2] at hf
    cases hf
  | succ f ih =>
    intro a0 a1 x2 σ h r d3 d4 R g0 g1 hf
    rw [l_X6_doLineInteriorsMeet_2] at hf
    refine go_iload_n (i := 2) (pc' := 3) dX6_doLineInteriorsMeet_2 rfl rfl rfl ?_
    refine go_iconst (v := 1) (pc' := 4) dX6_doLineInteriorsMeet_3 rfl (by decide) ?_
    refine go_iadd (pc' := 5) dX6_doLineInteriorsMeet_4 rfl ?_
    refine go_aload_n (i := 0) (pc' := 6) dX6_doLineInteriorsMeet_5 rfl rfl rfl ?_
    refine go_getS (pc' := 9) dX6_doLineInteriorsMeet_6 rfl gf_LandBase_Relations_53 R g0.at (by decide) rfl ?_
    refine go_icmp_ge (pc' := 12) (tgt := 81) dX6_doLineInteriorsMeet_9 (by decide) rfl (fun c101 => ?_) (fun c101 => ?_)
    · have hf := it c101 hf
      refine go_iconst (v := 0) (pc' := 82) dX6_doLineInteriorsMeet_81 rfl (by decide) ?_
      obtain rfl := Option.some.inj hf
      exact Go.ret (v := some (.int _)) dX6_doLineInteriorsMeet_82 ⟨_, rfl⟩ ⟨rfl, rfl, R⟩
    · have hf := ie c101 hf
      refine go_iconst (v := 0) (pc' := 13) dX6_doLineInteriorsMeet_12 rfl (by decide) ?_
      refine go_istore_nE rfl (i := 3) (pc' := 14) dX6_doLineInteriorsMeet_13 rfl rfl (by decide) rfl ?_
      exact t_X6_doLineInteriorsMeet_14 @ih xFU R g0 g1 hf
def f_X6_doLineInteriorsMeet (n : Nat) (a0 : Nat) (a1 : Nat) (σ : xσ) : Option (Int32 × xσ) := gd (okS n a0) (gd (okS n a1) (l_X6_doLineInteriorsMeet_2 n xFU a0 a1 0 σ))
set_option maxRecDepth 100000 in
set_option maxHeartbeats 4000000 in
theorem c_X6_doLineInteriorsMeet {G : xG} {n : Nat} {σ : xσ} {h : xH} {a0 : Nat} {a1 : Nat} {v1 : Int32} {σ1 : xσ} (R : Rl n σ h) (hf : f_X6_doLineInteriorsMeet n a0 a1 σ = some (v1, σ1)) : Ca G mX6_doLineInteriorsMeet [.ref a0, .ref a1] h (fun v h' => v = some (.int v1) ∧ Rl n σ1 h') := by
  refine Ca.of rfl (Nat.le_of_ble_eq_true rfl) ?_
  generalize hr : (v1, σ1) = r at hf
  suffices q : Go G mX6_doLineInteriorsMeet 0 (xent (xMl mX6_doLineInteriorsMeet) [.ref a0, .ref a1]) [] h (fun v h' => xRok (xRt mX6_doLineInteriorsMeet) v ∧ v = some (.int r.1) ∧ Rl n r.2 h') by
    subst hr
    exact q
  clear hr
  rw [f_X6_doLineInteriorsMeet] at hf
  obtain ⟨g0, hf⟩ := gd_some hf
  obtain ⟨g1, hf⟩ := gd_some hf
  refine go_iconst (v := 0) (pc' := 1) dX6_doLineInteriorsMeet_0 rfl (by decide) ?_
  refine go_istore_nE rfl (i := 2) (pc' := 2) dX6_doLineInteriorsMeet_1 rfl rfl (by decide) rfl ?_
  exact t_X6_doLineInteriorsMeet_2 xFU R g0 g1 hf
def f_X6_areOnlyAlong (n : Nat) (x0 : Int32) (x1 : Int32) (σ : xσ) : Option (Int32 × xσ) := if (x0 &&& ((-9))) = 4 then if (x1 &&& ((-9))) = 4 then some (1, σ) else some (0, σ) else some (0, σ)
set_option maxRecDepth 100000 in
set_option maxHeartbeats 4000000 in
theorem c_X6_areOnlyAlong {G : xG} {n : Nat} {σ : xσ} {h : xH} {x0 : Int32} {x1 : Int32} {v1 : Int32} {σ1 : xσ} (R : Rl n σ h) (hf : f_X6_areOnlyAlong n x0 x1 σ = some (v1, σ1)) : Ca G mX6_areOnlyAlong [.int x0, .int x1] h (fun v h' => v = some (.int v1) ∧ Rl n σ1 h') := by
  refine Ca.of rfl (Nat.le_of_ble_eq_true rfl) ?_
  generalize hr : (v1, σ1) = r at hf
  suffices q : Go G mX6_areOnlyAlong 0 (xent (xMl mX6_areOnlyAlong) [.int x0, .int x1]) [] h (fun v h' => xRok (xRt mX6_areOnlyAlong) v ∧ v = some (.int r.1) ∧ Rl n r.2 h') by
    subst hr
    exact q
  clear hr
  rw [f_X6_areOnlyAlong] at hf
  refine go_iload_n (i := 0) (pc' := 1) dX6_areOnlyAlong_0 rfl rfl rfl ?_
  refine go_bipush (v := (-9)) (pc' := 3) dX6_areOnlyAlong_1 rfl (by decide) ?_
  refine go_iand (pc' := 4) dX6_areOnlyAlong_3 rfl ?_
  refine go_iconst (v := 4) (pc' := 5) dX6_areOnlyAlong_4 rfl (by decide) ?_
  refine go_icmp_ne (pc' := 8) (tgt := 20) dX6_areOnlyAlong_5 (by decide) rfl (fun c101 => ?_) (fun c101 => ?_)
  · have hf := ie c101 hf
    refine go_iconst (v := 0) (pc' := 21) dX6_areOnlyAlong_20 rfl (by decide) ?_
    obtain rfl := Option.some.inj hf
    exact Go.ret (v := some (.int _)) dX6_areOnlyAlong_21 ⟨_, rfl⟩ ⟨rfl, rfl, R⟩
  · have hf := it c101 hf
    refine go_iload_n (i := 1) (pc' := 9) dX6_areOnlyAlong_8 rfl rfl rfl ?_
    refine go_bipush (v := (-9)) (pc' := 11) dX6_areOnlyAlong_9 rfl (by decide) ?_
    refine go_iand (pc' := 12) dX6_areOnlyAlong_11 rfl ?_
    refine go_iconst (v := 4) (pc' := 13) dX6_areOnlyAlong_12 rfl (by decide) ?_
    refine go_icmp_ne (pc' := 16) (tgt := 20) dX6_areOnlyAlong_13 (by decide) rfl (fun c102 => ?_) (fun c102 => ?_)
    · have hf := ie c102 hf
      refine go_iconst (v := 0) (pc' := 21) dX6_areOnlyAlong_20 rfl (by decide) ?_
      obtain rfl := Option.some.inj hf
      exact Go.ret (v := some (.int _)) dX6_areOnlyAlong_21 ⟨_, rfl⟩ ⟨rfl, rfl, R⟩
    · have hf := it c102 hf
      refine go_iconst (v := 1) (pc' := 17) dX6_areOnlyAlong_16 rfl (by decide) ?_
      refine go_goto (pc' := 0) (tgt := 21) dX6_areOnlyAlong_17 (by decide) ?_
      obtain rfl := Option.some.inj hf
      exact Go.ret (v := some (.int _)) dX6_areOnlyAlong_21 ⟨_, rfl⟩ ⟨rfl, rfl, R⟩
def b_X6_doInteriorsMeet_33 (n : Nat) (a3 : Nat) (as0 : Nat) (σ : xσ) : Option (Int32 × xσ) := if (sI σ a3 0) = 0 then gd (inb 0 40) (gd (inb 0 40) (bd (f_X4_locate n as0 (sI σ (a3 + 1) (0 : Int32).toNatClampNeg) (sI σ (a3 + 2) (0 : Int32).toNatClampNeg) σ) (fun v140 σ141 => if v140 = 1 then some (1, σ141) else some (0, σ141)))) else if (sI σ as0 0) = 1 then bd (f_X6_doLineInteriorsMeet n a3 as0 σ) (fun v132 σ133 => gd (v132 = 0 ∨ v132 = 1) (some (v132, σ133))) else bd (f_X1_aim n as0 0 (sI σ as0 1) σ) (fun v103 σ104 => bd (f_X1_scan n a3 0 (sI σ104 a3 1) 1 σ104) (fun v108 σ109 => if (v108 &&& 1) = 0 then if (sI σ109 a3 0) = 1 then some (0, σ109) else bd (f_X1_aim n a3 0 (sI σ109 a3 1) σ109) (fun v115 σ116 => bd (f_X1_scan n as0 0 (sI σ116 as0 1) 1 σ116) (fun v120 σ121 => if (v120 &&& 1) = 0 then bd (f_X6_areOnlyAlong n v108 v120 σ121) (fun v126 σ127 => if v126 = 0 then some (0, σ127) else some (1, σ127)) else some (1, σ121))) else some (1, σ109)))
set_option maxRecDepth 100000 in
set_option maxHeartbeats 4000000 in
theorem t_X6_doInteriorsMeet_33 {G : xG} {n : Nat} {a3 : Nat} {as0 : Nat} {σ : xσ} {h : xH} {r : Int32 × xσ} {d1 : Option Value} {d2 : Option Value} {d4 : Option Value} {d5 : Option Value} {d6 : Option Value} : Rl n σ h → okS n a3 → okS n as0 → b_X6_doInteriorsMeet_33 n a3 as0 σ = some r → Go G mX6_doInteriorsMeet 33 [some (.ref 29), d1, d2, some (.ref a3), d4, d5, d6] [.ref as0] h (fun v h' => xRok (xRt mX6_doInteriorsMeet) v ∧ v = some (.int r.1) ∧ Rl n r.2 h') := by
  intro R g3 gs0 hf
  rw [b_X6_doInteriorsMeet_33] at hf
  refine go_astore (pc' := 35) dX6_doInteriorsMeet_33 rfl (by decide) rfl ?_
  refine go_aload_n (i := 3) (pc' := 36) dX6_doInteriorsMeet_35 rfl rfl rfl ?_
  refine go_getS (pc' := 39) dX6_doInteriorsMeet_36 rfl gf_LandBase_Relations_31 R g3.at (by decide) rfl ?_
  refine go_if_ne (pc' := 42) (tgt := 69) dX6_doInteriorsMeet_39 (by decide) rfl (fun c101 => ?_) (fun c101 => ?_)
  · have hf := ie c101 hf
    refine go_aload (pc' := 71) dX6_doInteriorsMeet_69 rfl rfl ?_
    refine go_getS (pc' := 74) dX6_doInteriorsMeet_71 rfl gf_LandBase_Relations_31 R gs0.at (by decide) rfl ?_
    refine go_iconst (v := 1) (pc' := 75) dX6_doInteriorsMeet_74 rfl (by decide) ?_
    refine go_icmp_ne (pc' := 78) (tgt := 85) dX6_doInteriorsMeet_75 (by decide) rfl (fun c102 => ?_) (fun c102 => ?_)
    · have hf := ie c102 hf
      refine go_aload_n (i := 0) (pc' := 86) dX6_doInteriorsMeet_85 rfl rfl rfl ?_
      refine go_getS (pc' := 89) dX6_doInteriorsMeet_86 rfl gf_LandBase_Relations_9 R (R.at rfl (by decide)) (by decide) rfl ?_
      refine go_aload (pc' := 91) dX6_doInteriorsMeet_89 rfl rfl ?_
      refine go_iconst (v := 0) (pc' := 92) dX6_doInteriorsMeet_91 rfl (by decide) ?_
      refine go_aload (pc' := 94) dX6_doInteriorsMeet_92 rfl rfl ?_
      refine go_getS (pc' := 97) dX6_doInteriorsMeet_94 rfl gf_LandBase_Relations_53 R gs0.at (by decide) rfl ?_
      obtain ⟨v103, σ104, e105, hf⟩ := bd_some hf
      refine go_invV (As := [_, _, _]) (pc' := 100) dX6_doInteriorsMeet_97 rfl cf_X6_doInteriorsMeet_56 rfl (R.ob (R.at rfl (by decide))) rfl rfl (Nat.le_of_ble_eq_true rfl) (c_X1_aim R e105) (fun q106v h107 q106 => ?_)
      obtain ⟨rfl, R⟩ := q106
      refine go_aload_n (i := 0) (pc' := 101) dX6_doInteriorsMeet_100 rfl rfl rfl ?_
      refine go_getS (pc' := 104) dX6_doInteriorsMeet_101 rfl gf_LandBase_Relations_9 R (R.at rfl (by decide)) (by decide) rfl ?_
      refine go_aload_n (i := 3) (pc' := 105) dX6_doInteriorsMeet_104 rfl rfl rfl ?_
      refine go_iconst (v := 0) (pc' := 106) dX6_doInteriorsMeet_105 rfl (by decide) ?_
      refine go_aload_n (i := 3) (pc' := 107) dX6_doInteriorsMeet_106 rfl rfl rfl ?_
      refine go_getS (pc' := 110) dX6_doInteriorsMeet_107 rfl gf_LandBase_Relations_53 R g3.at (by decide) rfl ?_
      refine go_iconst (v := 1) (pc' := 111) dX6_doInteriorsMeet_110 rfl (by decide) ?_
      obtain ⟨v108, σ109, e110, hf⟩ := bd_some hf
      refine go_invV (As := [_, _, _, _]) (pc' := 114) dX6_doInteriorsMeet_111 rfl cf_X6_doInteriorsMeet_60 rfl (R.ob (R.at rfl (by decide))) rfl rfl (Nat.le_of_ble_eq_true rfl) (c_X1_scan R e110) (fun q111v h112 q111 => ?_)
      obtain ⟨rfl, R⟩ := q111
      refine go_istoreE rfl (pc' := 116) dX6_doInteriorsMeet_114 rfl (by decide) rfl ?_
      refine go_iload (pc' := 118) dX6_doInteriorsMeet_116 rfl rfl ?_
      refine go_iconst (v := 1) (pc' := 119) dX6_doInteriorsMeet_118 rfl (by decide) ?_
      refine go_iand (pc' := 120) dX6_doInteriorsMeet_119 rfl ?_
      refine go_if_eq (pc' := 123) (tgt := 125) dX6_doInteriorsMeet_120 (by decide) rfl (fun c113 => ?_) (fun c113 => ?_)
      · have hf := it c113 hf
        refine go_aload_n (i := 3) (pc' := 126) dX6_doInteriorsMeet_125 rfl rfl rfl ?_
        refine go_getS (pc' := 129) dX6_doInteriorsMeet_126 rfl gf_LandBase_Relations_31 R g3.at (by decide) rfl ?_
        refine go_iconst (v := 1) (pc' := 130) dX6_doInteriorsMeet_129 rfl (by decide) ?_
        refine go_icmp_ne (pc' := 133) (tgt := 135) dX6_doInteriorsMeet_130 (by decide) rfl (fun c114 => ?_) (fun c114 => ?_)
        · have hf := ie c114 hf
          refine go_aload_n (i := 0) (pc' := 136) dX6_doInteriorsMeet_135 rfl rfl rfl ?_
          refine go_getS (pc' := 139) dX6_doInteriorsMeet_136 rfl gf_LandBase_Relations_9 R (R.at rfl (by decide)) (by decide) rfl ?_
          refine go_aload_n (i := 3) (pc' := 140) dX6_doInteriorsMeet_139 rfl rfl rfl ?_
          refine go_iconst (v := 0) (pc' := 141) dX6_doInteriorsMeet_140 rfl (by decide) ?_
          refine go_aload_n (i := 3) (pc' := 142) dX6_doInteriorsMeet_141 rfl rfl rfl ?_
          refine go_getS (pc' := 145) dX6_doInteriorsMeet_142 rfl gf_LandBase_Relations_53 R g3.at (by decide) rfl ?_
          obtain ⟨v115, σ116, e117, hf⟩ := bd_some hf
          refine go_invV (As := [_, _, _]) (pc' := 148) dX6_doInteriorsMeet_145 rfl cf_X6_doInteriorsMeet_56 rfl (R.ob (R.at rfl (by decide))) rfl rfl (Nat.le_of_ble_eq_true rfl) (c_X1_aim R e117) (fun q118v h119 q118 => ?_)
          obtain ⟨rfl, R⟩ := q118
          refine go_aload_n (i := 0) (pc' := 149) dX6_doInteriorsMeet_148 rfl rfl rfl ?_
          refine go_getS (pc' := 152) dX6_doInteriorsMeet_149 rfl gf_LandBase_Relations_9 R (R.at rfl (by decide)) (by decide) rfl ?_
          refine go_aload (pc' := 154) dX6_doInteriorsMeet_152 rfl rfl ?_
          refine go_iconst (v := 0) (pc' := 155) dX6_doInteriorsMeet_154 rfl (by decide) ?_
          refine go_aload (pc' := 157) dX6_doInteriorsMeet_155 rfl rfl ?_
          refine go_getS (pc' := 160) dX6_doInteriorsMeet_157 rfl gf_LandBase_Relations_53 R gs0.at (by decide) rfl ?_
          refine go_iconst (v := 1) (pc' := 161) dX6_doInteriorsMeet_160 rfl (by decide) ?_
          obtain ⟨v120, σ121, e122, hf⟩ := bd_some hf
          refine go_invV (As := [_, _, _, _]) (pc' := 164) dX6_doInteriorsMeet_161 rfl cf_X6_doInteriorsMeet_60 rfl (R.ob (R.at rfl (by decide))) rfl rfl (Nat.le_of_ble_eq_true rfl) (c_X1_scan R e122) (fun q123v h124 q123 => ?_)
          obtain ⟨rfl, R⟩ := q123
          refine go_istoreE rfl (pc' := 166) dX6_doInteriorsMeet_164 rfl (by decide) rfl ?_
          refine go_iload (pc' := 168) dX6_doInteriorsMeet_166 rfl rfl ?_
          refine go_iconst (v := 1) (pc' := 169) dX6_doInteriorsMeet_168 rfl (by decide) ?_
          refine go_iand (pc' := 170) dX6_doInteriorsMeet_169 rfl ?_
          refine go_if_ne (pc' := 173) (tgt := 183) dX6_doInteriorsMeet_170 (by decide) rfl (fun c125 => ?_) (fun c125 => ?_)
          · have hf := ie c125 hf
            refine go_iconst (v := 1) (pc' := 184) dX6_doInteriorsMeet_183 rfl (by decide) ?_
            refine go_goto (pc' := 0) (tgt := 188) dX6_doInteriorsMeet_184 (by decide) ?_
            obtain rfl := Option.some.inj hf
            exact Go.ret (v := some (.int _)) dX6_doInteriorsMeet_188 ⟨_, rfl⟩ ⟨rfl, rfl, R⟩
          · have hf := it c125 hf
            refine go_iload (pc' := 175) dX6_doInteriorsMeet_173 rfl rfl ?_
            refine go_iload (pc' := 177) dX6_doInteriorsMeet_175 rfl rfl ?_
            obtain ⟨v126, σ127, e128, hf⟩ := bd_some hf
            refine go_invS (As := [_, _]) (pc' := 180) dX6_doInteriorsMeet_177 rfl cf_X6_doInteriorsMeet_71 rfl rfl (Nat.le_of_ble_eq_true rfl) (c_X6_areOnlyAlong R e128) (fun q129v h130 q129 => ?_)
            obtain ⟨rfl, R⟩ := q129
            refine go_if_eq (pc' := 183) (tgt := 187) dX6_doInteriorsMeet_180 (by decide) rfl (fun c131 => ?_) (fun c131 => ?_)
            · have hf := it c131 hf
              refine go_iconst (v := 0) (pc' := 188) dX6_doInteriorsMeet_187 rfl (by decide) ?_
              obtain rfl := Option.some.inj hf
              exact Go.ret (v := some (.int _)) dX6_doInteriorsMeet_188 ⟨_, rfl⟩ ⟨rfl, rfl, R⟩
            · have hf := ie c131 hf
              refine go_iconst (v := 1) (pc' := 184) dX6_doInteriorsMeet_183 rfl (by decide) ?_
              refine go_goto (pc' := 0) (tgt := 188) dX6_doInteriorsMeet_184 (by decide) ?_
              obtain rfl := Option.some.inj hf
              exact Go.ret (v := some (.int _)) dX6_doInteriorsMeet_188 ⟨_, rfl⟩ ⟨rfl, rfl, R⟩
        · have hf := it c114 hf
          refine go_iconst (v := 0) (pc' := 134) dX6_doInteriorsMeet_133 rfl (by decide) ?_
          obtain rfl := Option.some.inj hf
          exact Go.ret (v := some (.int _)) dX6_doInteriorsMeet_134 ⟨_, rfl⟩ ⟨rfl, rfl, R⟩
      · have hf := ie c113 hf
        refine go_iconst (v := 1) (pc' := 124) dX6_doInteriorsMeet_123 rfl (by decide) ?_
        obtain rfl := Option.some.inj hf
        exact Go.ret (v := some (.int _)) dX6_doInteriorsMeet_124 ⟨_, rfl⟩ ⟨rfl, rfl, R⟩
    · have hf := it c102 hf
      refine go_aload_n (i := 3) (pc' := 79) dX6_doInteriorsMeet_78 rfl rfl rfl ?_
      refine go_aload (pc' := 81) dX6_doInteriorsMeet_79 rfl rfl ?_
      obtain ⟨v132, σ133, e134, hf⟩ := bd_some hf
      refine go_invS (As := [_, _]) (pc' := 84) dX6_doInteriorsMeet_81 rfl cf_X6_doInteriorsMeet_68 rfl rfl (Nat.le_of_ble_eq_true rfl) (c_X6_doLineInteriorsMeet R e134) (fun q135v h136 q135 => ?_)
      obtain ⟨rfl, R⟩ := q135
      obtain ⟨g137, hf⟩ := gd_some hf
      obtain rfl := Option.some.inj hf
      exact Go.ret (v := some (.int _)) dX6_doInteriorsMeet_84 ⟨_, rfl⟩ ⟨(nb g137), rfl, R⟩
  · have hf := it c101 hf
    refine go_aload (pc' := 44) dX6_doInteriorsMeet_42 rfl rfl ?_
    refine go_aload_n (i := 3) (pc' := 45) dX6_doInteriorsMeet_44 rfl rfl rfl ?_
    refine go_getS (pc' := 48) dX6_doInteriorsMeet_45 rfl gf_LandBase_Relations_35 R g3.at (by decide) rfl ?_
    refine go_iconst (v := 0) (pc' := 49) dX6_doInteriorsMeet_48 rfl (by decide) ?_
    obtain ⟨g138, hf⟩ := gd_some hf
    refine go_ialoadS (pc' := 50) dX6_doInteriorsMeet_49 rfl R g3.x g138 ?_
    refine go_aload_n (i := 3) (pc' := 51) dX6_doInteriorsMeet_50 rfl rfl rfl ?_
    refine go_getS (pc' := 54) dX6_doInteriorsMeet_51 rfl gf_LandBase_Relations_39 R g3.at (by decide) rfl ?_
    refine go_iconst (v := 0) (pc' := 55) dX6_doInteriorsMeet_54 rfl (by decide) ?_
    obtain ⟨g139, hf⟩ := gd_some hf
    refine go_ialoadS (pc' := 56) dX6_doInteriorsMeet_55 rfl R g3.y g139 ?_
    obtain ⟨v140, σ141, e142, hf⟩ := bd_some hf
    refine go_invS (As := [_, _, _]) (pc' := 59) dX6_doInteriorsMeet_56 rfl cf_X6_doInteriorsMeet_42 rfl rfl (Nat.le_of_ble_eq_true rfl) (c_X4_locate R e142) (fun q143v h144 q143 => ?_)
    obtain ⟨rfl, R⟩ := q143
    refine go_iconst (v := 1) (pc' := 60) dX6_doInteriorsMeet_59 rfl (by decide) ?_
    refine go_icmp_ne (pc' := 63) (tgt := 67) dX6_doInteriorsMeet_60 (by decide) rfl (fun c145 => ?_) (fun c145 => ?_)
    · have hf := ie c145 hf
      refine go_iconst (v := 0) (pc' := 68) dX6_doInteriorsMeet_67 rfl (by decide) ?_
      obtain rfl := Option.some.inj hf
      exact Go.ret (v := some (.int _)) dX6_doInteriorsMeet_68 ⟨_, rfl⟩ ⟨rfl, rfl, R⟩
    · have hf := it c145 hf
      refine go_iconst (v := 1) (pc' := 64) dX6_doInteriorsMeet_63 rfl (by decide) ?_
      refine go_goto (pc' := 0) (tgt := 68) dX6_doInteriorsMeet_64 (by decide) ?_
      obtain rfl := Option.some.inj hf
      exact Go.ret (v := some (.int _)) dX6_doInteriorsMeet_68 ⟨_, rfl⟩ ⟨rfl, rfl, R⟩
def b_X6_doInteriorsMeet_16 (n : Nat) (a1 : Nat) (a2 : Nat) (as0 : Nat) (σ : xσ) : Option (Int32 × xσ) := if (sI σ a2 0) < (sI σ a1 0) then b_X6_doInteriorsMeet_33 n as0 a1 σ else b_X6_doInteriorsMeet_33 n as0 a2 σ
set_option maxRecDepth 100000 in
set_option maxHeartbeats 4000000 in
theorem t_X6_doInteriorsMeet_16 {G : xG} {n : Nat} {a1 : Nat} {a2 : Nat} {as0 : Nat} {σ : xσ} {h : xH} {r : Int32 × xσ} {d3 : Option Value} {d4 : Option Value} {d5 : Option Value} {d6 : Option Value} : Rl n σ h → okS n a1 → okS n a2 → okS n as0 → b_X6_doInteriorsMeet_16 n a1 a2 as0 σ = some r → Go G mX6_doInteriorsMeet 16 [some (.ref 29), some (.ref a1), some (.ref a2), d3, d4, d5, d6] [.ref as0] h (fun v h' => xRok (xRt mX6_doInteriorsMeet) v ∧ v = some (.int r.1) ∧ Rl n r.2 h') := by
  intro R g1 g2 gs0 hf
  rw [b_X6_doInteriorsMeet_16] at hf
  refine go_astore_n (i := 3) (pc' := 17) dX6_doInteriorsMeet_16 rfl rfl (by decide) rfl ?_
  refine go_aload_n (i := 1) (pc' := 18) dX6_doInteriorsMeet_17 rfl rfl rfl ?_
  refine go_getS (pc' := 21) dX6_doInteriorsMeet_18 rfl gf_LandBase_Relations_31 R g1.at (by decide) rfl ?_
  refine go_aload_n (i := 2) (pc' := 22) dX6_doInteriorsMeet_21 rfl rfl rfl ?_
  refine go_getS (pc' := 25) dX6_doInteriorsMeet_22 rfl gf_LandBase_Relations_31 R g2.at (by decide) rfl ?_
  refine go_icmp_gt (pc' := 28) (tgt := 32) dX6_doInteriorsMeet_25 (by decide) rfl (fun c101 => ?_) (fun c101 => ?_)
  · have hf := it c101 hf
    refine go_aload_n (i := 1) (pc' := 33) dX6_doInteriorsMeet_32 rfl rfl rfl ?_
    exact t_X6_doInteriorsMeet_33 R gs0 g1 hf
  · have hf := ie c101 hf
    refine go_aload_n (i := 2) (pc' := 29) dX6_doInteriorsMeet_28 rfl rfl rfl ?_
    refine go_goto (pc' := 0) (tgt := 33) dX6_doInteriorsMeet_29 (by decide) ?_
    exact t_X6_doInteriorsMeet_33 R gs0 g2 hf
def f_X6_doInteriorsMeet (n : Nat) (a1 : Nat) (a2 : Nat) (σ : xσ) : Option (Int32 × xσ) := gd (okS n a1) (gd (okS n a2) (if (sI σ a2 0) < (sI σ a1 0) then b_X6_doInteriorsMeet_16 n a1 a2 a2 σ else b_X6_doInteriorsMeet_16 n a1 a2 a1 σ))
set_option maxRecDepth 100000 in
set_option maxHeartbeats 4000000 in
theorem c_X6_doInteriorsMeet {G : xG} {n : Nat} {σ : xσ} {h : xH} {a1 : Nat} {a2 : Nat} {v1 : Int32} {σ1 : xσ} (R : Rl n σ h) (hf : f_X6_doInteriorsMeet n a1 a2 σ = some (v1, σ1)) : Ca G mX6_doInteriorsMeet [.ref 29, .ref a1, .ref a2] h (fun v h' => v = some (.int v1) ∧ Rl n σ1 h') := by
  refine Ca.of rfl (Nat.le_of_ble_eq_true rfl) ?_
  generalize hr : (v1, σ1) = r at hf
  suffices q : Go G mX6_doInteriorsMeet 0 (xent (xMl mX6_doInteriorsMeet) [.ref 29, .ref a1, .ref a2]) [] h (fun v h' => xRok (xRt mX6_doInteriorsMeet) v ∧ v = some (.int r.1) ∧ Rl n r.2 h') by
    subst hr
    exact q
  clear hr
  rw [f_X6_doInteriorsMeet] at hf
  obtain ⟨g1, hf⟩ := gd_some hf
  obtain ⟨g2, hf⟩ := gd_some hf
  refine go_aload_n (i := 1) (pc' := 1) dX6_doInteriorsMeet_0 rfl rfl rfl ?_
  refine go_getS (pc' := 4) dX6_doInteriorsMeet_1 rfl gf_LandBase_Relations_31 R g1.at (by decide) rfl ?_
  refine go_aload_n (i := 2) (pc' := 5) dX6_doInteriorsMeet_4 rfl rfl rfl ?_
  refine go_getS (pc' := 8) dX6_doInteriorsMeet_5 rfl gf_LandBase_Relations_31 R g2.at (by decide) rfl ?_
  refine go_icmp_gt (pc' := 11) (tgt := 15) dX6_doInteriorsMeet_8 (by decide) rfl (fun c101 => ?_) (fun c101 => ?_)
  · have hf := it c101 hf
    refine go_aload_n (i := 2) (pc' := 16) dX6_doInteriorsMeet_15 rfl rfl rfl ?_
    exact t_X6_doInteriorsMeet_16 R g1 g2 g2 hf
  · have hf := ie c101 hf
    refine go_aload_n (i := 1) (pc' := 12) dX6_doInteriorsMeet_11 rfl rfl rfl ?_
    refine go_goto (pc' := 0) (tgt := 16) dX6_doInteriorsMeet_12 (by decide) ?_
    exact t_X6_doInteriorsMeet_16 R g1 g2 g1 hf
def f_X7_isBoxWithin (n : Nat) (a0 : Nat) (a1 : Nat) (σ : xσ) : Option (Int32 × xσ) := gd (okS n a0) (gd (okS n a1) (if (sI σ a0 4) < (sI σ a1 4) then some (0, σ) else if (sI σ a1 6) < (sI σ a0 6) then some (0, σ) else if (sI σ a0 5) < (sI σ a1 5) then some (0, σ) else if (sI σ a1 7) < (sI σ a0 7) then some (0, σ) else some (1, σ)))
set_option maxRecDepth 100000 in
set_option maxHeartbeats 4000000 in
theorem c_X7_isBoxWithin {G : xG} {n : Nat} {σ : xσ} {h : xH} {a0 : Nat} {a1 : Nat} {v1 : Int32} {σ1 : xσ} (R : Rl n σ h) (hf : f_X7_isBoxWithin n a0 a1 σ = some (v1, σ1)) : Ca G mX7_isBoxWithin [.ref a0, .ref a1] h (fun v h' => v = some (.int v1) ∧ Rl n σ1 h') := by
  refine Ca.of rfl (Nat.le_of_ble_eq_true rfl) ?_
  generalize hr : (v1, σ1) = r at hf
  suffices q : Go G mX7_isBoxWithin 0 (xent (xMl mX7_isBoxWithin) [.ref a0, .ref a1]) [] h (fun v h' => xRok (xRt mX7_isBoxWithin) v ∧ v = some (.int r.1) ∧ Rl n r.2 h') by
    subst hr
    exact q
  clear hr
  rw [f_X7_isBoxWithin] at hf
  obtain ⟨g0, hf⟩ := gd_some hf
  obtain ⟨g1, hf⟩ := gd_some hf
  refine go_aload_n (i := 0) (pc' := 1) dX7_isBoxWithin_0 rfl rfl rfl ?_
  refine go_getS (pc' := 4) dX7_isBoxWithin_1 rfl gf_LandBase_Shape_39 R g0.at (by decide) rfl ?_
  refine go_aload_n (i := 1) (pc' := 5) dX7_isBoxWithin_4 rfl rfl rfl ?_
  refine go_getS (pc' := 8) dX7_isBoxWithin_5 rfl gf_LandBase_Shape_39 R g1.at (by decide) rfl ?_
  refine go_icmp_lt (pc' := 11) (tgt := 48) dX7_isBoxWithin_8 (by decide) rfl (fun c101 => ?_) (fun c101 => ?_)
  · have hf := it c101 hf
    refine go_iconst (v := 0) (pc' := 49) dX7_isBoxWithin_48 rfl (by decide) ?_
    obtain rfl := Option.some.inj hf
    exact Go.ret (v := some (.int _)) dX7_isBoxWithin_49 ⟨_, rfl⟩ ⟨rfl, rfl, R⟩
  · have hf := ie c101 hf
    refine go_aload_n (i := 0) (pc' := 12) dX7_isBoxWithin_11 rfl rfl rfl ?_
    refine go_getS (pc' := 15) dX7_isBoxWithin_12 rfl gf_LandBase_Shape_42 R g0.at (by decide) rfl ?_
    refine go_aload_n (i := 1) (pc' := 16) dX7_isBoxWithin_15 rfl rfl rfl ?_
    refine go_getS (pc' := 19) dX7_isBoxWithin_16 rfl gf_LandBase_Shape_42 R g1.at (by decide) rfl ?_
    refine go_icmp_gt (pc' := 22) (tgt := 48) dX7_isBoxWithin_19 (by decide) rfl (fun c102 => ?_) (fun c102 => ?_)
    · have hf := it c102 hf
      refine go_iconst (v := 0) (pc' := 49) dX7_isBoxWithin_48 rfl (by decide) ?_
      obtain rfl := Option.some.inj hf
      exact Go.ret (v := some (.int _)) dX7_isBoxWithin_49 ⟨_, rfl⟩ ⟨rfl, rfl, R⟩
    · have hf := ie c102 hf
      refine go_aload_n (i := 0) (pc' := 23) dX7_isBoxWithin_22 rfl rfl rfl ?_
      refine go_getS (pc' := 26) dX7_isBoxWithin_23 rfl gf_LandBase_Shape_45 R g0.at (by decide) rfl ?_
      refine go_aload_n (i := 1) (pc' := 27) dX7_isBoxWithin_26 rfl rfl rfl ?_
      refine go_getS (pc' := 30) dX7_isBoxWithin_27 rfl gf_LandBase_Shape_45 R g1.at (by decide) rfl ?_
      refine go_icmp_lt (pc' := 33) (tgt := 48) dX7_isBoxWithin_30 (by decide) rfl (fun c103 => ?_) (fun c103 => ?_)
      · have hf := it c103 hf
        refine go_iconst (v := 0) (pc' := 49) dX7_isBoxWithin_48 rfl (by decide) ?_
        obtain rfl := Option.some.inj hf
        exact Go.ret (v := some (.int _)) dX7_isBoxWithin_49 ⟨_, rfl⟩ ⟨rfl, rfl, R⟩
      · have hf := ie c103 hf
        refine go_aload_n (i := 0) (pc' := 34) dX7_isBoxWithin_33 rfl rfl rfl ?_
        refine go_getS (pc' := 37) dX7_isBoxWithin_34 rfl gf_LandBase_Shape_48 R g0.at (by decide) rfl ?_
        refine go_aload_n (i := 1) (pc' := 38) dX7_isBoxWithin_37 rfl rfl rfl ?_
        refine go_getS (pc' := 41) dX7_isBoxWithin_38 rfl gf_LandBase_Shape_48 R g1.at (by decide) rfl ?_
        refine go_icmp_gt (pc' := 44) (tgt := 48) dX7_isBoxWithin_41 (by decide) rfl (fun c104 => ?_) (fun c104 => ?_)
        · have hf := it c104 hf
          refine go_iconst (v := 0) (pc' := 49) dX7_isBoxWithin_48 rfl (by decide) ?_
          obtain rfl := Option.some.inj hf
          exact Go.ret (v := some (.int _)) dX7_isBoxWithin_49 ⟨_, rfl⟩ ⟨rfl, rfl, R⟩
        · have hf := ie c104 hf
          refine go_iconst (v := 1) (pc' := 45) dX7_isBoxWithin_44 rfl (by decide) ?_
          refine go_goto (pc' := 0) (tgt := 49) dX7_isBoxWithin_45 (by decide) ?_
          obtain rfl := Option.some.inj hf
          exact Go.ret (v := some (.int _)) dX7_isBoxWithin_49 ⟨_, rfl⟩ ⟨rfl, rfl, R⟩
def b_X6_isWayCovered_245 (n : Nat) (k90 : Nat → Int32 → Nat → Nat → Int32 → Int32 → Int32 → xσ → Option (Int32 × xσ)) (k109 : Nat → Int32 → Nat → Nat → Int32 → Int32 → Int32 → Int32 → xσ → Option (Int32 × xσ)) (a0 : Nat) (x1 : Int32) (a2 : Nat) (a5 : Nat) (x6 : Int32) (x7 : Int32) (x8 : Int32) (x9 : Int32) (σ : xσ) : Option (Int32 × xσ) := k109 a0 x1 a2 a5 x6 x7 x8 (x9 + 1) σ
set_option maxRecDepth 100000 in
set_option maxHeartbeats 4000000 in
theorem t_X6_isWayCovered_245 {G : xG} {n : Nat} {k90 : Nat → Int32 → Nat → Nat → Int32 → Int32 → Int32 → xσ → Option (Int32 × xσ)} {k109 : Nat → Int32 → Nat → Nat → Int32 → Int32 → Int32 → Int32 → xσ → Option (Int32 × xσ)} (hk90 : ∀ {a0 : Nat} {x1 : Int32} {a2 : Nat} {a5 : Nat} {x6 : Int32} {x7 : Int32} {x8 : Int32} {σ : xσ} {h : xH} {r : Int32 × xσ} {d3 : Option Value} {d4 : Option Value} {d9 : Option Value} {d10 : Option Value}, Rl n σ h → okS n a0 → okS n a2 → okX n a5 → k90 a0 x1 a2 a5 x6 x7 x8 σ = some r → Go G mX6_isWayCovered 90 [some (.ref a0), some (.int x1), some (.ref a2), d3, d4, some (.ref a5), some (.int x6), some (.int x7), some (.int x8), d9, d10] [] h (fun v h' => xRok (xRt mX6_isWayCovered) v ∧ v = some (.int r.1) ∧ Rl n r.2 h')) (hk109 : ∀ {a0 : Nat} {x1 : Int32} {a2 : Nat} {a5 : Nat} {x6 : Int32} {x7 : Int32} {x8 : Int32} {x9 : Int32} {σ : xσ} {h : xH} {r : Int32 × xσ} {d3 : Option Value} {d4 : Option Value} {d10 : Option Value}, Rl n σ h → okS n a0 → okS n a2 → okX n a5 → k109 a0 x1 a2 a5 x6 x7 x8 x9 σ = some r → Go G mX6_isWayCovered 109 [some (.ref a0), some (.int x1), some (.ref a2), d3, d4, some (.ref a5), some (.int x6), some (.int x7), some (.int x8), some (.int x9), d10] [] h (fun v h' => xRok (xRt mX6_isWayCovered) v ∧ v = some (.int r.1) ∧ Rl n r.2 h')) {a0 : Nat} {x1 : Int32} {a2 : Nat} {a5 : Nat} {x6 : Int32} {x7 : Int32} {x8 : Int32} {x9 : Int32} {σ : xσ} {h : xH} {r : Int32 × xσ} {d3 : Option Value} {d4 : Option Value} {d10 : Option Value} : Rl n σ h → okS n a0 → okS n a2 → okX n a5 → b_X6_isWayCovered_245 n k90 k109 a0 x1 a2 a5 x6 x7 x8 x9 σ = some r → Go G mX6_isWayCovered 245 [some (.ref a0), some (.int x1), some (.ref a2), d3, d4, some (.ref a5), some (.int x6), some (.int x7), some (.int x8), some (.int x9), d10] [] h (fun v h' => xRok (xRt mX6_isWayCovered) v ∧ v = some (.int r.1) ∧ Rl n r.2 h') := by
  intro R g0 g2 g5 hf
  rw [b_X6_isWayCovered_245] at hf
  refine go_iincC (kk := 1) (pc' := 248) dX6_isWayCovered_245 rfl rfl (by decide) (by decide) rfl ?_
  refine go_goto (pc' := 0) (tgt := 109) dX6_isWayCovered_248 (by decide) ?_
  exact hk109 R g0 g2 g5 hf
def b_X6_isWayCovered_165 (n : Nat) (k90 : Nat → Int32 → Nat → Nat → Int32 → Int32 → Int32 → xσ → Option (Int32 × xσ)) (k109 : Nat → Int32 → Nat → Nat → Int32 → Int32 → Int32 → Int32 → xσ → Option (Int32 × xσ)) (a0 : Nat) (x1 : Int32) (a2 : Nat) (a5 : Nat) (x6 : Int32) (x7 : Int32) (x8 : Int32) (x9 : Int32) (xs0 : Int32) (σ : xσ) : Option (Int32 × xσ) := if xs0 = 0 then k109 a0 x1 a2 a5 x6 x7 x8 (x9 + 1) σ else gd (inb x9 40) (gd (inb x9 40) (bd (f_X4_sideOf n a0 x1 ((sI σ (a2 + 1) x9.toNatClampNeg).toInt64) ((sI σ (a2 + 2) x9.toNatClampNeg).toInt64) σ) (fun v104 σ105 => if (lg_cmp v104 ((0 : Int64))) = 0 then gd (inb (x9 + 1) 40) (gd (inb (x9 + 1) 40) (bd (f_X4_sideOf n a0 x1 ((sI σ105 (a2 + 1) (x9 + 1).toNatClampNeg).toInt64) ((sI σ105 (a2 + 2) (x9 + 1).toNatClampNeg).toInt64) σ105) (fun v112 σ113 => if (lg_cmp v112 ((0 : Int64))) = 0 then gd (inb x9 40) (gd (inb (x9 + 1) 40) (st (imax (sI σ113 a5 x9.toNatClampNeg) (sI σ113 a5 (x9 + 1).toNatClampNeg)) (fun x120 => b_X6_isWayCovered_245 n k90 k109 a0 x1 a2 a5 x120 x7 x8 x9 σ113))) else k109 a0 x1 a2 a5 x6 x7 x8 (x9 + 1) σ113))) else k109 a0 x1 a2 a5 x6 x7 x8 (x9 + 1) σ105)))
set_option maxRecDepth 100000 in
set_option maxHeartbeats 4000000 in
theorem t_X6_isWayCovered_165 {G : xG} {n : Nat} {k90 : Nat → Int32 → Nat → Nat → Int32 → Int32 → Int32 → xσ → Option (Int32 × xσ)} {k109 : Nat → Int32 → Nat → Nat → Int32 → Int32 → Int32 → Int32 → xσ → Option (Int32 × xσ)} (hk90 : ∀ {a0 : Nat} {x1 : Int32} {a2 : Nat} {a5 : Nat} {x6 : Int32} {x7 : Int32} {x8 : Int32} {σ : xσ} {h : xH} {r : Int32 × xσ} {d3 : Option Value} {d4 : Option Value} {d9 : Option Value} {d10 : Option Value}, Rl n σ h → okS n a0 → okS n a2 → okX n a5 → k90 a0 x1 a2 a5 x6 x7 x8 σ = some r → Go G mX6_isWayCovered 90 [some (.ref a0), some (.int x1), some (.ref a2), d3, d4, some (.ref a5), some (.int x6), some (.int x7), some (.int x8), d9, d10] [] h (fun v h' => xRok (xRt mX6_isWayCovered) v ∧ v = some (.int r.1) ∧ Rl n r.2 h')) (hk109 : ∀ {a0 : Nat} {x1 : Int32} {a2 : Nat} {a5 : Nat} {x6 : Int32} {x7 : Int32} {x8 : Int32} {x9 : Int32} {σ : xσ} {h : xH} {r : Int32 × xσ} {d3 : Option Value} {d4 : Option Value} {d10 : Option Value}, Rl n σ h → okS n a0 → okS n a2 → okX n a5 → k109 a0 x1 a2 a5 x6 x7 x8 x9 σ = some r → Go G mX6_isWayCovered 109 [some (.ref a0), some (.int x1), some (.ref a2), d3, d4, some (.ref a5), some (.int x6), some (.int x7), some (.int x8), some (.int x9), d10] [] h (fun v h' => xRok (xRt mX6_isWayCovered) v ∧ v = some (.int r.1) ∧ Rl n r.2 h')) {a0 : Nat} {x1 : Int32} {a2 : Nat} {a5 : Nat} {x6 : Int32} {x7 : Int32} {x8 : Int32} {x9 : Int32} {xs0 : Int32} {σ : xσ} {h : xH} {r : Int32 × xσ} {d3 : Option Value} {d4 : Option Value} {d10 : Option Value} : Rl n σ h → okS n a0 → okS n a2 → okX n a5 → b_X6_isWayCovered_165 n k90 k109 a0 x1 a2 a5 x6 x7 x8 x9 xs0 σ = some r → Go G mX6_isWayCovered 165 [some (.ref a0), some (.int x1), some (.ref a2), d3, d4, some (.ref a5), some (.int x6), some (.int x7), some (.int x8), some (.int x9), d10] [.int xs0] h (fun v h' => xRok (xRt mX6_isWayCovered) v ∧ v = some (.int r.1) ∧ Rl n r.2 h') := by
  intro R g0 g2 g5 hf
  rw [b_X6_isWayCovered_165] at hf
  refine go_istoreE rfl (pc' := 167) dX6_isWayCovered_165 rfl (by decide) rfl ?_
  refine go_iload (pc' := 169) dX6_isWayCovered_167 rfl rfl ?_
  refine go_if_eq (pc' := 172) (tgt := 245) dX6_isWayCovered_169 (by decide) rfl (fun c101 => ?_) (fun c101 => ?_)
  · have hf := it c101 hf
    refine go_iincC (kk := 1) (pc' := 248) dX6_isWayCovered_245 rfl rfl (by decide) (by decide) rfl ?_
    refine go_goto (pc' := 0) (tgt := 109) dX6_isWayCovered_248 (by decide) ?_
    exact hk109 R g0 g2 g5 hf
  · have hf := ie c101 hf
    refine go_aload_n (i := 0) (pc' := 173) dX6_isWayCovered_172 rfl rfl rfl ?_
    refine go_iload_n (i := 1) (pc' := 174) dX6_isWayCovered_173 rfl rfl rfl ?_
    refine go_aload_n (i := 2) (pc' := 175) dX6_isWayCovered_174 rfl rfl rfl ?_
    refine go_getS (pc' := 178) dX6_isWayCovered_175 rfl gf_LandBase_Relations_35 R g2.at (by decide) rfl ?_
    refine go_iload (pc' := 180) dX6_isWayCovered_178 rfl rfl ?_
    obtain ⟨g102, hf⟩ := gd_some hf
    refine go_ialoadS (pc' := 181) dX6_isWayCovered_180 rfl R g2.x g102 ?_
    refine go_i2l (pc' := 182) dX6_isWayCovered_181 rfl rfl ?_
    refine go_aload_n (i := 2) (pc' := 183) dX6_isWayCovered_182 rfl rfl rfl ?_
    refine go_getS (pc' := 186) dX6_isWayCovered_183 rfl gf_LandBase_Relations_39 R g2.at (by decide) rfl ?_
    refine go_iload (pc' := 188) dX6_isWayCovered_186 rfl rfl ?_
    obtain ⟨g103, hf⟩ := gd_some hf
    refine go_ialoadS (pc' := 189) dX6_isWayCovered_188 rfl R g2.y g103 ?_
    refine go_i2l (pc' := 190) dX6_isWayCovered_189 rfl rfl ?_
    obtain ⟨v104, σ105, e106, hf⟩ := bd_some hf
    refine go_invS (As := [_, _, _, _]) (pc' := 193) dX6_isWayCovered_190 rfl cf_X6_isWayCovered_105 rfl rfl (Nat.le_of_ble_eq_true rfl) (c_X4_sideOf R e106) (fun q107v h108 q107 => ?_)
    obtain ⟨rfl, R⟩ := q107
    refine go_lconst (v := 0) (pc' := 194) dX6_isWayCovered_193 rfl (by decide) ?_
    refine go_lcmp (pc' := 195) dX6_isWayCovered_194 rfl ?_
    refine go_if_ne (pc' := 198) (tgt := 245) dX6_isWayCovered_195 (by decide) rfl (fun c109 => ?_) (fun c109 => ?_)
    · have hf := ie c109 hf
      refine go_iincC (kk := 1) (pc' := 248) dX6_isWayCovered_245 rfl rfl (by decide) (by decide) rfl ?_
      refine go_goto (pc' := 0) (tgt := 109) dX6_isWayCovered_248 (by decide) ?_
      exact hk109 R g0 g2 g5 hf
    · have hf := it c109 hf
      refine go_aload_n (i := 0) (pc' := 199) dX6_isWayCovered_198 rfl rfl rfl ?_
      refine go_iload_n (i := 1) (pc' := 200) dX6_isWayCovered_199 rfl rfl rfl ?_
      refine go_aload_n (i := 2) (pc' := 201) dX6_isWayCovered_200 rfl rfl rfl ?_
      refine go_getS (pc' := 204) dX6_isWayCovered_201 rfl gf_LandBase_Relations_35 R g2.at (by decide) rfl ?_
      refine go_iload (pc' := 206) dX6_isWayCovered_204 rfl rfl ?_
      refine go_iconst (v := 1) (pc' := 207) dX6_isWayCovered_206 rfl (by decide) ?_
      refine go_iadd (pc' := 208) dX6_isWayCovered_207 rfl ?_
      obtain ⟨g110, hf⟩ := gd_some hf
      refine go_ialoadS (pc' := 209) dX6_isWayCovered_208 rfl R g2.x g110 ?_
      refine go_i2l (pc' := 210) dX6_isWayCovered_209 rfl rfl ?_
      refine go_aload_n (i := 2) (pc' := 211) dX6_isWayCovered_210 rfl rfl rfl ?_
      refine go_getS (pc' := 214) dX6_isWayCovered_211 rfl gf_LandBase_Relations_39 R g2.at (by decide) rfl ?_
      refine go_iload (pc' := 216) dX6_isWayCovered_214 rfl rfl ?_
      refine go_iconst (v := 1) (pc' := 217) dX6_isWayCovered_216 rfl (by decide) ?_
      refine go_iadd (pc' := 218) dX6_isWayCovered_217 rfl ?_
      obtain ⟨g111, hf⟩ := gd_some hf
      refine go_ialoadS (pc' := 219) dX6_isWayCovered_218 rfl R g2.y g111 ?_
      refine go_i2l (pc' := 220) dX6_isWayCovered_219 rfl rfl ?_
      obtain ⟨v112, σ113, e114, hf⟩ := bd_some hf
      refine go_invS (As := [_, _, _, _]) (pc' := 223) dX6_isWayCovered_220 rfl cf_X6_isWayCovered_105 rfl rfl (Nat.le_of_ble_eq_true rfl) (c_X4_sideOf R e114) (fun q115v h116 q115 => ?_)
      obtain ⟨rfl, R⟩ := q115
      refine go_lconst (v := 0) (pc' := 224) dX6_isWayCovered_223 rfl (by decide) ?_
      refine go_lcmp (pc' := 225) dX6_isWayCovered_224 rfl ?_
      refine go_if_ne (pc' := 228) (tgt := 245) dX6_isWayCovered_225 (by decide) rfl (fun c117 => ?_) (fun c117 => ?_)
      · have hf := ie c117 hf
        refine go_iincC (kk := 1) (pc' := 248) dX6_isWayCovered_245 rfl rfl (by decide) (by decide) rfl ?_
        refine go_goto (pc' := 0) (tgt := 109) dX6_isWayCovered_248 (by decide) ?_
        exact hk109 R g0 g2 g5 hf
      · have hf := it c117 hf
        refine go_aload (pc' := 230) dX6_isWayCovered_228 rfl rfl ?_
        refine go_iload (pc' := 232) dX6_isWayCovered_230 rfl rfl ?_
        obtain ⟨g118, hf⟩ := gd_some hf
        refine go_ialoadS (pc' := 233) dX6_isWayCovered_232 rfl R g5 g118 ?_
        refine go_aload (pc' := 235) dX6_isWayCovered_233 rfl rfl ?_
        refine go_iload (pc' := 237) dX6_isWayCovered_235 rfl rfl ?_
        refine go_iconst (v := 1) (pc' := 238) dX6_isWayCovered_237 rfl (by decide) ?_
        refine go_iadd (pc' := 239) dX6_isWayCovered_238 rfl ?_
        obtain ⟨g119, hf⟩ := gd_some hf
        refine go_ialoadS (pc' := 240) dX6_isWayCovered_239 rfl R g5 g119 ?_
        refine go_mmax (pc' := 243) dX6_isWayCovered_240 rfl cf_X6_isWayCovered_102 (Nat.le_of_ble_eq_true rfl) ?_
        obtain ⟨x120, e121, hf⟩ := st_some hf
        refine go_istoreE e121 (pc' := 245) dX6_isWayCovered_243 rfl (by decide) rfl ?_
        exact t_X6_isWayCovered_245 @hk90 @hk109 R g0 g2 g5 hf
def l_X6_isWayCovered_109 (n : Nat) (k90 : Nat → Int32 → Nat → Nat → Int32 → Int32 → Int32 → xσ → Option (Int32 × xσ)) : Nat → Nat → Int32 → Nat → Nat → Int32 → Int32 → Int32 → Int32 → xσ → Option (Int32 × xσ)
  | 0, _, _, _, _, _, _, _, _, _ => none
  | f + 1, a0, x1, a2, a5, x6, x7, x8, x9, σ => if (sI σ a2 1) ≤ (x9 + 1) then k90 a0 x1 a2 a5 x6 x7 (x8 + 1) σ else gd (inb x9 40) (gd (inb (x9 + 1) 40) (if x6 < (imin (sI σ a5 x9.toNatClampNeg) (sI σ a5 (x9 + 1).toNatClampNeg)) then b_X6_isWayCovered_165 n k90 (l_X6_isWayCovered_109 n k90 f) a0 x1 a2 a5 x6 x7 x8 x9 0 σ else gd (inb x9 40) (gd (inb (x9 + 1) 40) (if (imax (sI σ a5 x9.toNatClampNeg) (sI σ a5 (x9 + 1).toNatClampNeg)) ≤ x6 then b_X6_isWayCovered_165 n k90 (l_X6_isWayCovered_109 n k90 f) a0 x1 a2 a5 x6 x7 x8 x9 0 σ else b_X6_isWayCovered_165 n k90 (l_X6_isWayCovered_109 n k90 f) a0 x1 a2 a5 x6 x7 x8 x9 1 σ))))
set_option maxRecDepth 100000 in
set_option maxHeartbeats 4000000 in
theorem t_X6_isWayCovered_109 {G : xG} {n : Nat} {k90 : Nat → Int32 → Nat → Nat → Int32 → Int32 → Int32 → xσ → Option (Int32 × xσ)} (hk90 : ∀ {a0 : Nat} {x1 : Int32} {a2 : Nat} {a5 : Nat} {x6 : Int32} {x7 : Int32} {x8 : Int32} {σ : xσ} {h : xH} {r : Int32 × xσ} {d3 : Option Value} {d4 : Option Value} {d9 : Option Value} {d10 : Option Value}, Rl n σ h → okS n a0 → okS n a2 → okX n a5 → k90 a0 x1 a2 a5 x6 x7 x8 σ = some r → Go G mX6_isWayCovered 90 [some (.ref a0), some (.int x1), some (.ref a2), d3, d4, some (.ref a5), some (.int x6), some (.int x7), some (.int x8), d9, d10] [] h (fun v h' => xRok (xRt mX6_isWayCovered) v ∧ v = some (.int r.1) ∧ Rl n r.2 h')) : ∀ (f : Nat) {a0 : Nat} {x1 : Int32} {a2 : Nat} {a5 : Nat} {x6 : Int32} {x7 : Int32} {x8 : Int32} {x9 : Int32} {σ : xσ} {h : xH} {r : Int32 × xσ} {d3 : Option Value} {d4 : Option Value} {d10 : Option Value}, Rl n σ h → okS n a0 → okS n a2 → okX n a5 → l_X6_isWayCovered_109 n k90 f a0 x1 a2 a5 x6 x7 x8 x9 σ = some r → Go G mX6_isWayCovered 109 [some (.ref a0), some (.int x1), some (.ref a2), d3, d4, some (.ref a5), some (.int x6), some (.int x7), some (.int x8), some (.int x9), d10] [] h (fun v h' => xRok (xRt mX6_isWayCovered) v ∧ v = some (.int r.1) ∧ Rl n r.2 h') := by
  intro f
  induction f with
  | zero =>
    intros
    rename _ = some _ => hf
    rw [l_X6_isWayCovered_109] at hf
    cases hf
  | succ f ih =>
    intro a0 x1 a2 a5 x6 x7 x8 x9 σ h r d3 d4 d10 R g0 g2 g5 hf
    rw [l_X6_isWayCovered_109] at hf
    refine go_iload (pc' := 111) dX6_isWayCovered_109 rfl rfl ?_
    refine go_iconst (v := 1) (pc' := 112) dX6_isWayCovered_111 rfl (by decide) ?_
    refine go_iadd (pc' := 113) dX6_isWayCovered_112 rfl ?_
    refine go_aload_n (i := 2) (pc' := 114) dX6_isWayCovered_113 rfl rfl rfl ?_
    refine go_getS (pc' := 117) dX6_isWayCovered_114 rfl gf_LandBase_Relations_53 R g2.at (by decide) rfl ?_
    refine go_icmp_ge (pc' := 120) (tgt := 251) dX6_isWayCovered_117 (by decide) rfl (fun c101 => ?_) (fun c101 => ?_)
    · have hf := it c101 hf
      refine go_iincC (kk := 1) (pc' := 254) dX6_isWayCovered_251 rfl rfl (by decide) (by decide) rfl ?_
      refine go_goto (pc' := 0) (tgt := 90) dX6_isWayCovered_254 (by decide) ?_
      exact hk90 R g0 g2 g5 hf
    · have hf := ie c101 hf
      refine go_aload (pc' := 122) dX6_isWayCovered_120 rfl rfl ?_
      refine go_iload (pc' := 124) dX6_isWayCovered_122 rfl rfl ?_
      obtain ⟨g102, hf⟩ := gd_some hf
      refine go_ialoadS (pc' := 125) dX6_isWayCovered_124 rfl R g5 g102 ?_
      refine go_aload (pc' := 127) dX6_isWayCovered_125 rfl rfl ?_
      refine go_iload (pc' := 129) dX6_isWayCovered_127 rfl rfl ?_
      refine go_iconst (v := 1) (pc' := 130) dX6_isWayCovered_129 rfl (by decide) ?_
      refine go_iadd (pc' := 131) dX6_isWayCovered_130 rfl ?_
      obtain ⟨g103, hf⟩ := gd_some hf
      refine go_ialoadS (pc' := 132) dX6_isWayCovered_131 rfl R g5 g103 ?_
      refine go_mmin (pc' := 135) dX6_isWayCovered_132 rfl cf_X6_isWayCovered_96 (Nat.le_of_ble_eq_true rfl) ?_
      refine go_iload (pc' := 137) dX6_isWayCovered_135 rfl rfl ?_
      refine go_icmp_gt (pc' := 140) (tgt := 164) dX6_isWayCovered_137 (by decide) rfl (fun c104 => ?_) (fun c104 => ?_)
      · have hf := it c104 hf
        refine go_iconst (v := 0) (pc' := 165) dX6_isWayCovered_164 rfl (by decide) ?_
        exact t_X6_isWayCovered_165 @hk90 @ih R g0 g2 g5 hf
      · have hf := ie c104 hf
        refine go_aload (pc' := 142) dX6_isWayCovered_140 rfl rfl ?_
        refine go_iload (pc' := 144) dX6_isWayCovered_142 rfl rfl ?_
        obtain ⟨g105, hf⟩ := gd_some hf
        refine go_ialoadS (pc' := 145) dX6_isWayCovered_144 rfl R g5 g105 ?_
        refine go_aload (pc' := 147) dX6_isWayCovered_145 rfl rfl ?_
        refine go_iload (pc' := 149) dX6_isWayCovered_147 rfl rfl ?_
        refine go_iconst (v := 1) (pc' := 150) dX6_isWayCovered_149 rfl (by decide) ?_
        refine go_iadd (pc' := 151) dX6_isWayCovered_150 rfl ?_
        obtain ⟨g106, hf⟩ := gd_some hf
        refine go_ialoadS (pc' := 152) dX6_isWayCovered_151 rfl R g5 g106 ?_
        refine go_mmax (pc' := 155) dX6_isWayCovered_152 rfl cf_X6_isWayCovered_102 (Nat.le_of_ble_eq_true rfl) ?_
        refine go_iload (pc' := 157) dX6_isWayCovered_155 rfl rfl ?_
        refine go_icmp_le (pc' := 160) (tgt := 164) dX6_isWayCovered_157 (by decide) rfl (fun c107 => ?_) (fun c107 => ?_)
        · have hf := it c107 hf
          refine go_iconst (v := 0) (pc' := 165) dX6_isWayCovered_164 rfl (by decide) ?_
          exact t_X6_isWayCovered_165 @hk90 @ih R g0 g2 g5 hf
        · have hf := ie c107 hf
          refine go_iconst (v := 1) (pc' := 161) dX6_isWayCovered_160 rfl (by decide) ?_
          refine go_goto (pc' := 0) (tgt := 165) dX6_isWayCovered_161 (by decide) ?_
          exact t_X6_isWayCovered_165 @hk90 @ih R g0 g2 g5 hf
def l_X6_isWayCovered_90 (n : Nat) : Nat → Nat → Int32 → Nat → Nat → Int32 → Int32 → Int32 → xσ → Option (Int32 × xσ)
  | 0, _, _, _, _, _, _, _, _ => none
  | f + 1, a0, x1, a2, a5, x6, x7, x8, σ => if (sI σ a2 1) ≤ x8 then if x6 < x7 then some (0, σ) else some (1, σ) else if x7 ≤ x6 then if x6 < x7 then some (0, σ) else some (1, σ) else l_X6_isWayCovered_109 n (l_X6_isWayCovered_90 n f) xFU a0 x1 a2 a5 x6 x7 x8 0 σ
set_option maxRecDepth 100000 in
set_option maxHeartbeats 4000000 in
theorem t_X6_isWayCovered_90 {G : xG} {n : Nat} : ∀ (f : Nat) {a0 : Nat} {x1 : Int32} {a2 : Nat} {a5 : Nat} {x6 : Int32} {x7 : Int32} {x8 : Int32} {σ : xσ} {h : xH} {r : Int32 × xσ} {d3 : Option Value} {d4 : Option Value} {d9 : Option Value} {d10 : Option Value}, Rl n σ h → okS n a0 → okS n a2 → okX n a5 → l_X6_isWayCovered_90 n f a0 x1 a2 a5 x6 x7 x8 σ = some r → Go G mX6_isWayCovered 90 [some (.ref a0), some (.int x1), some (.ref a2), d3, d4, some (.ref a5), some (.int x6), some (.int x7), some (.int x8), d9, d10] [] h (fun v h' => xRok (xRt mX6_isWayCovered) v ∧ v = some (.int r.1) ∧ Rl n r.2 h') := by
  intro f
  induction f with
  | zero =>
    intros
    rename _ = some _ => hf
    rw [l_X6_isWayCovered_90] at hf
    cases hf
  | succ f ih =>
    intro a0 x1 a2 a5 x6 x7 x8 σ h r d3 d4 d9 d10 R g0 g2 g5 hf
    rw [l_X6_isWayCovered_90] at hf
    refine go_iload (pc' := 92) dX6_isWayCovered_90 rfl rfl ?_
    refine go_aload_n (i := 2) (pc' := 93) dX6_isWayCovered_92 rfl rfl rfl ?_
    refine go_getS (pc' := 96) dX6_isWayCovered_93 rfl gf_LandBase_Relations_53 R g2.at (by decide) rfl ?_
    refine go_icmp_ge (pc' := 99) (tgt := 257) dX6_isWayCovered_96 (by decide) rfl (fun c101 => ?_) (fun c101 => ?_)
    · have hf := it c101 hf
      refine go_iload (pc' := 259) dX6_isWayCovered_257 rfl rfl ?_
      refine go_iload (pc' := 261) dX6_isWayCovered_259 rfl rfl ?_
      refine go_icmp_lt (pc' := 264) (tgt := 268) dX6_isWayCovered_261 (by decide) rfl (fun c102 => ?_) (fun c102 => ?_)
      · have hf := it c102 hf
        refine go_iconst (v := 0) (pc' := 269) dX6_isWayCovered_268 rfl (by decide) ?_
        obtain rfl := Option.some.inj hf
        exact Go.ret (v := some (.int _)) dX6_isWayCovered_269 ⟨_, rfl⟩ ⟨rfl, rfl, R⟩
      · have hf := ie c102 hf
        refine go_iconst (v := 1) (pc' := 265) dX6_isWayCovered_264 rfl (by decide) ?_
        refine go_goto (pc' := 0) (tgt := 269) dX6_isWayCovered_265 (by decide) ?_
        obtain rfl := Option.some.inj hf
        exact Go.ret (v := some (.int _)) dX6_isWayCovered_269 ⟨_, rfl⟩ ⟨rfl, rfl, R⟩
    · have hf := ie c101 hf
      refine go_iload (pc' := 101) dX6_isWayCovered_99 rfl rfl ?_
      refine go_iload (pc' := 103) dX6_isWayCovered_101 rfl rfl ?_
      refine go_icmp_ge (pc' := 106) (tgt := 257) dX6_isWayCovered_103 (by decide) rfl (fun c103 => ?_) (fun c103 => ?_)
      · have hf := it c103 hf
        refine go_iload (pc' := 259) dX6_isWayCovered_257 rfl rfl ?_
        refine go_iload (pc' := 261) dX6_isWayCovered_259 rfl rfl ?_
        refine go_icmp_lt (pc' := 264) (tgt := 268) dX6_isWayCovered_261 (by decide) rfl (fun c104 => ?_) (fun c104 => ?_)
        · have hf := it c104 hf
          refine go_iconst (v := 0) (pc' := 269) dX6_isWayCovered_268 rfl (by decide) ?_
          obtain rfl := Option.some.inj hf
          exact Go.ret (v := some (.int _)) dX6_isWayCovered_269 ⟨_, rfl⟩ ⟨rfl, rfl, R⟩
        · have hf := ie c104 hf
          refine go_iconst (v := 1) (pc' := 265) dX6_isWayCovered_264 rfl (by decide) ?_
          refine go_goto (pc' := 0) (tgt := 269) dX6_isWayCovered_265 (by decide) ?_
          obtain rfl := Option.some.inj hf
          exact Go.ret (v := some (.int _)) dX6_isWayCovered_269 ⟨_, rfl⟩ ⟨rfl, rfl, R⟩
      · have hf := ie c103 hf
        refine go_iconst (v := 0) (pc' := 107) dX6_isWayCovered_106 rfl (by decide) ?_
        refine go_istoreE rfl (pc' := 109) dX6_isWayCovered_107 rfl (by decide) rfl ?_
        exact t_X6_isWayCovered_109 @ih xFU R g0 g2 g5 hf
def b_X6_isWayCovered_55 (n : Nat) (a0 : Nat) (x1 : Int32) (a2 : Nat) (a4 : Nat) (as0 : Nat) (σ : xσ) : Option (Int32 × xσ) := gd (inb x1 40) (gd (inb (x1 + 1) 40) (st (imin (sI σ a4 x1.toNatClampNeg) (sI σ a4 (x1 + 1).toNatClampNeg)) (fun x103 => gd (inb x1 40) (gd (inb (x1 + 1) 40) (st (imax (sI σ a4 x1.toNatClampNeg) (sI σ a4 (x1 + 1).toNatClampNeg)) (fun x107 => l_X6_isWayCovered_90 n xFU a0 x1 a2 as0 x103 x107 0 σ))))))
set_option maxRecDepth 100000 in
set_option maxHeartbeats 4000000 in
theorem t_X6_isWayCovered_55 {G : xG} {n : Nat} {a0 : Nat} {x1 : Int32} {a2 : Nat} {a4 : Nat} {as0 : Nat} {σ : xσ} {h : xH} {r : Int32 × xσ} {d3 : Option Value} {d5 : Option Value} {d6 : Option Value} {d7 : Option Value} {d8 : Option Value} {d9 : Option Value} {d10 : Option Value} : Rl n σ h → okS n a0 → okS n a2 → okX n a4 → okX n as0 → b_X6_isWayCovered_55 n a0 x1 a2 a4 as0 σ = some r → Go G mX6_isWayCovered 55 [some (.ref a0), some (.int x1), some (.ref a2), d3, some (.ref a4), d5, d6, d7, d8, d9, d10] [.ref as0] h (fun v h' => xRok (xRt mX6_isWayCovered) v ∧ v = some (.int r.1) ∧ Rl n r.2 h') := by
  intro R g0 g2 g4 gs0 hf
  rw [b_X6_isWayCovered_55] at hf
  refine go_astore (pc' := 57) dX6_isWayCovered_55 rfl (by decide) rfl ?_
  refine go_aload (pc' := 59) dX6_isWayCovered_57 rfl rfl ?_
  refine go_iload_n (i := 1) (pc' := 60) dX6_isWayCovered_59 rfl rfl rfl ?_
  obtain ⟨g101, hf⟩ := gd_some hf
  refine go_ialoadS (pc' := 61) dX6_isWayCovered_60 rfl R g4 g101 ?_
  refine go_aload (pc' := 63) dX6_isWayCovered_61 rfl rfl ?_
  refine go_iload_n (i := 1) (pc' := 64) dX6_isWayCovered_63 rfl rfl rfl ?_
  refine go_iconst (v := 1) (pc' := 65) dX6_isWayCovered_64 rfl (by decide) ?_
  refine go_iadd (pc' := 66) dX6_isWayCovered_65 rfl ?_
  obtain ⟨g102, hf⟩ := gd_some hf
  refine go_ialoadS (pc' := 67) dX6_isWayCovered_66 rfl R g4 g102 ?_
  refine go_mmin (pc' := 70) dX6_isWayCovered_67 rfl cf_X6_isWayCovered_96 (Nat.le_of_ble_eq_true rfl) ?_
  obtain ⟨x103, e104, hf⟩ := st_some hf
  refine go_istoreE e104 (pc' := 72) dX6_isWayCovered_70 rfl (by decide) rfl ?_
  refine go_aload (pc' := 74) dX6_isWayCovered_72 rfl rfl ?_
  refine go_iload_n (i := 1) (pc' := 75) dX6_isWayCovered_74 rfl rfl rfl ?_
  obtain ⟨g105, hf⟩ := gd_some hf
  refine go_ialoadS (pc' := 76) dX6_isWayCovered_75 rfl R g4 g105 ?_
  refine go_aload (pc' := 78) dX6_isWayCovered_76 rfl rfl ?_
  refine go_iload_n (i := 1) (pc' := 79) dX6_isWayCovered_78 rfl rfl rfl ?_
  refine go_iconst (v := 1) (pc' := 80) dX6_isWayCovered_79 rfl (by decide) ?_
  refine go_iadd (pc' := 81) dX6_isWayCovered_80 rfl ?_
  obtain ⟨g106, hf⟩ := gd_some hf
  refine go_ialoadS (pc' := 82) dX6_isWayCovered_81 rfl R g4 g106 ?_
  refine go_mmax (pc' := 85) dX6_isWayCovered_82 rfl cf_X6_isWayCovered_102 (Nat.le_of_ble_eq_true rfl) ?_
  obtain ⟨x107, e108, hf⟩ := st_some hf
  refine go_istoreE e108 (pc' := 87) dX6_isWayCovered_85 rfl (by decide) rfl ?_
  refine go_iconst (v := 0) (pc' := 88) dX6_isWayCovered_87 rfl (by decide) ?_
  refine go_istoreE rfl (pc' := 90) dX6_isWayCovered_88 rfl (by decide) rfl ?_
  exact t_X6_isWayCovered_90 xFU R g0 g2 gs0 hf
def b_X6_isWayCovered_38 (n : Nat) (a0 : Nat) (x1 : Int32) (a2 : Nat) (x3 : Int32) (as0 : Nat) (σ : xσ) : Option (Int32 × xσ) := if x3 = 0 then b_X6_isWayCovered_55 n a0 x1 a2 as0 (a2 + 2) σ else b_X6_isWayCovered_55 n a0 x1 a2 as0 (a2 + 1) σ
set_option maxRecDepth 100000 in
set_option maxHeartbeats 4000000 in
theorem t_X6_isWayCovered_38 {G : xG} {n : Nat} {a0 : Nat} {x1 : Int32} {a2 : Nat} {x3 : Int32} {as0 : Nat} {σ : xσ} {h : xH} {r : Int32 × xσ} {d4 : Option Value} {d5 : Option Value} {d6 : Option Value} {d7 : Option Value} {d8 : Option Value} {d9 : Option Value} {d10 : Option Value} : Rl n σ h → okS n a0 → okS n a2 → okX n as0 → b_X6_isWayCovered_38 n a0 x1 a2 x3 as0 σ = some r → Go G mX6_isWayCovered 38 [some (.ref a0), some (.int x1), some (.ref a2), some (.int x3), d4, d5, d6, d7, d8, d9, d10] [.ref as0] h (fun v h' => xRok (xRt mX6_isWayCovered) v ∧ v = some (.int r.1) ∧ Rl n r.2 h') := by
  intro R g0 g2 gs0 hf
  rw [b_X6_isWayCovered_38] at hf
  refine go_astore (pc' := 40) dX6_isWayCovered_38 rfl (by decide) rfl ?_
  refine go_iload_n (i := 3) (pc' := 41) dX6_isWayCovered_40 rfl rfl rfl ?_
  refine go_if_eq (pc' := 44) (tgt := 51) dX6_isWayCovered_41 (by decide) rfl (fun c101 => ?_) (fun c101 => ?_)
  · have hf := it c101 hf
    refine go_aload_n (i := 2) (pc' := 52) dX6_isWayCovered_51 rfl rfl rfl ?_
    refine go_getS (pc' := 55) dX6_isWayCovered_52 rfl gf_LandBase_Relations_39 R g2.at (by decide) rfl ?_
    exact t_X6_isWayCovered_55 R g0 g2 gs0 g2.y hf
  · have hf := ie c101 hf
    refine go_aload_n (i := 2) (pc' := 45) dX6_isWayCovered_44 rfl rfl rfl ?_
    refine go_getS (pc' := 48) dX6_isWayCovered_45 rfl gf_LandBase_Relations_35 R g2.at (by decide) rfl ?_
    refine go_goto (pc' := 0) (tgt := 55) dX6_isWayCovered_48 (by decide) ?_
    exact t_X6_isWayCovered_55 R g0 g2 gs0 g2.x hf
def b_X6_isWayCovered_22 (n : Nat) (a0 : Nat) (x1 : Int32) (a2 : Nat) (xs0 : Int32) (σ : xσ) : Option (Int32 × xσ) := if xs0 = 0 then b_X6_isWayCovered_38 n a0 x1 a2 xs0 (a0 + 2) σ else b_X6_isWayCovered_38 n a0 x1 a2 xs0 (a0 + 1) σ
set_option maxRecDepth 100000 in
set_option maxHeartbeats 4000000 in
theorem t_X6_isWayCovered_22 {G : xG} {n : Nat} {a0 : Nat} {x1 : Int32} {a2 : Nat} {xs0 : Int32} {σ : xσ} {h : xH} {r : Int32 × xσ} {d3 : Option Value} {d4 : Option Value} {d5 : Option Value} {d6 : Option Value} {d7 : Option Value} {d8 : Option Value} {d9 : Option Value} {d10 : Option Value} : Rl n σ h → okS n a0 → okS n a2 → b_X6_isWayCovered_22 n a0 x1 a2 xs0 σ = some r → Go G mX6_isWayCovered 22 [some (.ref a0), some (.int x1), some (.ref a2), d3, d4, d5, d6, d7, d8, d9, d10] [.int xs0] h (fun v h' => xRok (xRt mX6_isWayCovered) v ∧ v = some (.int r.1) ∧ Rl n r.2 h') := by
  intro R g0 g2 hf
  rw [b_X6_isWayCovered_22] at hf
  refine go_istore_nE rfl (i := 3) (pc' := 23) dX6_isWayCovered_22 rfl rfl (by decide) rfl ?_
  refine go_iload_n (i := 3) (pc' := 24) dX6_isWayCovered_23 rfl rfl rfl ?_
  refine go_if_eq (pc' := 27) (tgt := 34) dX6_isWayCovered_24 (by decide) rfl (fun c101 => ?_) (fun c101 => ?_)
  · have hf := it c101 hf
    refine go_aload_n (i := 0) (pc' := 35) dX6_isWayCovered_34 rfl rfl rfl ?_
    refine go_getS (pc' := 38) dX6_isWayCovered_35 rfl gf_LandBase_Relations_39 R g0.at (by decide) rfl ?_
    exact t_X6_isWayCovered_38 R g0 g2 g0.y hf
  · have hf := ie c101 hf
    refine go_aload_n (i := 0) (pc' := 28) dX6_isWayCovered_27 rfl rfl rfl ?_
    refine go_getS (pc' := 31) dX6_isWayCovered_28 rfl gf_LandBase_Relations_35 R g0.at (by decide) rfl ?_
    refine go_goto (pc' := 0) (tgt := 38) dX6_isWayCovered_31 (by decide) ?_
    exact t_X6_isWayCovered_38 R g0 g2 g0.x hf
def f_X6_isWayCovered (n : Nat) (a0 : Nat) (x1 : Int32) (a2 : Nat) (σ : xσ) : Option (Int32 × xσ) := gd (okS n a0) (gd (okS n a2) (gd (inb x1 40) (gd (inb (x1 + 1) 40) (if (sI σ (a0 + 1) x1.toNatClampNeg) = (sI σ (a0 + 1) (x1 + 1).toNatClampNeg) then b_X6_isWayCovered_22 n a0 x1 a2 0 σ else b_X6_isWayCovered_22 n a0 x1 a2 1 σ))))
set_option maxRecDepth 100000 in
set_option maxHeartbeats 4000000 in
theorem c_X6_isWayCovered {G : xG} {n : Nat} {σ : xσ} {h : xH} {a0 : Nat} {x1 : Int32} {a2 : Nat} {v1 : Int32} {σ1 : xσ} (R : Rl n σ h) (hf : f_X6_isWayCovered n a0 x1 a2 σ = some (v1, σ1)) : Ca G mX6_isWayCovered [.ref a0, .int x1, .ref a2] h (fun v h' => v = some (.int v1) ∧ Rl n σ1 h') := by
  refine Ca.of rfl (Nat.le_of_ble_eq_true rfl) ?_
  generalize hr : (v1, σ1) = r at hf
  suffices q : Go G mX6_isWayCovered 0 (xent (xMl mX6_isWayCovered) [.ref a0, .int x1, .ref a2]) [] h (fun v h' => xRok (xRt mX6_isWayCovered) v ∧ v = some (.int r.1) ∧ Rl n r.2 h') by
    subst hr
    exact q
  clear hr
  rw [f_X6_isWayCovered] at hf
  obtain ⟨g0, hf⟩ := gd_some hf
  obtain ⟨g2, hf⟩ := gd_some hf
  refine go_aload_n (i := 0) (pc' := 1) dX6_isWayCovered_0 rfl rfl rfl ?_
  refine go_getS (pc' := 4) dX6_isWayCovered_1 rfl gf_LandBase_Relations_35 R g0.at (by decide) rfl ?_
  refine go_iload_n (i := 1) (pc' := 5) dX6_isWayCovered_4 rfl rfl rfl ?_
  obtain ⟨g101, hf⟩ := gd_some hf
  refine go_ialoadS (pc' := 6) dX6_isWayCovered_5 rfl R g0.x g101 ?_
  refine go_aload_n (i := 0) (pc' := 7) dX6_isWayCovered_6 rfl rfl rfl ?_
  refine go_getS (pc' := 10) dX6_isWayCovered_7 rfl gf_LandBase_Relations_35 R g0.at (by decide) rfl ?_
  refine go_iload_n (i := 1) (pc' := 11) dX6_isWayCovered_10 rfl rfl rfl ?_
  refine go_iconst (v := 1) (pc' := 12) dX6_isWayCovered_11 rfl (by decide) ?_
  refine go_iadd (pc' := 13) dX6_isWayCovered_12 rfl ?_
  obtain ⟨g102, hf⟩ := gd_some hf
  refine go_ialoadS (pc' := 14) dX6_isWayCovered_13 rfl R g0.x g102 ?_
  refine go_icmp_eq (pc' := 17) (tgt := 21) dX6_isWayCovered_14 (by decide) rfl (fun c103 => ?_) (fun c103 => ?_)
  · have hf := it c103 hf
    refine go_iconst (v := 0) (pc' := 22) dX6_isWayCovered_21 rfl (by decide) ?_
    exact t_X6_isWayCovered_22 R g0 g2 hf
  · have hf := ie c103 hf
    refine go_iconst (v := 1) (pc' := 18) dX6_isWayCovered_17 rfl (by decide) ?_
    refine go_goto (pc' := 0) (tgt := 22) dX6_isWayCovered_18 (by decide) ?_
    exact t_X6_isWayCovered_22 R g0 g2 hf
def l_X6_isLineWithin_2 (n : Nat) : Nat → Nat → Nat → Int32 → xσ → Option (Int32 × xσ)
  | 0, _, _, _, _ => none
  | f + 1, a0, a1, x2, σ => if (sI σ a0 1) ≤ (x2 + 1) then some (1, σ) else bd (f_X6_isWayCovered n a0 x2 a1 σ) (fun v102 σ103 => if v102 = 0 then some (0, σ103) else (l_X6_isLineWithin_2 n f) a0 a1 (x2 + 1) σ103)
set_option maxRecDepth 100000 in
set_option maxHeartbeats 4000000 in
theorem t_X6_isLineWithin_2 {G : xG} {n : Nat} : ∀ (f : Nat) {a0 : Nat} {a1 : Nat} {x2 : Int32} {σ : xσ} {h : xH} {r : Int32 × xσ}, Rl n σ h → okS n a0 → okS n a1 → l_X6_isLineWithin_2 n f a0 a1 x2 σ = some r → Go G mX6_isLineWithin 2 [some (.ref a0), some (.ref a1), some (.int x2)] [] h (fun v h' => xRok (xRt mX6_isLineWithin) v ∧ v = some (.int r.1) ∧ Rl n r.2 h') := by
  intro f
  induction f with
  | zero =>
    intros
    rename _ = some _ => hf
    rw [l_X6_isLineWithin_2] at hf
    cases hf
  | succ f ih =>
    intro a0 a1 x2 σ h r  R g0 g1 hf
    rw [l_X6_isLineWithin_2] at hf
    refine go_iload_n (i := 2) (pc' := 3) dX6_isLineWithin_2 rfl rfl rfl ?_
    refine go_iconst (v := 1) (pc' := 4) dX6_isLineWithin_3 rfl (by decide) ?_
    refine go_iadd (pc' := 5) dX6_isLineWithin_4 rfl ?_
    refine go_aload_n (i := 0) (pc' := 6) dX6_isLineWithin_5 rfl rfl rfl ?_
    refine go_getS (pc' := 9) dX6_isLineWithin_6 rfl gf_LandBase_Relations_53 R g0.at (by decide) rfl ?_
    refine go_icmp_ge (pc' := 12) (tgt := 29) dX6_isLineWithin_9 (by decide) rfl (fun c101 => ?_) (fun c101 => ?_)
    · have hf := it c101 hf
      refine go_iconst (v := 1) (pc' := 30) dX6_isLineWithin_29 rfl (by decide) ?_
      obtain rfl := Option.some.inj hf
      exact Go.ret (v := some (.int _)) dX6_isLineWithin_30 ⟨_, rfl⟩ ⟨rfl, rfl, R⟩
    · have hf := ie c101 hf
      refine go_aload_n (i := 0) (pc' := 13) dX6_isLineWithin_12 rfl rfl rfl ?_
      refine go_iload_n (i := 2) (pc' := 14) dX6_isLineWithin_13 rfl rfl rfl ?_
      refine go_aload_n (i := 1) (pc' := 15) dX6_isLineWithin_14 rfl rfl rfl ?_
      obtain ⟨v102, σ103, e104, hf⟩ := bd_some hf
      refine go_invS (As := [_, _, _]) (pc' := 18) dX6_isLineWithin_15 rfl cf_X6_isLineWithin_92 rfl rfl (Nat.le_of_ble_eq_true rfl) (c_X6_isWayCovered R e104) (fun q105v h106 q105 => ?_)
      obtain ⟨rfl, R⟩ := q105
      refine go_if_ne (pc' := 21) (tgt := 23) dX6_isLineWithin_18 (by decide) rfl (fun c107 => ?_) (fun c107 => ?_)
      · have hf := ie c107 hf
        refine go_iincC (kk := 1) (pc' := 26) dX6_isLineWithin_23 rfl rfl (by decide) (by decide) rfl ?_
        refine go_goto (pc' := 0) (tgt := 2) dX6_isLineWithin_26 (by decide) ?_
        exact ih R g0 g1 hf
      · have hf := it c107 hf
        refine go_iconst (v := 0) (pc' := 22) dX6_isLineWithin_21 rfl (by decide) ?_
        obtain rfl := Option.some.inj hf
        exact Go.ret (v := some (.int _)) dX6_isLineWithin_22 ⟨_, rfl⟩ ⟨rfl, rfl, R⟩
def f_X6_isLineWithin (n : Nat) (a0 : Nat) (a1 : Nat) (σ : xσ) : Option (Int32 × xσ) := gd (okS n a0) (gd (okS n a1) (l_X6_isLineWithin_2 n xFU a0 a1 0 σ))
set_option maxRecDepth 100000 in
set_option maxHeartbeats 4000000 in
theorem c_X6_isLineWithin {G : xG} {n : Nat} {σ : xσ} {h : xH} {a0 : Nat} {a1 : Nat} {v1 : Int32} {σ1 : xσ} (R : Rl n σ h) (hf : f_X6_isLineWithin n a0 a1 σ = some (v1, σ1)) : Ca G mX6_isLineWithin [.ref a0, .ref a1] h (fun v h' => v = some (.int v1) ∧ Rl n σ1 h') := by
  refine Ca.of rfl (Nat.le_of_ble_eq_true rfl) ?_
  generalize hr : (v1, σ1) = r at hf
  suffices q : Go G mX6_isLineWithin 0 (xent (xMl mX6_isLineWithin) [.ref a0, .ref a1]) [] h (fun v h' => xRok (xRt mX6_isLineWithin) v ∧ v = some (.int r.1) ∧ Rl n r.2 h') by
    subst hr
    exact q
  clear hr
  rw [f_X6_isLineWithin] at hf
  obtain ⟨g0, hf⟩ := gd_some hf
  obtain ⟨g1, hf⟩ := gd_some hf
  refine go_iconst (v := 0) (pc' := 1) dX6_isLineWithin_0 rfl (by decide) ?_
  refine go_istore_nE rfl (i := 2) (pc' := 2) dX6_isLineWithin_1 rfl rfl (by decide) rfl ?_
  exact t_X6_isLineWithin_2 xFU R g0 g1 hf
def b_X6_isWithin_115 (n : Nat) (a1 : Nat) (a2 : Nat) (x3 : Int32) (xs0 : Int32) (σ : xσ) : Option (Int32 × xσ) := if (sI σ a1 0) = 1 then gd (xs0 = 0 ∨ xs0 = 1) (some (xs0, σ)) else bd (f_X1_aim n a1 0 (sI σ a1 1) σ) (fun v102 σ103 => bd (f_X1_scan n a2 0 (sI σ103 a2 1) 1 σ103) (fun v107 σ108 => if (v107 &&& 1) = 0 then if xs0 = 0 then bd (f_X6_areOnlyAlong n x3 v107 σ108) (fun v114 σ115 => if v114 = 0 then some (0, σ115) else some (1, σ115)) else some (1, σ108) else some (0, σ108)))
set_option maxRecDepth 100000 in
set_option maxHeartbeats 4000000 in
theorem t_X6_isWithin_115 {G : xG} {n : Nat} {a1 : Nat} {a2 : Nat} {x3 : Int32} {xs0 : Int32} {σ : xσ} {h : xH} {r : Int32 × xσ} {d4 : Option Value} {d5 : Option Value} : Rl n σ h → okS n a1 → okS n a2 → b_X6_isWithin_115 n a1 a2 x3 xs0 σ = some r → Go G mX6_isWithin 115 [some (.ref 29), some (.ref a1), some (.ref a2), some (.int x3), d4, d5] [.int xs0] h (fun v h' => xRok (xRt mX6_isWithin) v ∧ v = some (.int r.1) ∧ Rl n r.2 h') := by
  intro R g1 g2 hf
  rw [b_X6_isWithin_115] at hf
  refine go_istoreE rfl (pc' := 117) dX6_isWithin_115 rfl (by decide) rfl ?_
  refine go_aload_n (i := 1) (pc' := 118) dX6_isWithin_117 rfl rfl rfl ?_
  refine go_getS (pc' := 121) dX6_isWithin_118 rfl gf_LandBase_Relations_31 R g1.at (by decide) rfl ?_
  refine go_iconst (v := 1) (pc' := 122) dX6_isWithin_121 rfl (by decide) ?_
  refine go_icmp_ne (pc' := 125) (tgt := 128) dX6_isWithin_122 (by decide) rfl (fun c101 => ?_) (fun c101 => ?_)
  · have hf := ie c101 hf
    refine go_aload_n (i := 0) (pc' := 129) dX6_isWithin_128 rfl rfl rfl ?_
    refine go_getS (pc' := 132) dX6_isWithin_129 rfl gf_LandBase_Relations_9 R (R.at rfl (by decide)) (by decide) rfl ?_
    refine go_aload_n (i := 1) (pc' := 133) dX6_isWithin_132 rfl rfl rfl ?_
    refine go_iconst (v := 0) (pc' := 134) dX6_isWithin_133 rfl (by decide) ?_
    refine go_aload_n (i := 1) (pc' := 135) dX6_isWithin_134 rfl rfl rfl ?_
    refine go_getS (pc' := 138) dX6_isWithin_135 rfl gf_LandBase_Relations_53 R g1.at (by decide) rfl ?_
    obtain ⟨v102, σ103, e104, hf⟩ := bd_some hf
    refine go_invV (As := [_, _, _]) (pc' := 141) dX6_isWithin_138 rfl cf_X6_isWithin_56 rfl (R.ob (R.at rfl (by decide))) rfl rfl (Nat.le_of_ble_eq_true rfl) (c_X1_aim R e104) (fun q105v h106 q105 => ?_)
    obtain ⟨rfl, R⟩ := q105
    refine go_aload_n (i := 0) (pc' := 142) dX6_isWithin_141 rfl rfl rfl ?_
    refine go_getS (pc' := 145) dX6_isWithin_142 rfl gf_LandBase_Relations_9 R (R.at rfl (by decide)) (by decide) rfl ?_
    refine go_aload_n (i := 2) (pc' := 146) dX6_isWithin_145 rfl rfl rfl ?_
    refine go_iconst (v := 0) (pc' := 147) dX6_isWithin_146 rfl (by decide) ?_
    refine go_aload_n (i := 2) (pc' := 148) dX6_isWithin_147 rfl rfl rfl ?_
    refine go_getS (pc' := 151) dX6_isWithin_148 rfl gf_LandBase_Relations_53 R g2.at (by decide) rfl ?_
    refine go_iconst (v := 1) (pc' := 152) dX6_isWithin_151 rfl (by decide) ?_
    obtain ⟨v107, σ108, e109, hf⟩ := bd_some hf
    refine go_invV (As := [_, _, _, _]) (pc' := 155) dX6_isWithin_152 rfl cf_X6_isWithin_60 rfl (R.ob (R.at rfl (by decide))) rfl rfl (Nat.le_of_ble_eq_true rfl) (c_X1_scan R e109) (fun q110v h111 q110 => ?_)
    obtain ⟨rfl, R⟩ := q110
    refine go_istoreE rfl (pc' := 157) dX6_isWithin_155 rfl (by decide) rfl ?_
    refine go_iload (pc' := 159) dX6_isWithin_157 rfl rfl ?_
    refine go_iconst (v := 1) (pc' := 160) dX6_isWithin_159 rfl (by decide) ?_
    refine go_iand (pc' := 161) dX6_isWithin_160 rfl ?_
    refine go_if_ne (pc' := 164) (tgt := 182) dX6_isWithin_161 (by decide) rfl (fun c112 => ?_) (fun c112 => ?_)
    · have hf := ie c112 hf
      refine go_iconst (v := 0) (pc' := 183) dX6_isWithin_182 rfl (by decide) ?_
      obtain rfl := Option.some.inj hf
      exact Go.ret (v := some (.int _)) dX6_isWithin_183 ⟨_, rfl⟩ ⟨rfl, rfl, R⟩
    · have hf := it c112 hf
      refine go_iload (pc' := 166) dX6_isWithin_164 rfl rfl ?_
      refine go_if_ne (pc' := 169) (tgt := 178) dX6_isWithin_166 (by decide) rfl (fun c113 => ?_) (fun c113 => ?_)
      · have hf := ie c113 hf
        refine go_iconst (v := 1) (pc' := 179) dX6_isWithin_178 rfl (by decide) ?_
        refine go_goto (pc' := 0) (tgt := 183) dX6_isWithin_179 (by decide) ?_
        obtain rfl := Option.some.inj hf
        exact Go.ret (v := some (.int _)) dX6_isWithin_183 ⟨_, rfl⟩ ⟨rfl, rfl, R⟩
      · have hf := it c113 hf
        refine go_iload_n (i := 3) (pc' := 170) dX6_isWithin_169 rfl rfl rfl ?_
        refine go_iload (pc' := 172) dX6_isWithin_170 rfl rfl ?_
        obtain ⟨v114, σ115, e116, hf⟩ := bd_some hf
        refine go_invS (As := [_, _]) (pc' := 175) dX6_isWithin_172 rfl cf_X6_isWithin_71 rfl rfl (Nat.le_of_ble_eq_true rfl) (c_X6_areOnlyAlong R e116) (fun q117v h118 q117 => ?_)
        obtain ⟨rfl, R⟩ := q117
        refine go_if_eq (pc' := 178) (tgt := 182) dX6_isWithin_175 (by decide) rfl (fun c119 => ?_) (fun c119 => ?_)
        · have hf := it c119 hf
          refine go_iconst (v := 0) (pc' := 183) dX6_isWithin_182 rfl (by decide) ?_
          obtain rfl := Option.some.inj hf
          exact Go.ret (v := some (.int _)) dX6_isWithin_183 ⟨_, rfl⟩ ⟨rfl, rfl, R⟩
        · have hf := ie c119 hf
          refine go_iconst (v := 1) (pc' := 179) dX6_isWithin_178 rfl (by decide) ?_
          refine go_goto (pc' := 0) (tgt := 183) dX6_isWithin_179 (by decide) ?_
          obtain rfl := Option.some.inj hf
          exact Go.ret (v := some (.int _)) dX6_isWithin_183 ⟨_, rfl⟩ ⟨rfl, rfl, R⟩
  · have hf := it c101 hf
    refine go_iload (pc' := 127) dX6_isWithin_125 rfl rfl ?_
    obtain ⟨g120, hf⟩ := gd_some hf
    obtain rfl := Option.some.inj hf
    exact Go.ret (v := some (.int _)) dX6_isWithin_127 ⟨_, rfl⟩ ⟨(nb g120), rfl, R⟩
def f_X6_isWithin (n : Nat) (a1 : Nat) (a2 : Nat) (σ : xσ) : Option (Int32 × xσ) := gd (okS n a1) (gd (okS n a2) (if (sI σ a2 0) < (sI σ a1 0) then some (0, σ) else bd (f_X7_isBoxWithin n a1 a2 σ) (fun v102 σ103 => if v102 = 0 then some (0, σ103) else if (sI σ103 a1 0) = 0 then gd (inb 0 40) (gd (inb 0 40) (bd (f_X4_locate n a2 (sI σ103 (a1 + 1) (0 : Int32).toNatClampNeg) (sI σ103 (a1 + 2) (0 : Int32).toNatClampNeg) σ103) (fun v130 σ131 => if v130 = 1 then some (1, σ131) else some (0, σ131)))) else if (sI σ103 a2 0) = 1 then bd (f_X6_isLineWithin n a1 a2 σ103) (fun v122 σ123 => gd (v122 = 0 ∨ v122 = 1) (some (v122, σ123))) else bd (f_X1_aim n a2 0 (sI σ103 a2 1) σ103) (fun v110 σ111 => bd (f_X1_scan n a1 0 (sI σ111 a1 1) 2 σ111) (fun v115 σ116 => if (v115 &&& 2) = 0 then if (v115 &&& 1) = 0 then b_X6_isWithin_115 n a1 a2 v115 0 σ116 else b_X6_isWithin_115 n a1 a2 v115 1 σ116 else some (0, σ116))))))
set_option maxRecDepth 100000 in
set_option maxHeartbeats 4000000 in
theorem c_X6_isWithin {G : xG} {n : Nat} {σ : xσ} {h : xH} {a1 : Nat} {a2 : Nat} {v1 : Int32} {σ1 : xσ} (R : Rl n σ h) (hf : f_X6_isWithin n a1 a2 σ = some (v1, σ1)) : Ca G mX6_isWithin [.ref 29, .ref a1, .ref a2] h (fun v h' => v = some (.int v1) ∧ Rl n σ1 h') := by
  refine Ca.of rfl (Nat.le_of_ble_eq_true rfl) ?_
  generalize hr : (v1, σ1) = r at hf
  suffices q : Go G mX6_isWithin 0 (xent (xMl mX6_isWithin) [.ref 29, .ref a1, .ref a2]) [] h (fun v h' => xRok (xRt mX6_isWithin) v ∧ v = some (.int r.1) ∧ Rl n r.2 h') by
    subst hr
    exact q
  clear hr
  rw [f_X6_isWithin] at hf
  obtain ⟨g1, hf⟩ := gd_some hf
  obtain ⟨g2, hf⟩ := gd_some hf
  refine go_aload_n (i := 1) (pc' := 1) dX6_isWithin_0 rfl rfl rfl ?_
  refine go_getS (pc' := 4) dX6_isWithin_1 rfl gf_LandBase_Relations_31 R g1.at (by decide) rfl ?_
  refine go_aload_n (i := 2) (pc' := 5) dX6_isWithin_4 rfl rfl rfl ?_
  refine go_getS (pc' := 8) dX6_isWithin_5 rfl gf_LandBase_Relations_31 R g2.at (by decide) rfl ?_
  refine go_icmp_gt (pc' := 11) (tgt := 19) dX6_isWithin_8 (by decide) rfl (fun c101 => ?_) (fun c101 => ?_)
  · have hf := it c101 hf
    refine go_iconst (v := 0) (pc' := 20) dX6_isWithin_19 rfl (by decide) ?_
    obtain rfl := Option.some.inj hf
    exact Go.ret (v := some (.int _)) dX6_isWithin_20 ⟨_, rfl⟩ ⟨rfl, rfl, R⟩
  · have hf := ie c101 hf
    refine go_aload_n (i := 1) (pc' := 12) dX6_isWithin_11 rfl rfl rfl ?_
    refine go_aload_n (i := 2) (pc' := 13) dX6_isWithin_12 rfl rfl rfl ?_
    obtain ⟨v102, σ103, e104, hf⟩ := bd_some hf
    refine go_invV (As := [_]) (pc' := 16) dX6_isWithin_13 rfl cf_X6_isWithin_86 rfl (R.ob g1.at) rfl rfl (Nat.le_of_ble_eq_true rfl) (c_X7_isBoxWithin R e104) (fun q105v h106 q105 => ?_)
    obtain ⟨rfl, R⟩ := q105
    refine go_if_ne (pc' := 19) (tgt := 21) dX6_isWithin_16 (by decide) rfl (fun c107 => ?_) (fun c107 => ?_)
    · have hf := ie c107 hf
      refine go_aload_n (i := 1) (pc' := 22) dX6_isWithin_21 rfl rfl rfl ?_
      refine go_getS (pc' := 25) dX6_isWithin_22 rfl gf_LandBase_Relations_31 R g1.at (by decide) rfl ?_
      refine go_if_ne (pc' := 28) (tgt := 54) dX6_isWithin_25 (by decide) rfl (fun c108 => ?_) (fun c108 => ?_)
      · have hf := ie c108 hf
        refine go_aload_n (i := 2) (pc' := 55) dX6_isWithin_54 rfl rfl rfl ?_
        refine go_getS (pc' := 58) dX6_isWithin_55 rfl gf_LandBase_Relations_31 R g2.at (by decide) rfl ?_
        refine go_iconst (v := 1) (pc' := 59) dX6_isWithin_58 rfl (by decide) ?_
        refine go_icmp_ne (pc' := 62) (tgt := 68) dX6_isWithin_59 (by decide) rfl (fun c109 => ?_) (fun c109 => ?_)
        · have hf := ie c109 hf
          refine go_aload_n (i := 0) (pc' := 69) dX6_isWithin_68 rfl rfl rfl ?_
          refine go_getS (pc' := 72) dX6_isWithin_69 rfl gf_LandBase_Relations_9 R (R.at rfl (by decide)) (by decide) rfl ?_
          refine go_aload_n (i := 2) (pc' := 73) dX6_isWithin_72 rfl rfl rfl ?_
          refine go_iconst (v := 0) (pc' := 74) dX6_isWithin_73 rfl (by decide) ?_
          refine go_aload_n (i := 2) (pc' := 75) dX6_isWithin_74 rfl rfl rfl ?_
          refine go_getS (pc' := 78) dX6_isWithin_75 rfl gf_LandBase_Relations_53 R g2.at (by decide) rfl ?_
          obtain ⟨v110, σ111, e112, hf⟩ := bd_some hf
          refine go_invV (As := [_, _, _]) (pc' := 81) dX6_isWithin_78 rfl cf_X6_isWithin_56 rfl (R.ob (R.at rfl (by decide))) rfl rfl (Nat.le_of_ble_eq_true rfl) (c_X1_aim R e112) (fun q113v h114 q113 => ?_)
          obtain ⟨rfl, R⟩ := q113
          refine go_aload_n (i := 0) (pc' := 82) dX6_isWithin_81 rfl rfl rfl ?_
          refine go_getS (pc' := 85) dX6_isWithin_82 rfl gf_LandBase_Relations_9 R (R.at rfl (by decide)) (by decide) rfl ?_
          refine go_aload_n (i := 1) (pc' := 86) dX6_isWithin_85 rfl rfl rfl ?_
          refine go_iconst (v := 0) (pc' := 87) dX6_isWithin_86 rfl (by decide) ?_
          refine go_aload_n (i := 1) (pc' := 88) dX6_isWithin_87 rfl rfl rfl ?_
          refine go_getS (pc' := 91) dX6_isWithin_88 rfl gf_LandBase_Relations_53 R g1.at (by decide) rfl ?_
          refine go_iconst (v := 2) (pc' := 92) dX6_isWithin_91 rfl (by decide) ?_
          obtain ⟨v115, σ116, e117, hf⟩ := bd_some hf
          refine go_invV (As := [_, _, _, _]) (pc' := 95) dX6_isWithin_92 rfl cf_X6_isWithin_60 rfl (R.ob (R.at rfl (by decide))) rfl rfl (Nat.le_of_ble_eq_true rfl) (c_X1_scan R e117) (fun q118v h119 q118 => ?_)
          obtain ⟨rfl, R⟩ := q118
          refine go_istore_nE rfl (i := 3) (pc' := 96) dX6_isWithin_95 rfl rfl (by decide) rfl ?_
          refine go_iload_n (i := 3) (pc' := 97) dX6_isWithin_96 rfl rfl rfl ?_
          refine go_iconst (v := 2) (pc' := 98) dX6_isWithin_97 rfl (by decide) ?_
          refine go_iand (pc' := 99) dX6_isWithin_98 rfl ?_
          refine go_if_eq (pc' := 102) (tgt := 104) dX6_isWithin_99 (by decide) rfl (fun c120 => ?_) (fun c120 => ?_)
          · have hf := it c120 hf
            refine go_iload_n (i := 3) (pc' := 105) dX6_isWithin_104 rfl rfl rfl ?_
            refine go_iconst (v := 1) (pc' := 106) dX6_isWithin_105 rfl (by decide) ?_
            refine go_iand (pc' := 107) dX6_isWithin_106 rfl ?_
            refine go_if_eq (pc' := 110) (tgt := 114) dX6_isWithin_107 (by decide) rfl (fun c121 => ?_) (fun c121 => ?_)
            · have hf := it c121 hf
              refine go_iconst (v := 0) (pc' := 115) dX6_isWithin_114 rfl (by decide) ?_
              exact t_X6_isWithin_115 R g1 g2 hf
            · have hf := ie c121 hf
              refine go_iconst (v := 1) (pc' := 111) dX6_isWithin_110 rfl (by decide) ?_
              refine go_goto (pc' := 0) (tgt := 115) dX6_isWithin_111 (by decide) ?_
              exact t_X6_isWithin_115 R g1 g2 hf
          · have hf := ie c120 hf
            refine go_iconst (v := 0) (pc' := 103) dX6_isWithin_102 rfl (by decide) ?_
            obtain rfl := Option.some.inj hf
            exact Go.ret (v := some (.int _)) dX6_isWithin_103 ⟨_, rfl⟩ ⟨rfl, rfl, R⟩
        · have hf := it c109 hf
          refine go_aload_n (i := 1) (pc' := 63) dX6_isWithin_62 rfl rfl rfl ?_
          refine go_aload_n (i := 2) (pc' := 64) dX6_isWithin_63 rfl rfl rfl ?_
          obtain ⟨v122, σ123, e124, hf⟩ := bd_some hf
          refine go_invS (As := [_, _]) (pc' := 67) dX6_isWithin_64 rfl cf_X6_isWithin_89 rfl rfl (Nat.le_of_ble_eq_true rfl) (c_X6_isLineWithin R e124) (fun q125v h126 q125 => ?_)
          obtain ⟨rfl, R⟩ := q125
          obtain ⟨g127, hf⟩ := gd_some hf
          obtain rfl := Option.some.inj hf
          exact Go.ret (v := some (.int _)) dX6_isWithin_67 ⟨_, rfl⟩ ⟨(nb g127), rfl, R⟩
      · have hf := it c108 hf
        refine go_aload_n (i := 2) (pc' := 29) dX6_isWithin_28 rfl rfl rfl ?_
        refine go_aload_n (i := 1) (pc' := 30) dX6_isWithin_29 rfl rfl rfl ?_
        refine go_getS (pc' := 33) dX6_isWithin_30 rfl gf_LandBase_Relations_35 R g1.at (by decide) rfl ?_
        refine go_iconst (v := 0) (pc' := 34) dX6_isWithin_33 rfl (by decide) ?_
        obtain ⟨g128, hf⟩ := gd_some hf
        refine go_ialoadS (pc' := 35) dX6_isWithin_34 rfl R g1.x g128 ?_
        refine go_aload_n (i := 1) (pc' := 36) dX6_isWithin_35 rfl rfl rfl ?_
        refine go_getS (pc' := 39) dX6_isWithin_36 rfl gf_LandBase_Relations_39 R g1.at (by decide) rfl ?_
        refine go_iconst (v := 0) (pc' := 40) dX6_isWithin_39 rfl (by decide) ?_
        obtain ⟨g129, hf⟩ := gd_some hf
        refine go_ialoadS (pc' := 41) dX6_isWithin_40 rfl R g1.y g129 ?_
        obtain ⟨v130, σ131, e132, hf⟩ := bd_some hf
        refine go_invS (As := [_, _, _]) (pc' := 44) dX6_isWithin_41 rfl cf_X6_isWithin_42 rfl rfl (Nat.le_of_ble_eq_true rfl) (c_X4_locate R e132) (fun q133v h134 q133 => ?_)
        obtain ⟨rfl, R⟩ := q133
        refine go_iconst (v := 1) (pc' := 45) dX6_isWithin_44 rfl (by decide) ?_
        refine go_icmp_ne (pc' := 48) (tgt := 52) dX6_isWithin_45 (by decide) rfl (fun c135 => ?_) (fun c135 => ?_)
        · have hf := ie c135 hf
          refine go_iconst (v := 0) (pc' := 53) dX6_isWithin_52 rfl (by decide) ?_
          obtain rfl := Option.some.inj hf
          exact Go.ret (v := some (.int _)) dX6_isWithin_53 ⟨_, rfl⟩ ⟨rfl, rfl, R⟩
        · have hf := it c135 hf
          refine go_iconst (v := 1) (pc' := 49) dX6_isWithin_48 rfl (by decide) ?_
          refine go_goto (pc' := 0) (tgt := 53) dX6_isWithin_49 (by decide) ?_
          obtain rfl := Option.some.inj hf
          exact Go.ret (v := some (.int _)) dX6_isWithin_53 ⟨_, rfl⟩ ⟨rfl, rfl, R⟩
    · have hf := it c107 hf
      refine go_iconst (v := 0) (pc' := 20) dX6_isWithin_19 rfl (by decide) ?_
      obtain rfl := Option.some.inj hf
      exact Go.ret (v := some (.int _)) dX6_isWithin_20 ⟨_, rfl⟩ ⟨rfl, rfl, R⟩

/-! methods as functions, by program (gen/dcmall.py) -/
def b_X9_advance_196 (n : Nat) (x1 : Int32) (xs0 : Int32) (σ : xσ) : Option (Unit × xσ) := st (wI σ 1 2 xs0) (fun σ101 => st (wI σ101 1 4 (x1 + 1)) (fun σ104 => some ((), σ104)))
set_option maxRecDepth 100000 in
set_option maxHeartbeats 4000000 in
theorem t_X9_advance_196 {G : xG} {n : Nat} {x1 : Int32} {xs0 : Int32} {σ : xσ} {h : xH} {r : Unit × xσ} {d2 : Option Value} : Rl n σ h → b_X9_advance_196 n x1 xs0 σ = some r → Go G mX9_advance 196 [some (.ref 1), some (.int x1), d2] [.int xs0, .ref 1] h (fun v h' => xRok (xRt mX9_advance) v ∧ v = none ∧ Rl n r.2 h') := by
  intro R hf
  rw [b_X9_advance_196] at hf
  obtain ⟨σ101, e102, hf⟩ := st_some hf
  refine go_putI (pc' := 199) dX9_advance_196 rfl pf_LandBase_Tape_28 R (R.at rfl (by decide)) (by decide) rfl rfl rfl (fun h103 R => ?_)
  have R := Rl.cast e102 R
  refine go_aload_n (i := 0) (pc' := 200) dX9_advance_199 rfl rfl rfl ?_
  refine go_iload_n (i := 1) (pc' := 201) dX9_advance_200 rfl rfl rfl ?_
  refine go_iconst (v := 1) (pc' := 202) dX9_advance_201 rfl (by decide) ?_
  refine go_iadd (pc' := 203) dX9_advance_202 rfl ?_
  obtain ⟨σ104, e105, hf⟩ := st_some hf
  refine go_putI (pc' := 206) dX9_advance_203 rfl pf_LandBase_Tape_19 R (R.at rfl (by decide)) (by decide) rfl rfl rfl (fun h106 R => ?_)
  have R := Rl.cast e105 R
  obtain rfl := Option.some.inj hf
  exact Go.ret (v := none) dX9_advance_206 rfl ⟨trivial, rfl, R⟩
def b_X9_advance_185 (n : Nat) (x1 : Int32) (xs0 : Int32) (σ : xσ) : Option (Unit × xσ) := if xs0 = 0 then b_X9_advance_196 n x1 4 σ else b_X9_advance_196 n x1 3 σ
set_option maxRecDepth 100000 in
set_option maxHeartbeats 4000000 in
theorem t_X9_advance_185 {G : xG} {n : Nat} {x1 : Int32} {xs0 : Int32} {σ : xσ} {h : xH} {r : Unit × xσ} {d2 : Option Value} : Rl n σ h → b_X9_advance_185 n x1 xs0 σ = some r → Go G mX9_advance 185 [some (.ref 1), some (.int x1), d2] [.int xs0] h (fun v h' => xRok (xRt mX9_advance) v ∧ v = none ∧ Rl n r.2 h') := by
  intro R hf
  rw [b_X9_advance_185] at hf
  refine go_istore_nE rfl (i := 2) (pc' := 186) dX9_advance_185 rfl rfl (by decide) rfl ?_
  refine go_aload_n (i := 0) (pc' := 187) dX9_advance_186 rfl rfl rfl ?_
  refine go_iload_n (i := 2) (pc' := 188) dX9_advance_187 rfl rfl rfl ?_
  refine go_if_eq (pc' := 191) (tgt := 195) dX9_advance_188 (by decide) rfl (fun c101 => ?_) (fun c101 => ?_)
  · have hf := it c101 hf
    refine go_iconst (v := 4) (pc' := 196) dX9_advance_195 rfl (by decide) ?_
    exact t_X9_advance_196 R hf
  · have hf := ie c101 hf
    refine go_iconst (v := 3) (pc' := 192) dX9_advance_191 rfl (by decide) ?_
    refine go_goto (pc' := 0) (tgt := 196) dX9_advance_192 (by decide) ?_
    exact t_X9_advance_196 R hf
def l_X9_advance_5 (n : Nat) : Nat → Int32 → xσ → Option (Unit × xσ)
  | 0, _, _ => none
  | f + 1, x1, σ => if (sI σ 1 1) ≤ x1 then st (wI σ 1 3 x1) (fun σ102 => st (wI σ102 1 4 x1) (fun σ105 => if x1 < (sI σ105 1 1) then gd (inb x1 4000) (if (sI σ105 2 x1.toNatClampNeg) < 65 then gd (inb x1 4000) (if (sI σ105 2 x1.toNatClampNeg) < 48 then gd (inb x1 4000) (if (sI σ105 2 x1.toNatClampNeg) = 45 then bd (f_X9_takeNumber n σ105) (fun v123 σ124 => some ((), σ124)) else gd (inb x1 4000) (if (sI σ105 2 x1.toNatClampNeg) = 40 then b_X9_advance_185 n x1 1 σ105 else gd (inb x1 4000) (if (sI σ105 2 x1.toNatClampNeg) = 41 then b_X9_advance_185 n x1 1 σ105 else gd (inb x1 4000) (if (sI σ105 2 x1.toNatClampNeg) = 44 then b_X9_advance_185 n x1 1 σ105 else gd (inb x1 4000) (if (sI σ105 2 x1.toNatClampNeg) = 59 then b_X9_advance_185 n x1 1 σ105 else b_X9_advance_185 n x1 0 σ105))))) else gd (inb x1 4000) (if (sI σ105 2 x1.toNatClampNeg) ≤ 57 then bd (f_X9_takeNumber n σ105) (fun v130 σ131 => some ((), σ131)) else gd (inb x1 4000) (if (sI σ105 2 x1.toNatClampNeg) = 45 then bd (f_X9_takeNumber n σ105) (fun v145 σ146 => some ((), σ146)) else gd (inb x1 4000) (if (sI σ105 2 x1.toNatClampNeg) = 40 then b_X9_advance_185 n x1 1 σ105 else gd (inb x1 4000) (if (sI σ105 2 x1.toNatClampNeg) = 41 then b_X9_advance_185 n x1 1 σ105 else gd (inb x1 4000) (if (sI σ105 2 x1.toNatClampNeg) = 44 then b_X9_advance_185 n x1 1 σ105 else gd (inb x1 4000) (if (sI σ105 2 x1.toNatClampNeg) = 59 then b_X9_advance_185 n x1 1 σ105 else b_X9_advance_185 n x1 0 σ105))))))) else gd (inb x1 4000) (if 90 < (sI σ105 2 x1.toNatClampNeg) then gd (inb x1 4000) (if (sI σ105 2 x1.toNatClampNeg) < 48 then gd (inb x1 4000) (if (sI σ105 2 x1.toNatClampNeg) = 45 then bd (f_X9_takeNumber n σ105) (fun v164 σ165 => some ((), σ165)) else gd (inb x1 4000) (if (sI σ105 2 x1.toNatClampNeg) = 40 then b_X9_advance_185 n x1 1 σ105 else gd (inb x1 4000) (if (sI σ105 2 x1.toNatClampNeg) = 41 then b_X9_advance_185 n x1 1 σ105 else gd (inb x1 4000) (if (sI σ105 2 x1.toNatClampNeg) = 44 then b_X9_advance_185 n x1 1 σ105 else gd (inb x1 4000) (if (sI σ105 2 x1.toNatClampNeg) = 59 then b_X9_advance_185 n x1 1 σ105 else b_X9_advance_185 n x1 0 σ105))))) else gd (inb x1 4000) (if (sI σ105 2 x1.toNatClampNeg) ≤ 57 then bd (f_X9_takeNumber n σ105) (fun v171 σ172 => some ((), σ172)) else gd (inb x1 4000) (if (sI σ105 2 x1.toNatClampNeg) = 45 then bd (f_X9_takeNumber n σ105) (fun v186 σ187 => some ((), σ187)) else gd (inb x1 4000) (if (sI σ105 2 x1.toNatClampNeg) = 40 then b_X9_advance_185 n x1 1 σ105 else gd (inb x1 4000) (if (sI σ105 2 x1.toNatClampNeg) = 41 then b_X9_advance_185 n x1 1 σ105 else gd (inb x1 4000) (if (sI σ105 2 x1.toNatClampNeg) = 44 then b_X9_advance_185 n x1 1 σ105 else gd (inb x1 4000) (if (sI σ105 2 x1.toNatClampNeg) = 59 then b_X9_advance_185 n x1 1 σ105 else b_X9_advance_185 n x1 0 σ105))))))) else bd (f_X9_takeWord n σ105) (fun v191 σ192 => some ((), σ192)))) else st (wI σ105 1 2 0) (fun σ196 => some ((), σ196)))) else gd (inb x1 4000) (if (sI σ 2 x1.toNatClampNeg) = 32 then (l_X9_advance_5 n f) (x1 + 1) σ else gd (inb x1 4000) (if (sI σ 2 x1.toNatClampNeg) = 10 then (l_X9_advance_5 n f) (x1 + 1) σ else st (wI σ 1 3 x1) (fun σ203 => st (wI σ203 1 4 x1) (fun σ206 => if x1 < (sI σ206 1 1) then gd (inb x1 4000) (if (sI σ206 2 x1.toNatClampNeg) < 65 then gd (inb x1 4000) (if (sI σ206 2 x1.toNatClampNeg) < 48 then gd (inb x1 4000) (if (sI σ206 2 x1.toNatClampNeg) = 45 then bd (f_X9_takeNumber n σ206) (fun v224 σ225 => some ((), σ225)) else gd (inb x1 4000) (if (sI σ206 2 x1.toNatClampNeg) = 40 then b_X9_advance_185 n x1 1 σ206 else gd (inb x1 4000) (if (sI σ206 2 x1.toNatClampNeg) = 41 then b_X9_advance_185 n x1 1 σ206 else gd (inb x1 4000) (if (sI σ206 2 x1.toNatClampNeg) = 44 then b_X9_advance_185 n x1 1 σ206 else gd (inb x1 4000) (if (sI σ206 2 x1.toNatClampNeg) = 59 then b_X9_advance_185 n x1 1 σ206 else b_X9_advance_185 n x1 0 σ206))))) else gd (inb x1 4000) (if (sI σ206 2 x1.toNatClampNeg) ≤ 57 then bd (f_X9_takeNumber n σ206) (fun v231 σ232 => some ((), σ232)) else gd (inb x1 4000) (if (sI σ206 2 x1.toNatClampNeg) = 45 then bd (f_X9_takeNumber n σ206) (fun v246 σ247 => some ((), σ247)) else gd (inb x1 4000) (if (sI σ206 2 x1.toNatClampNeg) = 40 then b_X9_advance_185 n x1 1 σ206 else gd (inb x1 4000) (if (sI σ206 2 x1.toNatClampNeg) = 41 then b_X9_advance_185 n x1 1 σ206 else gd (inb x1 4000) (if (sI σ206 2 x1.toNatClampNeg) = 44 then b_X9_advance_185 n x1 1 σ206 else gd (inb x1 4000) (if (sI σ206 2 x1.toNatClampNeg) = 59 then b_X9_advance_185 n x1 1 σ206 else b_X9_advance_185 n x1 0 σ206))))))) else gd (inb x1 4000) (if 90 < (sI σ206 2 x1.toNatClampNeg) then gd (inb x1 4000) (if (sI σ206 2 x1.toNatClampNeg) < 48 then gd (inb x1 4000) (if (sI σ206 2 x1.toNatClampNeg) = 45 then bd (f_X9_takeNumber n σ206) (fun v265 σ266 => some ((), σ266)) else gd (inb x1 4000) (if (sI σ206 2 x1.toNatClampNeg) = 40 then b_X9_advance_185 n x1 1 σ206 else gd (inb x1 4000) (if (sI σ206 2 x1.toNatClampNeg) = 41 then b_X9_advance_185 n x1 1 σ206 else gd (inb x1 4000) (if (sI σ206 2 x1.toNatClampNeg) = 44 then b_X9_advance_185 n x1 1 σ206 else gd (inb x1 4000) (if (sI σ206 2 x1.toNatClampNeg) = 59 then b_X9_advance_185 n x1 1 σ206 else b_X9_advance_185 n x1 0 σ206))))) else gd (inb x1 4000) (if (sI σ206 2 x1.toNatClampNeg) ≤ 57 then bd (f_X9_takeNumber n σ206) (fun v272 σ273 => some ((), σ273)) else gd (inb x1 4000) (if (sI σ206 2 x1.toNatClampNeg) = 45 then bd (f_X9_takeNumber n σ206) (fun v287 σ288 => some ((), σ288)) else gd (inb x1 4000) (if (sI σ206 2 x1.toNatClampNeg) = 40 then b_X9_advance_185 n x1 1 σ206 else gd (inb x1 4000) (if (sI σ206 2 x1.toNatClampNeg) = 41 then b_X9_advance_185 n x1 1 σ206 else gd (inb x1 4000) (if (sI σ206 2 x1.toNatClampNeg) = 44 then b_X9_advance_185 n x1 1 σ206 else gd (inb x1 4000) (if (sI σ206 2 x1.toNatClampNeg) = 59 then b_X9_advance_185 n x1 1 σ206 else b_X9_advance_185 n x1 0 σ206))))))) else bd (f_X9_takeWord n σ206) (fun v292 σ293 => some ((), σ293)))) else st (wI σ206 1 2 0) (fun σ297 => some ((), σ297))))))
set_option maxRecDepth 100000 in
set_option maxHeartbeats 4000000 in
theorem t_X9_advance_5 {G : xG} {n : Nat} : ∀ (f : Nat) {x1 : Int32} {σ : xσ} {h : xH} {r : Unit × xσ} {d2 : Option Value}, Rl n σ h → l_X9_advance_5 n f x1 σ = some r → Go G mX9_advance 5 [some (.ref 1), some (.int x1), d2] [] h (fun v h' => xRok (xRt mX9_advance) v ∧ v = none ∧ Rl n r.2 h') := by
  intro f
  induction f with
  | zero =>
    intros
    rename _ = some _ => hf
    rw [l_X9_advance_5] at hf
    cases hf
  | succ f ih =>
    intro x1 σ h r d2 R hf
    rw [l_X9_advance_5] at hf
    refine go_iload_n (i := 1) (pc' := 6) dX9_advance_5 rfl rfl rfl ?_
    refine go_aload_n (i := 0) (pc' := 7) dX9_advance_6 rfl rfl rfl ?_
    refine go_getS (pc' := 10) dX9_advance_7 rfl gf_LandBase_Tape_15 R (R.at rfl (by decide)) (by decide) rfl ?_
    refine go_icmp_ge (pc' := 13) (tgt := 41) dX9_advance_10 (by decide) rfl (fun c101 => ?_) (fun c101 => ?_)
    · have hf := it c101 hf
      refine go_aload_n (i := 0) (pc' := 42) dX9_advance_41 rfl rfl rfl ?_
      refine go_iload_n (i := 1) (pc' := 43) dX9_advance_42 rfl rfl rfl ?_
      obtain ⟨σ102, e103, hf⟩ := st_some hf
      refine go_putI (pc' := 46) dX9_advance_43 rfl pf_LandBase_Tape_25 R (R.at rfl (by decide)) (by decide) rfl rfl rfl (fun h104 R => ?_)
      have R := Rl.cast e103 R
      refine go_aload_n (i := 0) (pc' := 47) dX9_advance_46 rfl rfl rfl ?_
      refine go_iload_n (i := 1) (pc' := 48) dX9_advance_47 rfl rfl rfl ?_
      obtain ⟨σ105, e106, hf⟩ := st_some hf
      refine go_putI (pc' := 51) dX9_advance_48 rfl pf_LandBase_Tape_19 R (R.at rfl (by decide)) (by decide) rfl rfl rfl (fun h107 R => ?_)
      have R := Rl.cast e106 R
      refine go_iload_n (i := 1) (pc' := 52) dX9_advance_51 rfl rfl rfl ?_
      refine go_aload_n (i := 0) (pc' := 53) dX9_advance_52 rfl rfl rfl ?_
      refine go_getS (pc' := 56) dX9_advance_53 rfl gf_LandBase_Tape_15 R (R.at rfl (by decide)) (by decide) rfl ?_
      refine go_icmp_lt (pc' := 59) (tgt := 67) dX9_advance_56 (by decide) rfl (fun c108 => ?_) (fun c108 => ?_)
      · have hf := it c108 hf
        refine go_aload_n (i := 0) (pc' := 68) dX9_advance_67 rfl rfl rfl ?_
        refine go_getS (pc' := 71) dX9_advance_68 rfl gf_LandBase_Tape_9 R (R.at rfl (by decide)) (by decide) rfl ?_
        refine go_iload_n (i := 1) (pc' := 72) dX9_advance_71 rfl rfl rfl ?_
        obtain ⟨g109, hf⟩ := gd_some hf
        refine go_baloadS (pc' := 73) dX9_advance_72 rfl R (R.aa rfl (by decide)) g109 ?_
        refine go_bipush (v := 65) (pc' := 75) dX9_advance_73 rfl (by decide) ?_
        refine go_icmp_lt (pc' := 78) (tgt := 96) dX9_advance_75 (by decide) rfl (fun c110 => ?_) (fun c110 => ?_)
        · have hf := it c110 hf
          refine go_aload_n (i := 0) (pc' := 97) dX9_advance_96 rfl rfl rfl ?_
          refine go_getS (pc' := 100) dX9_advance_97 rfl gf_LandBase_Tape_9 R (R.at rfl (by decide)) (by decide) rfl ?_
          refine go_iload_n (i := 1) (pc' := 101) dX9_advance_100 rfl rfl rfl ?_
          obtain ⟨g111, hf⟩ := gd_some hf
          refine go_baloadS (pc' := 102) dX9_advance_101 rfl R (R.aa rfl (by decide)) g111 ?_
          refine go_bipush (v := 48) (pc' := 104) dX9_advance_102 rfl (by decide) ?_
          refine go_icmp_lt (pc' := 107) (tgt := 118) dX9_advance_104 (by decide) rfl (fun c112 => ?_) (fun c112 => ?_)
          · have hf := it c112 hf
            refine go_aload_n (i := 0) (pc' := 119) dX9_advance_118 rfl rfl rfl ?_
            refine go_getS (pc' := 122) dX9_advance_119 rfl gf_LandBase_Tape_9 R (R.at rfl (by decide)) (by decide) rfl ?_
            refine go_iload_n (i := 1) (pc' := 123) dX9_advance_122 rfl rfl rfl ?_
            obtain ⟨g113, hf⟩ := gd_some hf
            refine go_baloadS (pc' := 124) dX9_advance_123 rfl R (R.aa rfl (by decide)) g113 ?_
            refine go_bipush (v := 45) (pc' := 126) dX9_advance_124 rfl (by decide) ?_
            refine go_icmp_ne (pc' := 129) (tgt := 136) dX9_advance_126 (by decide) rfl (fun c114 => ?_) (fun c114 => ?_)
            · have hf := ie c114 hf
              refine go_aload_n (i := 0) (pc' := 137) dX9_advance_136 rfl rfl rfl ?_
              refine go_getS (pc' := 140) dX9_advance_137 rfl gf_LandBase_Tape_9 R (R.at rfl (by decide)) (by decide) rfl ?_
              refine go_iload_n (i := 1) (pc' := 141) dX9_advance_140 rfl rfl rfl ?_
              obtain ⟨g115, hf⟩ := gd_some hf
              refine go_baloadS (pc' := 142) dX9_advance_141 rfl R (R.aa rfl (by decide)) g115 ?_
              refine go_bipush (v := 40) (pc' := 144) dX9_advance_142 rfl (by decide) ?_
              refine go_icmp_eq (pc' := 147) (tgt := 180) dX9_advance_144 (by decide) rfl (fun c116 => ?_) (fun c116 => ?_)
              · have hf := it c116 hf
                refine go_iconst (v := 1) (pc' := 181) dX9_advance_180 rfl (by decide) ?_
                refine go_goto (pc' := 0) (tgt := 185) dX9_advance_181 (by decide) ?_
                exact t_X9_advance_185 R hf
              · have hf := ie c116 hf
                refine go_aload_n (i := 0) (pc' := 148) dX9_advance_147 rfl rfl rfl ?_
                refine go_getS (pc' := 151) dX9_advance_148 rfl gf_LandBase_Tape_9 R (R.at rfl (by decide)) (by decide) rfl ?_
                refine go_iload_n (i := 1) (pc' := 152) dX9_advance_151 rfl rfl rfl ?_
                obtain ⟨g117, hf⟩ := gd_some hf
                refine go_baloadS (pc' := 153) dX9_advance_152 rfl R (R.aa rfl (by decide)) g117 ?_
                refine go_bipush (v := 41) (pc' := 155) dX9_advance_153 rfl (by decide) ?_
                refine go_icmp_eq (pc' := 158) (tgt := 180) dX9_advance_155 (by decide) rfl (fun c118 => ?_) (fun c118 => ?_)
                · have hf := it c118 hf
                  refine go_iconst (v := 1) (pc' := 181) dX9_advance_180 rfl (by decide) ?_
                  refine go_goto (pc' := 0) (tgt := 185) dX9_advance_181 (by decide) ?_
                  exact t_X9_advance_185 R hf
                · have hf := ie c118 hf
                  refine go_aload_n (i := 0) (pc' := 159) dX9_advance_158 rfl rfl rfl ?_
                  refine go_getS (pc' := 162) dX9_advance_159 rfl gf_LandBase_Tape_9 R (R.at rfl (by decide)) (by decide) rfl ?_
                  refine go_iload_n (i := 1) (pc' := 163) dX9_advance_162 rfl rfl rfl ?_
                  obtain ⟨g119, hf⟩ := gd_some hf
                  refine go_baloadS (pc' := 164) dX9_advance_163 rfl R (R.aa rfl (by decide)) g119 ?_
                  refine go_bipush (v := 44) (pc' := 166) dX9_advance_164 rfl (by decide) ?_
                  refine go_icmp_eq (pc' := 169) (tgt := 180) dX9_advance_166 (by decide) rfl (fun c120 => ?_) (fun c120 => ?_)
                  · have hf := it c120 hf
                    refine go_iconst (v := 1) (pc' := 181) dX9_advance_180 rfl (by decide) ?_
                    refine go_goto (pc' := 0) (tgt := 185) dX9_advance_181 (by decide) ?_
                    exact t_X9_advance_185 R hf
                  · have hf := ie c120 hf
                    refine go_aload_n (i := 0) (pc' := 170) dX9_advance_169 rfl rfl rfl ?_
                    refine go_getS (pc' := 173) dX9_advance_170 rfl gf_LandBase_Tape_9 R (R.at rfl (by decide)) (by decide) rfl ?_
                    refine go_iload_n (i := 1) (pc' := 174) dX9_advance_173 rfl rfl rfl ?_
                    obtain ⟨g121, hf⟩ := gd_some hf
                    refine go_baloadS (pc' := 175) dX9_advance_174 rfl R (R.aa rfl (by decide)) g121 ?_
                    refine go_bipush (v := 59) (pc' := 177) dX9_advance_175 rfl (by decide) ?_
                    refine go_icmp_ne (pc' := 180) (tgt := 184) dX9_advance_177 (by decide) rfl (fun c122 => ?_) (fun c122 => ?_)
                    · have hf := ie c122 hf
                      refine go_iconst (v := 0) (pc' := 185) dX9_advance_184 rfl (by decide) ?_
                      exact t_X9_advance_185 R hf
                    · have hf := it c122 hf
                      refine go_iconst (v := 1) (pc' := 181) dX9_advance_180 rfl (by decide) ?_
                      refine go_goto (pc' := 0) (tgt := 185) dX9_advance_181 (by decide) ?_
                      exact t_X9_advance_185 R hf
            · have hf := it c114 hf
              refine go_aload_n (i := 0) (pc' := 130) dX9_advance_129 rfl rfl rfl ?_
              obtain ⟨v123, σ124, e125, hf⟩ := bd_some hf
              refine go_invV (As := []) (pc' := 133) dX9_advance_130 rfl cf_X9_advance_34 rfl (R.ob (R.at rfl (by decide))) rfl rfl (Nat.le_of_ble_eq_true rfl) (c_X9_takeNumber R e125) (fun q126v h127 q126 => ?_)
              obtain ⟨rfl, R⟩ := q126
              refine go_goto (pc' := 0) (tgt := 206) dX9_advance_133 (by decide) ?_
              obtain rfl := Option.some.inj hf
              exact Go.ret (v := none) dX9_advance_206 rfl ⟨trivial, rfl, R⟩
          · have hf := ie c112 hf
            refine go_aload_n (i := 0) (pc' := 108) dX9_advance_107 rfl rfl rfl ?_
            refine go_getS (pc' := 111) dX9_advance_108 rfl gf_LandBase_Tape_9 R (R.at rfl (by decide)) (by decide) rfl ?_
            refine go_iload_n (i := 1) (pc' := 112) dX9_advance_111 rfl rfl rfl ?_
            obtain ⟨g128, hf⟩ := gd_some hf
            refine go_baloadS (pc' := 113) dX9_advance_112 rfl R (R.aa rfl (by decide)) g128 ?_
            refine go_bipush (v := 57) (pc' := 115) dX9_advance_113 rfl (by decide) ?_
            refine go_icmp_le (pc' := 118) (tgt := 129) dX9_advance_115 (by decide) rfl (fun c129 => ?_) (fun c129 => ?_)
            · have hf := it c129 hf
              refine go_aload_n (i := 0) (pc' := 130) dX9_advance_129 rfl rfl rfl ?_
              obtain ⟨v130, σ131, e132, hf⟩ := bd_some hf
              refine go_invV (As := []) (pc' := 133) dX9_advance_130 rfl cf_X9_advance_34 rfl (R.ob (R.at rfl (by decide))) rfl rfl (Nat.le_of_ble_eq_true rfl) (c_X9_takeNumber R e132) (fun q133v h134 q133 => ?_)
              obtain ⟨rfl, R⟩ := q133
              refine go_goto (pc' := 0) (tgt := 206) dX9_advance_133 (by decide) ?_
              obtain rfl := Option.some.inj hf
              exact Go.ret (v := none) dX9_advance_206 rfl ⟨trivial, rfl, R⟩
            · have hf := ie c129 hf
              refine go_aload_n (i := 0) (pc' := 119) dX9_advance_118 rfl rfl rfl ?_
              refine go_getS (pc' := 122) dX9_advance_119 rfl gf_LandBase_Tape_9 R (R.at rfl (by decide)) (by decide) rfl ?_
              refine go_iload_n (i := 1) (pc' := 123) dX9_advance_122 rfl rfl rfl ?_
              obtain ⟨g135, hf⟩ := gd_some hf
              refine go_baloadS (pc' := 124) dX9_advance_123 rfl R (R.aa rfl (by decide)) g135 ?_
              refine go_bipush (v := 45) (pc' := 126) dX9_advance_124 rfl (by decide) ?_
              refine go_icmp_ne (pc' := 129) (tgt := 136) dX9_advance_126 (by decide) rfl (fun c136 => ?_) (fun c136 => ?_)
              · have hf := ie c136 hf
                refine go_aload_n (i := 0) (pc' := 137) dX9_advance_136 rfl rfl rfl ?_
                refine go_getS (pc' := 140) dX9_advance_137 rfl gf_LandBase_Tape_9 R (R.at rfl (by decide)) (by decide) rfl ?_
                refine go_iload_n (i := 1) (pc' := 141) dX9_advance_140 rfl rfl rfl ?_
                obtain ⟨g137, hf⟩ := gd_some hf
                refine go_baloadS (pc' := 142) dX9_advance_141 rfl R (R.aa rfl (by decide)) g137 ?_
                refine go_bipush (v := 40) (pc' := 144) dX9_advance_142 rfl (by decide) ?_
                refine go_icmp_eq (pc' := 147) (tgt := 180) dX9_advance_144 (by decide) rfl (fun c138 => ?_) (fun c138 => ?_)
                · have hf := it c138 hf
                  refine go_iconst (v := 1) (pc' := 181) dX9_advance_180 rfl (by decide) ?_
                  refine go_goto (pc' := 0) (tgt := 185) dX9_advance_181 (by decide) ?_
                  exact t_X9_advance_185 R hf
                · have hf := ie c138 hf
                  refine go_aload_n (i := 0) (pc' := 148) dX9_advance_147 rfl rfl rfl ?_
                  refine go_getS (pc' := 151) dX9_advance_148 rfl gf_LandBase_Tape_9 R (R.at rfl (by decide)) (by decide) rfl ?_
                  refine go_iload_n (i := 1) (pc' := 152) dX9_advance_151 rfl rfl rfl ?_
                  obtain ⟨g139, hf⟩ := gd_some hf
                  refine go_baloadS (pc' := 153) dX9_advance_152 rfl R (R.aa rfl (by decide)) g139 ?_
                  refine go_bipush (v := 41) (pc' := 155) dX9_advance_153 rfl (by decide) ?_
                  refine go_icmp_eq (pc' := 158) (tgt := 180) dX9_advance_155 (by decide) rfl (fun c140 => ?_) (fun c140 => ?_)
                  · have hf := it c140 hf
                    refine go_iconst (v := 1) (pc' := 181) dX9_advance_180 rfl (by decide) ?_
                    refine go_goto (pc' := 0) (tgt := 185) dX9_advance_181 (by decide) ?_
                    exact t_X9_advance_185 R hf
                  · have hf := ie c140 hf
                    refine go_aload_n (i := 0) (pc' := 159) dX9_advance_158 rfl rfl rfl ?_
                    refine go_getS (pc' := 162) dX9_advance_159 rfl gf_LandBase_Tape_9 R (R.at rfl (by decide)) (by decide) rfl ?_
                    refine go_iload_n (i := 1) (pc' := 163) dX9_advance_162 rfl rfl rfl ?_
                    obtain ⟨g141, hf⟩ := gd_some hf
                    refine go_baloadS (pc' := 164) dX9_advance_163 rfl R (R.aa rfl (by decide)) g141 ?_
                    refine go_bipush (v := 44) (pc' := 166) dX9_advance_164 rfl (by decide) ?_
                    refine go_icmp_eq (pc' := 169) (tgt := 180) dX9_advance_166 (by decide) rfl (fun c142 => ?_) (fun c142 => ?_)
                    · have hf := it c142 hf
                      refine go_iconst (v := 1) (pc' := 181) dX9_advance_180 rfl (by decide) ?_
                      refine go_goto (pc' := 0) (tgt := 185) dX9_advance_181 (by decide) ?_
                      exact t_X9_advance_185 R hf
                    · have hf := ie c142 hf
                      refine go_aload_n (i := 0) (pc' := 170) dX9_advance_169 rfl rfl rfl ?_
                      refine go_getS (pc' := 173) dX9_advance_170 rfl gf_LandBase_Tape_9 R (R.at rfl (by decide)) (by decide) rfl ?_
                      refine go_iload_n (i := 1) (pc' := 174) dX9_advance_173 rfl rfl rfl ?_
                      obtain ⟨g143, hf⟩ := gd_some hf
                      refine go_baloadS (pc' := 175) dX9_advance_174 rfl R (R.aa rfl (by decide)) g143 ?_
                      refine go_bipush (v := 59) (pc' := 177) dX9_advance_175 rfl (by decide) ?_
                      refine go_icmp_ne (pc' := 180) (tgt := 184) dX9_advance_177 (by decide) rfl (fun c144 => ?_) (fun c144 => ?_)
                      · have hf := ie c144 hf
                        refine go_iconst (v := 0) (pc' := 185) dX9_advance_184 rfl (by decide) ?_
                        exact t_X9_advance_185 R hf
                      · have hf := it c144 hf
                        refine go_iconst (v := 1) (pc' := 181) dX9_advance_180 rfl (by decide) ?_
                        refine go_goto (pc' := 0) (tgt := 185) dX9_advance_181 (by decide) ?_
                        exact t_X9_advance_185 R hf
              · have hf := it c136 hf
                refine go_aload_n (i := 0) (pc' := 130) dX9_advance_129 rfl rfl rfl ?_
                obtain ⟨v145, σ146, e147, hf⟩ := bd_some hf
                refine go_invV (As := []) (pc' := 133) dX9_advance_130 rfl cf_X9_advance_34 rfl (R.ob (R.at rfl (by decide))) rfl rfl (Nat.le_of_ble_eq_true rfl) (c_X9_takeNumber R e147) (fun q148v h149 q148 => ?_)
                obtain ⟨rfl, R⟩ := q148
                refine go_goto (pc' := 0) (tgt := 206) dX9_advance_133 (by decide) ?_
                obtain rfl := Option.some.inj hf
                exact Go.ret (v := none) dX9_advance_206 rfl ⟨trivial, rfl, R⟩
        · have hf := ie c110 hf
          refine go_aload_n (i := 0) (pc' := 79) dX9_advance_78 rfl rfl rfl ?_
          refine go_getS (pc' := 82) dX9_advance_79 rfl gf_LandBase_Tape_9 R (R.at rfl (by decide)) (by decide) rfl ?_
          refine go_iload_n (i := 1) (pc' := 83) dX9_advance_82 rfl rfl rfl ?_
          obtain ⟨g150, hf⟩ := gd_some hf
          refine go_baloadS (pc' := 84) dX9_advance_83 rfl R (R.aa rfl (by decide)) g150 ?_
          refine go_bipush (v := 90) (pc' := 86) dX9_advance_84 rfl (by decide) ?_
          refine go_icmp_gt (pc' := 89) (tgt := 96) dX9_advance_86 (by decide) rfl (fun c151 => ?_) (fun c151 => ?_)
          · have hf := it c151 hf
            refine go_aload_n (i := 0) (pc' := 97) dX9_advance_96 rfl rfl rfl ?_
            refine go_getS (pc' := 100) dX9_advance_97 rfl gf_LandBase_Tape_9 R (R.at rfl (by decide)) (by decide) rfl ?_
            refine go_iload_n (i := 1) (pc' := 101) dX9_advance_100 rfl rfl rfl ?_
            obtain ⟨g152, hf⟩ := gd_some hf
            refine go_baloadS (pc' := 102) dX9_advance_101 rfl R (R.aa rfl (by decide)) g152 ?_
            refine go_bipush (v := 48) (pc' := 104) dX9_advance_102 rfl (by decide) ?_
            refine go_icmp_lt (pc' := 107) (tgt := 118) dX9_advance_104 (by decide) rfl (fun c153 => ?_) (fun c153 => ?_)
            · have hf := it c153 hf
              refine go_aload_n (i := 0) (pc' := 119) dX9_advance_118 rfl rfl rfl ?_
              refine go_getS (pc' := 122) dX9_advance_119 rfl gf_LandBase_Tape_9 R (R.at rfl (by decide)) (by decide) rfl ?_
              refine go_iload_n (i := 1) (pc' := 123) dX9_advance_122 rfl rfl rfl ?_
              obtain ⟨g154, hf⟩ := gd_some hf
              refine go_baloadS (pc' := 124) dX9_advance_123 rfl R (R.aa rfl (by decide)) g154 ?_
              refine go_bipush (v := 45) (pc' := 126) dX9_advance_124 rfl (by decide) ?_
              refine go_icmp_ne (pc' := 129) (tgt := 136) dX9_advance_126 (by decide) rfl (fun c155 => ?_) (fun c155 => ?_)
              · have hf := ie c155 hf
                refine go_aload_n (i := 0) (pc' := 137) dX9_advance_136 rfl rfl rfl ?_
                refine go_getS (pc' := 140) dX9_advance_137 rfl gf_LandBase_Tape_9 R (R.at rfl (by decide)) (by decide) rfl ?_
                refine go_iload_n (i := 1) (pc' := 141) dX9_advance_140 rfl rfl rfl ?_
                obtain ⟨g156, hf⟩ := gd_some hf
                refine go_baloadS (pc' := 142) dX9_advance_141 rfl R (R.aa rfl (by decide)) g156 ?_
                refine go_bipush (v := 40) (pc' := 144) dX9_advance_142 rfl (by decide) ?_
                refine go_icmp_eq (pc' := 147) (tgt := 180) dX9_advance_144 (by decide) rfl (fun c157 => ?_) (fun c157 => ?_)
                · have hf := it c157 hf
                  refine go_iconst (v := 1) (pc' := 181) dX9_advance_180 rfl (by decide) ?_
                  refine go_goto (pc' := 0) (tgt := 185) dX9_advance_181 (by decide) ?_
                  exact t_X9_advance_185 R hf
                · have hf := ie c157 hf
                  refine go_aload_n (i := 0) (pc' := 148) dX9_advance_147 rfl rfl rfl ?_
                  refine go_getS (pc' := 151) dX9_advance_148 rfl gf_LandBase_Tape_9 R (R.at rfl (by decide)) (by decide) rfl ?_
                  refine go_iload_n (i := 1) (pc' := 152) dX9_advance_151 rfl rfl rfl ?_
                  obtain ⟨g158, hf⟩ := gd_some hf
                  refine go_baloadS (pc' := 153) dX9_advance_152 rfl R (R.aa rfl (by decide)) g158 ?_
                  refine go_bipush (v := 41) (pc' := 155) dX9_advance_153 rfl (by decide) ?_
                  refine go_icmp_eq (pc' := 158) (tgt := 180) dX9_advance_155 (by decide) rfl (fun c159 => ?_) (fun c159 => ?_)
                  · have hf := it c159 hf
                    refine go_iconst (v := 1) (pc' := 181) dX9_advance_180 rfl (by decide) ?_
                    refine go_goto (pc' := 0) (tgt := 185) dX9_advance_181 (by decide) ?_
                    exact t_X9_advance_185 R hf
                  · have hf := ie c159 hf
                    refine go_aload_n (i := 0) (pc' := 159) dX9_advance_158 rfl rfl rfl ?_
                    refine go_getS (pc' := 162) dX9_advance_159 rfl gf_LandBase_Tape_9 R (R.at rfl (by decide)) (by decide) rfl ?_
                    refine go_iload_n (i := 1) (pc' := 163) dX9_advance_162 rfl rfl rfl ?_
                    obtain ⟨g160, hf⟩ := gd_some hf
                    refine go_baloadS (pc' := 164) dX9_advance_163 rfl R (R.aa rfl (by decide)) g160 ?_
                    refine go_bipush (v := 44) (pc' := 166) dX9_advance_164 rfl (by decide) ?_
                    refine go_icmp_eq (pc' := 169) (tgt := 180) dX9_advance_166 (by decide) rfl (fun c161 => ?_) (fun c161 => ?_)
                    · have hf := it c161 hf
                      refine go_iconst (v := 1) (pc' := 181) dX9_advance_180 rfl (by decide) ?_
                      refine go_goto (pc' := 0) (tgt := 185) dX9_advance_181 (by decide) ?_
                      exact t_X9_advance_185 R hf
                    · have hf := ie c161 hf
                      refine go_aload_n (i := 0) (pc' := 170) dX9_advance_169 rfl rfl rfl ?_
                      refine go_getS (pc' := 173) dX9_advance_170 rfl gf_LandBase_Tape_9 R (R.at rfl (by decide)) (by decide) rfl ?_
                      refine go_iload_n (i := 1) (pc' := 174) dX9_advance_173 rfl rfl rfl ?_
                      obtain ⟨g162, hf⟩ := gd_some hf
                      refine go_baloadS (pc' := 175) dX9_advance_174 rfl R (R.aa rfl (by decide)) g162 ?_
                      refine go_bipush (v := 59) (pc' := 177) dX9_advance_175 rfl (by decide) ?_
                      refine go_icmp_ne (pc' := 180) (tgt := 184) dX9_advance_177 (by decide) rfl (fun c163 => ?_) (fun c163 => ?_)
                      · have hf := ie c163 hf
                        refine go_iconst (v := 0) (pc' := 185) dX9_advance_184 rfl (by decide) ?_
                        exact t_X9_advance_185 R hf
                      · have hf := it c163 hf
                        refine go_iconst (v := 1) (pc' := 181) dX9_advance_180 rfl (by decide) ?_
                        refine go_goto (pc' := 0) (tgt := 185) dX9_advance_181 (by decide) ?_
                        exact t_X9_advance_185 R hf
              · have hf := it c155 hf
                refine go_aload_n (i := 0) (pc' := 130) dX9_advance_129 rfl rfl rfl ?_
                obtain ⟨v164, σ165, e166, hf⟩ := bd_some hf
                refine go_invV (As := []) (pc' := 133) dX9_advance_130 rfl cf_X9_advance_34 rfl (R.ob (R.at rfl (by decide))) rfl rfl (Nat.le_of_ble_eq_true rfl) (c_X9_takeNumber R e166) (fun q167v h168 q167 => ?_)
                obtain ⟨rfl, R⟩ := q167
                refine go_goto (pc' := 0) (tgt := 206) dX9_advance_133 (by decide) ?_
                obtain rfl := Option.some.inj hf
                exact Go.ret (v := none) dX9_advance_206 rfl ⟨trivial, rfl, R⟩
            · have hf := ie c153 hf
              refine go_aload_n (i := 0) (pc' := 108) dX9_advance_107 rfl rfl rfl ?_
              refine go_getS (pc' := 111) dX9_advance_108 rfl gf_LandBase_Tape_9 R (R.at rfl (by decide)) (by decide) rfl ?_
              refine go_iload_n (i := 1) (pc' := 112) dX9_advance_111 rfl rfl rfl ?_
              obtain ⟨g169, hf⟩ := gd_some hf
              refine go_baloadS (pc' := 113) dX9_advance_112 rfl R (R.aa rfl (by decide)) g169 ?_
              refine go_bipush (v := 57) (pc' := 115) dX9_advance_113 rfl (by decide) ?_
              refine go_icmp_le (pc' := 118) (tgt := 129) dX9_advance_115 (by decide) rfl (fun c170 => ?_) (fun c170 => ?_)
              · have hf := it c170 hf
                refine go_aload_n (i := 0) (pc' := 130) dX9_advance_129 rfl rfl rfl ?_
                obtain ⟨v171, σ172, e173, hf⟩ := bd_some hf
                refine go_invV (As := []) (pc' := 133) dX9_advance_130 rfl cf_X9_advance_34 rfl (R.ob (R.at rfl (by decide))) rfl rfl (Nat.le_of_ble_eq_true rfl) (c_X9_takeNumber R e173) (fun q174v h175 q174 => ?_)
                obtain ⟨rfl, R⟩ := q174
                refine go_goto (pc' := 0) (tgt := 206) dX9_advance_133 (by decide) ?_
                obtain rfl := Option.some.inj hf
                exact Go.ret (v := none) dX9_advance_206 rfl ⟨trivial, rfl, R⟩
              · have hf := ie c170 hf
                refine go_aload_n (i := 0) (pc' := 119) dX9_advance_118 rfl rfl rfl ?_
                refine go_getS (pc' := 122) dX9_advance_119 rfl gf_LandBase_Tape_9 R (R.at rfl (by decide)) (by decide) rfl ?_
                refine go_iload_n (i := 1) (pc' := 123) dX9_advance_122 rfl rfl rfl ?_
                obtain ⟨g176, hf⟩ := gd_some hf
                refine go_baloadS (pc' := 124) dX9_advance_123 rfl R (R.aa rfl (by decide)) g176 ?_
                refine go_bipush (v := 45) (pc' := 126) dX9_advance_124 rfl (by decide) ?_
                refine go_icmp_ne (pc' := 129) (tgt := 136) dX9_advance_126 (by decide) rfl (fun c177 => ?_) (fun c177 => ?_)
                · have hf := ie c177 hf
                  refine go_aload_n (i := 0) (pc' := 137) dX9_advance_136 rfl rfl rfl ?_
                  refine go_getS (pc' := 140) dX9_advance_137 rfl gf_LandBase_Tape_9 R (R.at rfl (by decide)) (by decide) rfl ?_
                  refine go_iload_n (i := 1) (pc' := 141) dX9_advance_140 rfl rfl rfl ?_
                  obtain ⟨g178, hf⟩ := gd_some hf
                  refine go_baloadS (pc' := 142) dX9_advance_141 rfl R (R.aa rfl (by decide)) g178 ?_
                  refine go_bipush (v := 40) (pc' := 144) dX9_advance_142 rfl (by decide) ?_
                  refine go_icmp_eq (pc' := 147) (tgt := 180) dX9_advance_144 (by decide) rfl (fun c179 => ?_) (fun c179 => ?_)
                  · have hf := it c179 hf
                    refine go_iconst (v := 1) (pc' := 181) dX9_advance_180 rfl (by decide) ?_
                    refine go_goto (pc' := 0) (tgt := 185) dX9_advance_181 (by decide) ?_
                    exact t_X9_advance_185 R hf
                  · have hf := ie c179 hf
                    refine go_aload_n (i := 0) (pc' := 148) dX9_advance_147 rfl rfl rfl ?_
                    refine go_getS (pc' := 151) dX9_advance_148 rfl gf_LandBase_Tape_9 R (R.at rfl (by decide)) (by decide) rfl ?_
                    refine go_iload_n (i := 1) (pc' := 152) dX9_advance_151 rfl rfl rfl ?_
                    obtain ⟨g180, hf⟩ := gd_some hf
                    refine go_baloadS (pc' := 153) dX9_advance_152 rfl R (R.aa rfl (by decide)) g180 ?_
                    refine go_bipush (v := 41) (pc' := 155) dX9_advance_153 rfl (by decide) ?_
                    refine go_icmp_eq (pc' := 158) (tgt := 180) dX9_advance_155 (by decide) rfl (fun c181 => ?_) (fun c181 => ?_)
                    · have hf := it c181 hf
                      refine go_iconst (v := 1) (pc' := 181) dX9_advance_180 rfl (by decide) ?_
                      refine go_goto (pc' := 0) (tgt := 185) dX9_advance_181 (by decide) ?_
                      exact t_X9_advance_185 R hf
                    · have hf := ie c181 hf
                      refine go_aload_n (i := 0) (pc' := 159) dX9_advance_158 rfl rfl rfl ?_
                      refine go_getS (pc' := 162) dX9_advance_159 rfl gf_LandBase_Tape_9 R (R.at rfl (by decide)) (by decide) rfl ?_
                      refine go_iload_n (i := 1) (pc' := 163) dX9_advance_162 rfl rfl rfl ?_
                      obtain ⟨g182, hf⟩ := gd_some hf
                      refine go_baloadS (pc' := 164) dX9_advance_163 rfl R (R.aa rfl (by decide)) g182 ?_
                      refine go_bipush (v := 44) (pc' := 166) dX9_advance_164 rfl (by decide) ?_
                      refine go_icmp_eq (pc' := 169) (tgt := 180) dX9_advance_166 (by decide) rfl (fun c183 => ?_) (fun c183 => ?_)
                      · have hf := it c183 hf
                        refine go_iconst (v := 1) (pc' := 181) dX9_advance_180 rfl (by decide) ?_
                        refine go_goto (pc' := 0) (tgt := 185) dX9_advance_181 (by decide) ?_
                        exact t_X9_advance_185 R hf
                      · have hf := ie c183 hf
                        refine go_aload_n (i := 0) (pc' := 170) dX9_advance_169 rfl rfl rfl ?_
                        refine go_getS (pc' := 173) dX9_advance_170 rfl gf_LandBase_Tape_9 R (R.at rfl (by decide)) (by decide) rfl ?_
                        refine go_iload_n (i := 1) (pc' := 174) dX9_advance_173 rfl rfl rfl ?_
                        obtain ⟨g184, hf⟩ := gd_some hf
                        refine go_baloadS (pc' := 175) dX9_advance_174 rfl R (R.aa rfl (by decide)) g184 ?_
                        refine go_bipush (v := 59) (pc' := 177) dX9_advance_175 rfl (by decide) ?_
                        refine go_icmp_ne (pc' := 180) (tgt := 184) dX9_advance_177 (by decide) rfl (fun c185 => ?_) (fun c185 => ?_)
                        · have hf := ie c185 hf
                          refine go_iconst (v := 0) (pc' := 185) dX9_advance_184 rfl (by decide) ?_
                          exact t_X9_advance_185 R hf
                        · have hf := it c185 hf
                          refine go_iconst (v := 1) (pc' := 181) dX9_advance_180 rfl (by decide) ?_
                          refine go_goto (pc' := 0) (tgt := 185) dX9_advance_181 (by decide) ?_
                          exact t_X9_advance_185 R hf
                · have hf := it c177 hf
                  refine go_aload_n (i := 0) (pc' := 130) dX9_advance_129 rfl rfl rfl ?_
                  obtain ⟨v186, σ187, e188, hf⟩ := bd_some hf
                  refine go_invV (As := []) (pc' := 133) dX9_advance_130 rfl cf_X9_advance_34 rfl (R.ob (R.at rfl (by decide))) rfl rfl (Nat.le_of_ble_eq_true rfl) (c_X9_takeNumber R e188) (fun q189v h190 q189 => ?_)
                  obtain ⟨rfl, R⟩ := q189
                  refine go_goto (pc' := 0) (tgt := 206) dX9_advance_133 (by decide) ?_
                  obtain rfl := Option.some.inj hf
                  exact Go.ret (v := none) dX9_advance_206 rfl ⟨trivial, rfl, R⟩
          · have hf := ie c151 hf
            refine go_aload_n (i := 0) (pc' := 90) dX9_advance_89 rfl rfl rfl ?_
            obtain ⟨v191, σ192, e193, hf⟩ := bd_some hf
            refine go_invV (As := []) (pc' := 93) dX9_advance_90 rfl cf_X9_advance_31 rfl (R.ob (R.at rfl (by decide))) rfl rfl (Nat.le_of_ble_eq_true rfl) (c_X9_takeWord R e193) (fun q194v h195 q194 => ?_)
            obtain ⟨rfl, R⟩ := q194
            refine go_goto (pc' := 0) (tgt := 206) dX9_advance_93 (by decide) ?_
            obtain rfl := Option.some.inj hf
            exact Go.ret (v := none) dX9_advance_206 rfl ⟨trivial, rfl, R⟩
      · have hf := ie c108 hf
        refine go_aload_n (i := 0) (pc' := 60) dX9_advance_59 rfl rfl rfl ?_
        refine go_iconst (v := 0) (pc' := 61) dX9_advance_60 rfl (by decide) ?_
        obtain ⟨σ196, e197, hf⟩ := st_some hf
        refine go_putI (pc' := 64) dX9_advance_61 rfl pf_LandBase_Tape_28 R (R.at rfl (by decide)) (by decide) rfl rfl rfl (fun h198 R => ?_)
        have R := Rl.cast e197 R
        refine go_goto (pc' := 0) (tgt := 206) dX9_advance_64 (by decide) ?_
        obtain rfl := Option.some.inj hf
        exact Go.ret (v := none) dX9_advance_206 rfl ⟨trivial, rfl, R⟩
    · have hf := ie c101 hf
      refine go_aload_n (i := 0) (pc' := 14) dX9_advance_13 rfl rfl rfl ?_
      refine go_getS (pc' := 17) dX9_advance_14 rfl gf_LandBase_Tape_9 R (R.at rfl (by decide)) (by decide) rfl ?_
      refine go_iload_n (i := 1) (pc' := 18) dX9_advance_17 rfl rfl rfl ?_
      obtain ⟨g199, hf⟩ := gd_some hf
      refine go_baloadS (pc' := 19) dX9_advance_18 rfl R (R.aa rfl (by decide)) g199 ?_
      refine go_bipush (v := 32) (pc' := 21) dX9_advance_19 rfl (by decide) ?_
      refine go_icmp_eq (pc' := 24) (tgt := 35) dX9_advance_21 (by decide) rfl (fun c200 => ?_) (fun c200 => ?_)
      · have hf := it c200 hf
        refine go_iincC (kk := 1) (pc' := 38) dX9_advance_35 rfl rfl (by decide) (by decide) rfl ?_
        refine go_goto (pc' := 0) (tgt := 5) dX9_advance_38 (by decide) ?_
        exact ih R hf
      · have hf := ie c200 hf
        refine go_aload_n (i := 0) (pc' := 25) dX9_advance_24 rfl rfl rfl ?_
        refine go_getS (pc' := 28) dX9_advance_25 rfl gf_LandBase_Tape_9 R (R.at rfl (by decide)) (by decide) rfl ?_
        refine go_iload_n (i := 1) (pc' := 29) dX9_advance_28 rfl rfl rfl ?_
        obtain ⟨g201, hf⟩ := gd_some hf
        refine go_baloadS (pc' := 30) dX9_advance_29 rfl R (R.aa rfl (by decide)) g201 ?_
        refine go_bipush (v := 10) (pc' := 32) dX9_advance_30 rfl (by decide) ?_
        refine go_icmp_ne (pc' := 35) (tgt := 41) dX9_advance_32 (by decide) rfl (fun c202 => ?_) (fun c202 => ?_)
        · have hf := ie c202 hf
          refine go_aload_n (i := 0) (pc' := 42) dX9_advance_41 rfl rfl rfl ?_
          refine go_iload_n (i := 1) (pc' := 43) dX9_advance_42 rfl rfl rfl ?_
          obtain ⟨σ203, e204, hf⟩ := st_some hf
          refine go_putI (pc' := 46) dX9_advance_43 rfl pf_LandBase_Tape_25 R (R.at rfl (by decide)) (by decide) rfl rfl rfl (fun h205 R => ?_)
          have R := Rl.cast e204 R
          refine go_aload_n (i := 0) (pc' := 47) dX9_advance_46 rfl rfl rfl ?_
          refine go_iload_n (i := 1) (pc' := 48) dX9_advance_47 rfl rfl rfl ?_
          obtain ⟨σ206, e207, hf⟩ := st_some hf
          refine go_putI (pc' := 51) dX9_advance_48 rfl pf_LandBase_Tape_19 R (R.at rfl (by decide)) (by decide) rfl rfl rfl (fun h208 R => ?_)
          have R := Rl.cast e207 R
          refine go_iload_n (i := 1) (pc' := 52) dX9_advance_51 rfl rfl rfl ?_
          refine go_aload_n (i := 0) (pc' := 53) dX9_advance_52 rfl rfl rfl ?_
          refine go_getS (pc' := 56) dX9_advance_53 rfl gf_LandBase_Tape_15 R (R.at rfl (by decide)) (by decide) rfl ?_
          refine go_icmp_lt (pc' := 59) (tgt := 67) dX9_advance_56 (by decide) rfl (fun c209 => ?_) (fun c209 => ?_)
          · have hf := it c209 hf
            refine go_aload_n (i := 0) (pc' := 68) dX9_advance_67 rfl rfl rfl ?_
            refine go_getS (pc' := 71) dX9_advance_68 rfl gf_LandBase_Tape_9 R (R.at rfl (by decide)) (by decide) rfl ?_
            refine go_iload_n (i := 1) (pc' := 72) dX9_advance_71 rfl rfl rfl ?_
            obtain ⟨g210, hf⟩ := gd_some hf
            refine go_baloadS (pc' := 73) dX9_advance_72 rfl R (R.aa rfl (by decide)) g210 ?_
            refine go_bipush (v := 65) (pc' := 75) dX9_advance_73 rfl (by decide) ?_
            refine go_icmp_lt (pc' := 78) (tgt := 96) dX9_advance_75 (by decide) rfl (fun c211 => ?_) (fun c211 => ?_)
            · have hf := it c211 hf
              refine go_aload_n (i := 0) (pc' := 97) dX9_advance_96 rfl rfl rfl ?_
              refine go_getS (pc' := 100) dX9_advance_97 rfl gf_LandBase_Tape_9 R (R.at rfl (by decide)) (by decide) rfl ?_
              refine go_iload_n (i := 1) (pc' := 101) dX9_advance_100 rfl rfl rfl ?_
              obtain ⟨g212, hf⟩ := gd_some hf
              refine go_baloadS (pc' := 102) dX9_advance_101 rfl R (R.aa rfl (by decide)) g212 ?_
              refine go_bipush (v := 48) (pc' := 104) dX9_advance_102 rfl (by decide) ?_
              refine go_icmp_lt (pc' := 107) (tgt := 118) dX9_advance_104 (by decide) rfl (fun c213 => ?_) (fun c213 => ?_)
              · have hf := it c213 hf
                refine go_aload_n (i := 0) (pc' := 119) dX9_advance_118 rfl rfl rfl ?_
                refine go_getS (pc' := 122) dX9_advance_119 rfl gf_LandBase_Tape_9 R (R.at rfl (by decide)) (by decide) rfl ?_
                refine go_iload_n (i := 1) (pc' := 123) dX9_advance_122 rfl rfl rfl ?_
                obtain ⟨g214, hf⟩ := gd_some hf
                refine go_baloadS (pc' := 124) dX9_advance_123 rfl R (R.aa rfl (by decide)) g214 ?_
                refine go_bipush (v := 45) (pc' := 126) dX9_advance_124 rfl (by decide) ?_
                refine go_icmp_ne (pc' := 129) (tgt := 136) dX9_advance_126 (by decide) rfl (fun c215 => ?_) (fun c215 => ?_)
                · have hf := ie c215 hf
                  refine go_aload_n (i := 0) (pc' := 137) dX9_advance_136 rfl rfl rfl ?_
                  refine go_getS (pc' := 140) dX9_advance_137 rfl gf_LandBase_Tape_9 R (R.at rfl (by decide)) (by decide) rfl ?_
                  refine go_iload_n (i := 1) (pc' := 141) dX9_advance_140 rfl rfl rfl ?_
                  obtain ⟨g216, hf⟩ := gd_some hf
                  refine go_baloadS (pc' := 142) dX9_advance_141 rfl R (R.aa rfl (by decide)) g216 ?_
                  refine go_bipush (v := 40) (pc' := 144) dX9_advance_142 rfl (by decide) ?_
                  refine go_icmp_eq (pc' := 147) (tgt := 180) dX9_advance_144 (by decide) rfl (fun c217 => ?_) (fun c217 => ?_)
                  · have hf := it c217 hf
                    refine go_iconst (v := 1) (pc' := 181) dX9_advance_180 rfl (by decide) ?_
                    refine go_goto (pc' := 0) (tgt := 185) dX9_advance_181 (by decide) ?_
                    exact t_X9_advance_185 R hf
                  · have hf := ie c217 hf
                    refine go_aload_n (i := 0) (pc' := 148) dX9_advance_147 rfl rfl rfl ?_
                    refine go_getS (pc' := 151) dX9_advance_148 rfl gf_LandBase_Tape_9 R (R.at rfl (by decide)) (by decide) rfl ?_
                    refine go_iload_n (i := 1) (pc' := 152) dX9_advance_151 rfl rfl rfl ?_
                    obtain ⟨g218, hf⟩ := gd_some hf
                    refine go_baloadS (pc' := 153) dX9_advance_152 rfl R (R.aa rfl (by decide)) g218 ?_
                    refine go_bipush (v := 41) (pc' := 155) dX9_advance_153 rfl (by decide) ?_
                    refine go_icmp_eq (pc' := 158) (tgt := 180) dX9_advance_155 (by decide) rfl (fun c219 => ?_) (fun c219 => ?_)
                    · have hf := it c219 hf
                      refine go_iconst (v := 1) (pc' := 181) dX9_advance_180 rfl (by decide) ?_
                      refine go_goto (pc' := 0) (tgt := 185) dX9_advance_181 (by decide) ?_
                      exact t_X9_advance_185 R hf
                    · have hf := ie c219 hf
                      refine go_aload_n (i := 0) (pc' := 159) dX9_advance_158 rfl rfl rfl ?_
                      refine go_getS (pc' := 162) dX9_advance_159 rfl gf_LandBase_Tape_9 R (R.at rfl (by decide)) (by decide) rfl ?_
                      refine go_iload_n (i := 1) (pc' := 163) dX9_advance_162 rfl rfl rfl ?_
                      obtain ⟨g220, hf⟩ := gd_some hf
                      refine go_baloadS (pc' := 164) dX9_advance_163 rfl R (R.aa rfl (by decide)) g220 ?_
                      refine go_bipush (v := 44) (pc' := 166) dX9_advance_164 rfl (by decide) ?_
                      refine go_icmp_eq (pc' := 169) (tgt := 180) dX9_advance_166 (by decide) rfl (fun c221 => ?_) (fun c221 => ?_)
                      · have hf := it c221 hf
                        refine go_iconst (v := 1) (pc' := 181) dX9_advance_180 rfl (by decide) ?_
                        refine go_goto (pc' := 0) (tgt := 185) dX9_advance_181 (by decide) ?_
                        exact t_X9_advance_185 R hf
                      · have hf := ie c221 hf
                        refine go_aload_n (i := 0) (pc' := 170) dX9_advance_169 rfl rfl rfl ?_
                        refine go_getS (pc' := 173) dX9_advance_170 rfl gf_LandBase_Tape_9 R (R.at rfl (by decide)) (by decide) rfl ?_
                        refine go_iload_n (i := 1) (pc' := 174) dX9_advance_173 rfl rfl rfl ?_
                        obtain ⟨g222, hf⟩ := gd_some hf
                        refine go_baloadS (pc' := 175) dX9_advance_174 rfl R (R.aa rfl (by decide)) g222 ?_
                        refine go_bipush (v := 59) (pc' := 177) dX9_advance_175 rfl (by decide) ?_
                        refine go_icmp_ne (pc' := 180) (tgt := 184) dX9_advance_177 (by decide) rfl (fun c223 => ?_) (fun c223 => ?_)
                        · have hf := ie c223 hf
                          refine go_iconst (v := 0) (pc' := 185) dX9_advance_184 rfl (by decide) ?_
                          exact t_X9_advance_185 R hf
                        · have hf := it c223 hf
                          refine go_iconst (v := 1) (pc' := 181) dX9_advance_180 rfl (by decide) ?_
                          refine go_goto (pc' := 0) (tgt := 185) dX9_advance_181 (by decide) ?_
                          exact t_X9_advance_185 R hf
                · have hf := it c215 hf
                  refine go_aload_n (i := 0) (pc' := 130) dX9_advance_129 rfl rfl rfl ?_
                  obtain ⟨v224, σ225, e226, hf⟩ := bd_some hf
                  refine go_invV (As := []) (pc' := 133) dX9_advance_130 rfl cf_X9_advance_34 rfl (R.ob (R.at rfl (by decide))) rfl rfl (Nat.le_of_ble_eq_true rfl) (c_X9_takeNumber R e226) (fun q227v h228 q227 => ?_)
                  obtain ⟨rfl, R⟩ := q227
                  refine go_goto (pc' := 0) (tgt := 206) dX9_advance_133 (by decide) ?_
                  obtain rfl := Option.some.inj hf
                  exact Go.ret (v := none) dX9_advance_206 rfl ⟨trivial, rfl, R⟩
              · have hf := ie c213 hf
                refine go_aload_n (i := 0) (pc' := 108) dX9_advance_107 rfl rfl rfl ?_
                refine go_getS (pc' := 111) dX9_advance_108 rfl gf_LandBase_Tape_9 R (R.at rfl (by decide)) (by decide) rfl ?_
                refine go_iload_n (i := 1) (pc' := 112) dX9_advance_111 rfl rfl rfl ?_
                obtain ⟨g229, hf⟩ := gd_some hf
                refine go_baloadS (pc' := 113) dX9_advance_112 rfl R (R.aa rfl (by decide)) g229 ?_
                refine go_bipush (v := 57) (pc' := 115) dX9_advance_113 rfl (by decide) ?_
                refine go_icmp_le (pc' := 118) (tgt := 129) dX9_advance_115 (by decide) rfl (fun c230 => ?_) (fun c230 => ?_)
                · have hf := it c230 hf
                  refine go_aload_n (i := 0) (pc' := 130) dX9_advance_129 rfl rfl rfl ?_
                  obtain ⟨v231, σ232, e233, hf⟩ := bd_some hf
                  refine go_invV (As := []) (pc' := 133) dX9_advance_130 rfl cf_X9_advance_34 rfl (R.ob (R.at rfl (by decide))) rfl rfl (Nat.le_of_ble_eq_true rfl) (c_X9_takeNumber R e233) (fun q234v h235 q234 => ?_)
                  obtain ⟨rfl, R⟩ := q234
                  refine go_goto (pc' := 0) (tgt := 206) dX9_advance_133 (by decide) ?_
                  obtain rfl := Option.some.inj hf
                  exact Go.ret (v := none) dX9_advance_206 rfl ⟨trivial, rfl, R⟩
                · have hf := ie c230 hf
                  refine go_aload_n (i := 0) (pc' := 119) dX9_advance_118 rfl rfl rfl ?_
                  refine go_getS (pc' := 122) dX9_advance_119 rfl gf_LandBase_Tape_9 R (R.at rfl (by decide)) (by decide) rfl ?_
                  refine go_iload_n (i := 1) (pc' := 123) dX9_advance_122 rfl rfl rfl ?_
                  obtain ⟨g236, hf⟩ := gd_some hf
                  refine go_baloadS (pc' := 124) dX9_advance_123 rfl R (R.aa rfl (by decide)) g236 ?_
                  refine go_bipush (v := 45) (pc' := 126) dX9_advance_124 rfl (by decide) ?_
                  refine go_icmp_ne (pc' := 129) (tgt := 136) dX9_advance_126 (by decide) rfl (fun c237 => ?_) (fun c237 => ?_)
                  · have hf := ie c237 hf
                    refine go_aload_n (i := 0) (pc' := 137) dX9_advance_136 rfl rfl rfl ?_
                    refine go_getS (pc' := 140) dX9_advance_137 rfl gf_LandBase_Tape_9 R (R.at rfl (by decide)) (by decide) rfl ?_
                    refine go_iload_n (i := 1) (pc' := 141) dX9_advance_140 rfl rfl rfl ?_
                    obtain ⟨g238, hf⟩ := gd_some hf
                    refine go_baloadS (pc' := 142) dX9_advance_141 rfl R (R.aa rfl (by decide)) g238 ?_
                    refine go_bipush (v := 40) (pc' := 144) dX9_advance_142 rfl (by decide) ?_
                    refine go_icmp_eq (pc' := 147) (tgt := 180) dX9_advance_144 (by decide) rfl (fun c239 => ?_) (fun c239 => ?_)
                    · have hf := it c239 hf
                      refine go_iconst (v := 1) (pc' := 181) dX9_advance_180 rfl (by decide) ?_
                      refine go_goto (pc' := 0) (tgt := 185) dX9_advance_181 (by decide) ?_
                      exact t_X9_advance_185 R hf
                    · have hf := ie c239 hf
                      refine go_aload_n (i := 0) (pc' := 148) dX9_advance_147 rfl rfl rfl ?_
                      refine go_getS (pc' := 151) dX9_advance_148 rfl gf_LandBase_Tape_9 R (R.at rfl (by decide)) (by decide) rfl ?_
                      refine go_iload_n (i := 1) (pc' := 152) dX9_advance_151 rfl rfl rfl ?_
                      obtain ⟨g240, hf⟩ := gd_some hf
                      refine go_baloadS (pc' := 153) dX9_advance_152 rfl R (R.aa rfl (by decide)) g240 ?_
                      refine go_bipush (v := 41) (pc' := 155) dX9_advance_153 rfl (by decide) ?_
                      refine go_icmp_eq (pc' := 158) (tgt := 180) dX9_advance_155 (by decide) rfl (fun c241 => ?_) (fun c241 => ?_)
                      · have hf := it c241 hf
                        refine go_iconst (v := 1) (pc' := 181) dX9_advance_180 rfl (by decide) ?_
                        refine go_goto (pc' := 0) (tgt := 185) dX9_advance_181 (by decide) ?_
                        exact t_X9_advance_185 R hf
                      · have hf := ie c241 hf
                        refine go_aload_n (i := 0) (pc' := 159) dX9_advance_158 rfl rfl rfl ?_
                        refine go_getS (pc' := 162) dX9_advance_159 rfl gf_LandBase_Tape_9 R (R.at rfl (by decide)) (by decide) rfl ?_
                        refine go_iload_n (i := 1) (pc' := 163) dX9_advance_162 rfl rfl rfl ?_
                        obtain ⟨g242, hf⟩ := gd_some hf
                        refine go_baloadS (pc' := 164) dX9_advance_163 rfl R (R.aa rfl (by decide)) g242 ?_
                        refine go_bipush (v := 44) (pc' := 166) dX9_advance_164 rfl (by decide) ?_
                        refine go_icmp_eq (pc' := 169) (tgt := 180) dX9_advance_166 (by decide) rfl (fun c243 => ?_) (fun c243 => ?_)
                        · have hf := it c243 hf
                          refine go_iconst (v := 1) (pc' := 181) dX9_advance_180 rfl (by decide) ?_
                          refine go_goto (pc' := 0) (tgt := 185) dX9_advance_181 (by decide) ?_
                          exact t_X9_advance_185 R hf
                        · have hf := ie c243 hf
                          refine go_aload_n (i := 0) (pc' := 170) dX9_advance_169 rfl rfl rfl ?_
                          refine go_getS (pc' := 173) dX9_advance_170 rfl gf_LandBase_Tape_9 R (R.at rfl (by decide)) (by decide) rfl ?_
                          refine go_iload_n (i := 1) (pc' := 174) dX9_advance_173 rfl rfl rfl ?_
                          obtain ⟨g244, hf⟩ := gd_some hf
                          refine go_baloadS (pc' := 175) dX9_advance_174 rfl R (R.aa rfl (by decide)) g244 ?_
                          refine go_bipush (v := 59) (pc' := 177) dX9_advance_175 rfl (by decide) ?_
                          refine go_icmp_ne (pc' := 180) (tgt := 184) dX9_advance_177 (by decide) rfl (fun c245 => ?_) (fun c245 => ?_)
                          · have hf := ie c245 hf
                            refine go_iconst (v := 0) (pc' := 185) dX9_advance_184 rfl (by decide) ?_
                            exact t_X9_advance_185 R hf
                          · have hf := it c245 hf
                            refine go_iconst (v := 1) (pc' := 181) dX9_advance_180 rfl (by decide) ?_
                            refine go_goto (pc' := 0) (tgt := 185) dX9_advance_181 (by decide) ?_
                            exact t_X9_advance_185 R hf
                  · have hf := it c237 hf
                    refine go_aload_n (i := 0) (pc' := 130) dX9_advance_129 rfl rfl rfl ?_
                    obtain ⟨v246, σ247, e248, hf⟩ := bd_some hf
                    refine go_invV (As := []) (pc' := 133) dX9_advance_130 rfl cf_X9_advance_34 rfl (R.ob (R.at rfl (by decide))) rfl rfl (Nat.le_of_ble_eq_true rfl) (c_X9_takeNumber R e248) (fun q249v h250 q249 => ?_)
                    obtain ⟨rfl, R⟩ := q249
                    refine go_goto (pc' := 0) (tgt := 206) dX9_advance_133 (by decide) ?_
                    obtain rfl := Option.some.inj hf
                    exact Go.ret (v := none) dX9_advance_206 rfl ⟨trivial, rfl, R⟩
            · have hf := ie c211 hf
              refine go_aload_n (i := 0) (pc' := 79) dX9_advance_78 rfl rfl rfl ?_
              refine go_getS (pc' := 82) dX9_advance_79 rfl gf_LandBase_Tape_9 R (R.at rfl (by decide)) (by decide) rfl ?_
              refine go_iload_n (i := 1) (pc' := 83) dX9_advance_82 rfl rfl rfl ?_
              obtain ⟨g251, hf⟩ := gd_some hf
              refine go_baloadS (pc' := 84) dX9_advance_83 rfl R (R.aa rfl (by decide)) g251 ?_
              refine go_bipush (v := 90) (pc' := 86) dX9_advance_84 rfl (by decide) ?_
              refine go_icmp_gt (pc' := 89) (tgt := 96) dX9_advance_86 (by decide) rfl (fun c252 => ?_) (fun c252 => ?_)
              · have hf := it c252 hf
                refine go_aload_n (i := 0) (pc' := 97) dX9_advance_96 rfl rfl rfl ?_
                refine go_getS (pc' := 100) dX9_advance_97 rfl gf_LandBase_Tape_9 R (R.at rfl (by decide)) (by decide) rfl ?_
                refine go_iload_n (i := 1) (pc' := 101) dX9_advance_100 rfl rfl rfl ?_
                obtain ⟨g253, hf⟩ := gd_some hf
                refine go_baloadS (pc' := 102) dX9_advance_101 rfl R (R.aa rfl (by decide)) g253 ?_
                refine go_bipush (v := 48) (pc' := 104) dX9_advance_102 rfl (by decide) ?_
                refine go_icmp_lt (pc' := 107) (tgt := 118) dX9_advance_104 (by decide) rfl (fun c254 => ?_) (fun c254 => ?_)
                · have hf := it c254 hf
                  refine go_aload_n (i := 0) (pc' := 119) dX9_advance_118 rfl rfl rfl ?_
                  refine go_getS (pc' := 122) dX9_advance_119 rfl gf_LandBase_Tape_9 R (R.at rfl (by decide)) (by decide) rfl ?_
                  refine go_iload_n (i := 1) (pc' := 123) dX9_advance_122 rfl rfl rfl ?_
                  obtain ⟨g255, hf⟩ := gd_some hf
                  refine go_baloadS (pc' := 124) dX9_advance_123 rfl R (R.aa rfl (by decide)) g255 ?_
                  refine go_bipush (v := 45) (pc' := 126) dX9_advance_124 rfl (by decide) ?_
                  refine go_icmp_ne (pc' := 129) (tgt := 136) dX9_advance_126 (by decide) rfl (fun c256 => ?_) (fun c256 => ?_)
                  · have hf := ie c256 hf
                    refine go_aload_n (i := 0) (pc' := 137) dX9_advance_136 rfl rfl rfl ?_
                    refine go_getS (pc' := 140) dX9_advance_137 rfl gf_LandBase_Tape_9 R (R.at rfl (by decide)) (by decide) rfl ?_
                    refine go_iload_n (i := 1) (pc' := 141) dX9_advance_140 rfl rfl rfl ?_
                    obtain ⟨g257, hf⟩ := gd_some hf
                    refine go_baloadS (pc' := 142) dX9_advance_141 rfl R (R.aa rfl (by decide)) g257 ?_
                    refine go_bipush (v := 40) (pc' := 144) dX9_advance_142 rfl (by decide) ?_
                    refine go_icmp_eq (pc' := 147) (tgt := 180) dX9_advance_144 (by decide) rfl (fun c258 => ?_) (fun c258 => ?_)
                    · have hf := it c258 hf
                      refine go_iconst (v := 1) (pc' := 181) dX9_advance_180 rfl (by decide) ?_
                      refine go_goto (pc' := 0) (tgt := 185) dX9_advance_181 (by decide) ?_
                      exact t_X9_advance_185 R hf
                    · have hf := ie c258 hf
                      refine go_aload_n (i := 0) (pc' := 148) dX9_advance_147 rfl rfl rfl ?_
                      refine go_getS (pc' := 151) dX9_advance_148 rfl gf_LandBase_Tape_9 R (R.at rfl (by decide)) (by decide) rfl ?_
                      refine go_iload_n (i := 1) (pc' := 152) dX9_advance_151 rfl rfl rfl ?_
                      obtain ⟨g259, hf⟩ := gd_some hf
                      refine go_baloadS (pc' := 153) dX9_advance_152 rfl R (R.aa rfl (by decide)) g259 ?_
                      refine go_bipush (v := 41) (pc' := 155) dX9_advance_153 rfl (by decide) ?_
                      refine go_icmp_eq (pc' := 158) (tgt := 180) dX9_advance_155 (by decide) rfl (fun c260 => ?_) (fun c260 => ?_)
                      · have hf := it c260 hf
                        refine go_iconst (v := 1) (pc' := 181) dX9_advance_180 rfl (by decide) ?_
                        refine go_goto (pc' := 0) (tgt := 185) dX9_advance_181 (by decide) ?_
                        exact t_X9_advance_185 R hf
                      · have hf := ie c260 hf
                        refine go_aload_n (i := 0) (pc' := 159) dX9_advance_158 rfl rfl rfl ?_
                        refine go_getS (pc' := 162) dX9_advance_159 rfl gf_LandBase_Tape_9 R (R.at rfl (by decide)) (by decide) rfl ?_
                        refine go_iload_n (i := 1) (pc' := 163) dX9_advance_162 rfl rfl rfl ?_
                        obtain ⟨g261, hf⟩ := gd_some hf
                        refine go_baloadS (pc' := 164) dX9_advance_163 rfl R (R.aa rfl (by decide)) g261 ?_
                        refine go_bipush (v := 44) (pc' := 166) dX9_advance_164 rfl (by decide) ?_
                        refine go_icmp_eq (pc' := 169) (tgt := 180) dX9_advance_166 (by decide) rfl (fun c262 => ?_) (fun c262 => ?_)
                        · have hf := it c262 hf
                          refine go_iconst (v := 1) (pc' := 181) dX9_advance_180 rfl (by decide) ?_
                          refine go_goto (pc' := 0) (tgt := 185) dX9_advance_181 (by decide) ?_
                          exact t_X9_advance_185 R hf
                        · have hf := ie c262 hf
                          refine go_aload_n (i := 0) (pc' := 170) dX9_advance_169 rfl rfl rfl ?_
                          refine go_getS (pc' := 173) dX9_advance_170 rfl gf_LandBase_Tape_9 R (R.at rfl (by decide)) (by decide) rfl ?_
                          refine go_iload_n (i := 1) (pc' := 174) dX9_advance_173 rfl rfl rfl ?_
                          obtain ⟨g263, hf⟩ := gd_some hf
                          refine go_baloadS (pc' := 175) dX9_advance_174 rfl R (R.aa rfl (by decide)) g263 ?_
                          refine go_bipush (v := 59) (pc' := 177) dX9_advance_175 rfl (by decide) ?_
                          refine go_icmp_ne (pc' := 180) (tgt := 184) dX9_advance_177 (by decide) rfl (fun c264 => ?_) (fun c264 => ?_)
                          · have hf := ie c264 hf
                            refine go_iconst (v := 0) (pc' := 185) dX9_advance_184 rfl (by decide) ?_
                            exact t_X9_advance_185 R hf
                          · have hf := it c264 hf
                            refine go_iconst (v := 1) (pc' := 181) dX9_advance_180 rfl (by decide) ?_
                            refine go_goto (pc' := 0) (tgt := 185) dX9_advance_181 (by decide) ?_
                            exact t_X9_advance_185 R hf
                  · have hf := it c256 hf
                    refine go_aload_n (i := 0) (pc' := 130) dX9_advance_129 rfl rfl rfl ?_
                    obtain ⟨v265, σ266, e267, hf⟩ := bd_some hf
                    refine go_invV (As := []) (pc' := 133) dX9_advance_130 rfl cf_X9_advance_34 rfl (R.ob (R.at rfl (by decide))) rfl rfl (Nat.le_of_ble_eq_true rfl) (c_X9_takeNumber R e267) (fun q268v h269 q268 => ?_)
                    obtain ⟨rfl, R⟩ := q268
                    refine go_goto (pc' := 0) (tgt := 206) dX9_advance_133 (by decide) ?_
                    obtain rfl := Option.some.inj hf
                    exact Go.ret (v := none) dX9_advance_206 rfl ⟨trivial, rfl, R⟩
                · have hf := ie c254 hf
                  refine go_aload_n (i := 0) (pc' := 108) dX9_advance_107 rfl rfl rfl ?_
                  refine go_getS (pc' := 111) dX9_advance_108 rfl gf_LandBase_Tape_9 R (R.at rfl (by decide)) (by decide) rfl ?_
                  refine go_iload_n (i := 1) (pc' := 112) dX9_advance_111 rfl rfl rfl ?_
                  obtain ⟨g270, hf⟩ := gd_some hf
                  refine go_baloadS (pc' := 113) dX9_advance_112 rfl R (R.aa rfl (by decide)) g270 ?_
                  refine go_bipush (v := 57) (pc' := 115) dX9_advance_113 rfl (by decide) ?_
                  refine go_icmp_le (pc' := 118) (tgt := 129) dX9_advance_115 (by decide) rfl (fun c271 => ?_) (fun c271 => ?_)
                  · have hf := it c271 hf
                    refine go_aload_n (i := 0) (pc' := 130) dX9_advance_129 rfl rfl rfl ?_
                    obtain ⟨v272, σ273, e274, hf⟩ := bd_some hf
                    refine go_invV (As := []) (pc' := 133) dX9_advance_130 rfl cf_X9_advance_34 rfl (R.ob (R.at rfl (by decide))) rfl rfl (Nat.le_of_ble_eq_true rfl) (c_X9_takeNumber R e274) (fun q275v h276 q275 => ?_)
                    obtain ⟨rfl, R⟩ := q275
                    refine go_goto (pc' := 0) (tgt := 206) dX9_advance_133 (by decide) ?_
                    obtain rfl := Option.some.inj hf
                    exact Go.ret (v := none) dX9_advance_206 rfl ⟨trivial, rfl, R⟩
                  · have hf := ie c271 hf
                    refine go_aload_n (i := 0) (pc' := 119) dX9_advance_118 rfl rfl rfl ?_
                    refine go_getS (pc' := 122) dX9_advance_119 rfl gf_LandBase_Tape_9 R (R.at rfl (by decide)) (by decide) rfl ?_
                    refine go_iload_n (i := 1) (pc' := 123) dX9_advance_122 rfl rfl rfl ?_
                    obtain ⟨g277, hf⟩ := gd_some hf
                    refine go_baloadS (pc' := 124) dX9_advance_123 rfl R (R.aa rfl (by decide)) g277 ?_
                    refine go_bipush (v := 45) (pc' := 126) dX9_advance_124 rfl (by decide) ?_
                    refine go_icmp_ne (pc' := 129) (tgt := 136) dX9_advance_126 (by decide) rfl (fun c278 => ?_) (fun c278 => ?_)
                    · have hf := ie c278 hf
                      refine go_aload_n (i := 0) (pc' := 137) dX9_advance_136 rfl rfl rfl ?_
                      refine go_getS (pc' := 140) dX9_advance_137 rfl gf_LandBase_Tape_9 R (R.at rfl (by decide)) (by decide) rfl ?_
                      refine go_iload_n (i := 1) (pc' := 141) dX9_advance_140 rfl rfl rfl ?_
                      obtain ⟨g279, hf⟩ := gd_some hf
                      refine go_baloadS (pc' := 142) dX9_advance_141 rfl R (R.aa rfl (by decide)) g279 ?_
                      refine go_bipush (v := 40) (pc' := 144) dX9_advance_142 rfl (by decide) ?_
                      refine go_icmp_eq (pc' := 147) (tgt := 180) dX9_advance_144 (by decide) rfl (fun c280 => ?_) (fun c280 => ?_)
                      · have hf := it c280 hf
                        refine go_iconst (v := 1) (pc' := 181) dX9_advance_180 rfl (by decide) ?_
                        refine go_goto (pc' := 0) (tgt := 185) dX9_advance_181 (by decide) ?_
                        exact t_X9_advance_185 R hf
                      · have hf := ie c280 hf
                        refine go_aload_n (i := 0) (pc' := 148) dX9_advance_147 rfl rfl rfl ?_
                        refine go_getS (pc' := 151) dX9_advance_148 rfl gf_LandBase_Tape_9 R (R.at rfl (by decide)) (by decide) rfl ?_
                        refine go_iload_n (i := 1) (pc' := 152) dX9_advance_151 rfl rfl rfl ?_
                        obtain ⟨g281, hf⟩ := gd_some hf
                        refine go_baloadS (pc' := 153) dX9_advance_152 rfl R (R.aa rfl (by decide)) g281 ?_
                        refine go_bipush (v := 41) (pc' := 155) dX9_advance_153 rfl (by decide) ?_
                        refine go_icmp_eq (pc' := 158) (tgt := 180) dX9_advance_155 (by decide) rfl (fun c282 => ?_) (fun c282 => ?_)
                        · have hf := it c282 hf
                          refine go_iconst (v := 1) (pc' := 181) dX9_advance_180 rfl (by decide) ?_
                          refine go_goto (pc' := 0) (tgt := 185) dX9_advance_181 (by decide) ?_
                          exact t_X9_advance_185 R hf
                        · have hf := ie c282 hf
                          refine go_aload_n (i := 0) (pc' := 159) dX9_advance_158 rfl rfl rfl ?_
                          refine go_getS (pc' := 162) dX9_advance_159 rfl gf_LandBase_Tape_9 R (R.at rfl (by decide)) (by decide) rfl ?_
                          refine go_iload_n (i := 1) (pc' := 163) dX9_advance_162 rfl rfl rfl ?_
                          obtain ⟨g283, hf⟩ := gd_some hf
                          refine go_baloadS (pc' := 164) dX9_advance_163 rfl R (R.aa rfl (by decide)) g283 ?_
                          refine go_bipush (v := 44) (pc' := 166) dX9_advance_164 rfl (by decide) ?_
                          refine go_icmp_eq (pc' := 169) (tgt := 180) dX9_advance_166 (by decide) rfl (fun c284 => ?_) (fun c284 => ?_)
                          · have hf := it c284 hf
                            refine go_iconst (v := 1) (pc' := 181) dX9_advance_180 rfl (by decide) ?_
                            refine go_goto (pc' := 0) (tgt := 185) dX9_advance_181 (by decide) ?_
                            exact t_X9_advance_185 R hf
                          · have hf := ie c284 hf
                            refine go_aload_n (i := 0) (pc' := 170) dX9_advance_169 rfl rfl rfl ?_
                            refine go_getS (pc' := 173) dX9_advance_170 rfl gf_LandBase_Tape_9 R (R.at rfl (by decide)) (by decide) rfl ?_
                            refine go_iload_n (i := 1) (pc' := 174) dX9_advance_173 rfl rfl rfl ?_
                            obtain ⟨g285, hf⟩ := gd_some hf
                            refine go_baloadS (pc' := 175) dX9_advance_174 rfl R (R.aa rfl (by decide)) g285 ?_
                            refine go_bipush (v := 59) (pc' := 177) dX9_advance_175 rfl (by decide) ?_
                            refine go_icmp_ne (pc' := 180) (tgt := 184) dX9_advance_177 (by decide) rfl (fun c286 => ?_) (fun c286 => ?_)
                            · have hf := ie c286 hf
                              refine go_iconst (v := 0) (pc' := 185) dX9_advance_184 rfl (by decide) ?_
                              exact t_X9_advance_185 R hf
                            · have hf := it c286 hf
                              refine go_iconst (v := 1) (pc' := 181) dX9_advance_180 rfl (by decide) ?_
                              refine go_goto (pc' := 0) (tgt := 185) dX9_advance_181 (by decide) ?_
                              exact t_X9_advance_185 R hf
                    · have hf := it c278 hf
                      refine go_aload_n (i := 0) (pc' := 130) dX9_advance_129 rfl rfl rfl ?_
                      obtain ⟨v287, σ288, e289, hf⟩ := bd_some hf
                      refine go_invV (As := []) (pc' := 133) dX9_advance_130 rfl cf_X9_advance_34 rfl (R.ob (R.at rfl (by decide))) rfl rfl (Nat.le_of_ble_eq_true rfl) (c_X9_takeNumber R e289) (fun q290v h291 q290 => ?_)
                      obtain ⟨rfl, R⟩ := q290
                      refine go_goto (pc' := 0) (tgt := 206) dX9_advance_133 (by decide) ?_
                      obtain rfl := Option.some.inj hf
                      exact Go.ret (v := none) dX9_advance_206 rfl ⟨trivial, rfl, R⟩
              · have hf := ie c252 hf
                refine go_aload_n (i := 0) (pc' := 90) dX9_advance_89 rfl rfl rfl ?_
                obtain ⟨v292, σ293, e294, hf⟩ := bd_some hf
                refine go_invV (As := []) (pc' := 93) dX9_advance_90 rfl cf_X9_advance_31 rfl (R.ob (R.at rfl (by decide))) rfl rfl (Nat.le_of_ble_eq_true rfl) (c_X9_takeWord R e294) (fun q295v h296 q295 => ?_)
                obtain ⟨rfl, R⟩ := q295
                refine go_goto (pc' := 0) (tgt := 206) dX9_advance_93 (by decide) ?_
                obtain rfl := Option.some.inj hf
                exact Go.ret (v := none) dX9_advance_206 rfl ⟨trivial, rfl, R⟩
          · have hf := ie c209 hf
            refine go_aload_n (i := 0) (pc' := 60) dX9_advance_59 rfl rfl rfl ?_
            refine go_iconst (v := 0) (pc' := 61) dX9_advance_60 rfl (by decide) ?_
            obtain ⟨σ297, e298, hf⟩ := st_some hf
            refine go_putI (pc' := 64) dX9_advance_61 rfl pf_LandBase_Tape_28 R (R.at rfl (by decide)) (by decide) rfl rfl rfl (fun h299 R => ?_)
            have R := Rl.cast e298 R
            refine go_goto (pc' := 0) (tgt := 206) dX9_advance_64 (by decide) ?_
            obtain rfl := Option.some.inj hf
            exact Go.ret (v := none) dX9_advance_206 rfl ⟨trivial, rfl, R⟩
        · have hf := it c202 hf
          refine go_iincC (kk := 1) (pc' := 38) dX9_advance_35 rfl rfl (by decide) (by decide) rfl ?_
          refine go_goto (pc' := 0) (tgt := 5) dX9_advance_38 (by decide) ?_
          exact ih R hf
def f_X9_advance (n : Nat)  (σ : xσ) : Option (Unit × xσ) := st (sI σ 1 4) (fun x101 => l_X9_advance_5 n xFU x101 σ)
set_option maxRecDepth 100000 in
set_option maxHeartbeats 4000000 in
theorem c_X9_advance {G : xG} {n : Nat} {σ : xσ} {h : xH}  {v1 : Unit} {σ1 : xσ} (R : Rl n σ h) (hf : f_X9_advance n σ = some (v1, σ1)) : Ca G mX9_advance [.ref 1] h (fun v h' => v = none ∧ Rl n σ1 h') := by
  refine Ca.of rfl (Nat.le_of_ble_eq_true rfl) ?_
  generalize hr : (v1, σ1) = r at hf
  suffices q : Go G mX9_advance 0 (xent (xMl mX9_advance) [.ref 1]) [] h (fun v h' => xRok (xRt mX9_advance) v ∧ v = none ∧ Rl n r.2 h') by
    subst hr
    exact q
  clear hr
  rw [f_X9_advance] at hf
  refine go_aload_n (i := 0) (pc' := 1) dX9_advance_0 rfl rfl rfl ?_
  refine go_getS (pc' := 4) dX9_advance_1 rfl gf_LandBase_Tape_19 R (R.at rfl (by decide)) (by decide) rfl ?_
  obtain ⟨x101, e102, hf⟩ := st_some hf
  refine go_istore_nE e102 (i := 1) (pc' := 5) dX9_advance_4 rfl rfl (by decide) rfl ?_
  exact t_X9_advance_5 xFU R hf
def b_X9_skipWord_71 (n : Nat) (k17 : Nat → Int32 → Int32 → Int32 → xσ → Option (Int32 × xσ)) (j1 : Nat) (x2 : Int32) (x3 : Int32) (x4 : Int32) (σ : xσ) : Option (Int32 × xσ) := k17 j1 x2 x3 (x4 + 1) σ
set_option maxRecDepth 100000 in
set_option maxHeartbeats 4000000 in
theorem t_X9_skipWord_71 {G : xG} {n : Nat} {k17 : Nat → Int32 → Int32 → Int32 → xσ → Option (Int32 × xσ)} (hk17 : ∀ {j1 : Nat} {x2 : Int32} {x3 : Int32} {x4 : Int32} {σ : xσ} {h : xH} {r : Int32 × xσ}, Rl n σ h → k17 j1 x2 x3 x4 σ = some r → Go G mX9_skipWord 17 [some (.ref 1), some (.retAddr j1), some (.int x2), some (.int x3), some (.int x4)] [] h (fun v h' => xRok (xRt mX9_skipWord) v ∧ v = some (.int r.1) ∧ Rl n r.2 h')) {j1 : Nat} {x2 : Int32} {x3 : Int32} {x4 : Int32} {σ : xσ} {h : xH} {r : Int32 × xσ} : Rl n σ h → b_X9_skipWord_71 n k17 j1 x2 x3 x4 σ = some r → Go G mX9_skipWord 71 [some (.ref 1), some (.retAddr j1), some (.int x2), some (.int x3), some (.int x4)] [] h (fun v h' => xRok (xRt mX9_skipWord) v ∧ v = some (.int r.1) ∧ Rl n r.2 h') := by
  intro R hf
  rw [b_X9_skipWord_71] at hf
  refine go_iincC (kk := 1) (pc' := 74) dX9_skipWord_71 rfl rfl (by decide) (by decide) rfl ?_
  refine go_goto (pc' := 0) (tgt := 17) dX9_skipWord_74 (by decide) ?_
  exact hk17 R hf
def l_X9_skipWord_17 (n : Nat) : Nat → Nat → Int32 → Int32 → Int32 → xσ → Option (Int32 × xσ)
  | 0, _, _, _, _, _ => none
  | f + 1, j1, x2, x3, x4, σ => gd (j1 < 28) (if (tlen j1) < x4 then some ((-1), σ) else gd (j1 < 28) (if x4 = (tlen j1) then bd (f_X9_isToken n j1 x3 x4 σ) (fun v105 σ106 => if v105 = 0 then st (x4 + 1) (fun x111 => b_X9_skipWord_71 n (l_X9_skipWord_17 n f) j1 (x2 + 1) x111 x4 σ106) else bd (f_X9_advance n σ106) (fun v113 σ114 => some (x2, σ114))) else gd (j1 < 28) (gd (inb x4 (xTb j1).length) (if (tchr j1 x4.toNatClampNeg) = 32 then bd (f_X9_isToken n j1 x3 x4 σ) (fun v121 σ122 => if v121 = 0 then st (x4 + 1) (fun x127 => b_X9_skipWord_71 n (l_X9_skipWord_17 n f) j1 (x2 + 1) x127 x4 σ122) else bd (f_X9_advance n σ122) (fun v129 σ130 => some (x2, σ130))) else (l_X9_skipWord_17 n f) j1 x2 x3 (x4 + 1) σ))))
set_option maxRecDepth 100000 in
set_option maxHeartbeats 4000000 in
theorem t_X9_skipWord_17 {G : xG} {n : Nat} : ∀ (f : Nat) {j1 : Nat} {x2 : Int32} {x3 : Int32} {x4 : Int32} {σ : xσ} {h : xH} {r : Int32 × xσ}, Rl n σ h → l_X9_skipWord_17 n f j1 x2 x3 x4 σ = some r → Go G mX9_skipWord 17 [some (.ref 1), some (.retAddr j1), some (.int x2), some (.int x3), some (.int x4)] [] h (fun v h' => xRok (xRt mX9_skipWord) v ∧ v = some (.int r.1) ∧ Rl n r.2 h') := by
  intro f
  induction f with
  | zero =>
    intros
    rename _ = some _ => hf
    rw [l_X9_skipWord_17] at hf
    cases hf
  | succ f ih =>
    intro j1 x2 x3 x4 σ h r  R hf
    rw [l_X9_skipWord_17] at hf
    refine go_iload (pc' := 19) dX9_skipWord_17 rfl rfl ?_
    refine go_aloadX_n (i := 1) (pc' := 20) dX9_skipWord_19 rfl rfl rfl ?_
    obtain ⟨g101, hf⟩ := gd_some hf
    refine go_slen (pc' := 23) dX9_skipWord_20 rfl cf_X9_skipWord_44 (Nat.le_of_ble_eq_true rfl) g101 ?_
    refine go_icmp_gt (pc' := 26) (tgt := 77) dX9_skipWord_23 (by decide) rfl (fun c102 => ?_) (fun c102 => ?_)
    · have hf := it c102 hf
      refine go_iconst (v := (-1)) (pc' := 78) dX9_skipWord_77 rfl (by decide) ?_
      obtain rfl := Option.some.inj hf
      exact Go.ret (v := some (.int _)) dX9_skipWord_78 ⟨_, rfl⟩ ⟨rfl, rfl, R⟩
    · have hf := ie c102 hf
      refine go_iload (pc' := 28) dX9_skipWord_26 rfl rfl ?_
      refine go_aloadX_n (i := 1) (pc' := 29) dX9_skipWord_28 rfl rfl rfl ?_
      obtain ⟨g103, hf⟩ := gd_some hf
      refine go_slen (pc' := 32) dX9_skipWord_29 rfl cf_X9_skipWord_44 (Nat.le_of_ble_eq_true rfl) g103 ?_
      refine go_icmp_eq (pc' := 35) (tgt := 46) dX9_skipWord_32 (by decide) rfl (fun c104 => ?_) (fun c104 => ?_)
      · have hf := it c104 hf
        refine go_aload_n (i := 0) (pc' := 47) dX9_skipWord_46 rfl rfl rfl ?_
        refine go_aloadX_n (i := 1) (pc' := 48) dX9_skipWord_47 rfl rfl rfl ?_
        refine go_iload_n (i := 3) (pc' := 49) dX9_skipWord_48 rfl rfl rfl ?_
        refine go_iload (pc' := 51) dX9_skipWord_49 rfl rfl ?_
        obtain ⟨v105, σ106, e107, hf⟩ := bd_some hf
        refine go_invV (As := [_, _, _]) (pc' := 54) dX9_skipWord_51 rfl cf_X9_skipWord_54 rfl (R.ob (R.at rfl (by decide))) rfl rfl (Nat.le_of_ble_eq_true rfl) (c_X9_isToken R e107) (fun q108v h109 q108 => ?_)
        obtain ⟨rfl, R⟩ := q108
        refine go_if_eq (pc' := 57) (tgt := 63) dX9_skipWord_54 (by decide) rfl (fun c110 => ?_) (fun c110 => ?_)
        · have hf := it c110 hf
          refine go_iincC (kk := 1) (pc' := 66) dX9_skipWord_63 rfl rfl (by decide) (by decide) rfl ?_
          refine go_iload (pc' := 68) dX9_skipWord_66 rfl rfl ?_
          refine go_iconst (v := 1) (pc' := 69) dX9_skipWord_68 rfl (by decide) ?_
          refine go_iadd (pc' := 70) dX9_skipWord_69 rfl ?_
          obtain ⟨x111, e112, hf⟩ := st_some hf
          refine go_istore_nE e112 (i := 3) (pc' := 71) dX9_skipWord_70 rfl rfl (by decide) rfl ?_
          exact t_X9_skipWord_71 @ih R hf
        · have hf := ie c110 hf
          refine go_aload_n (i := 0) (pc' := 58) dX9_skipWord_57 rfl rfl rfl ?_
          obtain ⟨v113, σ114, e115, hf⟩ := bd_some hf
          refine go_invV (As := []) (pc' := 61) dX9_skipWord_58 rfl cf_X9_skipWord_22 rfl (R.ob (R.at rfl (by decide))) rfl rfl (Nat.le_of_ble_eq_true rfl) (c_X9_advance R e115) (fun q116v h117 q116 => ?_)
          obtain ⟨rfl, R⟩ := q116
          refine go_iload_n (i := 2) (pc' := 62) dX9_skipWord_61 rfl rfl rfl ?_
          obtain rfl := Option.some.inj hf
          exact Go.ret (v := some (.int _)) dX9_skipWord_62 ⟨_, rfl⟩ ⟨rfl, rfl, R⟩
      · have hf := ie c104 hf
        refine go_aloadX_n (i := 1) (pc' := 36) dX9_skipWord_35 rfl rfl rfl ?_
        refine go_iload (pc' := 38) dX9_skipWord_36 rfl rfl ?_
        obtain ⟨g118, hf⟩ := gd_some hf
        obtain ⟨g119, hf⟩ := gd_some hf
        refine go_schar (pc' := 41) dX9_skipWord_38 rfl cf_X9_skipWord_50 (Nat.le_of_ble_eq_true rfl) g118 g119 ?_
        refine go_bipush (v := 32) (pc' := 43) dX9_skipWord_41 rfl (by decide) ?_
        refine go_icmp_ne (pc' := 46) (tgt := 71) dX9_skipWord_43 (by decide) rfl (fun c120 => ?_) (fun c120 => ?_)
        · have hf := ie c120 hf
          refine go_iincC (kk := 1) (pc' := 74) dX9_skipWord_71 rfl rfl (by decide) (by decide) rfl ?_
          refine go_goto (pc' := 0) (tgt := 17) dX9_skipWord_74 (by decide) ?_
          exact ih R hf
        · have hf := it c120 hf
          refine go_aload_n (i := 0) (pc' := 47) dX9_skipWord_46 rfl rfl rfl ?_
          refine go_aloadX_n (i := 1) (pc' := 48) dX9_skipWord_47 rfl rfl rfl ?_
          refine go_iload_n (i := 3) (pc' := 49) dX9_skipWord_48 rfl rfl rfl ?_
          refine go_iload (pc' := 51) dX9_skipWord_49 rfl rfl ?_
          obtain ⟨v121, σ122, e123, hf⟩ := bd_some hf
          refine go_invV (As := [_, _, _]) (pc' := 54) dX9_skipWord_51 rfl cf_X9_skipWord_54 rfl (R.ob (R.at rfl (by decide))) rfl rfl (Nat.le_of_ble_eq_true rfl) (c_X9_isToken R e123) (fun q124v h125 q124 => ?_)
          obtain ⟨rfl, R⟩ := q124
          refine go_if_eq (pc' := 57) (tgt := 63) dX9_skipWord_54 (by decide) rfl (fun c126 => ?_) (fun c126 => ?_)
          · have hf := it c126 hf
            refine go_iincC (kk := 1) (pc' := 66) dX9_skipWord_63 rfl rfl (by decide) (by decide) rfl ?_
            refine go_iload (pc' := 68) dX9_skipWord_66 rfl rfl ?_
            refine go_iconst (v := 1) (pc' := 69) dX9_skipWord_68 rfl (by decide) ?_
            refine go_iadd (pc' := 70) dX9_skipWord_69 rfl ?_
            obtain ⟨x127, e128, hf⟩ := st_some hf
            refine go_istore_nE e128 (i := 3) (pc' := 71) dX9_skipWord_70 rfl rfl (by decide) rfl ?_
            exact t_X9_skipWord_71 @ih R hf
          · have hf := ie c126 hf
            refine go_aload_n (i := 0) (pc' := 58) dX9_skipWord_57 rfl rfl rfl ?_
            obtain ⟨v129, σ130, e131, hf⟩ := bd_some hf
            refine go_invV (As := []) (pc' := 61) dX9_skipWord_58 rfl cf_X9_skipWord_22 rfl (R.ob (R.at rfl (by decide))) rfl rfl (Nat.le_of_ble_eq_true rfl) (c_X9_advance R e131) (fun q132v h133 q132 => ?_)
            obtain ⟨rfl, R⟩ := q132
            refine go_iload_n (i := 2) (pc' := 62) dX9_skipWord_61 rfl rfl rfl ?_
            obtain rfl := Option.some.inj hf
            exact Go.ret (v := some (.int _)) dX9_skipWord_62 ⟨_, rfl⟩ ⟨rfl, rfl, R⟩
def f_X9_skipWord (n : Nat) (j1 : Nat) (σ : xσ) : Option (Int32 × xσ) := if (sI σ 1 2) = 1 then l_X9_skipWord_17 n xFU j1 0 0 0 σ else some ((-1), σ)
set_option maxRecDepth 100000 in
set_option maxHeartbeats 4000000 in
theorem c_X9_skipWord {G : xG} {n : Nat} {σ : xσ} {h : xH} {j1 : Nat} {v1 : Int32} {σ1 : xσ} (R : Rl n σ h) (hf : f_X9_skipWord n j1 σ = some (v1, σ1)) : Ca G mX9_skipWord [.ref 1, .retAddr j1] h (fun v h' => v = some (.int v1) ∧ Rl n σ1 h') := by
  refine Ca.of rfl (Nat.le_of_ble_eq_true rfl) ?_
  generalize hr : (v1, σ1) = r at hf
  suffices q : Go G mX9_skipWord 0 (xent (xMl mX9_skipWord) [.ref 1, .retAddr j1]) [] h (fun v h' => xRok (xRt mX9_skipWord) v ∧ v = some (.int r.1) ∧ Rl n r.2 h') by
    subst hr
    exact q
  clear hr
  rw [f_X9_skipWord] at hf
  refine go_aload_n (i := 0) (pc' := 1) dX9_skipWord_0 rfl rfl rfl ?_
  refine go_getS (pc' := 4) dX9_skipWord_1 rfl gf_LandBase_Tape_28 R (R.at rfl (by decide)) (by decide) rfl ?_
  refine go_iconst (v := 1) (pc' := 5) dX9_skipWord_4 rfl (by decide) ?_
  refine go_icmp_eq (pc' := 8) (tgt := 10) dX9_skipWord_5 (by decide) rfl (fun c101 => ?_) (fun c101 => ?_)
  · have hf := it c101 hf
    refine go_iconst (v := 0) (pc' := 11) dX9_skipWord_10 rfl (by decide) ?_
    refine go_istore_nE rfl (i := 2) (pc' := 12) dX9_skipWord_11 rfl rfl (by decide) rfl ?_
    refine go_iconst (v := 0) (pc' := 13) dX9_skipWord_12 rfl (by decide) ?_
    refine go_istore_nE rfl (i := 3) (pc' := 14) dX9_skipWord_13 rfl rfl (by decide) rfl ?_
    refine go_iconst (v := 0) (pc' := 15) dX9_skipWord_14 rfl (by decide) ?_
    refine go_istoreE rfl (pc' := 17) dX9_skipWord_15 rfl (by decide) rfl ?_
    exact t_X9_skipWord_17 xFU R hf
  · have hf := ie c101 hf
    refine go_iconst (v := (-1)) (pc' := 9) dX9_skipWord_8 rfl (by decide) ?_
    obtain rfl := Option.some.inj hf
    exact Go.ret (v := some (.int _)) dX9_skipWord_9 ⟨_, rfl⟩ ⟨rfl, rfl, R⟩
def l_X5_readNumbers_2 (n : Nat) : Nat → Int32 → Int32 → xσ → Option (Int32 × xσ)
  | 0, _, _, _ => none
  | f + 1, x2, x3, σ => if x2 ≤ x3 then some (1, σ) else if (sI σ 1 2) = 2 then if (sI σ 3 2) < 6 then gd (inb (sI σ 3 2) 6) (st (wI σ 4 (sI σ 3 2).toNatClampNeg (sI σ 1 5)) (fun σ105 => st (wI σ105 3 2 ((sI σ105 3 2) + 1)) (fun σ108 => bd (f_X9_advance n σ108) (fun v111 σ112 => (l_X5_readNumbers_2 n f) x2 (x3 + 1) σ112)))) else some (0, σ) else some (0, σ)
set_option maxRecDepth 100000 in
set_option maxHeartbeats 4000000 in
theorem t_X5_readNumbers_2 {G : xG} {n : Nat} : ∀ (f : Nat) {x2 : Int32} {x3 : Int32} {σ : xσ} {h : xH} {r : Int32 × xσ}, Rl n σ h → l_X5_readNumbers_2 n f x2 x3 σ = some r → Go G mX5_readNumbers 2 [some (.ref 3), some (.ref 1), some (.int x2), some (.int x3)] [] h (fun v h' => xRok (xRt mX5_readNumbers) v ∧ v = some (.int r.1) ∧ Rl n r.2 h') := by
  intro f
  induction f with
  | zero =>
    intros
    rename _ = some _ => hf
    rw [l_X5_readNumbers_2] at hf
    cases hf
  | succ f ih =>
    intro x2 x3 σ h r  R hf
    rw [l_X5_readNumbers_2] at hf
    refine go_iload_n (i := 3) (pc' := 3) dX5_readNumbers_2 rfl rfl rfl ?_
    refine go_iload_n (i := 2) (pc' := 4) dX5_readNumbers_3 rfl rfl rfl ?_
    refine go_icmp_ge (pc' := 7) (tgt := 59) dX5_readNumbers_4 (by decide) rfl (fun c101 => ?_) (fun c101 => ?_)
    · have hf := it c101 hf
      refine go_iconst (v := 1) (pc' := 60) dX5_readNumbers_59 rfl (by decide) ?_
      obtain rfl := Option.some.inj hf
      exact Go.ret (v := some (.int _)) dX5_readNumbers_60 ⟨_, rfl⟩ ⟨rfl, rfl, R⟩
    · have hf := ie c101 hf
      refine go_aload_n (i := 1) (pc' := 8) dX5_readNumbers_7 rfl rfl rfl ?_
      refine go_getS (pc' := 11) dX5_readNumbers_8 rfl gf_LandBase_Reader_55 R (R.at rfl (by decide)) (by decide) rfl ?_
      refine go_iconst (v := 2) (pc' := 12) dX5_readNumbers_11 rfl (by decide) ?_
      refine go_icmp_ne (pc' := 15) (tgt := 24) dX5_readNumbers_12 (by decide) rfl (fun c102 => ?_) (fun c102 => ?_)
      · have hf := ie c102 hf
        refine go_iconst (v := 0) (pc' := 25) dX5_readNumbers_24 rfl (by decide) ?_
        obtain rfl := Option.some.inj hf
        exact Go.ret (v := some (.int _)) dX5_readNumbers_25 ⟨_, rfl⟩ ⟨rfl, rfl, R⟩
      · have hf := it c102 hf
        refine go_aload_n (i := 0) (pc' := 16) dX5_readNumbers_15 rfl rfl rfl ?_
        refine go_getS (pc' := 19) dX5_readNumbers_16 rfl gf_LandBase_Reader_22 R (R.at rfl (by decide)) (by decide) rfl ?_
        refine go_bipush (v := 6) (pc' := 21) dX5_readNumbers_19 rfl (by decide) ?_
        refine go_icmp_lt (pc' := 24) (tgt := 26) dX5_readNumbers_21 (by decide) rfl (fun c103 => ?_) (fun c103 => ?_)
        · have hf := it c103 hf
          refine go_aload_n (i := 0) (pc' := 27) dX5_readNumbers_26 rfl rfl rfl ?_
          refine go_getS (pc' := 30) dX5_readNumbers_27 rfl gf_LandBase_Reader_11 R (R.at rfl (by decide)) (by decide) rfl ?_
          refine go_aload_n (i := 0) (pc' := 31) dX5_readNumbers_30 rfl rfl rfl ?_
          refine go_getS (pc' := 34) dX5_readNumbers_31 rfl gf_LandBase_Reader_22 R (R.at rfl (by decide)) (by decide) rfl ?_
          refine go_aload_n (i := 1) (pc' := 35) dX5_readNumbers_34 rfl rfl rfl ?_
          refine go_getS (pc' := 38) dX5_readNumbers_35 rfl gf_LandBase_Reader_58 R (R.at rfl (by decide)) (by decide) rfl ?_
          obtain ⟨g104, hf⟩ := gd_some hf
          obtain ⟨σ105, e106, hf⟩ := st_some hf
          refine go_iastoreS (pc' := 39) dX5_readNumbers_38 rfl R (R.aa rfl (by decide)) g104 (fun h107 R => ?_)
          have R := Rl.cast e106 R
          refine go_aload_n (i := 0) (pc' := 40) dX5_readNumbers_39 rfl rfl rfl ?_
          refine go_dup (pc' := 41) dX5_readNumbers_40 rfl rfl ?_
          refine go_getS (pc' := 44) dX5_readNumbers_41 rfl gf_LandBase_Reader_22 R (R.at rfl (by decide)) (by decide) rfl ?_
          refine go_iconst (v := 1) (pc' := 45) dX5_readNumbers_44 rfl (by decide) ?_
          refine go_iadd (pc' := 46) dX5_readNumbers_45 rfl ?_
          obtain ⟨σ108, e109, hf⟩ := st_some hf
          refine go_putI (pc' := 49) dX5_readNumbers_46 rfl pf_LandBase_Reader_22 R (R.at rfl (by decide)) (by decide) rfl rfl rfl (fun h110 R => ?_)
          have R := Rl.cast e109 R
          refine go_aload_n (i := 1) (pc' := 50) dX5_readNumbers_49 rfl rfl rfl ?_
          obtain ⟨v111, σ112, e113, hf⟩ := bd_some hf
          refine go_invV (As := []) (pc' := 53) dX5_readNumbers_50 rfl cf_X5_readNumbers_61 rfl (R.ob (R.at rfl (by decide))) rfl rfl (Nat.le_of_ble_eq_true rfl) (c_X9_advance R e113) (fun q114v h115 q114 => ?_)
          obtain ⟨rfl, R⟩ := q114
          refine go_iincC (kk := 1) (pc' := 56) dX5_readNumbers_53 rfl rfl (by decide) (by decide) rfl ?_
          refine go_goto (pc' := 0) (tgt := 2) dX5_readNumbers_56 (by decide) ?_
          exact ih R hf
        · have hf := ie c103 hf
          refine go_iconst (v := 0) (pc' := 25) dX5_readNumbers_24 rfl (by decide) ?_
          obtain rfl := Option.some.inj hf
          exact Go.ret (v := some (.int _)) dX5_readNumbers_25 ⟨_, rfl⟩ ⟨rfl, rfl, R⟩
def f_X5_readNumbers (n : Nat) (x2 : Int32) (σ : xσ) : Option (Int32 × xσ) := l_X5_readNumbers_2 n xFU x2 0 σ
set_option maxRecDepth 100000 in
set_option maxHeartbeats 4000000 in
theorem c_X5_readNumbers {G : xG} {n : Nat} {σ : xσ} {h : xH} {x2 : Int32} {v1 : Int32} {σ1 : xσ} (R : Rl n σ h) (hf : f_X5_readNumbers n x2 σ = some (v1, σ1)) : Ca G mX5_readNumbers [.ref 3, .ref 1, .int x2] h (fun v h' => v = some (.int v1) ∧ Rl n σ1 h') := by
  refine Ca.of rfl (Nat.le_of_ble_eq_true rfl) ?_
  generalize hr : (v1, σ1) = r at hf
  suffices q : Go G mX5_readNumbers 0 (xent (xMl mX5_readNumbers) [.ref 3, .ref 1, .int x2]) [] h (fun v h' => xRok (xRt mX5_readNumbers) v ∧ v = some (.int r.1) ∧ Rl n r.2 h') by
    subst hr
    exact q
  clear hr
  rw [f_X5_readNumbers] at hf
  refine go_iconst (v := 0) (pc' := 1) dX5_readNumbers_0 rfl (by decide) ?_
  refine go_istore_nE rfl (i := 3) (pc' := 2) dX5_readNumbers_1 rfl rfl (by decide) rfl ?_
  exact t_X5_readNumbers_2 xFU R hf
def f_X7_start (n : Nat) (a0 : Nat) (x1 : Int32) (σ : xσ) : Option (Unit × xσ) := gd (okS n a0) (st (wI σ a0 0 x1) (fun σ101 => st (wI σ101 a0 1 0) (fun σ104 => st (wI σ104 a0 2 0) (fun σ107 => st (wI σ107 a0 3 0) (fun σ110 => some ((), σ110))))))
set_option maxRecDepth 100000 in
set_option maxHeartbeats 4000000 in
theorem c_X7_start {G : xG} {n : Nat} {σ : xσ} {h : xH} {a0 : Nat} {x1 : Int32} {v1 : Unit} {σ1 : xσ} (R : Rl n σ h) (hf : f_X7_start n a0 x1 σ = some (v1, σ1)) : Ca G mX7_start [.ref a0, .int x1] h (fun v h' => v = none ∧ Rl n σ1 h') := by
  refine Ca.of rfl (Nat.le_of_ble_eq_true rfl) ?_
  generalize hr : (v1, σ1) = r at hf
  suffices q : Go G mX7_start 0 (xent (xMl mX7_start) [.ref a0, .int x1]) [] h (fun v h' => xRok (xRt mX7_start) v ∧ v = none ∧ Rl n r.2 h') by
    subst hr
    exact q
  clear hr
  rw [f_X7_start] at hf
  obtain ⟨g0, hf⟩ := gd_some hf
  refine go_aload_n (i := 0) (pc' := 1) dX7_start_0 rfl rfl rfl ?_
  refine go_iload_n (i := 1) (pc' := 2) dX7_start_1 rfl rfl rfl ?_
  obtain ⟨σ101, e102, hf⟩ := st_some hf
  refine go_putI (pc' := 5) dX7_start_2 rfl pf_LandBase_Shape_25 R g0.at (by decide) rfl rfl rfl (fun h103 R => ?_)
  have R := Rl.cast e102 R
  refine go_aload_n (i := 0) (pc' := 6) dX7_start_5 rfl rfl rfl ?_
  refine go_iconst (v := 0) (pc' := 7) dX7_start_6 rfl (by decide) ?_
  obtain ⟨σ104, e105, hf⟩ := st_some hf
  refine go_putI (pc' := 10) dX7_start_7 rfl pf_LandBase_Shape_29 R g0.at (by decide) rfl rfl rfl (fun h106 R => ?_)
  have R := Rl.cast e105 R
  refine go_aload_n (i := 0) (pc' := 11) dX7_start_10 rfl rfl rfl ?_
  refine go_iconst (v := 0) (pc' := 12) dX7_start_11 rfl (by decide) ?_
  obtain ⟨σ107, e108, hf⟩ := st_some hf
  refine go_putI (pc' := 15) dX7_start_12 rfl pf_LandBase_Shape_32 R g0.at (by decide) rfl rfl rfl (fun h109 R => ?_)
  have R := Rl.cast e108 R
  refine go_aload_n (i := 0) (pc' := 16) dX7_start_15 rfl rfl rfl ?_
  refine go_iconst (v := 0) (pc' := 17) dX7_start_16 rfl (by decide) ?_
  obtain ⟨σ110, e111, hf⟩ := st_some hf
  refine go_putI (pc' := 20) dX7_start_17 rfl pf_LandBase_Shape_35 R g0.at (by decide) rfl rfl rfl (fun h112 R => ?_)
  have R := Rl.cast e111 R
  obtain rfl := Option.some.inj hf
  exact Go.ret (v := none) dX7_start_20 rfl ⟨trivial, rfl, R⟩
def f_X9_skipSign (n : Nat) (x1 : Int32) (σ : xσ) : Option (Int32 × xσ) := if (sI σ 1 2) = 3 then gd (inb (sI σ 1 3) 4000) (if (sI σ 2 (sI σ 1 3).toNatClampNeg) = x1 then bd (f_X9_advance n σ) (fun v104 σ105 => some (1, σ105)) else some (0, σ)) else some (0, σ)
set_option maxRecDepth 100000 in
set_option maxHeartbeats 4000000 in
theorem c_X9_skipSign {G : xG} {n : Nat} {σ : xσ} {h : xH} {x1 : Int32} {v1 : Int32} {σ1 : xσ} (R : Rl n σ h) (hf : f_X9_skipSign n x1 σ = some (v1, σ1)) : Ca G mX9_skipSign [.ref 1, .int x1] h (fun v h' => v = some (.int v1) ∧ Rl n σ1 h') := by
  refine Ca.of rfl (Nat.le_of_ble_eq_true rfl) ?_
  generalize hr : (v1, σ1) = r at hf
  suffices q : Go G mX9_skipSign 0 (xent (xMl mX9_skipSign) [.ref 1, .int x1]) [] h (fun v h' => xRok (xRt mX9_skipSign) v ∧ v = some (.int r.1) ∧ Rl n r.2 h') by
    subst hr
    exact q
  clear hr
  rw [f_X9_skipSign] at hf
  refine go_aload_n (i := 0) (pc' := 1) dX9_skipSign_0 rfl rfl rfl ?_
  refine go_getS (pc' := 4) dX9_skipSign_1 rfl gf_LandBase_Tape_28 R (R.at rfl (by decide)) (by decide) rfl ?_
  refine go_iconst (v := 3) (pc' := 5) dX9_skipSign_4 rfl (by decide) ?_
  refine go_icmp_ne (pc' := 8) (tgt := 21) dX9_skipSign_5 (by decide) rfl (fun c101 => ?_) (fun c101 => ?_)
  · have hf := ie c101 hf
    refine go_iconst (v := 0) (pc' := 22) dX9_skipSign_21 rfl (by decide) ?_
    obtain rfl := Option.some.inj hf
    exact Go.ret (v := some (.int _)) dX9_skipSign_22 ⟨_, rfl⟩ ⟨rfl, rfl, R⟩
  · have hf := it c101 hf
    refine go_aload_n (i := 0) (pc' := 9) dX9_skipSign_8 rfl rfl rfl ?_
    refine go_getS (pc' := 12) dX9_skipSign_9 rfl gf_LandBase_Tape_9 R (R.at rfl (by decide)) (by decide) rfl ?_
    refine go_aload_n (i := 0) (pc' := 13) dX9_skipSign_12 rfl rfl rfl ?_
    refine go_getS (pc' := 16) dX9_skipSign_13 rfl gf_LandBase_Tape_25 R (R.at rfl (by decide)) (by decide) rfl ?_
    obtain ⟨g102, hf⟩ := gd_some hf
    refine go_baloadS (pc' := 17) dX9_skipSign_16 rfl R (R.aa rfl (by decide)) g102 ?_
    refine go_iload_n (i := 1) (pc' := 18) dX9_skipSign_17 rfl rfl rfl ?_
    refine go_icmp_eq (pc' := 21) (tgt := 23) dX9_skipSign_18 (by decide) rfl (fun c103 => ?_) (fun c103 => ?_)
    · have hf := it c103 hf
      refine go_aload_n (i := 0) (pc' := 24) dX9_skipSign_23 rfl rfl rfl ?_
      obtain ⟨v104, σ105, e106, hf⟩ := bd_some hf
      refine go_invV (As := []) (pc' := 27) dX9_skipSign_24 rfl cf_X9_skipSign_22 rfl (R.ob (R.at rfl (by decide))) rfl rfl (Nat.le_of_ble_eq_true rfl) (c_X9_advance R e106) (fun q107v h108 q107 => ?_)
      obtain ⟨rfl, R⟩ := q107
      refine go_iconst (v := 1) (pc' := 28) dX9_skipSign_27 rfl (by decide) ?_
      obtain rfl := Option.some.inj hf
      exact Go.ret (v := some (.int _)) dX9_skipSign_28 ⟨_, rfl⟩ ⟨rfl, rfl, R⟩
    · have hf := ie c103 hf
      refine go_iconst (v := 0) (pc' := 22) dX9_skipSign_21 rfl (by decide) ?_
      obtain rfl := Option.some.inj hf
      exact Go.ret (v := some (.int _)) dX9_skipSign_22 ⟨_, rfl⟩ ⟨rfl, rfl, R⟩
def f_X7_addPlace (n : Nat) (a0 : Nat) (x1 : Int32) (x2 : Int32) (σ : xσ) : Option (Unit × xσ) := gd (okS n a0) (if (sI σ a0 1) < 40 then gd (inb (sI σ a0 1) 40) (st (wI σ (a0 + 1) (sI σ a0 1).toNatClampNeg x1) (fun σ103 => gd (inb (sI σ103 a0 1) 40) (st (wI σ103 (a0 + 2) (sI σ103 a0 1).toNatClampNeg x2) (fun σ107 => gd (inb (sI σ107 a0 1) 40) (st (wI σ107 (a0 + 4) (sI σ107 a0 1).toNatClampNeg (vp_nar .boolean 0)) (fun σ111 => st (wI σ111 a0 1 ((sI σ111 a0 1) + 1)) (fun σ114 => some ((), σ114)))))))) else st (wI σ a0 3 1) (fun σ117 => some ((), σ117)))
set_option maxRecDepth 100000 in
set_option maxHeartbeats 4000000 in
theorem c_X7_addPlace {G : xG} {n : Nat} {σ : xσ} {h : xH} {a0 : Nat} {x1 : Int32} {x2 : Int32} {v1 : Unit} {σ1 : xσ} (R : Rl n σ h) (hf : f_X7_addPlace n a0 x1 x2 σ = some (v1, σ1)) : Ca G mX7_addPlace [.ref a0, .int x1, .int x2] h (fun v h' => v = none ∧ Rl n σ1 h') := by
  refine Ca.of rfl (Nat.le_of_ble_eq_true rfl) ?_
  generalize hr : (v1, σ1) = r at hf
  suffices q : Go G mX7_addPlace 0 (xent (xMl mX7_addPlace) [.ref a0, .int x1, .int x2]) [] h (fun v h' => xRok (xRt mX7_addPlace) v ∧ v = none ∧ Rl n r.2 h') by
    subst hr
    exact q
  clear hr
  rw [f_X7_addPlace] at hf
  obtain ⟨g0, hf⟩ := gd_some hf
  refine go_aload_n (i := 0) (pc' := 1) dX7_addPlace_0 rfl rfl rfl ?_
  refine go_getS (pc' := 4) dX7_addPlace_1 rfl gf_LandBase_Shape_29 R g0.at (by decide) rfl ?_
  refine go_bipush (v := 40) (pc' := 6) dX7_addPlace_4 rfl (by decide) ?_
  refine go_icmp_lt (pc' := 9) (tgt := 15) dX7_addPlace_6 (by decide) rfl (fun c101 => ?_) (fun c101 => ?_)
  · have hf := it c101 hf
    refine go_aload_n (i := 0) (pc' := 16) dX7_addPlace_15 rfl rfl rfl ?_
    refine go_getS (pc' := 19) dX7_addPlace_16 rfl gf_LandBase_Shape_9 R g0.at (by decide) rfl ?_
    refine go_aload_n (i := 0) (pc' := 20) dX7_addPlace_19 rfl rfl rfl ?_
    refine go_getS (pc' := 23) dX7_addPlace_20 rfl gf_LandBase_Shape_29 R g0.at (by decide) rfl ?_
    refine go_iload_n (i := 1) (pc' := 24) dX7_addPlace_23 rfl rfl rfl ?_
    obtain ⟨g102, hf⟩ := gd_some hf
    obtain ⟨σ103, e104, hf⟩ := st_some hf
    refine go_iastoreS (pc' := 25) dX7_addPlace_24 rfl R g0.x g102 (fun h105 R => ?_)
    have R := Rl.cast e104 R
    refine go_aload_n (i := 0) (pc' := 26) dX7_addPlace_25 rfl rfl rfl ?_
    refine go_getS (pc' := 29) dX7_addPlace_26 rfl gf_LandBase_Shape_15 R g0.at (by decide) rfl ?_
    refine go_aload_n (i := 0) (pc' := 30) dX7_addPlace_29 rfl rfl rfl ?_
    refine go_getS (pc' := 33) dX7_addPlace_30 rfl gf_LandBase_Shape_29 R g0.at (by decide) rfl ?_
    refine go_iload_n (i := 2) (pc' := 34) dX7_addPlace_33 rfl rfl rfl ?_
    obtain ⟨g106, hf⟩ := gd_some hf
    obtain ⟨σ107, e108, hf⟩ := st_some hf
    refine go_iastoreS (pc' := 35) dX7_addPlace_34 rfl R g0.y g106 (fun h109 R => ?_)
    have R := Rl.cast e108 R
    refine go_aload_n (i := 0) (pc' := 36) dX7_addPlace_35 rfl rfl rfl ?_
    refine go_getS (pc' := 39) dX7_addPlace_36 rfl gf_LandBase_Shape_21 R g0.at (by decide) rfl ?_
    refine go_aload_n (i := 0) (pc' := 40) dX7_addPlace_39 rfl rfl rfl ?_
    refine go_getS (pc' := 43) dX7_addPlace_40 rfl gf_LandBase_Shape_29 R g0.at (by decide) rfl ?_
    refine go_iconst (v := 0) (pc' := 44) dX7_addPlace_43 rfl (by decide) ?_
    obtain ⟨g110, hf⟩ := gd_some hf
    obtain ⟨σ111, e112, hf⟩ := st_some hf
    refine go_zastoreS (pc' := 45) dX7_addPlace_44 rfl R g0.l g110 (fun h113 R => ?_)
    have R := Rl.cast e112 R
    refine go_aload_n (i := 0) (pc' := 46) dX7_addPlace_45 rfl rfl rfl ?_
    refine go_dup (pc' := 47) dX7_addPlace_46 rfl rfl ?_
    refine go_getS (pc' := 50) dX7_addPlace_47 rfl gf_LandBase_Shape_29 R g0.at (by decide) rfl ?_
    refine go_iconst (v := 1) (pc' := 51) dX7_addPlace_50 rfl (by decide) ?_
    refine go_iadd (pc' := 52) dX7_addPlace_51 rfl ?_
    obtain ⟨σ114, e115, hf⟩ := st_some hf
    refine go_putI (pc' := 55) dX7_addPlace_52 rfl pf_LandBase_Shape_29 R g0.at (by decide) rfl rfl rfl (fun h116 R => ?_)
    have R := Rl.cast e115 R
    obtain rfl := Option.some.inj hf
    exact Go.ret (v := none) dX7_addPlace_55 rfl ⟨trivial, rfl, R⟩
  · have hf := ie c101 hf
    refine go_aload_n (i := 0) (pc' := 10) dX7_addPlace_9 rfl rfl rfl ?_
    refine go_iconst (v := 1) (pc' := 11) dX7_addPlace_10 rfl (by decide) ?_
    obtain ⟨σ117, e118, hf⟩ := st_some hf
    refine go_putI (pc' := 14) dX7_addPlace_11 rfl pf_LandBase_Shape_35 R g0.at (by decide) rfl rfl rfl (fun h119 R => ?_)
    have R := Rl.cast e118 R
    obtain rfl := Option.some.inj hf
    exact Go.ret (v := none) dX7_addPlace_14 rfl ⟨trivial, rfl, R⟩
def f_X5_readPlace (n : Nat)  (σ : xσ) : Option (Int32 × xσ) := if (sI σ 1 2) = 2 then st (sI σ 1 5) (fun x102 => bd (f_X9_advance n σ) (fun v104 σ105 => if (sI σ105 1 2) = 2 then bd (f_X7_addPlace n 5 x102 (sI σ105 1 5) σ105) (fun v110 σ111 => bd (f_X9_advance n σ111) (fun v115 σ116 => some (1, σ116))) else some (0, σ105))) else some (0, σ)
set_option maxRecDepth 100000 in
set_option maxHeartbeats 4000000 in
theorem c_X5_readPlace {G : xG} {n : Nat} {σ : xσ} {h : xH}  {v1 : Int32} {σ1 : xσ} (R : Rl n σ h) (hf : f_X5_readPlace n σ = some (v1, σ1)) : Ca G mX5_readPlace [.ref 3, .ref 1] h (fun v h' => v = some (.int v1) ∧ Rl n σ1 h') := by
  refine Ca.of rfl (Nat.le_of_ble_eq_true rfl) ?_
  generalize hr : (v1, σ1) = r at hf
  suffices q : Go G mX5_readPlace 0 (xent (xMl mX5_readPlace) [.ref 3, .ref 1]) [] h (fun v h' => xRok (xRt mX5_readPlace) v ∧ v = some (.int r.1) ∧ Rl n r.2 h') by
    subst hr
    exact q
  clear hr
  rw [f_X5_readPlace] at hf
  refine go_aload_n (i := 1) (pc' := 1) dX5_readPlace_0 rfl rfl rfl ?_
  refine go_getS (pc' := 4) dX5_readPlace_1 rfl gf_LandBase_Reader_55 R (R.at rfl (by decide)) (by decide) rfl ?_
  refine go_iconst (v := 2) (pc' := 5) dX5_readPlace_4 rfl (by decide) ?_
  refine go_icmp_eq (pc' := 8) (tgt := 10) dX5_readPlace_5 (by decide) rfl (fun c101 => ?_) (fun c101 => ?_)
  · have hf := it c101 hf
    refine go_aload_n (i := 1) (pc' := 11) dX5_readPlace_10 rfl rfl rfl ?_
    refine go_getS (pc' := 14) dX5_readPlace_11 rfl gf_LandBase_Reader_58 R (R.at rfl (by decide)) (by decide) rfl ?_
    obtain ⟨x102, e103, hf⟩ := st_some hf
    refine go_istore_nE e103 (i := 2) (pc' := 15) dX5_readPlace_14 rfl rfl (by decide) rfl ?_
    refine go_aload_n (i := 1) (pc' := 16) dX5_readPlace_15 rfl rfl rfl ?_
    obtain ⟨v104, σ105, e106, hf⟩ := bd_some hf
    refine go_invV (As := []) (pc' := 19) dX5_readPlace_16 rfl cf_X5_readPlace_61 rfl (R.ob (R.at rfl (by decide))) rfl rfl (Nat.le_of_ble_eq_true rfl) (c_X9_advance R e106) (fun q107v h108 q107 => ?_)
    obtain ⟨rfl, R⟩ := q107
    refine go_aload_n (i := 1) (pc' := 20) dX5_readPlace_19 rfl rfl rfl ?_
    refine go_getS (pc' := 23) dX5_readPlace_20 rfl gf_LandBase_Reader_55 R (R.at rfl (by decide)) (by decide) rfl ?_
    refine go_iconst (v := 2) (pc' := 24) dX5_readPlace_23 rfl (by decide) ?_
    refine go_icmp_eq (pc' := 27) (tgt := 29) dX5_readPlace_24 (by decide) rfl (fun c109 => ?_) (fun c109 => ?_)
    · have hf := it c109 hf
      refine go_aload_n (i := 0) (pc' := 30) dX5_readPlace_29 rfl rfl rfl ?_
      refine go_getS (pc' := 33) dX5_readPlace_30 rfl gf_LandBase_Reader_18 R (R.at rfl (by decide)) (by decide) rfl ?_
      refine go_iload_n (i := 2) (pc' := 34) dX5_readPlace_33 rfl rfl rfl ?_
      refine go_aload_n (i := 1) (pc' := 35) dX5_readPlace_34 rfl rfl rfl ?_
      refine go_getS (pc' := 38) dX5_readPlace_35 rfl gf_LandBase_Reader_58 R (R.at rfl (by decide)) (by decide) rfl ?_
      obtain ⟨v110, σ111, e112, hf⟩ := bd_some hf
      refine go_invV (As := [_, _]) (pc' := 41) dX5_readPlace_38 rfl cf_X5_readPlace_95 rfl (R.ob (R.at rfl (by decide))) rfl rfl (Nat.le_of_ble_eq_true rfl) (c_X7_addPlace R e112) (fun q113v h114 q113 => ?_)
      obtain ⟨rfl, R⟩ := q113
      refine go_aload_n (i := 1) (pc' := 42) dX5_readPlace_41 rfl rfl rfl ?_
      obtain ⟨v115, σ116, e117, hf⟩ := bd_some hf
      refine go_invV (As := []) (pc' := 45) dX5_readPlace_42 rfl cf_X5_readPlace_61 rfl (R.ob (R.at rfl (by decide))) rfl rfl (Nat.le_of_ble_eq_true rfl) (c_X9_advance R e117) (fun q118v h119 q118 => ?_)
      obtain ⟨rfl, R⟩ := q118
      refine go_iconst (v := 1) (pc' := 46) dX5_readPlace_45 rfl (by decide) ?_
      obtain rfl := Option.some.inj hf
      exact Go.ret (v := some (.int _)) dX5_readPlace_46 ⟨_, rfl⟩ ⟨rfl, rfl, R⟩
    · have hf := ie c109 hf
      refine go_iconst (v := 0) (pc' := 28) dX5_readPlace_27 rfl (by decide) ?_
      obtain rfl := Option.some.inj hf
      exact Go.ret (v := some (.int _)) dX5_readPlace_28 ⟨_, rfl⟩ ⟨rfl, rfl, R⟩
  · have hf := ie c101 hf
    refine go_iconst (v := 0) (pc' := 9) dX5_readPlace_8 rfl (by decide) ?_
    obtain rfl := Option.some.inj hf
    exact Go.ret (v := some (.int _)) dX5_readPlace_9 ⟨_, rfl⟩ ⟨rfl, rfl, R⟩
def f_X7_closeRing (n : Nat) (a0 : Nat) (σ : xσ) : Option (Unit × xσ) := gd (okS n a0) (if 8 ≤ (sI σ a0 2) then st (wI σ a0 3 1) (fun σ102 => some ((), σ102)) else if 1 ≤ (sI σ a0 1) then gd (inb (sI σ a0 2) 8) (st (wI σ (a0 + 3) (sI σ a0 2).toNatClampNeg (sI σ a0 1)) (fun σ107 => st (wI σ107 a0 2 ((sI σ107 a0 2) + 1)) (fun σ110 => gd (inb ((sI σ110 a0 1) - 1) 40) (st (wI σ110 (a0 + 4) ((sI σ110 a0 1) - 1).toNatClampNeg (vp_nar .boolean 1)) (fun σ114 => some ((), σ114)))))) else st (wI σ a0 3 1) (fun σ117 => some ((), σ117)))
set_option maxRecDepth 100000 in
set_option maxHeartbeats 4000000 in
theorem c_X7_closeRing {G : xG} {n : Nat} {σ : xσ} {h : xH} {a0 : Nat} {v1 : Unit} {σ1 : xσ} (R : Rl n σ h) (hf : f_X7_closeRing n a0 σ = some (v1, σ1)) : Ca G mX7_closeRing [.ref a0] h (fun v h' => v = none ∧ Rl n σ1 h') := by
  refine Ca.of rfl (Nat.le_of_ble_eq_true rfl) ?_
  generalize hr : (v1, σ1) = r at hf
  suffices q : Go G mX7_closeRing 0 (xent (xMl mX7_closeRing) [.ref a0]) [] h (fun v h' => xRok (xRt mX7_closeRing) v ∧ v = none ∧ Rl n r.2 h') by
    subst hr
    exact q
  clear hr
  rw [f_X7_closeRing] at hf
  obtain ⟨g0, hf⟩ := gd_some hf
  refine go_aload_n (i := 0) (pc' := 1) dX7_closeRing_0 rfl rfl rfl ?_
  refine go_getS (pc' := 4) dX7_closeRing_1 rfl gf_LandBase_Shape_32 R g0.at (by decide) rfl ?_
  refine go_bipush (v := 8) (pc' := 6) dX7_closeRing_4 rfl (by decide) ?_
  refine go_icmp_ge (pc' := 9) (tgt := 17) dX7_closeRing_6 (by decide) rfl (fun c101 => ?_) (fun c101 => ?_)
  · have hf := it c101 hf
    refine go_aload_n (i := 0) (pc' := 18) dX7_closeRing_17 rfl rfl rfl ?_
    refine go_iconst (v := 1) (pc' := 19) dX7_closeRing_18 rfl (by decide) ?_
    obtain ⟨σ102, e103, hf⟩ := st_some hf
    refine go_putI (pc' := 22) dX7_closeRing_19 rfl pf_LandBase_Shape_35 R g0.at (by decide) rfl rfl rfl (fun h104 R => ?_)
    have R := Rl.cast e103 R
    obtain rfl := Option.some.inj hf
    exact Go.ret (v := none) dX7_closeRing_22 rfl ⟨trivial, rfl, R⟩
  · have hf := ie c101 hf
    refine go_aload_n (i := 0) (pc' := 10) dX7_closeRing_9 rfl rfl rfl ?_
    refine go_getS (pc' := 13) dX7_closeRing_10 rfl gf_LandBase_Shape_29 R g0.at (by decide) rfl ?_
    refine go_iconst (v := 1) (pc' := 14) dX7_closeRing_13 rfl (by decide) ?_
    refine go_icmp_ge (pc' := 17) (tgt := 23) dX7_closeRing_14 (by decide) rfl (fun c105 => ?_) (fun c105 => ?_)
    · have hf := it c105 hf
      refine go_aload_n (i := 0) (pc' := 24) dX7_closeRing_23 rfl rfl rfl ?_
      refine go_getS (pc' := 27) dX7_closeRing_24 rfl gf_LandBase_Shape_18 R g0.at (by decide) rfl ?_
      refine go_aload_n (i := 0) (pc' := 28) dX7_closeRing_27 rfl rfl rfl ?_
      refine go_getS (pc' := 31) dX7_closeRing_28 rfl gf_LandBase_Shape_32 R g0.at (by decide) rfl ?_
      refine go_aload_n (i := 0) (pc' := 32) dX7_closeRing_31 rfl rfl rfl ?_
      refine go_getS (pc' := 35) dX7_closeRing_32 rfl gf_LandBase_Shape_29 R g0.at (by decide) rfl ?_
      obtain ⟨g106, hf⟩ := gd_some hf
      obtain ⟨σ107, e108, hf⟩ := st_some hf
      refine go_iastoreS (pc' := 36) dX7_closeRing_35 rfl R g0.r g106 (fun h109 R => ?_)
      have R := Rl.cast e108 R
      refine go_aload_n (i := 0) (pc' := 37) dX7_closeRing_36 rfl rfl rfl ?_
      refine go_dup (pc' := 38) dX7_closeRing_37 rfl rfl ?_
      refine go_getS (pc' := 41) dX7_closeRing_38 rfl gf_LandBase_Shape_32 R g0.at (by decide) rfl ?_
      refine go_iconst (v := 1) (pc' := 42) dX7_closeRing_41 rfl (by decide) ?_
      refine go_iadd (pc' := 43) dX7_closeRing_42 rfl ?_
      obtain ⟨σ110, e111, hf⟩ := st_some hf
      refine go_putI (pc' := 46) dX7_closeRing_43 rfl pf_LandBase_Shape_32 R g0.at (by decide) rfl rfl rfl (fun h112 R => ?_)
      have R := Rl.cast e111 R
      refine go_aload_n (i := 0) (pc' := 47) dX7_closeRing_46 rfl rfl rfl ?_
      refine go_getS (pc' := 50) dX7_closeRing_47 rfl gf_LandBase_Shape_21 R g0.at (by decide) rfl ?_
      refine go_aload_n (i := 0) (pc' := 51) dX7_closeRing_50 rfl rfl rfl ?_
      refine go_getS (pc' := 54) dX7_closeRing_51 rfl gf_LandBase_Shape_29 R g0.at (by decide) rfl ?_
      refine go_iconst (v := 1) (pc' := 55) dX7_closeRing_54 rfl (by decide) ?_
      refine go_isub (pc' := 56) dX7_closeRing_55 rfl ?_
      refine go_iconst (v := 1) (pc' := 57) dX7_closeRing_56 rfl (by decide) ?_
      obtain ⟨g113, hf⟩ := gd_some hf
      obtain ⟨σ114, e115, hf⟩ := st_some hf
      refine go_zastoreS (pc' := 58) dX7_closeRing_57 rfl R g0.l g113 (fun h116 R => ?_)
      have R := Rl.cast e115 R
      obtain rfl := Option.some.inj hf
      exact Go.ret (v := none) dX7_closeRing_58 rfl ⟨trivial, rfl, R⟩
    · have hf := ie c105 hf
      refine go_aload_n (i := 0) (pc' := 18) dX7_closeRing_17 rfl rfl rfl ?_
      refine go_iconst (v := 1) (pc' := 19) dX7_closeRing_18 rfl (by decide) ?_
      obtain ⟨σ117, e118, hf⟩ := st_some hf
      refine go_putI (pc' := 22) dX7_closeRing_19 rfl pf_LandBase_Shape_35 R g0.at (by decide) rfl rfl rfl (fun h119 R => ?_)
      have R := Rl.cast e118 R
      obtain rfl := Option.some.inj hf
      exact Go.ret (v := none) dX7_closeRing_22 rfl ⟨trivial, rfl, R⟩
def b_X5_readRing_53 (n : Nat) (σ : xσ) : Option (Int32 × xσ) := bd (f_X7_closeRing n 5 σ) (fun v101 σ102 => bd (f_X9_skipSign n 41 σ102) (fun v106 σ107 => gd (v106 = 0 ∨ v106 = 1) (some (v106, σ107))))
set_option maxRecDepth 100000 in
set_option maxHeartbeats 4000000 in
theorem t_X5_readRing_53 {G : xG} {n : Nat} {σ : xσ} {h : xH} {r : Int32 × xσ} {d2 : Option Value} {d3 : Option Value} : Rl n σ h → b_X5_readRing_53 n σ = some r → Go G mX5_readRing 53 [some (.ref 3), some (.ref 1), d2, d3] [] h (fun v h' => xRok (xRt mX5_readRing) v ∧ v = some (.int r.1) ∧ Rl n r.2 h') := by
  intro R hf
  rw [b_X5_readRing_53] at hf
  refine go_aload_n (i := 0) (pc' := 54) dX5_readRing_53 rfl rfl rfl ?_
  refine go_getS (pc' := 57) dX5_readRing_54 rfl gf_LandBase_Reader_18 R (R.at rfl (by decide)) (by decide) rfl ?_
  obtain ⟨v101, σ102, e103, hf⟩ := bd_some hf
  refine go_invV (As := []) (pc' := 60) dX5_readRing_57 rfl cf_X5_readRing_92 rfl (R.ob (R.at rfl (by decide))) rfl rfl (Nat.le_of_ble_eq_true rfl) (c_X7_closeRing R e103) (fun q104v h105 q104 => ?_)
  obtain ⟨rfl, R⟩ := q104
  refine go_aload_n (i := 1) (pc' := 61) dX5_readRing_60 rfl rfl rfl ?_
  refine go_bipush (v := 41) (pc' := 63) dX5_readRing_61 rfl (by decide) ?_
  obtain ⟨v106, σ107, e108, hf⟩ := bd_some hf
  refine go_invV (As := [_]) (pc' := 66) dX5_readRing_63 rfl cf_X5_readRing_51 rfl (R.ob (R.at rfl (by decide))) rfl rfl (Nat.le_of_ble_eq_true rfl) (c_X9_skipSign R e108) (fun q109v h110 q109 => ?_)
  obtain ⟨rfl, R⟩ := q109
  obtain ⟨g111, hf⟩ := gd_some hf
  obtain rfl := Option.some.inj hf
  exact Go.ret (v := some (.int _)) dX5_readRing_66 ⟨_, rfl⟩ ⟨(nb g111), rfl, R⟩
def l_X5_readRing_13 (n : Nat) : Nat → Int32 → Int32 → xσ → Option (Int32 × xσ)
  | 0, _, _, _ => none
  | f + 1, x2, x3, σ => if x2 ≤ x3 then bd (f_X7_closeRing n 5 σ) (fun v102 σ103 => bd (f_X9_skipSign n 41 σ103) (fun v107 σ108 => gd (v107 = 0 ∨ v107 = 1) (some (v107, σ108)))) else bd (f_X5_readPlace n σ) (fun v113 σ114 => if v113 = 0 then some (0, σ114) else if (x3 + 1) = x2 then bd (f_X7_closeRing n 5 σ114) (fun v120 σ121 => bd (f_X9_skipSign n 41 σ121) (fun v125 σ126 => gd (v125 = 0 ∨ v125 = 1) (some (v125, σ126)))) else bd (f_X9_skipSign n 44 σ114) (fun v131 σ132 => if v131 = 0 then b_X5_readRing_53 n σ132 else (l_X5_readRing_13 n f) x2 (x3 + 1) σ132))
set_option maxRecDepth 100000 in
set_option maxHeartbeats 4000000 in
theorem t_X5_readRing_13 {G : xG} {n : Nat} : ∀ (f : Nat) {x2 : Int32} {x3 : Int32} {σ : xσ} {h : xH} {r : Int32 × xσ}, Rl n σ h → l_X5_readRing_13 n f x2 x3 σ = some r → Go G mX5_readRing 13 [some (.ref 3), some (.ref 1), some (.int x2), some (.int x3)] [] h (fun v h' => xRok (xRt mX5_readRing) v ∧ v = some (.int r.1) ∧ Rl n r.2 h') := by
  intro f
  induction f with
  | zero =>
    intros
    rename _ = some _ => hf
    rw [l_X5_readRing_13] at hf
    cases hf
  | succ f ih =>
    intro x2 x3 σ h r  R hf
    rw [l_X5_readRing_13] at hf
    refine go_iload_n (i := 3) (pc' := 14) dX5_readRing_13 rfl rfl rfl ?_
    refine go_iload_n (i := 2) (pc' := 15) dX5_readRing_14 rfl rfl rfl ?_
    refine go_icmp_ge (pc' := 18) (tgt := 53) dX5_readRing_15 (by decide) rfl (fun c101 => ?_) (fun c101 => ?_)
    · have hf := it c101 hf
      refine go_aload_n (i := 0) (pc' := 54) dX5_readRing_53 rfl rfl rfl ?_
      refine go_getS (pc' := 57) dX5_readRing_54 rfl gf_LandBase_Reader_18 R (R.at rfl (by decide)) (by decide) rfl ?_
      obtain ⟨v102, σ103, e104, hf⟩ := bd_some hf
      refine go_invV (As := []) (pc' := 60) dX5_readRing_57 rfl cf_X5_readRing_92 rfl (R.ob (R.at rfl (by decide))) rfl rfl (Nat.le_of_ble_eq_true rfl) (c_X7_closeRing R e104) (fun q105v h106 q105 => ?_)
      obtain ⟨rfl, R⟩ := q105
      refine go_aload_n (i := 1) (pc' := 61) dX5_readRing_60 rfl rfl rfl ?_
      refine go_bipush (v := 41) (pc' := 63) dX5_readRing_61 rfl (by decide) ?_
      obtain ⟨v107, σ108, e109, hf⟩ := bd_some hf
      refine go_invV (As := [_]) (pc' := 66) dX5_readRing_63 rfl cf_X5_readRing_51 rfl (R.ob (R.at rfl (by decide))) rfl rfl (Nat.le_of_ble_eq_true rfl) (c_X9_skipSign R e109) (fun q110v h111 q110 => ?_)
      obtain ⟨rfl, R⟩ := q110
      obtain ⟨g112, hf⟩ := gd_some hf
      obtain rfl := Option.some.inj hf
      exact Go.ret (v := some (.int _)) dX5_readRing_66 ⟨_, rfl⟩ ⟨(nb g112), rfl, R⟩
    · have hf := ie c101 hf
      refine go_aload_n (i := 0) (pc' := 19) dX5_readRing_18 rfl rfl rfl ?_
      refine go_aload_n (i := 1) (pc' := 20) dX5_readRing_19 rfl rfl rfl ?_
      obtain ⟨v113, σ114, e115, hf⟩ := bd_some hf
      refine go_invV (As := [_]) (pc' := 23) dX5_readRing_20 rfl cf_X5_readRing_89 rfl (R.ob (R.at rfl (by decide))) rfl rfl (Nat.le_of_ble_eq_true rfl) (c_X5_readPlace R e115) (fun q116v h117 q116 => ?_)
      obtain ⟨rfl, R⟩ := q116
      refine go_if_ne (pc' := 26) (tgt := 28) dX5_readRing_23 (by decide) rfl (fun c118 => ?_) (fun c118 => ?_)
      · have hf := ie c118 hf
        refine go_iload_n (i := 3) (pc' := 29) dX5_readRing_28 rfl rfl rfl ?_
        refine go_iconst (v := 1) (pc' := 30) dX5_readRing_29 rfl (by decide) ?_
        refine go_iadd (pc' := 31) dX5_readRing_30 rfl ?_
        refine go_iload_n (i := 2) (pc' := 32) dX5_readRing_31 rfl rfl rfl ?_
        refine go_icmp_eq (pc' := 35) (tgt := 53) dX5_readRing_32 (by decide) rfl (fun c119 => ?_) (fun c119 => ?_)
        · have hf := it c119 hf
          refine go_aload_n (i := 0) (pc' := 54) dX5_readRing_53 rfl rfl rfl ?_
          refine go_getS (pc' := 57) dX5_readRing_54 rfl gf_LandBase_Reader_18 R (R.at rfl (by decide)) (by decide) rfl ?_
          obtain ⟨v120, σ121, e122, hf⟩ := bd_some hf
          refine go_invV (As := []) (pc' := 60) dX5_readRing_57 rfl cf_X5_readRing_92 rfl (R.ob (R.at rfl (by decide))) rfl rfl (Nat.le_of_ble_eq_true rfl) (c_X7_closeRing R e122) (fun q123v h124 q123 => ?_)
          obtain ⟨rfl, R⟩ := q123
          refine go_aload_n (i := 1) (pc' := 61) dX5_readRing_60 rfl rfl rfl ?_
          refine go_bipush (v := 41) (pc' := 63) dX5_readRing_61 rfl (by decide) ?_
          obtain ⟨v125, σ126, e127, hf⟩ := bd_some hf
          refine go_invV (As := [_]) (pc' := 66) dX5_readRing_63 rfl cf_X5_readRing_51 rfl (R.ob (R.at rfl (by decide))) rfl rfl (Nat.le_of_ble_eq_true rfl) (c_X9_skipSign R e127) (fun q128v h129 q128 => ?_)
          obtain ⟨rfl, R⟩ := q128
          obtain ⟨g130, hf⟩ := gd_some hf
          obtain rfl := Option.some.inj hf
          exact Go.ret (v := some (.int _)) dX5_readRing_66 ⟨_, rfl⟩ ⟨(nb g130), rfl, R⟩
        · have hf := ie c119 hf
          refine go_aload_n (i := 1) (pc' := 36) dX5_readRing_35 rfl rfl rfl ?_
          refine go_bipush (v := 44) (pc' := 38) dX5_readRing_36 rfl (by decide) ?_
          obtain ⟨v131, σ132, e133, hf⟩ := bd_some hf
          refine go_invV (As := [_]) (pc' := 41) dX5_readRing_38 rfl cf_X5_readRing_51 rfl (R.ob (R.at rfl (by decide))) rfl rfl (Nat.le_of_ble_eq_true rfl) (c_X9_skipSign R e133) (fun q134v h135 q134 => ?_)
          obtain ⟨rfl, R⟩ := q134
          refine go_if_ne (pc' := 44) (tgt := 47) dX5_readRing_41 (by decide) rfl (fun c136 => ?_) (fun c136 => ?_)
          · have hf := ie c136 hf
            refine go_iincC (kk := 1) (pc' := 50) dX5_readRing_47 rfl rfl (by decide) (by decide) rfl ?_
            refine go_goto (pc' := 0) (tgt := 13) dX5_readRing_50 (by decide) ?_
            exact ih R hf
          · have hf := it c136 hf
            refine go_goto (pc' := 0) (tgt := 53) dX5_readRing_44 (by decide) ?_
            exact t_X5_readRing_53 R hf
      · have hf := it c118 hf
        refine go_iconst (v := 0) (pc' := 27) dX5_readRing_26 rfl (by decide) ?_
        obtain rfl := Option.some.inj hf
        exact Go.ret (v := some (.int _)) dX5_readRing_27 ⟨_, rfl⟩ ⟨rfl, rfl, R⟩
def f_X5_readRing (n : Nat) (x2 : Int32) (σ : xσ) : Option (Int32 × xσ) := bd (f_X9_skipSign n 40 σ) (fun v101 σ102 => if v101 = 0 then some (0, σ102) else l_X5_readRing_13 n xFU x2 0 σ102)
set_option maxRecDepth 100000 in
set_option maxHeartbeats 4000000 in
theorem c_X5_readRing {G : xG} {n : Nat} {σ : xσ} {h : xH} {x2 : Int32} {v1 : Int32} {σ1 : xσ} (R : Rl n σ h) (hf : f_X5_readRing n x2 σ = some (v1, σ1)) : Ca G mX5_readRing [.ref 3, .ref 1, .int x2] h (fun v h' => v = some (.int v1) ∧ Rl n σ1 h') := by
  refine Ca.of rfl (Nat.le_of_ble_eq_true rfl) ?_
  generalize hr : (v1, σ1) = r at hf
  suffices q : Go G mX5_readRing 0 (xent (xMl mX5_readRing) [.ref 3, .ref 1, .int x2]) [] h (fun v h' => xRok (xRt mX5_readRing) v ∧ v = some (.int r.1) ∧ Rl n r.2 h') by
    subst hr
    exact q
  clear hr
  rw [f_X5_readRing] at hf
  refine go_aload_n (i := 1) (pc' := 1) dX5_readRing_0 rfl rfl rfl ?_
  refine go_bipush (v := 40) (pc' := 3) dX5_readRing_1 rfl (by decide) ?_
  obtain ⟨v101, σ102, e103, hf⟩ := bd_some hf
  refine go_invV (As := [_]) (pc' := 6) dX5_readRing_3 rfl cf_X5_readRing_51 rfl (R.ob (R.at rfl (by decide))) rfl rfl (Nat.le_of_ble_eq_true rfl) (c_X9_skipSign R e103) (fun q104v h105 q104 => ?_)
  obtain ⟨rfl, R⟩ := q104
  refine go_if_ne (pc' := 9) (tgt := 11) dX5_readRing_6 (by decide) rfl (fun c106 => ?_) (fun c106 => ?_)
  · have hf := ie c106 hf
    refine go_iconst (v := 0) (pc' := 12) dX5_readRing_11 rfl (by decide) ?_
    refine go_istore_nE rfl (i := 3) (pc' := 13) dX5_readRing_12 rfl rfl (by decide) rfl ?_
    exact t_X5_readRing_13 xFU R hf
  · have hf := it c106 hf
    refine go_iconst (v := 0) (pc' := 10) dX5_readRing_9 rfl (by decide) ?_
    obtain rfl := Option.some.inj hf
    exact Go.ret (v := some (.int _)) dX5_readRing_10 ⟨_, rfl⟩ ⟨rfl, rfl, R⟩
def b_X5_readRings_51 (n : Nat) (σ : xσ) : Option (Int32 × xσ) := bd (f_X9_skipSign n 41 σ) (fun v101 σ102 => gd (v101 = 0 ∨ v101 = 1) (some (v101, σ102)))
set_option maxRecDepth 100000 in
set_option maxHeartbeats 4000000 in
theorem t_X5_readRings_51 {G : xG} {n : Nat} {σ : xσ} {h : xH} {r : Int32 × xσ} {d0 : Option Value} {d2 : Option Value} : Rl n σ h → b_X5_readRings_51 n σ = some r → Go G mX5_readRings 51 [d0, some (.ref 1), d2] [] h (fun v h' => xRok (xRt mX5_readRings) v ∧ v = some (.int r.1) ∧ Rl n r.2 h') := by
  intro R hf
  rw [b_X5_readRings_51] at hf
  refine go_aload_n (i := 1) (pc' := 52) dX5_readRings_51 rfl rfl rfl ?_
  refine go_bipush (v := 41) (pc' := 54) dX5_readRings_52 rfl (by decide) ?_
  obtain ⟨v101, σ102, e103, hf⟩ := bd_some hf
  refine go_invV (As := [_]) (pc' := 57) dX5_readRings_54 rfl cf_X5_readRings_51 rfl (R.ob (R.at rfl (by decide))) rfl rfl (Nat.le_of_ble_eq_true rfl) (c_X9_skipSign R e103) (fun q104v h105 q104 => ?_)
  obtain ⟨rfl, R⟩ := q104
  obtain ⟨g106, hf⟩ := gd_some hf
  obtain rfl := Option.some.inj hf
  exact Go.ret (v := some (.int _)) dX5_readRings_57 ⟨_, rfl⟩ ⟨(nb g106), rfl, R⟩
def l_X5_readRings_13 (n : Nat) : Nat → Int32 → xσ → Option (Int32 × xσ)
  | 0, _, _ => none
  | f + 1, x2, σ => if 4000 ≤ x2 then bd (f_X9_skipSign n 41 σ) (fun v102 σ103 => gd (v102 = 0 ∨ v102 = 1) (some (v102, σ103))) else bd (f_X5_readRing n 4000 σ) (fun v108 σ109 => if v108 = 0 then some (0, σ109) else bd (f_X9_skipSign n 44 σ109) (fun v114 σ115 => if v114 = 0 then b_X5_readRings_51 n σ115 else (l_X5_readRings_13 n f) (x2 + 1) σ115))
set_option maxRecDepth 100000 in
set_option maxHeartbeats 4000000 in
theorem t_X5_readRings_13 {G : xG} {n : Nat} : ∀ (f : Nat) {x2 : Int32} {σ : xσ} {h : xH} {r : Int32 × xσ}, Rl n σ h → l_X5_readRings_13 n f x2 σ = some r → Go G mX5_readRings 13 [some (.ref 3), some (.ref 1), some (.int x2)] [] h (fun v h' => xRok (xRt mX5_readRings) v ∧ v = some (.int r.1) ∧ Rl n r.2 h') := by
  intro f
  induction f with
  | zero =>
    intros
    rename _ = some _ => hf
    rw [l_X5_readRings_13] at hf
    cases hf
  | succ f ih =>
    intro x2 σ h r  R hf
    rw [l_X5_readRings_13] at hf
    refine go_iload_n (i := 2) (pc' := 14) dX5_readRings_13 rfl rfl rfl ?_
    refine go_sipush (v := 4000) (pc' := 17) dX5_readRings_14 rfl (by decide) ?_
    refine go_icmp_ge (pc' := 20) (tgt := 51) dX5_readRings_17 (by decide) rfl (fun c101 => ?_) (fun c101 => ?_)
    · have hf := it c101 hf
      refine go_aload_n (i := 1) (pc' := 52) dX5_readRings_51 rfl rfl rfl ?_
      refine go_bipush (v := 41) (pc' := 54) dX5_readRings_52 rfl (by decide) ?_
      obtain ⟨v102, σ103, e104, hf⟩ := bd_some hf
      refine go_invV (As := [_]) (pc' := 57) dX5_readRings_54 rfl cf_X5_readRings_51 rfl (R.ob (R.at rfl (by decide))) rfl rfl (Nat.le_of_ble_eq_true rfl) (c_X9_skipSign R e104) (fun q105v h106 q105 => ?_)
      obtain ⟨rfl, R⟩ := q105
      obtain ⟨g107, hf⟩ := gd_some hf
      obtain rfl := Option.some.inj hf
      exact Go.ret (v := some (.int _)) dX5_readRings_57 ⟨_, rfl⟩ ⟨(nb g107), rfl, R⟩
    · have hf := ie c101 hf
      refine go_aload_n (i := 0) (pc' := 21) dX5_readRings_20 rfl rfl rfl ?_
      refine go_aload_n (i := 1) (pc' := 22) dX5_readRings_21 rfl rfl rfl ?_
      refine go_sipush (v := 4000) (pc' := 25) dX5_readRings_22 rfl (by decide) ?_
      obtain ⟨v108, σ109, e110, hf⟩ := bd_some hf
      refine go_invV (As := [_, _]) (pc' := 28) dX5_readRings_25 rfl cf_X5_readRings_83 rfl (R.ob (R.at rfl (by decide))) rfl rfl (Nat.le_of_ble_eq_true rfl) (c_X5_readRing R e110) (fun q111v h112 q111 => ?_)
      obtain ⟨rfl, R⟩ := q111
      refine go_if_ne (pc' := 31) (tgt := 33) dX5_readRings_28 (by decide) rfl (fun c113 => ?_) (fun c113 => ?_)
      · have hf := ie c113 hf
        refine go_aload_n (i := 1) (pc' := 34) dX5_readRings_33 rfl rfl rfl ?_
        refine go_bipush (v := 44) (pc' := 36) dX5_readRings_34 rfl (by decide) ?_
        obtain ⟨v114, σ115, e116, hf⟩ := bd_some hf
        refine go_invV (As := [_]) (pc' := 39) dX5_readRings_36 rfl cf_X5_readRings_51 rfl (R.ob (R.at rfl (by decide))) rfl rfl (Nat.le_of_ble_eq_true rfl) (c_X9_skipSign R e116) (fun q117v h118 q117 => ?_)
        obtain ⟨rfl, R⟩ := q117
        refine go_if_ne (pc' := 42) (tgt := 45) dX5_readRings_39 (by decide) rfl (fun c119 => ?_) (fun c119 => ?_)
        · have hf := ie c119 hf
          refine go_iincC (kk := 1) (pc' := 48) dX5_readRings_45 rfl rfl (by decide) (by decide) rfl ?_
          refine go_goto (pc' := 0) (tgt := 13) dX5_readRings_48 (by decide) ?_
          exact ih R hf
        · have hf := it c119 hf
          refine go_goto (pc' := 0) (tgt := 51) dX5_readRings_42 (by decide) ?_
          exact t_X5_readRings_51 R hf
      · have hf := it c113 hf
        refine go_iconst (v := 0) (pc' := 32) dX5_readRings_31 rfl (by decide) ?_
        obtain rfl := Option.some.inj hf
        exact Go.ret (v := some (.int _)) dX5_readRings_32 ⟨_, rfl⟩ ⟨rfl, rfl, R⟩
def f_X5_readRings (n : Nat)  (σ : xσ) : Option (Int32 × xσ) := bd (f_X9_skipSign n 40 σ) (fun v101 σ102 => if v101 = 0 then some (0, σ102) else l_X5_readRings_13 n xFU 0 σ102)
set_option maxRecDepth 100000 in
set_option maxHeartbeats 4000000 in
theorem c_X5_readRings {G : xG} {n : Nat} {σ : xσ} {h : xH}  {v1 : Int32} {σ1 : xσ} (R : Rl n σ h) (hf : f_X5_readRings n σ = some (v1, σ1)) : Ca G mX5_readRings [.ref 3, .ref 1] h (fun v h' => v = some (.int v1) ∧ Rl n σ1 h') := by
  refine Ca.of rfl (Nat.le_of_ble_eq_true rfl) ?_
  generalize hr : (v1, σ1) = r at hf
  suffices q : Go G mX5_readRings 0 (xent (xMl mX5_readRings) [.ref 3, .ref 1]) [] h (fun v h' => xRok (xRt mX5_readRings) v ∧ v = some (.int r.1) ∧ Rl n r.2 h') by
    subst hr
    exact q
  clear hr
  rw [f_X5_readRings] at hf
  refine go_aload_n (i := 1) (pc' := 1) dX5_readRings_0 rfl rfl rfl ?_
  refine go_bipush (v := 40) (pc' := 3) dX5_readRings_1 rfl (by decide) ?_
  obtain ⟨v101, σ102, e103, hf⟩ := bd_some hf
  refine go_invV (As := [_]) (pc' := 6) dX5_readRings_3 rfl cf_X5_readRings_51 rfl (R.ob (R.at rfl (by decide))) rfl rfl (Nat.le_of_ble_eq_true rfl) (c_X9_skipSign R e103) (fun q104v h105 q104 => ?_)
  obtain ⟨rfl, R⟩ := q104
  refine go_if_ne (pc' := 9) (tgt := 11) dX5_readRings_6 (by decide) rfl (fun c106 => ?_) (fun c106 => ?_)
  · have hf := ie c106 hf
    refine go_iconst (v := 0) (pc' := 12) dX5_readRings_11 rfl (by decide) ?_
    refine go_istore_nE rfl (i := 2) (pc' := 13) dX5_readRings_12 rfl rfl (by decide) rfl ?_
    exact t_X5_readRings_13 xFU R hf
  · have hf := it c106 hf
    refine go_iconst (v := 0) (pc' := 10) dX5_readRings_9 rfl (by decide) ?_
    obtain rfl := Option.some.inj hf
    exact Go.ret (v := some (.int _)) dX5_readRings_10 ⟨_, rfl⟩ ⟨rfl, rfl, R⟩
def l_X7_finish_42 (n : Nat) : Nat → Nat → Int32 → xσ → Option (Unit × xσ)
  | 0, _, _, _ => none
  | f + 1, a0, x1, σ => if (sI σ a0 1) ≤ x1 then some ((), σ) else gd (inb x1 40) (st (wI σ a0 4 (imin (sI σ a0 4) (sI σ (a0 + 1) x1.toNatClampNeg))) (fun σ103 => gd (inb x1 40) (st (wI σ103 a0 6 (imax (sI σ103 a0 6) (sI σ103 (a0 + 1) x1.toNatClampNeg))) (fun σ107 => gd (inb x1 40) (st (wI σ107 a0 5 (imin (sI σ107 a0 5) (sI σ107 (a0 + 2) x1.toNatClampNeg))) (fun σ111 => gd (inb x1 40) (st (wI σ111 a0 7 (imax (sI σ111 a0 7) (sI σ111 (a0 + 2) x1.toNatClampNeg))) (fun σ115 => (l_X7_finish_42 n f) a0 (x1 + 1) σ115))))))))
set_option maxRecDepth 100000 in
set_option maxHeartbeats 4000000 in
theorem t_X7_finish_42 {G : xG} {n : Nat} : ∀ (f : Nat) {a0 : Nat} {x1 : Int32} {σ : xσ} {h : xH} {r : Unit × xσ}, Rl n σ h → okS n a0 → l_X7_finish_42 n f a0 x1 σ = some r → Go G mX7_finish 42 [some (.ref a0), some (.int x1)] [] h (fun v h' => xRok (xRt mX7_finish) v ∧ v = none ∧ Rl n r.2 h') := by
  intro f
  induction f with
  | zero =>
    intros
    rename _ = some _ => hf
    rw [l_X7_finish_42] at hf
    cases hf
  | succ f ih =>
    intro a0 x1 σ h r  R g0 hf
    rw [l_X7_finish_42] at hf
    refine go_iload_n (i := 1) (pc' := 43) dX7_finish_42 rfl rfl rfl ?_
    refine go_aload_n (i := 0) (pc' := 44) dX7_finish_43 rfl rfl rfl ?_
    refine go_getS (pc' := 47) dX7_finish_44 rfl gf_LandBase_Shape_29 R g0.at (by decide) rfl ?_
    refine go_icmp_ge (pc' := 50) (tgt := 124) dX7_finish_47 (by decide) rfl (fun c101 => ?_) (fun c101 => ?_)
    · have hf := it c101 hf
      obtain rfl := Option.some.inj hf
      exact Go.ret (v := none) dX7_finish_124 rfl ⟨trivial, rfl, R⟩
    · have hf := ie c101 hf
      refine go_aload_n (i := 0) (pc' := 51) dX7_finish_50 rfl rfl rfl ?_
      refine go_aload_n (i := 0) (pc' := 52) dX7_finish_51 rfl rfl rfl ?_
      refine go_getS (pc' := 55) dX7_finish_52 rfl gf_LandBase_Shape_39 R g0.at (by decide) rfl ?_
      refine go_aload_n (i := 0) (pc' := 56) dX7_finish_55 rfl rfl rfl ?_
      refine go_getS (pc' := 59) dX7_finish_56 rfl gf_LandBase_Shape_9 R g0.at (by decide) rfl ?_
      refine go_iload_n (i := 1) (pc' := 60) dX7_finish_59 rfl rfl rfl ?_
      obtain ⟨g102, hf⟩ := gd_some hf
      refine go_ialoadS (pc' := 61) dX7_finish_60 rfl R g0.x g102 ?_
      refine go_mmin (pc' := 64) dX7_finish_61 rfl cf_X7_finish_51 (Nat.le_of_ble_eq_true rfl) ?_
      obtain ⟨σ103, e104, hf⟩ := st_some hf
      refine go_putI (pc' := 67) dX7_finish_64 rfl pf_LandBase_Shape_39 R g0.at (by decide) rfl rfl rfl (fun h105 R => ?_)
      have R := Rl.cast e104 R
      refine go_aload_n (i := 0) (pc' := 68) dX7_finish_67 rfl rfl rfl ?_
      refine go_aload_n (i := 0) (pc' := 69) dX7_finish_68 rfl rfl rfl ?_
      refine go_getS (pc' := 72) dX7_finish_69 rfl gf_LandBase_Shape_42 R g0.at (by decide) rfl ?_
      refine go_aload_n (i := 0) (pc' := 73) dX7_finish_72 rfl rfl rfl ?_
      refine go_getS (pc' := 76) dX7_finish_73 rfl gf_LandBase_Shape_9 R g0.at (by decide) rfl ?_
      refine go_iload_n (i := 1) (pc' := 77) dX7_finish_76 rfl rfl rfl ?_
      obtain ⟨g106, hf⟩ := gd_some hf
      refine go_ialoadS (pc' := 78) dX7_finish_77 rfl R g0.x g106 ?_
      refine go_mmax (pc' := 81) dX7_finish_78 rfl cf_X7_finish_57 (Nat.le_of_ble_eq_true rfl) ?_
      obtain ⟨σ107, e108, hf⟩ := st_some hf
      refine go_putI (pc' := 84) dX7_finish_81 rfl pf_LandBase_Shape_42 R g0.at (by decide) rfl rfl rfl (fun h109 R => ?_)
      have R := Rl.cast e108 R
      refine go_aload_n (i := 0) (pc' := 85) dX7_finish_84 rfl rfl rfl ?_
      refine go_aload_n (i := 0) (pc' := 86) dX7_finish_85 rfl rfl rfl ?_
      refine go_getS (pc' := 89) dX7_finish_86 rfl gf_LandBase_Shape_45 R g0.at (by decide) rfl ?_
      refine go_aload_n (i := 0) (pc' := 90) dX7_finish_89 rfl rfl rfl ?_
      refine go_getS (pc' := 93) dX7_finish_90 rfl gf_LandBase_Shape_15 R g0.at (by decide) rfl ?_
      refine go_iload_n (i := 1) (pc' := 94) dX7_finish_93 rfl rfl rfl ?_
      obtain ⟨g110, hf⟩ := gd_some hf
      refine go_ialoadS (pc' := 95) dX7_finish_94 rfl R g0.y g110 ?_
      refine go_mmin (pc' := 98) dX7_finish_95 rfl cf_X7_finish_51 (Nat.le_of_ble_eq_true rfl) ?_
      obtain ⟨σ111, e112, hf⟩ := st_some hf
      refine go_putI (pc' := 101) dX7_finish_98 rfl pf_LandBase_Shape_45 R g0.at (by decide) rfl rfl rfl (fun h113 R => ?_)
      have R := Rl.cast e112 R
      refine go_aload_n (i := 0) (pc' := 102) dX7_finish_101 rfl rfl rfl ?_
      refine go_aload_n (i := 0) (pc' := 103) dX7_finish_102 rfl rfl rfl ?_
      refine go_getS (pc' := 106) dX7_finish_103 rfl gf_LandBase_Shape_48 R g0.at (by decide) rfl ?_
      refine go_aload_n (i := 0) (pc' := 107) dX7_finish_106 rfl rfl rfl ?_
      refine go_getS (pc' := 110) dX7_finish_107 rfl gf_LandBase_Shape_15 R g0.at (by decide) rfl ?_
      refine go_iload_n (i := 1) (pc' := 111) dX7_finish_110 rfl rfl rfl ?_
      obtain ⟨g114, hf⟩ := gd_some hf
      refine go_ialoadS (pc' := 112) dX7_finish_111 rfl R g0.y g114 ?_
      refine go_mmax (pc' := 115) dX7_finish_112 rfl cf_X7_finish_57 (Nat.le_of_ble_eq_true rfl) ?_
      obtain ⟨σ115, e116, hf⟩ := st_some hf
      refine go_putI (pc' := 118) dX7_finish_115 rfl pf_LandBase_Shape_48 R g0.at (by decide) rfl rfl rfl (fun h117 R => ?_)
      have R := Rl.cast e116 R
      refine go_iincC (kk := 1) (pc' := 121) dX7_finish_118 rfl rfl (by decide) (by decide) rfl ?_
      refine go_goto (pc' := 0) (tgt := 42) dX7_finish_121 (by decide) ?_
      exact ih R g0 hf
def f_X7_finish (n : Nat) (a0 : Nat) (σ : xσ) : Option (Unit × xσ) := gd (okS n a0) (gd (inb 0 40) (st (wI σ a0 4 (sI σ (a0 + 1) (0 : Int32).toNatClampNeg)) (fun σ102 => gd (inb 0 40) (st (wI σ102 a0 6 (sI σ102 (a0 + 1) (0 : Int32).toNatClampNeg)) (fun σ106 => gd (inb 0 40) (st (wI σ106 a0 5 (sI σ106 (a0 + 2) (0 : Int32).toNatClampNeg)) (fun σ110 => gd (inb 0 40) (st (wI σ110 a0 7 (sI σ110 (a0 + 2) (0 : Int32).toNatClampNeg)) (fun σ114 => l_X7_finish_42 n xFU a0 1 σ114)))))))))
set_option maxRecDepth 100000 in
set_option maxHeartbeats 4000000 in
theorem c_X7_finish {G : xG} {n : Nat} {σ : xσ} {h : xH} {a0 : Nat} {v1 : Unit} {σ1 : xσ} (R : Rl n σ h) (hf : f_X7_finish n a0 σ = some (v1, σ1)) : Ca G mX7_finish [.ref a0] h (fun v h' => v = none ∧ Rl n σ1 h') := by
  refine Ca.of rfl (Nat.le_of_ble_eq_true rfl) ?_
  generalize hr : (v1, σ1) = r at hf
  suffices q : Go G mX7_finish 0 (xent (xMl mX7_finish) [.ref a0]) [] h (fun v h' => xRok (xRt mX7_finish) v ∧ v = none ∧ Rl n r.2 h') by
    subst hr
    exact q
  clear hr
  rw [f_X7_finish] at hf
  obtain ⟨g0, hf⟩ := gd_some hf
  refine go_aload_n (i := 0) (pc' := 1) dX7_finish_0 rfl rfl rfl ?_
  refine go_aload_n (i := 0) (pc' := 2) dX7_finish_1 rfl rfl rfl ?_
  refine go_getS (pc' := 5) dX7_finish_2 rfl gf_LandBase_Shape_9 R g0.at (by decide) rfl ?_
  refine go_iconst (v := 0) (pc' := 6) dX7_finish_5 rfl (by decide) ?_
  obtain ⟨g101, hf⟩ := gd_some hf
  refine go_ialoadS (pc' := 7) dX7_finish_6 rfl R g0.x g101 ?_
  obtain ⟨σ102, e103, hf⟩ := st_some hf
  refine go_putI (pc' := 10) dX7_finish_7 rfl pf_LandBase_Shape_39 R g0.at (by decide) rfl rfl rfl (fun h104 R => ?_)
  have R := Rl.cast e103 R
  refine go_aload_n (i := 0) (pc' := 11) dX7_finish_10 rfl rfl rfl ?_
  refine go_aload_n (i := 0) (pc' := 12) dX7_finish_11 rfl rfl rfl ?_
  refine go_getS (pc' := 15) dX7_finish_12 rfl gf_LandBase_Shape_9 R g0.at (by decide) rfl ?_
  refine go_iconst (v := 0) (pc' := 16) dX7_finish_15 rfl (by decide) ?_
  obtain ⟨g105, hf⟩ := gd_some hf
  refine go_ialoadS (pc' := 17) dX7_finish_16 rfl R g0.x g105 ?_
  obtain ⟨σ106, e107, hf⟩ := st_some hf
  refine go_putI (pc' := 20) dX7_finish_17 rfl pf_LandBase_Shape_42 R g0.at (by decide) rfl rfl rfl (fun h108 R => ?_)
  have R := Rl.cast e107 R
  refine go_aload_n (i := 0) (pc' := 21) dX7_finish_20 rfl rfl rfl ?_
  refine go_aload_n (i := 0) (pc' := 22) dX7_finish_21 rfl rfl rfl ?_
  refine go_getS (pc' := 25) dX7_finish_22 rfl gf_LandBase_Shape_15 R g0.at (by decide) rfl ?_
  refine go_iconst (v := 0) (pc' := 26) dX7_finish_25 rfl (by decide) ?_
  obtain ⟨g109, hf⟩ := gd_some hf
  refine go_ialoadS (pc' := 27) dX7_finish_26 rfl R g0.y g109 ?_
  obtain ⟨σ110, e111, hf⟩ := st_some hf
  refine go_putI (pc' := 30) dX7_finish_27 rfl pf_LandBase_Shape_45 R g0.at (by decide) rfl rfl rfl (fun h112 R => ?_)
  have R := Rl.cast e111 R
  refine go_aload_n (i := 0) (pc' := 31) dX7_finish_30 rfl rfl rfl ?_
  refine go_aload_n (i := 0) (pc' := 32) dX7_finish_31 rfl rfl rfl ?_
  refine go_getS (pc' := 35) dX7_finish_32 rfl gf_LandBase_Shape_15 R g0.at (by decide) rfl ?_
  refine go_iconst (v := 0) (pc' := 36) dX7_finish_35 rfl (by decide) ?_
  obtain ⟨g113, hf⟩ := gd_some hf
  refine go_ialoadS (pc' := 37) dX7_finish_36 rfl R g0.y g113 ?_
  obtain ⟨σ114, e115, hf⟩ := st_some hf
  refine go_putI (pc' := 40) dX7_finish_37 rfl pf_LandBase_Shape_48 R g0.at (by decide) rfl rfl rfl (fun h116 R => ?_)
  have R := Rl.cast e115 R
  refine go_iconst (v := 1) (pc' := 41) dX7_finish_40 rfl (by decide) ?_
  refine go_istore_nE rfl (i := 1) (pc' := 42) dX7_finish_41 rfl rfl (by decide) rfl ?_
  exact t_X7_finish_42 xFU R g0 hf
def b_X5_readShape_50 (n : Nat) (xs0 : Int32) (σ : xσ) : Option (Int32 × xσ) := bd (f_X7_finish n 5 σ) (fun v101 σ102 => gd (xs0 = 0 ∨ xs0 = 1) (some (xs0, σ102)))
set_option maxRecDepth 100000 in
set_option maxHeartbeats 4000000 in
theorem t_X5_readShape_50 {G : xG} {n : Nat} {xs0 : Int32} {σ : xσ} {h : xH} {r : Int32 × xσ} {d1 : Option Value} {d2 : Option Value} {d3 : Option Value} : Rl n σ h → b_X5_readShape_50 n xs0 σ = some r → Go G mX5_readShape 50 [some (.ref 3), d1, d2, d3] [.int xs0] h (fun v h' => xRok (xRt mX5_readShape) v ∧ v = some (.int r.1) ∧ Rl n r.2 h') := by
  intro R hf
  rw [b_X5_readShape_50] at hf
  refine go_istore_nE rfl (i := 3) (pc' := 51) dX5_readShape_50 rfl rfl (by decide) rfl ?_
  refine go_aload_n (i := 0) (pc' := 52) dX5_readShape_51 rfl rfl rfl ?_
  refine go_getS (pc' := 55) dX5_readShape_52 rfl gf_LandBase_Reader_18 R (R.at rfl (by decide)) (by decide) rfl ?_
  obtain ⟨v101, σ102, e103, hf⟩ := bd_some hf
  refine go_invV (As := []) (pc' := 58) dX5_readShape_55 rfl cf_X5_readShape_86 rfl (R.ob (R.at rfl (by decide))) rfl rfl (Nat.le_of_ble_eq_true rfl) (c_X7_finish R e103) (fun q104v h105 q104 => ?_)
  obtain ⟨rfl, R⟩ := q104
  refine go_iload_n (i := 3) (pc' := 59) dX5_readShape_58 rfl rfl rfl ?_
  obtain ⟨g106, hf⟩ := gd_some hf
  obtain rfl := Option.some.inj hf
  exact Go.ret (v := some (.int _)) dX5_readShape_59 ⟨_, rfl⟩ ⟨(nb g106), rfl, R⟩
def b_X5_readShape_47 (n : Nat) (xs0 : Int32) (σ : xσ) : Option (Int32 × xσ) := bd (f_X5_readRing n xs0 σ) (fun v101 σ102 => b_X5_readShape_50 n v101 σ102)
set_option maxRecDepth 100000 in
set_option maxHeartbeats 4000000 in
theorem t_X5_readShape_47 {G : xG} {n : Nat} {xs0 : Int32} {σ : xσ} {h : xH} {r : Int32 × xσ} {d1 : Option Value} {d2 : Option Value} {d3 : Option Value} : Rl n σ h → b_X5_readShape_47 n xs0 σ = some r → Go G mX5_readShape 47 [some (.ref 3), d1, d2, d3] [.int xs0, .ref 1, .ref 3] h (fun v h' => xRok (xRt mX5_readShape) v ∧ v = some (.int r.1) ∧ Rl n r.2 h') := by
  intro R hf
  rw [b_X5_readShape_47] at hf
  obtain ⟨v101, σ102, e103, hf⟩ := bd_some hf
  refine go_invV (As := [_, _]) (pc' := 50) dX5_readShape_47 rfl cf_X5_readShape_83 rfl (R.ob (R.at rfl (by decide))) rfl rfl (Nat.le_of_ble_eq_true rfl) (c_X5_readRing R e103) (fun q104v h105 q104 => ?_)
  obtain ⟨rfl, R⟩ := q104
  exact t_X5_readShape_50 R hf
def f_X5_readShape (n : Nat)  (σ : xσ) : Option (Int32 × xσ) := bd (f_X9_skipWord n 1 σ) (fun v101 σ102 => if 0 ≤ v101 then bd (f_X7_start n 5 v101 σ102) (fun v107 σ108 => if v101 = 2 then bd (f_X5_readRings n σ108) (fun v114 σ115 => b_X5_readShape_50 n v114 σ115) else if v101 = 0 then b_X5_readShape_47 n 1 σ108 else b_X5_readShape_47 n 4000 σ108) else some (0, σ102))
set_option maxRecDepth 100000 in
set_option maxHeartbeats 4000000 in
theorem c_X5_readShape {G : xG} {n : Nat} {σ : xσ} {h : xH}  {v1 : Int32} {σ1 : xσ} (R : Rl n σ h) (hf : f_X5_readShape n σ = some (v1, σ1)) : Ca G mX5_readShape [.ref 3, .ref 1] h (fun v h' => v = some (.int v1) ∧ Rl n σ1 h') := by
  refine Ca.of rfl (Nat.le_of_ble_eq_true rfl) ?_
  generalize hr : (v1, σ1) = r at hf
  suffices q : Go G mX5_readShape 0 (xent (xMl mX5_readShape) [.ref 3, .ref 1]) [] h (fun v h' => xRok (xRt mX5_readShape) v ∧ v = some (.int r.1) ∧ Rl n r.2 h') by
    subst hr
    exact q
  clear hr
  rw [f_X5_readShape] at hf
  refine go_aload_n (i := 1) (pc' := 1) dX5_readShape_0 rfl rfl rfl ?_
  refine go_ldcS (j := 1) (pc' := 3) dX5_readShape_1 rfl rfl ?_
  obtain ⟨v101, σ102, e103, hf⟩ := bd_some hf
  refine go_invV (As := [_]) (pc' := 6) dX5_readShape_3 rfl cf_X5_readShape_28 rfl (R.ob (R.at rfl (by decide))) rfl rfl (Nat.le_of_ble_eq_true rfl) (c_X9_skipWord R e103) (fun q104v h105 q104 => ?_)
  obtain ⟨rfl, R⟩ := q104
  refine go_istore_nE rfl (i := 2) (pc' := 7) dX5_readShape_6 rfl rfl (by decide) rfl ?_
  refine go_iload_n (i := 2) (pc' := 8) dX5_readShape_7 rfl rfl rfl ?_
  refine go_if_ge (pc' := 11) (tgt := 13) dX5_readShape_8 (by decide) rfl (fun c106 => ?_) (fun c106 => ?_)
  · have hf := it c106 hf
    refine go_aload_n (i := 0) (pc' := 14) dX5_readShape_13 rfl rfl rfl ?_
    refine go_getS (pc' := 17) dX5_readShape_14 rfl gf_LandBase_Reader_18 R (R.at rfl (by decide)) (by decide) rfl ?_
    refine go_iload_n (i := 2) (pc' := 18) dX5_readShape_17 rfl rfl rfl ?_
    obtain ⟨v107, σ108, e109, hf⟩ := bd_some hf
    refine go_invV (As := [_]) (pc' := 21) dX5_readShape_18 rfl cf_X5_readShape_76 rfl (R.ob (R.at rfl (by decide))) rfl rfl (Nat.le_of_ble_eq_true rfl) (c_X7_start R e109) (fun q110v h111 q110 => ?_)
    obtain ⟨rfl, R⟩ := q110
    refine go_iload_n (i := 2) (pc' := 22) dX5_readShape_21 rfl rfl rfl ?_
    refine go_iconst (v := 2) (pc' := 23) dX5_readShape_22 rfl (by decide) ?_
    refine go_icmp_ne (pc' := 26) (tgt := 34) dX5_readShape_23 (by decide) rfl (fun c112 => ?_) (fun c112 => ?_)
    · have hf := ie c112 hf
      refine go_aload_n (i := 0) (pc' := 35) dX5_readShape_34 rfl rfl rfl ?_
      refine go_aload_n (i := 1) (pc' := 36) dX5_readShape_35 rfl rfl rfl ?_
      refine go_iload_n (i := 2) (pc' := 37) dX5_readShape_36 rfl rfl rfl ?_
      refine go_if_ne (pc' := 40) (tgt := 44) dX5_readShape_37 (by decide) rfl (fun c113 => ?_) (fun c113 => ?_)
      · have hf := ie c113 hf
        refine go_sipush (v := 4000) (pc' := 47) dX5_readShape_44 rfl (by decide) ?_
        exact t_X5_readShape_47 R hf
      · have hf := it c113 hf
        refine go_iconst (v := 1) (pc' := 41) dX5_readShape_40 rfl (by decide) ?_
        refine go_goto (pc' := 0) (tgt := 47) dX5_readShape_41 (by decide) ?_
        exact t_X5_readShape_47 R hf
    · have hf := it c112 hf
      refine go_aload_n (i := 0) (pc' := 27) dX5_readShape_26 rfl rfl rfl ?_
      refine go_aload_n (i := 1) (pc' := 28) dX5_readShape_27 rfl rfl rfl ?_
      obtain ⟨v114, σ115, e116, hf⟩ := bd_some hf
      refine go_invV (As := [_]) (pc' := 31) dX5_readShape_28 rfl cf_X5_readShape_80 rfl (R.ob (R.at rfl (by decide))) rfl rfl (Nat.le_of_ble_eq_true rfl) (c_X5_readRings R e116) (fun q117v h118 q117 => ?_)
      obtain ⟨rfl, R⟩ := q117
      refine go_goto (pc' := 0) (tgt := 50) dX5_readShape_31 (by decide) ?_
      exact t_X5_readShape_50 R hf
  · have hf := ie c106 hf
    refine go_iconst (v := 0) (pc' := 12) dX5_readShape_11 rfl (by decide) ?_
    obtain rfl := Option.some.inj hf
    exact Go.ret (v := some (.int _)) dX5_readShape_12 ⟨_, rfl⟩ ⟨rfl, rfl, R⟩
def f_X5_readFillKind (n : Nat)  (σ : xσ) : Option (Int32 × xσ) := bd (f_X9_skipWord n 2 σ) (fun v101 σ102 => st (wI σ102 3 5 v101) (fun σ106 => if (sI σ106 3 5) < 0 then some (0, σ106) else some (1, σ106)))
set_option maxRecDepth 100000 in
set_option maxHeartbeats 4000000 in
theorem c_X5_readFillKind {G : xG} {n : Nat} {σ : xσ} {h : xH}  {v1 : Int32} {σ1 : xσ} (R : Rl n σ h) (hf : f_X5_readFillKind n σ = some (v1, σ1)) : Ca G mX5_readFillKind [.ref 3, .ref 1] h (fun v h' => v = some (.int v1) ∧ Rl n σ1 h') := by
  refine Ca.of rfl (Nat.le_of_ble_eq_true rfl) ?_
  generalize hr : (v1, σ1) = r at hf
  suffices q : Go G mX5_readFillKind 0 (xent (xMl mX5_readFillKind) [.ref 3, .ref 1]) [] h (fun v h' => xRok (xRt mX5_readFillKind) v ∧ v = some (.int r.1) ∧ Rl n r.2 h') by
    subst hr
    exact q
  clear hr
  rw [f_X5_readFillKind] at hf
  refine go_aload_n (i := 0) (pc' := 1) dX5_readFillKind_0 rfl rfl rfl ?_
  refine go_aload_n (i := 1) (pc' := 2) dX5_readFillKind_1 rfl rfl rfl ?_
  refine go_ldcS (j := 2) (pc' := 4) dX5_readFillKind_2 rfl rfl ?_
  obtain ⟨v101, σ102, e103, hf⟩ := bd_some hf
  refine go_invV (As := [_]) (pc' := 7) dX5_readFillKind_4 rfl cf_X5_readFillKind_28 rfl (R.ob (R.at rfl (by decide))) rfl rfl (Nat.le_of_ble_eq_true rfl) (c_X9_skipWord R e103) (fun q104v h105 q104 => ?_)
  obtain ⟨rfl, R⟩ := q104
  obtain ⟨σ106, e107, hf⟩ := st_some hf
  refine go_putI (pc' := 10) dX5_readFillKind_7 rfl pf_LandBase_Reader_66 R (R.at rfl (by decide)) (by decide) rfl rfl rfl (fun h108 R => ?_)
  have R := Rl.cast e107 R
  refine go_aload_n (i := 0) (pc' := 11) dX5_readFillKind_10 rfl rfl rfl ?_
  refine go_getS (pc' := 14) dX5_readFillKind_11 rfl gf_LandBase_Reader_66 R (R.at rfl (by decide)) (by decide) rfl ?_
  refine go_if_lt (pc' := 17) (tgt := 21) dX5_readFillKind_14 (by decide) rfl (fun c109 => ?_) (fun c109 => ?_)
  · have hf := it c109 hf
    refine go_iconst (v := 0) (pc' := 22) dX5_readFillKind_21 rfl (by decide) ?_
    obtain rfl := Option.some.inj hf
    exact Go.ret (v := some (.int _)) dX5_readFillKind_22 ⟨_, rfl⟩ ⟨rfl, rfl, R⟩
  · have hf := ie c109 hf
    refine go_iconst (v := 1) (pc' := 18) dX5_readFillKind_17 rfl (by decide) ?_
    refine go_goto (pc' := 0) (tgt := 22) dX5_readFillKind_18 (by decide) ?_
    obtain rfl := Option.some.inj hf
    exact Go.ret (v := some (.int _)) dX5_readFillKind_22 ⟨_, rfl⟩ ⟨rfl, rfl, R⟩
def f_X5_readRelation (n : Nat)  (σ : xσ) : Option (Int32 × xσ) := bd (f_X9_skipWord n 3 σ) (fun v101 σ102 => st (wI σ102 3 4 v101) (fun σ106 => if (sI σ106 3 4) < 0 then some (0, σ106) else some (1, σ106)))
set_option maxRecDepth 100000 in
set_option maxHeartbeats 4000000 in
theorem c_X5_readRelation {G : xG} {n : Nat} {σ : xσ} {h : xH}  {v1 : Int32} {σ1 : xσ} (R : Rl n σ h) (hf : f_X5_readRelation n σ = some (v1, σ1)) : Ca G mX5_readRelation [.ref 3, .ref 1] h (fun v h' => v = some (.int v1) ∧ Rl n σ1 h') := by
  refine Ca.of rfl (Nat.le_of_ble_eq_true rfl) ?_
  generalize hr : (v1, σ1) = r at hf
  suffices q : Go G mX5_readRelation 0 (xent (xMl mX5_readRelation) [.ref 3, .ref 1]) [] h (fun v h' => xRok (xRt mX5_readRelation) v ∧ v = some (.int r.1) ∧ Rl n r.2 h') by
    subst hr
    exact q
  clear hr
  rw [f_X5_readRelation] at hf
  refine go_aload_n (i := 0) (pc' := 1) dX5_readRelation_0 rfl rfl rfl ?_
  refine go_aload_n (i := 1) (pc' := 2) dX5_readRelation_1 rfl rfl rfl ?_
  refine go_ldcS (j := 3) (pc' := 4) dX5_readRelation_2 rfl rfl ?_
  obtain ⟨v101, σ102, e103, hf⟩ := bd_some hf
  refine go_invV (As := [_]) (pc' := 7) dX5_readRelation_4 rfl cf_X5_readRelation_28 rfl (R.ob (R.at rfl (by decide))) rfl rfl (Nat.le_of_ble_eq_true rfl) (c_X9_skipWord R e103) (fun q104v h105 q104 => ?_)
  obtain ⟨rfl, R⟩ := q104
  obtain ⟨σ106, e107, hf⟩ := st_some hf
  refine go_putI (pc' := 10) dX5_readRelation_7 rfl pf_LandBase_Reader_71 R (R.at rfl (by decide)) (by decide) rfl rfl rfl (fun h108 R => ?_)
  have R := Rl.cast e107 R
  refine go_aload_n (i := 0) (pc' := 11) dX5_readRelation_10 rfl rfl rfl ?_
  refine go_getS (pc' := 14) dX5_readRelation_11 rfl gf_LandBase_Reader_71 R (R.at rfl (by decide)) (by decide) rfl ?_
  refine go_if_lt (pc' := 17) (tgt := 21) dX5_readRelation_14 (by decide) rfl (fun c109 => ?_) (fun c109 => ?_)
  · have hf := it c109 hf
    refine go_iconst (v := 0) (pc' := 22) dX5_readRelation_21 rfl (by decide) ?_
    obtain rfl := Option.some.inj hf
    exact Go.ret (v := some (.int _)) dX5_readRelation_22 ⟨_, rfl⟩ ⟨rfl, rfl, R⟩
  · have hf := ie c109 hf
    refine go_iconst (v := 1) (pc' := 18) dX5_readRelation_17 rfl (by decide) ?_
    refine go_goto (pc' := 0) (tgt := 22) dX5_readRelation_18 (by decide) ?_
    obtain rfl := Option.some.inj hf
    exact Go.ret (v := some (.int _)) dX5_readRelation_22 ⟨_, rfl⟩ ⟨rfl, rfl, R⟩

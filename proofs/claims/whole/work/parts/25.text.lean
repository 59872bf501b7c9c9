theorem wd_423 : (Jvm.Cond.code ({ cls := "java/lang/String", name := "coder", desc := "()B" } : Jvm.MethodName) prog_18_method_152_code (1 : Nat) (Option.some Jvm.ClassFile.FieldType.byte)) ∈ xW := xW_in (tb_in_2 (List.mem_of_getElem? (i := 183) rfl)) rfl
theorem wd_420 : (Jvm.Cond.methodLink "java/lang/String" (335 : Nat) ({ cls := "java/lang/String", name := "coder", desc := "()B" } : Jvm.MethodName)) ∈ xW := xW_in (tb_in_2 (List.mem_of_getElem? (i := 180) (by decide +kernel))) rfl
theorem wd_421 : (Jvm.Cond.instanceMethod ({ cls := "java/lang/String", name := "coder", desc := "()B" } : Jvm.MethodName)) ∈ xW := xW_in (tb_in_2 (List.mem_of_getElem? (i := 181) (by decide +kernel))) rfl
theorem wd_422 : (Jvm.Cond.selects "java/lang/String" ({ cls := "java/lang/String", name := "coder", desc := "()B" } : Jvm.MethodName) ({ cls := "java/lang/String", name := "coder", desc := "()B" } : Jvm.MethodName)) ∈ xW := xW_in (tb_in_2 (List.mem_of_getElem? (i := 182) (by decide +kernel))) rfl
theorem wd_433 : (Jvm.Cond.code ({ cls := "java/lang/String", name := "isLatin1", desc := "()Z" } : Jvm.MethodName) prog_18_method_154_code (1 : Nat) (Option.some Jvm.ClassFile.FieldType.boolean)) ∈ xW := xW_in (tb_in_2 (List.mem_of_getElem? (i := 193) rfl)) rfl
theorem wd_430 : (Jvm.Cond.methodLink "java/lang/String" (492 : Nat) ({ cls := "java/lang/String", name := "isLatin1", desc := "()Z" } : Jvm.MethodName)) ∈ xW := xW_in (tb_in_2 (List.mem_of_getElem? (i := 190) (by decide +kernel))) rfl
theorem wd_431 : (Jvm.Cond.instanceMethod ({ cls := "java/lang/String", name := "isLatin1", desc := "()Z" } : Jvm.MethodName)) ∈ xW := xW_in (tb_in_2 (List.mem_of_getElem? (i := 191) (by decide +kernel))) rfl
theorem wd_432 : (Jvm.Cond.selects "java/lang/String" ({ cls := "java/lang/String", name := "isLatin1", desc := "()Z" } : Jvm.MethodName) ({ cls := "java/lang/String", name := "isLatin1", desc := "()Z" } : Jvm.MethodName)) ∈ xW := xW_in (tb_in_2 (List.mem_of_getElem? (i := 192) (by decide +kernel))) rfl
theorem wd_16 : (Jvm.Cond.initialized "java/lang/StringLatin1") ∈ xW := xW_in (tb_in_1 (List.mem_of_getElem? (i := 16) (by decide +kernel))) rfl
theorem wd_436 : (Jvm.Cond.code ({ cls := "java/lang/StringLatin1", name := "charAt", desc := "([BI)C" } : Jvm.MethodName) prog_19_method_2_code (2 : Nat) (Option.some Jvm.ClassFile.FieldType.char)) ∈ xW := xW_in (tb_in_2 (List.mem_of_getElem? (i := 196) rfl)) rfl
theorem wd_434 : (Jvm.Cond.methodLink "java/lang/String" (495 : Nat) ({ cls := "java/lang/StringLatin1", name := "charAt", desc := "([BI)C" } : Jvm.MethodName)) ∈ xW := xW_in (tb_in_2 (List.mem_of_getElem? (i := 194) (by decide +kernel))) rfl
theorem wd_435 : (Jvm.Cond.static ({ cls := "java/lang/StringLatin1", name := "charAt", desc := "([BI)C" } : Jvm.MethodName)) ∈ xW := xW_in (tb_in_2 (List.mem_of_getElem? (i := 195) (by decide +kernel))) rfl
theorem wd_439 : (Jvm.Cond.code ({ cls := "java/lang/String", name := "checkIndex", desc := "(II)V" } : Jvm.MethodName) prog_18_method_155_code (2 : Nat) (Option.none : Option Jvm.ClassFile.FieldType)) ∈ xW := xW_in (tb_in_2 (List.mem_of_getElem? (i := 199) rfl)) rfl
theorem wd_437 : (Jvm.Cond.methodLink "java/lang/StringLatin1" (9 : Nat) ({ cls := "java/lang/String", name := "checkIndex", desc := "(II)V" } : Jvm.MethodName)) ∈ xW := xW_in (tb_in_2 (List.mem_of_getElem? (i := 197) (by decide +kernel))) rfl
theorem wd_438 : (Jvm.Cond.static ({ cls := "java/lang/String", name := "checkIndex", desc := "(II)V" } : Jvm.MethodName)) ∈ xW := xW_in (tb_in_2 (List.mem_of_getElem? (i := 198) (by decide +kernel))) rfl
theorem wd_17 : (Jvm.Cond.initialized "jdk/internal/util/Preconditions") ∈ xW := xW_in (tb_in_1 (List.mem_of_getElem? (i := 17) (by decide +kernel))) rfl
theorem wd_444 : (Jvm.Cond.code ({ cls := "jdk/internal/util/Preconditions", name := "checkIndex", desc := "(IILjava/util/function/BiFunction;)I" } : Jvm.MethodName) prog_21_method_11_code (3 : Nat) (Option.some Jvm.ClassFile.FieldType.int)) ∈ xW := xW_in (tb_in_2 (List.mem_of_getElem? (i := 204) rfl)) rfl
theorem wd_442 : (Jvm.Cond.methodLink "java/lang/String" (1059 : Nat) ({ cls := "jdk/internal/util/Preconditions", name := "checkIndex", desc := "(IILjava/util/function/BiFunction;)I" } : Jvm.MethodName)) ∈ xW := xW_in (tb_in_2 (List.mem_of_getElem? (i := 202) (by decide +kernel))) rfl
theorem wd_443 : (Jvm.Cond.static ({ cls := "jdk/internal/util/Preconditions", name := "checkIndex", desc := "(IILjava/util/function/BiFunction;)I" } : Jvm.MethodName)) ∈ xW := xW_in (tb_in_2 (List.mem_of_getElem? (i := 203) (by decide +kernel))) rfl
theorem wd_1722 : (Jvm.Cond.fieldLink "java/lang/String" (9 : Nat) "java/lang/String" "value" "[B") ∈ xW := xW_in (tb_in_8 (List.mem_of_getElem? (i := 42) (by decide +kernel))) rfl
theorem wd_1723 : (Jvm.Cond.fieldLink "java/lang/String" (15 : Nat) "java/lang/String" "coder" "B") ∈ xW := xW_in (tb_in_8 (List.mem_of_getElem? (i := 43) (by decide +kernel))) rfl
theorem wd_424 : (Jvm.Cond.fieldLink "java/lang/String" (38 : Nat) "java/lang/String" "COMPACT_STRINGS" "Z") ∈ xW := xW_in (tb_in_2 (List.mem_of_getElem? (i := 184) (by decide +kernel))) rfl
theorem wd_440 : (Jvm.Cond.fieldLink "java/lang/String" (1053 : Nat) "jdk/internal/util/Preconditions" "SIOOBE_FORMATTER" "Ljava/util/function/BiFunction;") ∈ xW := xW_in (tb_in_2 (List.mem_of_getElem? (i := 200) (by decide +kernel))) rfl
theorem cf_J0_length_8abf5_335 : xCv mJ0_length_8abf5 335 mJ0_coder_7d493 0 := ⟨wd_420, wd_421, wd_422, ⟨wd_15, wd_423, by decide +kernel, by decide, by decide⟩⟩
theorem cf_J0_charAt_5068e_492 : xCv mJ0_charAt_5068e 492 mJ0_isLatin1_aae02 0 := ⟨wd_430, wd_431, wd_432, ⟨wd_15, wd_433, by decide +kernel, by decide, by decide⟩⟩
theorem cf_J0_charAt_5068e_495 : xCs mJ0_charAt_5068e 495 mJ1_charAt_3b067 2 := ⟨wd_434, wd_435, ⟨wd_16, wd_436, by decide +kernel, by decide, by decide⟩⟩
theorem cf_J1_charAt_3b067_9 : xCs mJ1_charAt_3b067 9 mJ0_checkIndex_df160 2 := ⟨wd_437, wd_438, ⟨wd_15, wd_439, by decide +kernel, by decide, by decide⟩⟩
theorem cf_J0_checkIndex_df160_1059 : xCs mJ0_checkIndex_df160 1059 mJ3_checkIndex_8e157 3 := ⟨wd_442, wd_443, ⟨wd_17, wd_444, by decide +kernel, by decide, by decide⟩⟩
/-- a text's length and letters -/
def tlen (j : Nat) : Int32 := Int32.ofNat (xTb j).length
def tchr (j i : Nat) : Int32 := (xTb j).getD i 0
theorem xTx_at {j : Nat} (h : j < 28) : ∃ q, xTx[j]? = some q := ⟨_, List.getElem?_eq_getElem (show j < xTx.length from h)⟩
theorem go_sval {G : xG} {M : xM} {pc pc' : Nat} {L : xL} {S : List Value} {h : xH} {P : Option Value → xH → Prop} {index j : Nat} (d : decode (xBy M) pc = .ok (.getfield index, 3)) (e : pc + 3 = pc') (hw : Cond.fieldLink (xOwn M) index "java/lang/String" "value" "[B" ∈ xW) (hj : j < 28) (k : Go G M pc' L (.retAddr (200 + j) :: S) h P) : Go G M pc L (.retAddr j :: S) h P :=
  k.go (fun _ _ _ s _ _ _ _ _ H _ _ _ _ _ C hH hS hL w => by
    subst e
    obtain ⟨q, hq⟩ := xTx_at hj
    obtain ⟨cf, kk, fi, f, cell, h1, h2, h3, h4, h5, h6⟩ := (C.2.2.2.2.2.2.1.2.2.2.1.1 j q hq).2.2.2.1.kept hS.2.1
    exact W.getf C.1 C.2.1 C.2.2.2.1 (C.2.2.2.2.1 _ hw) h1 h2 h3 h4 h5 rfl rfl d (w _ hL))
theorem go_scod {G : xG} {M : xM} {pc pc' : Nat} {L : xL} {S : List Value} {h : xH} {P : Option Value → xH → Prop} {index j : Nat} (d : decode (xBy M) pc = .ok (.getfield index, 3)) (e : pc + 3 = pc') (hw : Cond.fieldLink (xOwn M) index "java/lang/String" "coder" "B" ∈ xW) (hj : j < 28) (k : Go G M pc' L (.int 0 :: S) h P) : Go G M pc L (.retAddr j :: S) h P :=
  k.go (fun _ _ _ s _ _ _ _ _ H _ _ _ _ _ C hH hS hL w => by
    subst e
    obtain ⟨q, hq⟩ := xTx_at hj
    obtain ⟨cf, kk, fi, f, cell, h1, h2, h3, h4, h5, h6⟩ := (C.2.2.2.2.2.2.1.2.2.2.1.1 j q hq).2.2.1.kept hS.2.1
    exact W.getf C.1 C.2.1 C.2.2.2.1 (C.2.2.2.2.1 _ hw) h1 h2 h3 h4 h5 rfl rfl d (w _ hL))
theorem go_scs {G : xG} {M : xM} {pc pc' : Nat} {L : xL} {S : List Value} {h : xH} {P : Option Value → xH → Prop} {index : Nat} (d : decode (xBy M) pc = .ok (.getstatic index, 3)) (e : pc + 3 = pc') (hw : Cond.fieldLink (xOwn M) index "java/lang/String" "COMPACT_STRINGS" "Z" ∈ xW) (k : Go G M pc' L (.int 1 :: S) h P) : Go G M pc L S h P :=
  k.go (fun _ _ _ s _ _ _ _ _ H _ _ _ _ _ C hH hS hL w => by
    subst e
    obtain ⟨cf, kf, fi, f, a, cell, h1, h2, h3, h4, h5, h6, h7, h8⟩ := C.2.2.2.2.2.2.1.2.2.2.1.2.1.kept hS.2.1
    exact W.gets C.1 C.2.1 C.2.2.2.1 (C.2.2.2.2.1 _ hw) h1 h2 h3 h4 h5 (fun e => by rw [e] at h6; cases h6) h7 rfl d (w _ hL))
theorem Ev.sio {G : xG} {M : xM} {pc : Nat} {L : xL} {S : List Value} {h h' : xH} {v : Option Value} {index : Nat} (d : decode (xBy M) pc = .ok (.getstatic index, 3)) (hw : Cond.fieldLink (xOwn M) index "jdk/internal/util/Preconditions" "SIOOBE_FORMATTER" "Ljava/util/function/BiFunction;" ∈ xW) (k0 : Ev G M (pc + 3) L (.null :: S) h v h') (k1 : Ev G M (pc + 3) L (.retAddr 98 :: S) h v h') : Ev G M pc L S h v h' := by
  refine ⟨k0.1, fun p e R s m args below meth c H locs cells slots Cf Sf Q ls C hH hS hL e1 e2 r1 r2 hEnd => ?_⟩
  rcases C.2.2.2.2.2.2.1.2.2.2.1.2.2 with hz | hz
  · obtain ⟨cf, kf, fi, f, a, cell, h1, h2, h3, h4, h5, h6, h7, h8⟩ := hz.kept hS.2.1
    exact W.gets C.1 C.2.1 C.2.2.2.1 (C.2.2.2.2.1 _ hw) h1 h2 h3 h4 h5 (fun e => by rw [e] at h6; cases h6) h7 rfl d (k0.2 p e R s m args below meth c H locs cells slots Cf Sf Q ls C hH hS hL e1 e2 r1 r2 hEnd)
  · obtain ⟨cf, kf, fi, f, a, cell, h1, h2, h3, h4, h5, h6, h7, h8⟩ := hz.kept hS.2.1
    exact W.gets C.1 C.2.1 C.2.2.2.1 (C.2.2.2.2.1 _ hw) h1 h2 h3 h4 h5 (fun e => by rw [e] at h6; cases h6) h7 rfl d (k1.2 p e R s m args below meth c H locs cells slots Cf Sf Q ls C hH hS hL e1 e2 r1 r2 hEnd)
theorem go_tblen {G : xG} {M : xM} {pc pc' : Nat} {L : xL} {S : List Value} {h : xH} {P : Option Value → xH → Prop} {j : Nat} (d : decode (xBy M) pc = .ok (.arraylength, 1)) (e : pc + 1 = pc') (hj : j < 28) (k : Go G M pc' L (.int (tlen j) :: S) h P) : Go G M pc L (.retAddr (200 + j) :: S) h P :=
  k.go (fun _ _ _ s _ _ _ _ _ H _ _ _ _ _ C hH hS hL w => by
    subst e
    obtain ⟨q, hq⟩ := xTx_at hj
    obtain ⟨cell, h1, h2, h3, h4, h5, h6, h7⟩ := (C.2.2.2.2.2.2.1.2.2.2.1.1 j q hq).2.2.2.2.kept hS.2.1
    exact W.alen (n := tlen j) C.1 C.2.1 h1 h2 h5 rfl rfl d (w _ hL))
theorem go_tbald {G : xG} {M : xM} {pc pc' : Nat} {L : xL} {S : List Value} {h : xH} {P : Option Value → xH → Prop} {j : Nat} {i : Int32} (d : decode (xBy M) pc = .ok (.baload, 1)) (e : pc + 1 = pc') (hj : j < 28) (hin : inb i (xTb j).length) (k : Go G M pc' L (.int (tchr j i.toNatClampNeg) :: S) h P) : Go G M pc L (.int i :: .retAddr (200 + j) :: S) h P :=
  k.go (fun _ _ _ s _ _ _ _ _ H _ _ _ _ _ C hH hS hL w => by
    subst e
    obtain ⟨q, hq⟩ := xTx_at hj
    obtain ⟨cell, h1, h2, h3, h4, h5, h6, h7⟩ := (C.2.2.2.2.2.2.1.2.2.2.1.1 j q hq).2.2.2.2.kept hS.2.1
    have hlt : i.toNatClampNeg < (xTb j).length := Nat.not_le.mp fun q => hin (Or.inr q)
    have hin' : ¬ (i < 0 ∨ cell.slots.size ≤ i.toNatClampNeg) := by
      intro q
      rcases q with q | q
      · exact hin (Or.inl q)
      · omega
    exact W.bald (v := .int (tchr j i.toNatClampNeg)) C.1 C.2.1 h1 h2 h3 hin' (h6 _ hlt) rfl rfl d (w _ hL))
theorem go_invX {G : xG} {M M' : xM} {pc pc' : Nat} {L : xL} {S S0 As : List Value} {h : xH} {P P1 : Option Value → xH → Prop} {index n j : Nat} (d : decode (xBy M) pc = .ok (.invokevirtual index, 3)) (e : pc + 3 = pc') (q : xCv M index M' n) (hc : xOwn M' = "java/lang/String") (hj : j < 28) (hs : As.reverse ++ .retAddr j :: S = S0) (hA : As.length = n) (hW : (S.map fun v => v.category).sum ≤ 8) (hC : Ca G M' (.retAddr j :: As) h P1) (k : ∀ v h1, P1 v h1 → Go G M pc' L (v.toList ++ S) h1 P) : Go G M pc L S0 h P := by
  obtain ⟨w1, w2, w3, w4, w5, w6, w7, w8⟩ := q
  refine Go.call e hC k (fun v h1 hM p e0 R s m args below meth c H locs cells slots ls X hH hS hL r1 r2 => ?_)
  have hR := X.2.2.2.2.2.2.2
  obtain ⟨qq, hq⟩ := xTx_at hj
  obtain ⟨cell, c1, c2, c3, c4⟩ := (X.2.2.2.2.2.2.1.2.2.2.1.1 j qq hq).2.1.kept hS.2.1
  refine va_runV (As := As.map (xv G)) (b := gX G j) ⟨X.1, X.2.1, X.2.2.1, X.2.2.2.1, X.2.2.2.2.1⟩ hM.2
    (cwV (C := xOwn M') n X.2.2.2.2.1 (xW_goodIn (ws := wsV (xOwn M) index (xOwn M') (xNm M') (xws M')) (fun w hw => ?_)) rfl rfl rfl ⟨rfl, w6⟩ ⟨Nat.le_trans w7 hR.1, ?_⟩)
    ⟨xPc_blind G _ h, ⟨cell, c1, c2, by rw [hc]; exact c3⟩, fun U hU hW => xPre (A := .retAddr j :: As) X hH hS U hU hW⟩ rfl ?_ hL.1 ?_ (lv_room (by rw [xcat_map]; exact hW)) d ⟨r1, r2⟩
  · simp only [wsV, List.cons_append, List.nil_append, List.mem_cons] at hw
    rcases hw with rfl | rfl | rfl | rfl | hw
    · exact w1
    · exact w2
    · exact w3
    · exact w4
    · exact xws_in w5 w hw
  · show 8 + (xMl M' + 11) + 200 * xLv M' ≤ R.locals
    have := hR.2
    omega
  · rw [List.length_map]; exact hA
  · show S0.map (xv G) = _
    rw [← hs, List.map_append, List.map_reverse]
    rfl
theorem j_coder {G : xG} {h : xH} {j : Nat} (hj : j < 28) : Ca G mJ0_coder_7d493 [.retAddr j] h (fun v h' => v = some (.int 0) ∧ h' = h) := by
  refine Ca.of (by decide) (Nat.le_of_ble_eq_true rfl) ?_
  refine go_scs (pc' := 3) dJ0_coder_7d493_0 rfl wd_424 ?_
  refine go_if_eq (pc' := 6) (tgt := 13) dJ0_coder_7d493_3 (by decide) rfl (fun c1 => absurd c1 (by decide)) (fun c1 => ?_)
  refine go_aloadX_n (i := 0) (pc' := 7) dJ0_coder_7d493_6 rfl rfl rfl ?_
  refine go_scod (pc' := 10) dJ0_coder_7d493_7 rfl wd_1723 hj ?_
  refine go_goto (pc' := 0) (tgt := 14) dJ0_coder_7d493_10 (by decide) ?_
  exact Go.ret (v := some (.int _)) dJ0_coder_7d493_14 ⟨_, rfl⟩ ⟨rfl, rfl, rfl⟩
theorem j_isLatin1 {G : xG} {h : xH} {j : Nat} (hj : j < 28) : Ca G mJ0_isLatin1_aae02 [.retAddr j] h (fun v h' => v = some (.int 1) ∧ h' = h) := by
  refine Ca.of (by decide) (Nat.le_of_ble_eq_true rfl) ?_
  refine go_scs (pc' := 3) dJ0_isLatin1_aae02_0 rfl wd_424 ?_
  refine go_if_eq (pc' := 6) (tgt := 17) dJ0_isLatin1_aae02_3 (by decide) rfl (fun c1 => absurd c1 (by decide)) (fun c1 => ?_)
  refine go_aloadX_n (i := 0) (pc' := 7) dJ0_isLatin1_aae02_6 rfl rfl rfl ?_
  refine go_scod (pc' := 10) dJ0_isLatin1_aae02_7 rfl wd_1723 hj ?_
  refine go_if_ne (pc' := 13) (tgt := 17) dJ0_isLatin1_aae02_10 (by decide) rfl (fun c2 => absurd rfl c2) (fun c2 => ?_)
  refine go_iconst (v := 1) (pc' := 14) dJ0_isLatin1_aae02_13 rfl (by decide) ?_
  refine go_goto (pc' := 0) (tgt := 18) dJ0_isLatin1_aae02_14 (by decide) ?_
  exact Go.ret (v := some (.int _)) dJ0_isLatin1_aae02_18 ⟨_, rfl⟩ ⟨rfl, rfl, rfl⟩
theorem sh_0 (x : Int32) : x >>> ((0 : Int32) &&& 31) = x := by
  apply Int32.toBitVec_inj.mp
  simp [Int32.toBitVec_shiftRight]
theorem j_length {G : xG} {h : xH} {j : Nat} (hj : j < 28) : Ca G mJ0_length_8abf5 [.retAddr j] h (fun v h' => v = some (.int (tlen j)) ∧ h' = h) := by
  refine Ca.of (by decide) (Nat.le_of_ble_eq_true rfl) ?_
  refine go_aloadX_n (i := 0) (pc' := 1) dJ0_length_8abf5_0 rfl rfl rfl ?_
  refine go_sval (pc' := 4) dJ0_length_8abf5_1 rfl wd_1722 hj ?_
  refine go_tblen (pc' := 5) dJ0_length_8abf5_4 rfl hj ?_
  refine go_aloadX_n (i := 0) (pc' := 6) dJ0_length_8abf5_5 rfl rfl rfl ?_
  refine go_invX (As := []) (pc' := 9) dJ0_length_8abf5_6 rfl cf_J0_length_8abf5_335 rfl hj rfl rfl (Nat.le_of_ble_eq_true rfl) (j_coder hj) (fun v1 h1 q1 => ?_)
  obtain ⟨rfl, rfl⟩ := q1
  refine go_ishr (pc' := 10) dJ0_length_8abf5_9 rfl ?_
  rw [sh_0]
  exact Go.ret (v := some (.int _)) dJ0_length_8abf5_10 ⟨_, rfl⟩ ⟨rfl, rfl, rfl⟩
theorem j_chk3 {G : xG} {h : xH} {i n : Int32} {o : Value} (ho : o = .null ∨ o = .retAddr 98) (h1 : ¬ i < 0) (h2 : i < n) : Ca G mJ3_checkIndex_8e157 [.int i, .int n, o] h (fun v h' => v = some (.int i) ∧ h' = h) := by
  refine Ca.of (by decide) (by rcases ho with rfl | rfl <;> exact Nat.le_of_ble_eq_true rfl) ?_
  have e : xent (xMl mJ3_checkIndex_8e157) [.int i, .int n, o] = [some (.int i), some (.int n), some o] := by rcases ho with rfl | rfl <;> rfl
  rw [e]
  refine go_iload_n (i := 0) (pc' := 1) dJ3_checkIndex_8e157_0 rfl rfl rfl ?_
  refine go_if_lt (pc' := 4) (tgt := 9) dJ3_checkIndex_8e157_1 (by decide) rfl (fun c1 => absurd c1 h1) (fun c1 => ?_)
  refine go_iload_n (i := 0) (pc' := 5) dJ3_checkIndex_8e157_4 rfl rfl rfl ?_
  refine go_iload_n (i := 1) (pc' := 6) dJ3_checkIndex_8e157_5 rfl rfl rfl ?_
  refine go_icmp_lt (pc' := 9) (tgt := 16) dJ3_checkIndex_8e157_6 (by decide) rfl (fun c2 => ?_) (fun c2 => absurd h2 c2)
  refine go_iload_n (i := 0) (pc' := 17) dJ3_checkIndex_8e157_16 rfl rfl rfl ?_
  exact Go.ret (v := some (.int _)) dJ3_checkIndex_8e157_17 ⟨_, rfl⟩ ⟨rfl, rfl, rfl⟩
theorem j_chk2 {G : xG} {h : xH} {i n : Int32} (h1 : ¬ i < 0) (h2 : i < n) : Ca G mJ0_checkIndex_df160 [.int i, .int n] h (fun v h' => v = none ∧ h' = h) := by
  refine Ca.of (by decide) (Nat.le_of_ble_eq_true rfl) ?_
  refine go_iload_n (i := 0) (pc' := 1) dJ0_checkIndex_df160_0 rfl rfl rfl ?_
  refine go_iload_n (i := 1) (pc' := 2) dJ0_checkIndex_df160_1 rfl rfl rfl ?_
  have k : ∀ o : Value, (o = .null ∨ o = .retAddr 98) → Go G mJ0_checkIndex_df160 5 (xent (xMl mJ0_checkIndex_df160) [.int i, .int n]) [o, .int n, .int i] h (fun v h' => v = none ∧ h' = h) := fun o ho => by
    refine go_invS (As := [.int i, .int n, o]) (pc' := 8) dJ0_checkIndex_df160_5 rfl cf_J0_checkIndex_df160_1059 rfl rfl (Nat.le_of_ble_eq_true rfl) (j_chk3 ho h1 h2) (fun v1 h1 q1 => ?_)
    obtain ⟨rfl, rfl⟩ := q1
    refine go_pop (pc' := 9) dJ0_checkIndex_df160_8 rfl rfl ?_
    exact Go.ret (v := none) dJ0_checkIndex_df160_9 rfl ⟨rfl, rfl⟩
  obtain ⟨v0, g0, ⟨rfl, rfl⟩, e0⟩ := k .null (Or.inl rfl)
  obtain ⟨v1, g1, ⟨rfl, q⟩, e1⟩ := k (.retAddr 98) (Or.inr rfl)
  rw [q] at e1
  exact ⟨none, g0, ⟨trivial, rfl, rfl⟩, Ev.sio dJ0_checkIndex_df160_2 wd_440 e0 e1⟩
theorem xTl_ok : xTl.all (fun l => decide (l.length < 100) && l.all (fun x => decide ((((x &&& 255).toUInt32 % 65536).toInt32 = x) ∧ narrow .char (.int x) = .int x))) = true := by decide +kernel
theorem tchr_ok {j i : Nat} (hj : j < 28) (hi : i < (xTb j).length) : ((tchr j i &&& 255).toUInt32 % 65536).toInt32 = tchr j i ∧ narrow .char (.int (tchr j i)) = .int (tchr j i) := by
  have h1 : xTb j ∈ xTl := by
    have hl : j < xTl.length := hj
    rw [xTb, List.getD_eq_getElem?_getD, List.getElem?_eq_getElem hl]
    exact List.getElem_mem hl
  have h2 : tchr j i ∈ xTb j := by
    rw [tchr, List.getD_eq_getElem?_getD, List.getElem?_eq_getElem hi]
    exact List.getElem_mem hi
  have h3 := List.all_eq_true.mp xTl_ok _ h1
  rw [Bool.and_eq_true] at h3
  have h4 := List.all_eq_true.mp h3.2 _ h2
  exact of_decide_eq_true h4
theorem tlen_lt {j : Nat} {i : Int32} (hj : j < 28) (hi : inb i (xTb j).length) : ¬ i < 0 ∧ i < tlen j := by
  have hl : (xTb j).length < 100 := by
    have h1 : xTb j ∈ xTl := by
      have hl : j < xTl.length := hj
      rw [xTb, List.getD_eq_getElem?_getD, List.getElem?_eq_getElem hl]
      exact List.getElem_mem hl
    have h3 := List.all_eq_true.mp xTl_ok _ h1
    rw [Bool.and_eq_true] at h3
    exact of_decide_eq_true h3.1
  have h1 : ¬ i < 0 := fun q => hi (Or.inl q)
  have h2 : i.toNatClampNeg < (xTb j).length := Nat.not_le.mp fun q => hi (Or.inr q)
  refine ⟨h1, ?_⟩
  rw [Int32.lt_iff_toInt_lt, tlen, Int32.toInt_ofNat_of_lt (by omega)]
  have h3 : ¬ i.toInt < 0 := fun q => h1 (Int32.lt_iff_toInt_lt.mpr q)
  have h4 : i.toNatClampNeg = i.toInt.toNat := rfl
  omega
theorem j_lat {G : xG} {h : xH} {j : Nat} {i : Int32} (hj : j < 28) (hi : inb i (xTb j).length) : Ca G mJ1_charAt_3b067 [.retAddr (200 + j), .int i] h (fun v h' => v = some (.int (tchr j i.toNatClampNeg)) ∧ h' = h) := by
  refine Ca.of (by decide) (Nat.le_of_ble_eq_true rfl) ?_
  have hk := tlen_lt hj hi
  have hc := tchr_ok hj (Nat.not_le.mp fun q => hi (Or.inr q))
  refine go_iload_n (i := 1) (pc' := 1) dJ1_charAt_3b067_0 rfl rfl rfl ?_
  refine go_aloadX_n (i := 0) (pc' := 2) dJ1_charAt_3b067_1 rfl rfl rfl ?_
  refine go_tblen (pc' := 3) dJ1_charAt_3b067_2 rfl hj ?_
  refine go_invS (As := [_, _]) (pc' := 6) dJ1_charAt_3b067_3 rfl cf_J1_charAt_3b067_9 rfl rfl (Nat.le_of_ble_eq_true rfl) (j_chk2 hk.1 hk.2) (fun v1 h1 q1 => ?_)
  obtain ⟨rfl, rfl⟩ := q1
  refine go_aloadX_n (i := 0) (pc' := 7) dJ1_charAt_3b067_6 rfl rfl rfl ?_
  refine go_iload_n (i := 1) (pc' := 8) dJ1_charAt_3b067_7 rfl rfl rfl ?_
  refine go_tbald (pc' := 9) dJ1_charAt_3b067_8 rfl hj hi ?_
  refine go_sipush (v := 255) (pc' := 12) dJ1_charAt_3b067_9 rfl (by decide) ?_
  refine go_iand (pc' := 13) dJ1_charAt_3b067_12 rfl ?_
  refine go_i2c (pc' := 14) dJ1_charAt_3b067_13 rfl hc.1 ?_
  exact Go.ret (v := some (.int _)) dJ1_charAt_3b067_14 ⟨_, rfl⟩ ⟨hc.2, rfl, rfl⟩
theorem j_charAt {G : xG} {h : xH} {j : Nat} {i : Int32} (hj : j < 28) (hi : inb i (xTb j).length) : Ca G mJ0_charAt_5068e [.retAddr j, .int i] h (fun v h' => v = some (.int (tchr j i.toNatClampNeg)) ∧ h' = h) := by
  refine Ca.of (by decide) (Nat.le_of_ble_eq_true rfl) ?_
  have hc := tchr_ok hj (Nat.not_le.mp fun q => hi (Or.inr q))
  refine go_aloadX_n (i := 0) (pc' := 1) dJ0_charAt_5068e_0 rfl rfl rfl ?_
  refine go_invX (As := []) (pc' := 4) dJ0_charAt_5068e_1 rfl cf_J0_charAt_5068e_492 rfl hj rfl rfl (Nat.le_of_ble_eq_true rfl) (j_isLatin1 hj) (fun v1 h1 q1 => ?_)
  obtain ⟨rfl, rfl⟩ := q1
  refine go_if_eq (pc' := 7) (tgt := 16) dJ0_charAt_5068e_4 (by decide) rfl (fun c1 => absurd c1 (by decide)) (fun c1 => ?_)
  refine go_aloadX_n (i := 0) (pc' := 8) dJ0_charAt_5068e_7 rfl rfl rfl ?_
  refine go_sval (pc' := 11) dJ0_charAt_5068e_8 rfl wd_1722 hj ?_
  refine go_iload_n (i := 1) (pc' := 12) dJ0_charAt_5068e_11 rfl rfl rfl ?_
  refine go_invS (As := [_, _]) (pc' := 15) dJ0_charAt_5068e_12 rfl cf_J0_charAt_5068e_495 rfl rfl (Nat.le_of_ble_eq_true rfl) (j_lat hj hi) (fun v1 h1 q1 => ?_)
  obtain ⟨rfl, rfl⟩ := q1
  exact Go.ret (v := some (.int _)) dJ0_charAt_5068e_15 ⟨_, rfl⟩ ⟨hc.2, rfl, rfl⟩
theorem go_slen {G : xG} {M : xM} {pc pc' : Nat} {L : xL} {S : List Value} {h : xH} {P : Option Value → xH → Prop} {index j : Nat} (d : decode (xBy M) pc = .ok (.invokevirtual index, 3)) (e : pc + 3 = pc') (q : xCv M index mJ0_length_8abf5 0) (hW : (S.map fun v => v.category).sum ≤ 8) (hj : j < 28) (k : Go G M pc' L (.int (tlen j) :: S) h P) : Go G M pc L (.retAddr j :: S) h P :=
  go_invX (As := []) d e q rfl hj rfl rfl hW (j_length hj) (fun v1 h1 q1 => by
    obtain ⟨rfl, rfl⟩ := q1
    exact k)
theorem go_schar {G : xG} {M : xM} {pc pc' : Nat} {L : xL} {S : List Value} {h : xH} {P : Option Value → xH → Prop} {index j : Nat} {i : Int32} (d : decode (xBy M) pc = .ok (.invokevirtual index, 3)) (e : pc + 3 = pc') (q : xCv M index mJ0_charAt_5068e 1) (hW : (S.map fun v => v.category).sum ≤ 8) (hj : j < 28) (hi : inb i (xTb j).length) (k : Go G M pc' L (.int (tchr j i.toNatClampNeg) :: S) h P) : Go G M pc L (.int i :: .retAddr j :: S) h P :=
  go_invX (As := [.int i]) d e q rfl hj rfl rfl hW (j_charAt hj hi) (fun v1 h1 q1 => by
    obtain ⟨rfl, rfl⟩ := q1
    exact k)
theorem go_ldcSw {G : xG} {M : xM} {pc pc' : Nat} {L : xL} {S : List Value} {h : xH} {P : Option Value → xH → Prop} {index j : Nat} {tx : String} (d : decode (xBy M) pc = .ok (.ldc_w index, 3)) (e : pc + 3 = pc') (hq : xTx[j]? = some (xOwn M, index, tx)) (k : Go G M pc' L (.retAddr j :: S) h P) : Go G M pc L S h P :=
  k.go (fun p e0 R s m args below meth c H locs cells slots Q ls C hH hS hL w => by
    subst e
    have hZ := (C.2.2.2.2.2.2.1.2.2.2.1.1 j _ hq).1
    intro T hT X
    obtain ⟨t, a1, b1⟩ := w _ hL T hT X
    exact ⟨t, X.ldcStringW C.1 C.2.2.2.1 (text := tx) (a := gX G j) hZ.1 hZ.2 (g := F0 m pc ls (S.map (xv G))) rfl (by rw [C.2.1]; exact d) t a1, b1⟩)

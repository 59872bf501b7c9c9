/-! THE SYSTEM'S SMALL METHODS -/
abbrev cO (ic off wa : Int32) : List Value := [.ref 1, .ref 3, .ref 10, .ref 27, .ref 29, .ref 30, .ref 231, .ref 232, .int ic, .int off, .int wa]
abbrev cTp (ts a b c d : Int32) : List Value := [.ref 2, .int ts, .int a, .int b, .int c, .int d]
abbrev cKp (pd lg op dn by_ bl sv ck cl : Int32) : List Value := [.ref 11, .ref 14, .ref 17, .int pd, .int lg, .int op, .int dn, .int by_, .int bl, .int sv, .int ck, .int cl]
theorem c_wrong {G : xG} {h : xH} {ic off wa : Int32} (h0 : h.2 0 = some (.inr (9, cO ic off wa))) : Ca G mX10_wrong [.ref 0] h (fun v h' => v = some (.int wa) ∧ h' = h) := by
  refine Ca.of rfl (Nat.le_of_ble_eq_true rfl) ?_
  first | refine go_aload_n (i := 0) (pc' := 1) dX10_wrong_0 rfl rfl rfl ?_ | refine go_aloadX_n (i := 0) (pc' := 1) dX10_wrong_0 rfl rfl rfl ?_ | refine go_aload_nN (i := 0) (pc' := 1) dX10_wrong_0 rfl rfl rfl ?_
  refine go_getf (pc' := 4) dX10_wrong_1 rfl gf_LandBase_70 h0 rfl ?_
  exact Go.ret (v := some (.int _)) dX10_wrong_4 ⟨_, rfl⟩ ⟨rfl,rfl,rfl⟩
theorem c_outputs {G : xG} {h : xH} {ic off wa : Int32} (h0 : h.2 0 = some (.inr (9, cO ic off wa))) : Ca G mX10_outputs [.ref 0] h (fun v h' => v = some (.int ic) ∧ h' = h) := by
  refine Ca.of rfl (Nat.le_of_ble_eq_true rfl) ?_
  first | refine go_aload_n (i := 0) (pc' := 1) dX10_outputs_0 rfl rfl rfl ?_ | refine go_aloadX_n (i := 0) (pc' := 1) dX10_outputs_0 rfl rfl rfl ?_ | refine go_aload_nN (i := 0) (pc' := 1) dX10_outputs_0 rfl rfl rfl ?_
  refine go_getf (pc' := 4) dX10_outputs_1 rfl gf_LandBase_63 h0 rfl ?_
  exact Go.ret (v := some (.int _)) dX10_outputs_4 ⟨_, rfl⟩ ⟨rfl,rfl,rfl⟩
/-- the i-th of n ints -/
def outV (f : Nat → Int32) (n : Nat) (i : Int32) : Int32 := if i < 0 ∨ nI n ≤ i then 0 else f i.toNatClampNeg
theorem c_out {G : xG} {h : xH} {n : Nat} {off wa i : Int32} {f : Nat → Int32} (hn : n ≤ 20000) (h0 : h.2 0 = some (.inr (9, cO (nI n) off wa))) (h232 : h.2 232 = some (.inl (0, 20000, .inl f))) : Ca G mX10_out [.ref 0, .int i] h (fun v h' => v = some (.int (outV f n i)) ∧ h' = h) := by
  refine Ca.of rfl (Nat.le_of_ble_eq_true rfl) ?_
  refine go_iload_n (i := 1) (pc' := 1) dX10_out_0 rfl rfl rfl ?_
  refine go_if_lt (pc' := 4) (tgt := 21) dX10_out_1 (by decide) rfl (fun c1 => ?_) (fun c1 => ?_)
  · refine go_iconst (v := 0) (pc' := 22) dX10_out_21 rfl (by decide) ?_
    rw [outV, if_pos (Or.inl c1)]
    exact Go.ret (v := some (.int _)) dX10_out_22 ⟨_, rfl⟩ ⟨rfl,rfl,rfl⟩
  · refine go_iload_n (i := 1) (pc' := 5) dX10_out_4 rfl rfl rfl ?_
    first | refine go_aload_n (i := 0) (pc' := 6) dX10_out_5 rfl rfl rfl ?_ | refine go_aloadX_n (i := 0) (pc' := 6) dX10_out_5 rfl rfl rfl ?_ | refine go_aload_nN (i := 0) (pc' := 6) dX10_out_5 rfl rfl rfl ?_
    refine go_getf (pc' := 9) dX10_out_6 rfl gf_LandBase_63 h0 rfl ?_
    refine go_icmp_ge (pc' := 12) (tgt := 21) dX10_out_9 (by decide) rfl (fun c2 => ?_) (fun c2 => ?_)
    · refine go_iconst (v := 0) (pc' := 22) dX10_out_21 rfl (by decide) ?_
      rw [outV, if_pos (Or.inr c2)]
      exact Go.ret (v := some (.int _)) dX10_out_22 ⟨_, rfl⟩ ⟨rfl,rfl,rfl⟩
    · obtain ⟨j, hj, e1⟩ : ∃ j, j < n ∧ i = nI j := by
        rcases pk_ix i (n := n) (by omega) with q | q | q
        · exact absurd q c1
        · exact absurd q c2
        · exact q
      subst e1
      have hin : vp_in (nI j) 20000 := vp_in_nI (by omega) (by omega)
      first | refine go_aload_n (i := 0) (pc' := 13) dX10_out_12 rfl rfl rfl ?_ | refine go_aloadX_n (i := 0) (pc' := 13) dX10_out_12 rfl rfl rfl ?_ | refine go_aload_nN (i := 0) (pc' := 13) dX10_out_12 rfl rfl rfl ?_
      refine go_getf (pc' := 16) dX10_out_13 rfl gf_LandBase_60 h0 rfl ?_
      refine go_iload_n (i := 1) (pc' := 17) dX10_out_16 rfl rfl rfl ?_
      refine go_iaload (pc' := 18) dX10_out_17 rfl h232 hin ?_
      refine go_goto (pc' := 0) (tgt := 22) dX10_out_18 (by decide) ?_
      rw [outV, if_neg (fun q => q.elim c1 c2)]
      exact Go.ret (v := some (.int _)) dX10_out_22 ⟨_, rfl⟩ ⟨rfl,rfl,rfl⟩
theorem bool_ok {x : Int32} (h : x = 0 ∨ x = 1) : narrow .boolean (.int x) = .int x := by rcases h with rfl | rfl <;> decide
theorem c_isDown {G : xG} {h : xH} {ic off wa pd lg op dn by_ bl sv ck cl : Int32} (hb : dn = 0 ∨ dn = 1) (h0 : h.2 0 = some (.inr (9, cO ic off wa))) (h10 : h.2 10 = some (.inr (3, cKp pd lg op dn by_ bl sv ck cl))) : Ca G mX10_isDown [.ref 0] h (fun v h' => v = some (.int dn) ∧ h' = h) := by
  refine Ca.of rfl (Nat.le_of_ble_eq_true rfl) ?_
  first | refine go_aload_n (i := 0) (pc' := 1) dX10_isDown_0 rfl rfl rfl ?_ | refine go_aloadX_n (i := 0) (pc' := 1) dX10_isDown_0 rfl rfl rfl ?_ | refine go_aload_nN (i := 0) (pc' := 1) dX10_isDown_0 rfl rfl rfl ?_
  refine go_getf (pc' := 4) dX10_isDown_1 rfl gf_LandBase_26 h0 rfl ?_
  refine go_getf (pc' := 7) dX10_isDown_4 rfl gf_LandBase_80 h10 rfl ?_
  exact Go.ret (v := some (.int _)) dX10_isDown_7 ⟨_, rfl⟩ ⟨(bool_ok hb),rfl,rfl⟩
theorem c_isOpen {G : xG} {h : xH} {ic off wa pd lg op dn by_ bl sv ck cl : Int32} (h0 : h.2 0 = some (.inr (9, cO ic off wa))) (h10 : h.2 10 = some (.inr (3, cKp pd lg op dn by_ bl sv ck cl))) : Ca G mX10_isOpen [.ref 0] h (fun v h' => v = some (.int (if op = 0 ∨ ¬ dn = 0 then 0 else 1)) ∧ h' = h) := by
  refine Ca.of rfl (Nat.le_of_ble_eq_true rfl) ?_
  first | refine go_aload_n (i := 0) (pc' := 1) dX10_isOpen_0 rfl rfl rfl ?_ | refine go_aloadX_n (i := 0) (pc' := 1) dX10_isOpen_0 rfl rfl rfl ?_ | refine go_aload_nN (i := 0) (pc' := 1) dX10_isOpen_0 rfl rfl rfl ?_
  refine go_getf (pc' := 4) dX10_isOpen_1 rfl gf_LandBase_26 h0 rfl ?_
  refine go_getf (pc' := 7) dX10_isOpen_4 rfl gf_LandBase_154 h10 rfl ?_
  refine go_if_eq (pc' := 10) (tgt := 24) dX10_isOpen_7 (by decide) rfl (fun c1 => ?_) (fun c1 => ?_)
  · refine go_iconst (v := 0) (pc' := 25) dX10_isOpen_24 rfl (by decide) ?_
    rw [if_pos (Or.inl c1)]
    exact Go.ret (v := some (.int _)) dX10_isOpen_25 ⟨_, rfl⟩ ⟨(bool_ok (by decide)),rfl,rfl⟩
  · first | refine go_aload_n (i := 0) (pc' := 11) dX10_isOpen_10 rfl rfl rfl ?_ | refine go_aloadX_n (i := 0) (pc' := 11) dX10_isOpen_10 rfl rfl rfl ?_ | refine go_aload_nN (i := 0) (pc' := 11) dX10_isOpen_10 rfl rfl rfl ?_
    refine go_getf (pc' := 14) dX10_isOpen_11 rfl gf_LandBase_26 h0 rfl ?_
    refine go_getf (pc' := 17) dX10_isOpen_14 rfl gf_LandBase_80 h10 rfl ?_
    refine go_if_ne (pc' := 20) (tgt := 24) dX10_isOpen_17 (by decide) rfl (fun c2 => ?_) (fun c2 => ?_)
    · refine go_iconst (v := 0) (pc' := 25) dX10_isOpen_24 rfl (by decide) ?_
      rw [if_pos (Or.inr c2)]
      exact Go.ret (v := some (.int _)) dX10_isOpen_25 ⟨_, rfl⟩ ⟨(bool_ok (by decide)),rfl,rfl⟩
    · refine go_iconst (v := 1) (pc' := 21) dX10_isOpen_20 rfl (by decide) ?_
      refine go_goto (pc' := 0) (tgt := 25) dX10_isOpen_21 (by decide) ?_
      rw [if_neg (fun q => q.elim c1 (fun z => z c2))]
      exact Go.ret (v := some (.int _)) dX10_isOpen_25 ⟨_, rfl⟩ ⟨(bool_ok (by decide)),rfl,rfl⟩
theorem c_live {G : xG} {h : xH} {ic off wa pd lg op dn by_ bl sv ck cl n : Int32} {a b : Value} (h0 : h.2 0 = some (.inr (9, cO ic off wa))) (h10 : h.2 10 = some (.inr (3, cKp pd lg op dn by_ bl sv ck cl))) (h11 : h.2 11 = some (.inr (7, [a, b, .int n]))) : Ca G mX10_live [.ref 0] h (fun v h' => v = some (.int (if dn = 0 then n else -1)) ∧ h' = h) := by
  refine Ca.of rfl (Nat.le_of_ble_eq_true rfl) ?_
  first | refine go_aload_n (i := 0) (pc' := 1) dX10_live_0 rfl rfl rfl ?_ | refine go_aloadX_n (i := 0) (pc' := 1) dX10_live_0 rfl rfl rfl ?_ | refine go_aload_nN (i := 0) (pc' := 1) dX10_live_0 rfl rfl rfl ?_
  refine go_getf (pc' := 4) dX10_live_1 rfl gf_LandBase_26 h0 rfl ?_
  refine go_getf (pc' := 7) dX10_live_4 rfl gf_LandBase_80 h10 rfl ?_
  refine go_if_eq (pc' := 10) (tgt := 14) dX10_live_7 (by decide) rfl (fun c1 => ?_) (fun c1 => ?_)
  · first | refine go_aload_n (i := 0) (pc' := 15) dX10_live_14 rfl rfl rfl ?_ | refine go_aloadX_n (i := 0) (pc' := 15) dX10_live_14 rfl rfl rfl ?_ | refine go_aload_nN (i := 0) (pc' := 15) dX10_live_14 rfl rfl rfl ?_
    refine go_getf (pc' := 18) dX10_live_15 rfl gf_LandBase_26 h0 rfl ?_
    refine go_getf (pc' := 21) dX10_live_18 rfl gf_LandBase_145 h10 rfl ?_
    refine go_getf (pc' := 24) dX10_live_21 rfl gf_LandBase_149 h11 rfl ?_
    rw [if_pos c1]
    exact Go.ret (v := some (.int _)) dX10_live_24 ⟨_, rfl⟩ ⟨rfl,rfl,rfl⟩
  · refine go_iconst (v := (-1)) (pc' := 11) dX10_live_10 rfl (by decide) ?_
    refine go_goto (pc' := 0) (tgt := 24) dX10_live_11 (by decide) ?_
    rw [if_neg c1]
    exact Go.ret (v := some (.int _)) dX10_live_24 ⟨_, rfl⟩ ⟨rfl,rfl,rfl⟩
theorem c_used {G : xG} {h : xH} {ic off wa pd lg op dn by_ bl sv ck cl : Int32} (h0 : h.2 0 = some (.inr (9, cO ic off wa))) (h10 : h.2 10 = some (.inr (3, cKp pd lg op dn by_ bl sv ck cl))) : Ca G mX10_used [.ref 0] h (fun v h' => v = some (.int (if dn = 0 then bl else -1)) ∧ h' = h) := by
  refine Ca.of rfl (Nat.le_of_ble_eq_true rfl) ?_
  first | refine go_aload_n (i := 0) (pc' := 1) dX10_used_0 rfl rfl rfl ?_ | refine go_aloadX_n (i := 0) (pc' := 1) dX10_used_0 rfl rfl rfl ?_ | refine go_aload_nN (i := 0) (pc' := 1) dX10_used_0 rfl rfl rfl ?_
  refine go_getf (pc' := 4) dX10_used_1 rfl gf_LandBase_26 h0 rfl ?_
  refine go_getf (pc' := 7) dX10_used_4 rfl gf_LandBase_80 h10 rfl ?_
  refine go_if_eq (pc' := 10) (tgt := 14) dX10_used_7 (by decide) rfl (fun c1 => ?_) (fun c1 => ?_)
  · first | refine go_aload_n (i := 0) (pc' := 15) dX10_used_14 rfl rfl rfl ?_ | refine go_aloadX_n (i := 0) (pc' := 15) dX10_used_14 rfl rfl rfl ?_ | refine go_aload_nN (i := 0) (pc' := 15) dX10_used_14 rfl rfl rfl ?_
    refine go_getf (pc' := 18) dX10_used_15 rfl gf_LandBase_26 h0 rfl ?_
    refine go_getf (pc' := 21) dX10_used_18 rfl gf_LandBase_195 h10 rfl ?_
    rw [if_pos c1]
    exact Go.ret (v := some (.int _)) dX10_used_21 ⟨_, rfl⟩ ⟨rfl,rfl,rfl⟩
  · refine go_iconst (v := (-1)) (pc' := 11) dX10_used_10 rfl (by decide) ?_
    refine go_goto (pc' := 0) (tgt := 21) dX10_used_11 (by decide) ?_
    rw [if_neg c1]
    exact Go.ret (v := some (.int _)) dX10_used_21 ⟨_, rfl⟩ ⟨rfl,rfl,rfl⟩
theorem c_saves {G : xG} {h : xH} {ic off wa pd lg op dn by_ bl sv ck cl : Int32} (h0 : h.2 0 = some (.inr (9, cO ic off wa))) (h10 : h.2 10 = some (.inr (3, cKp pd lg op dn by_ bl sv ck cl))) : Ca G mX10_saves [.ref 0] h (fun v h' => v = some (.int sv) ∧ h' = h) := by
  refine Ca.of rfl (Nat.le_of_ble_eq_true rfl) ?_
  first | refine go_aload_n (i := 0) (pc' := 1) dX10_saves_0 rfl rfl rfl ?_ | refine go_aloadX_n (i := 0) (pc' := 1) dX10_saves_0 rfl rfl rfl ?_ | refine go_aload_nN (i := 0) (pc' := 1) dX10_saves_0 rfl rfl rfl ?_
  refine go_getf (pc' := 4) dX10_saves_1 rfl gf_LandBase_26 h0 rfl ?_
  refine go_getf (pc' := 7) dX10_saves_4 rfl gf_LandBase_198 h10 rfl ?_
  exact Go.ret (v := some (.int _)) dX10_saves_7 ⟨_, rfl⟩ ⟨rfl,rfl,rfl⟩
/-- the i-th id -/
def idV (dn : Int32) (f : Nat → Int32) (n : Nat) (i : Int32) : Int32 := if ¬ dn = 0 ∨ i < 0 ∨ nI n ≤ i then -1 else f i.toNatClampNeg
theorem c_idAt {G : xG} {h : xH} {ic off wa pd lg op dn by_ bl sv ck cl i : Int32} {n : Nat} {f : Nat → Int32} {b : Value} (hn : n ≤ 200) (h0 : h.2 0 = some (.inr (9, cO ic off wa))) (h10 : h.2 10 = some (.inr (3, cKp pd lg op dn by_ bl sv ck cl))) (h11 : h.2 11 = some (.inr (7, [.ref 12, b, .int (nI n)]))) (h12 : h.2 12 = some (.inl (0, 200, .inl f))) : Ca G mX10_idAt [.ref 0, .int i] h (fun v h' => v = some (.int (idV dn f n i)) ∧ h' = h) := by
  refine Ca.of rfl (Nat.le_of_ble_eq_true rfl) ?_
  first | refine go_aload_n (i := 0) (pc' := 1) dX10_idAt_0 rfl rfl rfl ?_ | refine go_aloadX_n (i := 0) (pc' := 1) dX10_idAt_0 rfl rfl rfl ?_ | refine go_aload_nN (i := 0) (pc' := 1) dX10_idAt_0 rfl rfl rfl ?_
  refine go_getf (pc' := 4) dX10_idAt_1 rfl gf_LandBase_26 h0 rfl ?_
  refine go_getf (pc' := 7) dX10_idAt_4 rfl gf_LandBase_80 h10 rfl ?_
  refine go_if_ne (pc' := 10) (tgt := 28) dX10_idAt_7 (by decide) rfl (fun c1 => ?_) (fun c1 => ?_)
  · refine go_iconst (v := (-1)) (pc' := 29) dX10_idAt_28 rfl (by decide) ?_
    rw [idV, if_pos (Or.inl c1)]
    exact Go.ret (v := some (.int _)) dX10_idAt_29 ⟨_, rfl⟩ ⟨rfl,rfl,rfl⟩
  · refine go_iload_n (i := 1) (pc' := 11) dX10_idAt_10 rfl rfl rfl ?_
    refine go_if_lt (pc' := 14) (tgt := 28) dX10_idAt_11 (by decide) rfl (fun c2 => ?_) (fun c2 => ?_)
    · refine go_iconst (v := (-1)) (pc' := 29) dX10_idAt_28 rfl (by decide) ?_
      rw [idV, if_pos (Or.inr (Or.inl c2))]
      exact Go.ret (v := some (.int _)) dX10_idAt_29 ⟨_, rfl⟩ ⟨rfl,rfl,rfl⟩
    · refine go_iload_n (i := 1) (pc' := 15) dX10_idAt_14 rfl rfl rfl ?_
      first | refine go_aload_n (i := 0) (pc' := 16) dX10_idAt_15 rfl rfl rfl ?_ | refine go_aloadX_n (i := 0) (pc' := 16) dX10_idAt_15 rfl rfl rfl ?_ | refine go_aload_nN (i := 0) (pc' := 16) dX10_idAt_15 rfl rfl rfl ?_
      refine go_getf (pc' := 19) dX10_idAt_16 rfl gf_LandBase_26 h0 rfl ?_
      refine go_getf (pc' := 22) dX10_idAt_19 rfl gf_LandBase_145 h10 rfl ?_
      refine go_getf (pc' := 25) dX10_idAt_22 rfl gf_LandBase_149 h11 rfl ?_
      refine go_icmp_lt (pc' := 28) (tgt := 30) dX10_idAt_25 (by decide) rfl (fun c3 => ?_) (fun c3 => ?_)
      · obtain ⟨j, hj, e1⟩ : ∃ j, j < n ∧ i = nI j := by
          rcases pk_ix i (n := n) (by omega) with q | q | q
          · exact absurd q c2
          · exact absurd c3 (Int32.not_lt.mpr q)
          · exact q
        subst e1
        have hin : vp_in (nI j) 200 := vp_in_nI (by omega) (by omega)
        first | refine go_aload_n (i := 0) (pc' := 31) dX10_idAt_30 rfl rfl rfl ?_ | refine go_aloadX_n (i := 0) (pc' := 31) dX10_idAt_30 rfl rfl rfl ?_ | refine go_aload_nN (i := 0) (pc' := 31) dX10_idAt_30 rfl rfl rfl ?_
        refine go_getf (pc' := 34) dX10_idAt_31 rfl gf_LandBase_26 h0 rfl ?_
        refine go_getf (pc' := 37) dX10_idAt_34 rfl gf_LandBase_145 h10 rfl ?_
        refine go_getf (pc' := 40) dX10_idAt_37 rfl gf_LandBase_157 h11 rfl ?_
        refine go_iload_n (i := 1) (pc' := 41) dX10_idAt_40 rfl rfl rfl ?_
        refine go_iaload (pc' := 42) dX10_idAt_41 rfl h12 hin ?_
        rw [idV, if_neg (fun q => q.elim (fun z => z c1) (fun z => z.elim c2 (fun y => (Int32.not_lt.mpr y) c3)))]
        exact Go.ret (v := some (.int _)) dX10_idAt_42 ⟨_, rfl⟩ ⟨rfl,rfl,rfl⟩
      · refine go_iconst (v := (-1)) (pc' := 29) dX10_idAt_28 rfl (by decide) ?_
        rw [idV, if_pos (Or.inr (Or.inr (Int32.not_lt.mp c3)))]
        exact Go.ret (v := some (.int _)) dX10_idAt_29 ⟨_, rfl⟩ ⟨rfl,rfl,rfl⟩
/-- whether a crash() is taken -/
def crOk (dn k n t : Int32) : Prop := ¬ (¬ dn = 0 ∨ k < 0 ∨ 1 < k ∨ n < 1 ∨ 1000 < n ∨ t < 0 ∨ 200 < t)
theorem c_crash {G : xG} {h : xH} {ic off wa pd lg op dn by_ bl sv ck cl k n t : Int32} (h0 : h.2 0 = some (.inr (9, cO ic off wa))) (h10 : h.2 10 = some (.inr (3, cKp pd lg op dn by_ bl sv ck cl))) : Ca G mX10_crash [.ref 0, .int k, .int n, .int t] h (fun v h' => (¬ crOk dn k n t ∧ v = some (.int 0) ∧ h' = h) ∨ (crOk dn k n t ∧ v = some (.int 1) ∧ h'.1 = h.1 ∧ h'.2 10 = some (.inr (3, cKp pd lg op dn by_ bl sv k n)) ∧ ∀ b, b ≠ 10 → h'.2 b = h.2 b)) := by
  refine Ca.of rfl (Nat.le_of_ble_eq_true rfl) ?_
  have hz : h.1 = h.1 := rfl
  first | refine go_aload_n (i := 0) (pc' := 1) dX10_crash_0 rfl rfl rfl ?_ | refine go_aloadX_n (i := 0) (pc' := 1) dX10_crash_0 rfl rfl rfl ?_ | refine go_aload_nN (i := 0) (pc' := 1) dX10_crash_0 rfl rfl rfl ?_
  refine go_getf (pc' := 4) dX10_crash_1 rfl gf_LandBase_26 h0 rfl ?_
  refine go_getf (pc' := 7) dX10_crash_4 rfl gf_LandBase_80 h10 rfl ?_
  refine go_if_ne (pc' := 10) (tgt := 42) dX10_crash_7 (by decide) rfl (fun c1 => ?_) (fun c1 => ?_)
  · refine go_iconst (v := 0) (pc' := 43) dX10_crash_42 rfl (by decide) ?_
    exact Go.ret (v := some (.int _)) dX10_crash_43 ⟨_, rfl⟩ ⟨(bool_ok (by decide)),(Or.inl ⟨fun q => q (Or.inl c1), rfl, rfl⟩)⟩
  · refine go_iload_n (i := 1) (pc' := 11) dX10_crash_10 rfl rfl rfl ?_
    refine go_if_lt (pc' := 14) (tgt := 42) dX10_crash_11 (by decide) rfl (fun c2 => ?_) (fun c2 => ?_)
    · refine go_iconst (v := 0) (pc' := 43) dX10_crash_42 rfl (by decide) ?_
      exact Go.ret (v := some (.int _)) dX10_crash_43 ⟨_, rfl⟩ ⟨(bool_ok (by decide)),(Or.inl ⟨fun q => q (Or.inr (Or.inl c2)), rfl, rfl⟩)⟩
    · refine go_iload_n (i := 1) (pc' := 15) dX10_crash_14 rfl rfl rfl ?_
      refine go_iconst (v := 1) (pc' := 16) dX10_crash_15 rfl (by decide) ?_
      refine go_icmp_gt (pc' := 19) (tgt := 42) dX10_crash_16 (by decide) rfl (fun c3 => ?_) (fun c3 => ?_)
      · refine go_iconst (v := 0) (pc' := 43) dX10_crash_42 rfl (by decide) ?_
        exact Go.ret (v := some (.int _)) dX10_crash_43 ⟨_, rfl⟩ ⟨(bool_ok (by decide)),(Or.inl ⟨fun q => q (Or.inr (Or.inr (Or.inl c3))), rfl, rfl⟩)⟩
      · refine go_iload_n (i := 2) (pc' := 20) dX10_crash_19 rfl rfl rfl ?_
        refine go_iconst (v := 1) (pc' := 21) dX10_crash_20 rfl (by decide) ?_
        refine go_icmp_lt (pc' := 24) (tgt := 42) dX10_crash_21 (by decide) rfl (fun c4 => ?_) (fun c4 => ?_)
        · refine go_iconst (v := 0) (pc' := 43) dX10_crash_42 rfl (by decide) ?_
          exact Go.ret (v := some (.int _)) dX10_crash_43 ⟨_, rfl⟩ ⟨(bool_ok (by decide)),(Or.inl ⟨fun q => q (Or.inr (Or.inr (Or.inr (Or.inl c4)))), rfl, rfl⟩)⟩
        · refine go_iload_n (i := 2) (pc' := 25) dX10_crash_24 rfl rfl rfl ?_
          refine go_sipush (v := 1000) (pc' := 28) dX10_crash_25 rfl (by decide) ?_
          refine go_icmp_gt (pc' := 31) (tgt := 42) dX10_crash_28 (by decide) rfl (fun c5 => ?_) (fun c5 => ?_)
          · refine go_iconst (v := 0) (pc' := 43) dX10_crash_42 rfl (by decide) ?_
            exact Go.ret (v := some (.int _)) dX10_crash_43 ⟨_, rfl⟩ ⟨(bool_ok (by decide)),(Or.inl ⟨fun q => q (Or.inr (Or.inr (Or.inr (Or.inr (Or.inl c5))))), rfl, rfl⟩)⟩
          · refine go_iload_n (i := 3) (pc' := 32) dX10_crash_31 rfl rfl rfl ?_
            refine go_if_lt (pc' := 35) (tgt := 42) dX10_crash_32 (by decide) rfl (fun c6 => ?_) (fun c6 => ?_)
            · refine go_iconst (v := 0) (pc' := 43) dX10_crash_42 rfl (by decide) ?_
              exact Go.ret (v := some (.int _)) dX10_crash_43 ⟨_, rfl⟩ ⟨(bool_ok (by decide)),(Or.inl ⟨fun q => q (Or.inr (Or.inr (Or.inr (Or.inr (Or.inr (Or.inl c6)))))), rfl, rfl⟩)⟩
            · refine go_iload_n (i := 3) (pc' := 36) dX10_crash_35 rfl rfl rfl ?_
              refine go_sipush (v := 200) (pc' := 39) dX10_crash_36 rfl (by decide) ?_
              refine go_icmp_le (pc' := 42) (tgt := 44) dX10_crash_39 (by decide) rfl (fun c7 => ?_) (fun c7 => ?_)
              · have hfr : ∀ b, (b ≠ 10) → h.2 b = h.2 b := fun _ _ => rfl
                first | refine go_aload_n (i := 0) (pc' := 45) dX10_crash_44 rfl rfl rfl ?_ | refine go_aloadX_n (i := 0) (pc' := 45) dX10_crash_44 rfl rfl rfl ?_ | refine go_aload_nN (i := 0) (pc' := 45) dX10_crash_44 rfl rfl rfl ?_
                refine go_getf (pc' := 48) dX10_crash_45 rfl gf_LandBase_26 h0 rfl ?_
                refine go_iload_n (i := 1) (pc' := 49) dX10_crash_48 rfl rfl rfl ?_
                refine go_putfK (pc' := 52) dX10_crash_49 rfl pf_LandBase_136 (fun h => by cases h) h10 (Nat.le_of_ble_eq_true rfl) rfl rfl (fun hp1 zp1 cp1 fp1 => ?_)
                dsimp only [List.set] at cp1
                have hz := zp1.trans hz
                have h0 := (fp1 _ (by omega)).trans h0
                have hfr : ∀ b, (b ≠ 10) → hp1.2 b = h.2 b := fun b hb => (fp1 b (by omega)).trans (hfr b hb)
                have h10 := cp1
                first | refine go_aload_n (i := 0) (pc' := 53) dX10_crash_52 rfl rfl rfl ?_ | refine go_aloadX_n (i := 0) (pc' := 53) dX10_crash_52 rfl rfl rfl ?_ | refine go_aload_nN (i := 0) (pc' := 53) dX10_crash_52 rfl rfl rfl ?_
                refine go_getf (pc' := 56) dX10_crash_53 rfl gf_LandBase_26 h0 rfl ?_
                refine go_iload_n (i := 2) (pc' := 57) dX10_crash_56 rfl rfl rfl ?_
                refine go_putfK (pc' := 60) dX10_crash_57 rfl pf_LandBase_139 (fun h => by cases h) h10 (Nat.le_of_ble_eq_true rfl) rfl rfl (fun hp2 zp2 cp2 fp2 => ?_)
                dsimp only [List.set] at cp2
                have hz := zp2.trans hz
                have h0 := (fp2 _ (by omega)).trans h0
                have hfr : ∀ b, (b ≠ 10) → hp2.2 b = h.2 b := fun b hb => (fp2 b (by omega)).trans (hfr b hb)
                have h10 := cp2
                refine go_iconst (v := 1) (pc' := 61) dX10_crash_60 rfl (by decide) ?_
                exact Go.ret (v := some (.int _)) dX10_crash_61 ⟨_, rfl⟩ ⟨(bool_ok (by decide)),(Or.inr ⟨fun q => by rcases q with q | q | q | q | q | q | q; exact q c1; exact c2 q; exact c3 q; exact c4 q; exact c5 q; exact c6 q; exact (Int32.not_lt.mpr c7) q, rfl, hz, h10, hfr⟩)⟩
              · refine go_iconst (v := 0) (pc' := 43) dX10_crash_42 rfl (by decide) ?_
                exact Go.ret (v := some (.int _)) dX10_crash_43 ⟨_, rfl⟩ ⟨(bool_ok (by decide)),(Or.inl ⟨fun q => q (Or.inr (Or.inr (Or.inr (Or.inr (Or.inr (Or.inr (Int32.not_le.mp c7))))))), rfl, rfl⟩)⟩
/-- whether end(n) is taken -/
def enOk (ts : Nat) (n : Int32) : Prop := ¬ (n < 0 ∨ 40 < n ∨ nI ts < 40 - n)
theorem c_end {G : xG} {h : xH} {ic off wa a b c d n : Int32} {ts : Nat} (h0 : h.2 0 = some (.inr (9, cO ic off wa))) (h1 : h.2 1 = some (.inr (8, cTp (nI ts) a b c d))) : Ca G mX10_end [.ref 0, .int n] h (fun v h' => (¬ enOk ts n ∧ v = some (.int (-1)) ∧ h' = h) ∨ (enOk ts n ∧ v = some (.int (nI ts - (40 - n))) ∧ h'.1 = h.1 ∧ h'.2 1 = some (.inr (8, cTp (nI ts - (40 - n)) a b c d)) ∧ ∀ b, b ≠ 1 → h'.2 b = h.2 b)) := by
  refine Ca.of rfl (Nat.le_of_ble_eq_true rfl) ?_
  have hz : h.1 = h.1 := rfl
  refine go_iload_n (i := 1) (pc' := 1) dX10_end_0 rfl rfl rfl ?_
  refine go_if_lt (pc' := 4) (tgt := 24) dX10_end_1 (by decide) rfl (fun c1 => ?_) (fun c1 => ?_)
  · refine go_iconst (v := (-1)) (pc' := 25) dX10_end_24 rfl (by decide) ?_
    exact Go.ret (v := some (.int _)) dX10_end_25 ⟨_, rfl⟩ ⟨rfl,(Or.inl ⟨fun q => q (Or.inl c1), rfl, rfl⟩)⟩
  · refine go_iload_n (i := 1) (pc' := 5) dX10_end_4 rfl rfl rfl ?_
    refine go_bipush (v := 40) (pc' := 7) dX10_end_5 rfl (by decide) ?_
    refine go_icmp_gt (pc' := 10) (tgt := 24) dX10_end_7 (by decide) rfl (fun c2 => ?_) (fun c2 => ?_)
    · refine go_iconst (v := (-1)) (pc' := 25) dX10_end_24 rfl (by decide) ?_
      exact Go.ret (v := some (.int _)) dX10_end_25 ⟨_, rfl⟩ ⟨rfl,(Or.inl ⟨fun q => q (Or.inr (Or.inl c2)), rfl, rfl⟩)⟩
    · first | refine go_aload_n (i := 0) (pc' := 11) dX10_end_10 rfl rfl rfl ?_ | refine go_aloadX_n (i := 0) (pc' := 11) dX10_end_10 rfl rfl rfl ?_ | refine go_aload_nN (i := 0) (pc' := 11) dX10_end_10 rfl rfl rfl ?_
      refine go_getf (pc' := 14) dX10_end_11 rfl gf_LandBase_10 h0 rfl ?_
      refine go_getf (pc' := 17) dX10_end_14 rfl gf_LandBase_73 h1 rfl ?_
      refine go_bipush (v := 40) (pc' := 19) dX10_end_17 rfl (by decide) ?_
      refine go_iload_n (i := 1) (pc' := 20) dX10_end_19 rfl rfl rfl ?_
      refine go_isub (pc' := 21) dX10_end_20 rfl ?_
      refine go_icmp_ge (pc' := 24) (tgt := 26) dX10_end_21 (by decide) rfl (fun c3 => ?_) (fun c3 => ?_)
      · have hfr : ∀ b, (b ≠ 1) → h.2 b = h.2 b := fun _ _ => rfl
        first | refine go_aload_n (i := 0) (pc' := 27) dX10_end_26 rfl rfl rfl ?_ | refine go_aloadX_n (i := 0) (pc' := 27) dX10_end_26 rfl rfl rfl ?_ | refine go_aload_nN (i := 0) (pc' := 27) dX10_end_26 rfl rfl rfl ?_
        refine go_getf (pc' := 30) dX10_end_27 rfl gf_LandBase_10 h0 rfl ?_
        refine go_dup (pc' := 31) dX10_end_30 rfl rfl ?_
        refine go_getf (pc' := 34) dX10_end_31 rfl gf_LandBase_73 h1 rfl ?_
        refine go_bipush (v := 40) (pc' := 36) dX10_end_34 rfl (by decide) ?_
        refine go_iload_n (i := 1) (pc' := 37) dX10_end_36 rfl rfl rfl ?_
        refine go_isub (pc' := 38) dX10_end_37 rfl ?_
        refine go_isub (pc' := 39) dX10_end_38 rfl ?_
        refine go_putfK (pc' := 42) dX10_end_39 rfl pf_LandBase_73 (fun h => by cases h) h1 (Nat.le_of_ble_eq_true rfl) rfl rfl (fun hp1 zp1 cp1 fp1 => ?_)
        dsimp only [List.set] at cp1
        have hz := zp1.trans hz
        have h0 := (fp1 _ (by omega)).trans h0
        have hfr : ∀ b, (b ≠ 1) → hp1.2 b = h.2 b := fun b hb => (fp1 b (by omega)).trans (hfr b hb)
        have h1 := cp1
        first | refine go_aload_n (i := 0) (pc' := 43) dX10_end_42 rfl rfl rfl ?_ | refine go_aloadX_n (i := 0) (pc' := 43) dX10_end_42 rfl rfl rfl ?_ | refine go_aload_nN (i := 0) (pc' := 43) dX10_end_42 rfl rfl rfl ?_
        refine go_getf (pc' := 46) dX10_end_43 rfl gf_LandBase_10 h0 rfl ?_
        refine go_getf (pc' := 49) dX10_end_46 rfl gf_LandBase_73 h1 rfl ?_
        exact Go.ret (v := some (.int _)) dX10_end_49 ⟨_, rfl⟩ ⟨rfl,(Or.inr ⟨fun q => q.elim c1 (fun z => z.elim c2 (Int32.not_lt.mpr c3)), rfl, hz, h1, hfr⟩)⟩
      · refine go_iconst (v := (-1)) (pc' := 25) dX10_end_24 rfl (by decide) ?_
        exact Go.ret (v := some (.int _)) dX10_end_25 ⟨_, rfl⟩ ⟨rfl,(Or.inl ⟨fun q => q (Or.inr (Or.inr (Int32.not_le.mp c3))), rfl, rfl⟩)⟩

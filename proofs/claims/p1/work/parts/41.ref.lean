/-! THE REFERENCE'S SMALL METHODS -/
theorem r_wrong {G : xG} {h : xH} {F : Nat → Value} {wa : Int32} (hM : h.2 233 = some (.inr (13, mkF F 58))) (hw : F 42 = .int wa) : Ca G mX14_wrong [.ref 233] h (fun v h' => v = some (.int wa) ∧ h' = h) := by
  refine Ca.of rfl (Nat.le_of_ble_eq_true rfl) ?_
  first | refine go_aload_n (i := 0) (pc' := 1) dX14_wrong_0 rfl rfl rfl ?_ | refine go_aloadX_n (i := 0) (pc' := 1) dX14_wrong_0 rfl rfl rfl ?_ | refine go_aload_nN (i := 0) (pc' := 1) dX14_wrong_0 rfl rfl rfl ?_
  refine go_getfF (pc' := 4) dX14_wrong_1 rfl gf_LandBaseModel_370 hM (by decide) hw ?_
  exact Go.ret (v := some (.int _)) dX14_wrong_4 ⟨_, rfl⟩ ⟨rfl,rfl,rfl⟩
theorem r_outputs {G : xG} {h : xH} {F : Nat → Value} {ic : Int32} (hM : h.2 233 = some (.inr (13, mkF F 58))) (hw : F 44 = .int ic) : Ca G mX14_outputs [.ref 233] h (fun v h' => v = some (.int ic) ∧ h' = h) := by
  refine Ca.of rfl (Nat.le_of_ble_eq_true rfl) ?_
  first | refine go_aload_n (i := 0) (pc' := 1) dX14_outputs_0 rfl rfl rfl ?_ | refine go_aloadX_n (i := 0) (pc' := 1) dX14_outputs_0 rfl rfl rfl ?_ | refine go_aload_nN (i := 0) (pc' := 1) dX14_outputs_0 rfl rfl rfl ?_
  refine go_getfF (pc' := 4) dX14_outputs_1 rfl gf_LandBaseModel_362 hM (by decide) hw ?_
  exact Go.ret (v := some (.int _)) dX14_outputs_4 ⟨_, rfl⟩ ⟨rfl,rfl,rfl⟩
theorem r_out {G : xG} {h : xH} {F : Nat → Value} {n : Nat} {i : Int32} {f : Nat → Int32} (hn : n ≤ 30000) (hM : h.2 233 = some (.inr (13, mkF F 58))) (ho : F 44 = .int (nI n)) (hi : F 43 = .ref 1864) (hf : h.2 1864 = some (.inl (0, 30000, .inl f))) : Ca G mX14_out [.ref 233, .int i] h (fun v h' => v = some (.int (outV f n i)) ∧ h' = h) := by
  refine Ca.of rfl (Nat.le_of_ble_eq_true rfl) ?_
  refine go_iload_n (i := 1) (pc' := 1) dX14_out_0 rfl rfl rfl ?_
  refine go_if_lt (pc' := 4) (tgt := 21) dX14_out_1 (by decide) rfl (fun c1 => ?_) (fun c1 => ?_)
  · refine go_iconst (v := 0) (pc' := 22) dX14_out_21 rfl (by decide) ?_
    rw [outV, if_pos (Or.inl c1)]
    exact Go.ret (v := some (.int _)) dX14_out_22 ⟨_, rfl⟩ ⟨rfl,rfl,rfl⟩
  · refine go_iload_n (i := 1) (pc' := 5) dX14_out_4 rfl rfl rfl ?_
    first | refine go_aload_n (i := 0) (pc' := 6) dX14_out_5 rfl rfl rfl ?_ | refine go_aloadX_n (i := 0) (pc' := 6) dX14_out_5 rfl rfl rfl ?_ | refine go_aload_nN (i := 0) (pc' := 6) dX14_out_5 rfl rfl rfl ?_
    refine go_getfF (pc' := 9) dX14_out_6 rfl gf_LandBaseModel_362 hM (by decide) ho ?_
    refine go_icmp_ge (pc' := 12) (tgt := 21) dX14_out_9 (by decide) rfl (fun c2 => ?_) (fun c2 => ?_)
    · refine go_iconst (v := 0) (pc' := 22) dX14_out_21 rfl (by decide) ?_
      rw [outV, if_pos (Or.inr c2)]
      exact Go.ret (v := some (.int _)) dX14_out_22 ⟨_, rfl⟩ ⟨rfl,rfl,rfl⟩
    · obtain ⟨j, hj, e1⟩ : ∃ j, j < n ∧ i = nI j := by
        rcases pk_ix i (n := n) (by omega) with q | q | q
        · exact absurd q c1
        · exact absurd q c2
        · exact q
      subst e1
      have hin : vp_in (nI j) 30000 := vp_in_nI (by omega) (by omega)
      first | refine go_aload_n (i := 0) (pc' := 13) dX14_out_12 rfl rfl rfl ?_ | refine go_aloadX_n (i := 0) (pc' := 13) dX14_out_12 rfl rfl rfl ?_ | refine go_aload_nN (i := 0) (pc' := 13) dX14_out_12 rfl rfl rfl ?_
      refine go_getfF (pc' := 16) dX14_out_13 rfl gf_LandBaseModel_359 hM (by decide) hi ?_
      refine go_iload_n (i := 1) (pc' := 17) dX14_out_16 rfl rfl rfl ?_
      refine go_iaload (pc' := 18) dX14_out_17 rfl hf hin ?_
      refine go_goto (pc' := 0) (tgt := 22) dX14_out_18 (by decide) ?_
      rw [outV, if_neg (fun q => q.elim c1 c2)]
      exact Go.ret (v := some (.int _)) dX14_out_22 ⟨_, rfl⟩ ⟨rfl,rfl,rfl⟩
theorem r_isDown {G : xG} {h : xH} {F : Nat → Value} {dn : Int32} (hb : dn = 0 ∨ dn = 1) (hM : h.2 233 = some (.inr (13, mkF F 58))) (hd : F 33 = .int dn) : Ca G mX14_isDown [.ref 233] h (fun v h' => v = some (.int dn) ∧ h' = h) := by
  refine Ca.of rfl (Nat.le_of_ble_eq_true rfl) ?_
  first | refine go_aload_n (i := 0) (pc' := 1) dX14_isDown_0 rfl rfl rfl ?_ | refine go_aloadX_n (i := 0) (pc' := 1) dX14_isDown_0 rfl rfl rfl ?_ | refine go_aload_nN (i := 0) (pc' := 1) dX14_isDown_0 rfl rfl rfl ?_
  refine go_getfF (pc' := 4) dX14_isDown_1 rfl gf_LandBaseModel_318 hM (by decide) hd ?_
  exact Go.ret (v := some (.int _)) dX14_isDown_4 ⟨_, rfl⟩ ⟨(bool_ok hb),rfl,rfl⟩
theorem r_isOpen {G : xG} {h : xH} {F : Nat → Value} {op : Int32} (hb : op = 0 ∨ op = 1) (hM : h.2 233 = some (.inr (13, mkF F 58))) (hd : F 32 = .int op) : Ca G mX14_isOpen [.ref 233] h (fun v h' => v = some (.int op) ∧ h' = h) := by
  refine Ca.of rfl (Nat.le_of_ble_eq_true rfl) ?_
  first | refine go_aload_n (i := 0) (pc' := 1) dX14_isOpen_0 rfl rfl rfl ?_ | refine go_aloadX_n (i := 0) (pc' := 1) dX14_isOpen_0 rfl rfl rfl ?_ | refine go_aload_nN (i := 0) (pc' := 1) dX14_isOpen_0 rfl rfl rfl ?_
  refine go_getfF (pc' := 4) dX14_isOpen_1 rfl gf_LandBaseModel_321 hM (by decide) hd ?_
  exact Go.ret (v := some (.int _)) dX14_isOpen_4 ⟨_, rfl⟩ ⟨(bool_ok hb),rfl,rfl⟩
theorem r_live {G : xG} {h : xH} {F : Nat → Value} {dn n : Int32} {a : Value} (hM : h.2 233 = some (.inr (13, mkF F 58))) (hd : F 33 = .int dn) (hl : F 30 = .ref 259) (hs : h.2 259 = some (.inr (12, [a, .int n]))) : Ca G mX14_live [.ref 233] h (fun v h' => v = some (.int (if dn = 0 then n else -1)) ∧ h' = h) := by
  refine Ca.of rfl (Nat.le_of_ble_eq_true rfl) ?_
  first | refine go_aload_n (i := 0) (pc' := 1) dX14_live_0 rfl rfl rfl ?_ | refine go_aloadX_n (i := 0) (pc' := 1) dX14_live_0 rfl rfl rfl ?_ | refine go_aload_nN (i := 0) (pc' := 1) dX14_live_0 rfl rfl rfl ?_
  refine go_getfF (pc' := 4) dX14_live_1 rfl gf_LandBaseModel_318 hM (by decide) hd ?_
  refine go_if_eq (pc' := 7) (tgt := 11) dX14_live_4 (by decide) rfl (fun c1 => ?_) (fun c1 => ?_)
  · first | refine go_aload_n (i := 0) (pc' := 12) dX14_live_11 rfl rfl rfl ?_ | refine go_aloadX_n (i := 0) (pc' := 12) dX14_live_11 rfl rfl rfl ?_ | refine go_aload_nN (i := 0) (pc' := 12) dX14_live_11 rfl rfl rfl ?_
    refine go_getfF (pc' := 15) dX14_live_12 rfl gf_LandBaseModel_351 hM (by decide) hl ?_
    refine go_getf (pc' := 18) dX14_live_15 rfl gf_LandBaseModel_581 hs rfl ?_
    rw [if_pos c1]
    exact Go.ret (v := some (.int _)) dX14_live_18 ⟨_, rfl⟩ ⟨rfl,rfl,rfl⟩
  · refine go_iconst (v := (-1)) (pc' := 8) dX14_live_7 rfl (by decide) ?_
    refine go_goto (pc' := 0) (tgt := 18) dX14_live_8 (by decide) ?_
    rw [if_neg c1]
    exact Go.ret (v := some (.int _)) dX14_live_18 ⟨_, rfl⟩ ⟨rfl,rfl,rfl⟩
theorem r_used {G : xG} {h : xH} {F : Nat → Value} {dn bl : Int32} (hM : h.2 233 = some (.inr (13, mkF F 58))) (hd : F 33 = .int dn) (hu : F 35 = .int bl) : Ca G mX14_used [.ref 233] h (fun v h' => v = some (.int (if dn = 0 then bl else -1)) ∧ h' = h) := by
  refine Ca.of rfl (Nat.le_of_ble_eq_true rfl) ?_
  first | refine go_aload_n (i := 0) (pc' := 1) dX14_used_0 rfl rfl rfl ?_ | refine go_aloadX_n (i := 0) (pc' := 1) dX14_used_0 rfl rfl rfl ?_ | refine go_aload_nN (i := 0) (pc' := 1) dX14_used_0 rfl rfl rfl ?_
  refine go_getfF (pc' := 4) dX14_used_1 rfl gf_LandBaseModel_318 hM (by decide) hd ?_
  refine go_if_eq (pc' := 7) (tgt := 11) dX14_used_4 (by decide) rfl (fun c1 => ?_) (fun c1 => ?_)
  · first | refine go_aload_n (i := 0) (pc' := 12) dX14_used_11 rfl rfl rfl ?_ | refine go_aloadX_n (i := 0) (pc' := 12) dX14_used_11 rfl rfl rfl ?_ | refine go_aload_nN (i := 0) (pc' := 12) dX14_used_11 rfl rfl rfl ?_
    refine go_getfF (pc' := 15) dX14_used_12 rfl gf_LandBaseModel_332 hM (by decide) hu ?_
    rw [if_pos c1]
    exact Go.ret (v := some (.int _)) dX14_used_15 ⟨_, rfl⟩ ⟨rfl,rfl,rfl⟩
  · refine go_iconst (v := (-1)) (pc' := 8) dX14_used_7 rfl (by decide) ?_
    refine go_goto (pc' := 0) (tgt := 15) dX14_used_8 (by decide) ?_
    rw [if_neg c1]
    exact Go.ret (v := some (.int _)) dX14_used_15 ⟨_, rfl⟩ ⟨rfl,rfl,rfl⟩
theorem r_saves {G : xG} {h : xH} {F : Nat → Value} {sv : Int32} (hM : h.2 233 = some (.inr (13, mkF F 58))) (hd : F 36 = .int sv) : Ca G mX14_saves [.ref 233] h (fun v h' => v = some (.int sv) ∧ h' = h) := by
  refine Ca.of rfl (Nat.le_of_ble_eq_true rfl) ?_
  first | refine go_aload_n (i := 0) (pc' := 1) dX14_saves_0 rfl rfl rfl ?_ | refine go_aloadX_n (i := 0) (pc' := 1) dX14_saves_0 rfl rfl rfl ?_ | refine go_aload_nN (i := 0) (pc' := 1) dX14_saves_0 rfl rfl rfl ?_
  refine go_getfF (pc' := 4) dX14_saves_1 rfl gf_LandBaseModel_335 hM (by decide) hd ?_
  exact Go.ret (v := some (.int _)) dX14_saves_4 ⟨_, rfl⟩ ⟨rfl,rfl,rfl⟩
theorem r_flaws {G : xG} {h : xH} : Ca G mX14_flaws [.ref 233] h (fun v h' => v = some (.int 0) ∧ h' = h) := by
  refine Ca.of rfl (Nat.le_of_ble_eq_true rfl) ?_
  refine go_iconst (v := 0) (pc' := 1) dX14_flaws_0 rfl (by decide) ?_
  exact Go.ret (v := some (.int _)) dX14_flaws_1 ⟨_, rfl⟩ ⟨rfl,rfl,rfl⟩
theorem r_crash {G : xG} {h : xH} {F : Nat → Value} {dn k n t : Int32} (hM : h.2 233 = some (.inr (13, mkF F 58))) (hd : F 33 = .int dn) : Ca G mX14_crash [.ref 233, .int k, .int n, .int t] h (fun v h' => (¬ crOk dn k n t ∧ v = some (.int 0) ∧ h' = h) ∨ (crOk dn k n t ∧ v = some (.int 1) ∧ h'.1 = h.1 ∧ h'.2 233 = some (.inr (13, mkF (updV (updV F 37 (.int k)) 38 (.int n)) 58)) ∧ ∀ b, b ≠ 233 → h'.2 b = h.2 b)) := by
  refine Ca.of rfl (Nat.le_of_ble_eq_true rfl) ?_
  have hz : h.1 = h.1 := rfl
  refine go_iload_n (i := 1) (pc' := 1) dX14_crash_0 rfl rfl rfl ?_
  refine go_if_lt (pc' := 4) (tgt := 39) dX14_crash_1 (by decide) rfl (fun c2 => ?_) (fun c2 => ?_)
  · refine go_iconst (v := 0) (pc' := 40) dX14_crash_39 rfl (by decide) ?_
    exact Go.ret (v := some (.int _)) dX14_crash_40 ⟨_, rfl⟩ ⟨(bool_ok (by decide)),(Or.inl ⟨fun q => q (Or.inr (Or.inl c2)), rfl, rfl⟩)⟩
  · refine go_iload_n (i := 1) (pc' := 5) dX14_crash_4 rfl rfl rfl ?_
    refine go_iconst (v := 1) (pc' := 6) dX14_crash_5 rfl (by decide) ?_
    refine go_icmp_gt (pc' := 9) (tgt := 39) dX14_crash_6 (by decide) rfl (fun c3 => ?_) (fun c3 => ?_)
    · refine go_iconst (v := 0) (pc' := 40) dX14_crash_39 rfl (by decide) ?_
      exact Go.ret (v := some (.int _)) dX14_crash_40 ⟨_, rfl⟩ ⟨(bool_ok (by decide)),(Or.inl ⟨fun q => q (Or.inr (Or.inr (Or.inl c3))), rfl, rfl⟩)⟩
    · refine go_iload_n (i := 2) (pc' := 10) dX14_crash_9 rfl rfl rfl ?_
      refine go_iconst (v := 1) (pc' := 11) dX14_crash_10 rfl (by decide) ?_
      refine go_icmp_lt (pc' := 14) (tgt := 39) dX14_crash_11 (by decide) rfl (fun c4 => ?_) (fun c4 => ?_)
      · refine go_iconst (v := 0) (pc' := 40) dX14_crash_39 rfl (by decide) ?_
        exact Go.ret (v := some (.int _)) dX14_crash_40 ⟨_, rfl⟩ ⟨(bool_ok (by decide)),(Or.inl ⟨fun q => q (Or.inr (Or.inr (Or.inr (Or.inl c4)))), rfl, rfl⟩)⟩
      · refine go_iload_n (i := 2) (pc' := 15) dX14_crash_14 rfl rfl rfl ?_
        refine go_sipush (v := 1000) (pc' := 18) dX14_crash_15 rfl (by decide) ?_
        refine go_icmp_gt (pc' := 21) (tgt := 39) dX14_crash_18 (by decide) rfl (fun c5 => ?_) (fun c5 => ?_)
        · refine go_iconst (v := 0) (pc' := 40) dX14_crash_39 rfl (by decide) ?_
          exact Go.ret (v := some (.int _)) dX14_crash_40 ⟨_, rfl⟩ ⟨(bool_ok (by decide)),(Or.inl ⟨fun q => q (Or.inr (Or.inr (Or.inr (Or.inr (Or.inl c5))))), rfl, rfl⟩)⟩
        · refine go_iload_n (i := 3) (pc' := 22) dX14_crash_21 rfl rfl rfl ?_
          refine go_if_lt (pc' := 25) (tgt := 39) dX14_crash_22 (by decide) rfl (fun c6 => ?_) (fun c6 => ?_)
          · refine go_iconst (v := 0) (pc' := 40) dX14_crash_39 rfl (by decide) ?_
            exact Go.ret (v := some (.int _)) dX14_crash_40 ⟨_, rfl⟩ ⟨(bool_ok (by decide)),(Or.inl ⟨fun q => q (Or.inr (Or.inr (Or.inr (Or.inr (Or.inr (Or.inl c6)))))), rfl, rfl⟩)⟩
          · refine go_iload_n (i := 3) (pc' := 26) dX14_crash_25 rfl rfl rfl ?_
            refine go_sipush (v := 200) (pc' := 29) dX14_crash_26 rfl (by decide) ?_
            refine go_icmp_gt (pc' := 32) (tgt := 39) dX14_crash_29 (by decide) rfl (fun c7 => ?_) (fun c7 => ?_)
            · refine go_iconst (v := 0) (pc' := 40) dX14_crash_39 rfl (by decide) ?_
              exact Go.ret (v := some (.int _)) dX14_crash_40 ⟨_, rfl⟩ ⟨(bool_ok (by decide)),(Or.inl ⟨fun q => q (Or.inr (Or.inr (Or.inr (Or.inr (Or.inr (Or.inr c7)))))), rfl, rfl⟩)⟩
            · first | refine go_aload_n (i := 0) (pc' := 33) dX14_crash_32 rfl rfl rfl ?_ | refine go_aloadX_n (i := 0) (pc' := 33) dX14_crash_32 rfl rfl rfl ?_ | refine go_aload_nN (i := 0) (pc' := 33) dX14_crash_32 rfl rfl rfl ?_
              refine go_getfF (pc' := 36) dX14_crash_33 rfl gf_LandBaseModel_318 hM (by decide) hd ?_
              refine go_if_eq (pc' := 39) (tgt := 41) dX14_crash_36 (by decide) rfl (fun c1 => ?_) (fun c1 => ?_)
              · have hfr : ∀ b, (b ≠ 233) → h.2 b = h.2 b := fun _ _ => rfl
                first | refine go_aload_n (i := 0) (pc' := 42) dX14_crash_41 rfl rfl rfl ?_ | refine go_aloadX_n (i := 0) (pc' := 42) dX14_crash_41 rfl rfl rfl ?_ | refine go_aload_nN (i := 0) (pc' := 42) dX14_crash_41 rfl rfl rfl ?_
                refine go_iload_n (i := 1) (pc' := 43) dX14_crash_42 rfl rfl rfl ?_
                refine go_putfF (pc' := 46) dX14_crash_43 rfl pf_LandBaseModel_323 (fun h => by cases h) hM (by decide) rfl rfl (fun hp1 zp1 cp1 fp1 => ?_)
                have hz := zp1.trans hz
                have hfr : ∀ b, (b ≠ 233) → hp1.2 b = h.2 b := fun b hb => (fp1 b (by omega)).trans (hfr b hb)
                have hM := cp1
                first | refine go_aload_n (i := 0) (pc' := 47) dX14_crash_46 rfl rfl rfl ?_ | refine go_aloadX_n (i := 0) (pc' := 47) dX14_crash_46 rfl rfl rfl ?_ | refine go_aload_nN (i := 0) (pc' := 47) dX14_crash_46 rfl rfl rfl ?_
                refine go_iload_n (i := 2) (pc' := 48) dX14_crash_47 rfl rfl rfl ?_
                refine go_putfF (pc' := 51) dX14_crash_48 rfl pf_LandBaseModel_326 (fun h => by cases h) hM (by decide) rfl rfl (fun hp2 zp2 cp2 fp2 => ?_)
                have hz := zp2.trans hz
                have hfr : ∀ b, (b ≠ 233) → hp2.2 b = h.2 b := fun b hb => (fp2 b (by omega)).trans (hfr b hb)
                have hM := cp2
                refine go_iconst (v := 1) (pc' := 52) dX14_crash_51 rfl (by decide) ?_
                exact Go.ret (v := some (.int _)) dX14_crash_52 ⟨_, rfl⟩ ⟨(bool_ok (by decide)),(Or.inr ⟨fun q => by rcases q with q | q | q | q | q | q | q; exact q c1; exact c2 q; exact c3 q; exact c4 q; exact c5 q; exact c6 q; exact c7 q, rfl, hz, hM, hfr⟩)⟩
              · refine go_iconst (v := 0) (pc' := 40) dX14_crash_39 rfl (by decide) ?_
                exact Go.ret (v := some (.int _)) dX14_crash_40 ⟨_, rfl⟩ ⟨(bool_ok (by decide)),(Or.inl ⟨fun q => q (Or.inl c1), rfl, rfl⟩)⟩
theorem r_end {G : xG} {h : xH} {F : Nat → Value} {n : Int32} {ts : Nat} (hM : h.2 233 = some (.inr (13, mkF F 58))) (ht : F 40 = .int (nI ts)) : Ca G mX14_end [.ref 233, .int n] h (fun v h' => (¬ enOk ts n ∧ v = some (.int (-1)) ∧ h' = h) ∨ (enOk ts n ∧ v = some (.int (nI ts - (40 - n))) ∧ h'.1 = h.1 ∧ h'.2 233 = some (.inr (13, mkF (updV F 40 (.int (nI ts - (40 - n)))) 58)) ∧ ∀ b, b ≠ 233 → h'.2 b = h.2 b)) := by
  refine Ca.of rfl (Nat.le_of_ble_eq_true rfl) ?_
  have hz : h.1 = h.1 := rfl
  refine go_iload_n (i := 1) (pc' := 1) dX14_end_0 rfl rfl rfl ?_
  refine go_if_lt (pc' := 4) (tgt := 21) dX14_end_1 (by decide) rfl (fun c1 => ?_) (fun c1 => ?_)
  · refine go_iconst (v := (-1)) (pc' := 22) dX14_end_21 rfl (by decide) ?_
    exact Go.ret (v := some (.int _)) dX14_end_22 ⟨_, rfl⟩ ⟨rfl,(Or.inl ⟨fun q => q (Or.inl c1), rfl, rfl⟩)⟩
  · refine go_iload_n (i := 1) (pc' := 5) dX14_end_4 rfl rfl rfl ?_
    refine go_bipush (v := 40) (pc' := 7) dX14_end_5 rfl (by decide) ?_
    refine go_icmp_gt (pc' := 10) (tgt := 21) dX14_end_7 (by decide) rfl (fun c2 => ?_) (fun c2 => ?_)
    · refine go_iconst (v := (-1)) (pc' := 22) dX14_end_21 rfl (by decide) ?_
      exact Go.ret (v := some (.int _)) dX14_end_22 ⟨_, rfl⟩ ⟨rfl,(Or.inl ⟨fun q => q (Or.inr (Or.inl c2)), rfl, rfl⟩)⟩
    · first | refine go_aload_n (i := 0) (pc' := 11) dX14_end_10 rfl rfl rfl ?_ | refine go_aloadX_n (i := 0) (pc' := 11) dX14_end_10 rfl rfl rfl ?_ | refine go_aload_nN (i := 0) (pc' := 11) dX14_end_10 rfl rfl rfl ?_
      refine go_getfF (pc' := 14) dX14_end_11 rfl gf_LandBaseModel_373 hM (by decide) ht ?_
      refine go_bipush (v := 40) (pc' := 16) dX14_end_14 rfl (by decide) ?_
      refine go_iload_n (i := 1) (pc' := 17) dX14_end_16 rfl rfl rfl ?_
      refine go_isub (pc' := 18) dX14_end_17 rfl ?_
      refine go_icmp_ge (pc' := 21) (tgt := 23) dX14_end_18 (by decide) rfl (fun c3 => ?_) (fun c3 => ?_)
      · have hfr : ∀ b, (b ≠ 233) → h.2 b = h.2 b := fun _ _ => rfl
        first | refine go_aload_n (i := 0) (pc' := 24) dX14_end_23 rfl rfl rfl ?_ | refine go_aloadX_n (i := 0) (pc' := 24) dX14_end_23 rfl rfl rfl ?_ | refine go_aload_nN (i := 0) (pc' := 24) dX14_end_23 rfl rfl rfl ?_
        refine go_dup (pc' := 25) dX14_end_24 rfl rfl ?_
        refine go_getfF (pc' := 28) dX14_end_25 rfl gf_LandBaseModel_373 hM (by decide) ht ?_
        refine go_bipush (v := 40) (pc' := 30) dX14_end_28 rfl (by decide) ?_
        refine go_iload_n (i := 1) (pc' := 31) dX14_end_30 rfl rfl rfl ?_
        refine go_isub (pc' := 32) dX14_end_31 rfl ?_
        refine go_isub (pc' := 33) dX14_end_32 rfl ?_
        refine go_putfF (pc' := 36) dX14_end_33 rfl pf_LandBaseModel_373 (fun h => by cases h) hM (by decide) rfl rfl (fun hp1 zp1 cp1 fp1 => ?_)
        have hz := zp1.trans hz
        have hfr : ∀ b, (b ≠ 233) → hp1.2 b = h.2 b := fun b hb => (fp1 b (by omega)).trans (hfr b hb)
        have hM := cp1
        first | refine go_aload_n (i := 0) (pc' := 37) dX14_end_36 rfl rfl rfl ?_ | refine go_aloadX_n (i := 0) (pc' := 37) dX14_end_36 rfl rfl rfl ?_ | refine go_aload_nN (i := 0) (pc' := 37) dX14_end_36 rfl rfl rfl ?_
        refine go_getfF (pc' := 40) dX14_end_37 rfl gf_LandBaseModel_373 hM (by decide) rfl ?_
        exact Go.ret (v := some (.int _)) dX14_end_40 ⟨_, rfl⟩ ⟨rfl,(Or.inr ⟨fun q => q.elim c1 (fun z => z.elim c2 (Int32.not_lt.mpr c3)), rfl, hz, hM, hfr⟩)⟩
      · refine go_iconst (v := (-1)) (pc' := 22) dX14_end_21 rfl (by decide) ?_
        exact Go.ret (v := some (.int _)) dX14_end_22 ⟨_, rfl⟩ ⟨rfl,(Or.inl ⟨fun q => q (Or.inr (Or.inr (Int32.not_le.mp c3))), rfl, rfl⟩)⟩

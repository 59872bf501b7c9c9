/-! feed: the bytes come behind the tape -/
def shf (j : Nat) : Int32 := 56 - nI (8 * j)
theorem shf_next : ∀ j, j < 8 → shf j + (-8) = shf (j + 1) := by decide
theorem shf_pos : ∀ j, j < 8 → ¬ shf j < 0 := by decide
/-- the j-th byte of a long as the system keeps it -/
def cB (x : Int64) (j : Nat) : Int32 := vp_nar .byte ((x.toUInt64 >>> ((shf j).toInt64.toUInt64 &&& Int64.toUInt64 63)).toInt64.toInt32.toInt8.toInt32)
/-- and as the reference keeps it -/
def rB (x : Int64) (j : Nat) : Int32 := ((x >>> ((shf j).toInt64 &&& 63)) &&& 255).toInt32
/-- a row with k new ones behind its first n -/
def ext (f : Nat → Int32) (n k : Nat) (g : Nat → Int32) (f' : Nat → Int32) : Prop := (∀ i, i < n → f' i = f i) ∧ ∀ j, j < k → f' (n + j) = g j
theorem ext_0 (f : Nat → Int32) (n : Nat) (g : Nat → Int32) : ext f n 0 g f := ⟨fun _ _ => rfl, fun _ h => absurd h (by omega)⟩
theorem ext_upd {f f' g : Nat → Int32} {n k : Nat} (h : ext f n k g f') : ext f n (k + 1) g (upd f' (n + k) (g k)) := by
  refine ⟨fun i hi => ?_, fun j hj => ?_⟩
  · have : i ≠ n + k := by omega
    simp [upd, this, h.1 i hi]
  · by_cases e : j = k
    · subst e; simp [upd]
    · have : n + j ≠ n + k := by omega
      simp [upd, e, h.2 j (by omega)]
set_option maxRecDepth 100000 in
theorem c_append {G : xG} {h : xH} {a b c d : Int32} {x : Int64} {ts : Nat} {tb : Nat → Int32} (hts : ts + 8 ≤ 4000) (k1 : h.2 1 = some (.inr (8, cTp (nI ts) a b c d))) (k2 : h.2 2 = some (.inl (1, 4000, .inl tb))) : Ca G mX9_append [.ref 1, .long x] h (fun v h' => v = none ∧ h'.1 = h.1 ∧ h'.2 1 = some (.inr (8, cTp (nI (ts + 8)) a b c d)) ∧ (∃ tb', h'.2 2 = some (.inl (1, 4000, .inl tb')) ∧ ext tb ts 8 (cB x) tb') ∧ ∀ b, (b ≠ 1 ∧ b ≠ 2) → h'.2 b = h.2 b) := by
  refine Ca.of rfl (Nat.le_of_ble_eq_true rfl) ?_
  have loop : ∀ (m j : Nat) (hc : xH) (tc : Nat → Int32), j + m = 8 → hc.1 = h.1 → hc.2 1 = some (.inr (8, cTp (nI (ts + j)) a b c d)) → hc.2 2 = some (.inl (1, 4000, .inl tc)) → ext tb ts j (cB x) tc → (∀ b, (b ≠ 1 ∧ b ≠ 2) → hc.2 b = h.2 b) → Go G mX9_append 3 [some (.ref 1), some (.long x), none, some (.int (shf j))] [] hc (fun v h' => xRok (xRt mX9_append) v ∧ v = none ∧ h'.1 = h.1 ∧ h'.2 1 = some (.inr (8, cTp (nI (ts + 8)) a b c d)) ∧ (∃ tb', h'.2 2 = some (.inl (1, 4000, .inl tb')) ∧ ext tb ts 8 (cB x) tb') ∧ ∀ b, (b ≠ 1 ∧ b ≠ 2) → h'.2 b = h.2 b) := by
    intro m
    induction m with
    | zero =>
      intro j hc tc hj hz k1 k2 hx hf
      have e : j = 8 := by omega
      subst e
      refine go_iload_n (i := 3) (pc' := 4) dX9_append_3 rfl rfl rfl ?_
      refine go_if_lt (pc' := 7) (tgt := 47) dX9_append_4 (by decide) rfl (fun c1 => ?_) (fun c1 => ?_)
      · exact Go.ret (v := none) dX9_append_47 rfl ⟨trivial,rfl,hz,k1,⟨tc,k2,hx⟩,hf⟩
      · exact absurd (by decide) c1
    | succ m ih =>
      intro j hc tc hj hz k1 k2 hx hf
      have hin : vp_in (nI (ts + j)) 4000 := vp_in_nI (by omega) (by omega)
      have hcl : (nI (ts + j)).toNatClampNeg = ts + j := nI_clamp (by omega)
      refine go_iload_n (i := 3) (pc' := 4) dX9_append_3 rfl rfl rfl ?_
      refine go_if_lt (pc' := 7) (tgt := 47) dX9_append_4 (by decide) rfl (fun c1 => ?_) (fun c1 => ?_)
      · exact absurd c1 (shf_pos j (by omega))
      · first | refine go_aload_n (i := 0) (pc' := 8) dX9_append_7 rfl rfl rfl ?_ | refine go_aloadX_n (i := 0) (pc' := 8) dX9_append_7 rfl rfl rfl ?_ | refine go_aload_nN (i := 0) (pc' := 8) dX9_append_7 rfl rfl rfl ?_
        refine go_getf (pc' := 11) dX9_append_8 rfl gf_LandBase_Tape_15 k1 rfl ?_
        refine go_sipush (v := 4000) (pc' := 14) dX9_append_11 rfl (by decide) ?_
        refine go_icmp_ge (pc' := 17) (tgt := 47) dX9_append_14 (by decide) rfl (fun c2 => ?_) (fun c2 => ?_)
        · exact absurd c2 (nI_ge (a := ts + j) (b := 4000) (by omega) (by omega))
        · have hfr : ∀ b, (b ≠ 1 ∧ b ≠ 2) → hc.2 b = hc.2 b := fun _ _ => rfl
          first | refine go_aload_n (i := 0) (pc' := 18) dX9_append_17 rfl rfl rfl ?_ | refine go_aloadX_n (i := 0) (pc' := 18) dX9_append_17 rfl rfl rfl ?_ | refine go_aload_nN (i := 0) (pc' := 18) dX9_append_17 rfl rfl rfl ?_
          refine go_getf (pc' := 21) dX9_append_18 rfl gf_LandBase_Tape_9 k1 rfl ?_
          first | refine go_aload_n (i := 0) (pc' := 22) dX9_append_21 rfl rfl rfl ?_ | refine go_aloadX_n (i := 0) (pc' := 22) dX9_append_21 rfl rfl rfl ?_ | refine go_aload_nN (i := 0) (pc' := 22) dX9_append_21 rfl rfl rfl ?_
          refine go_getf (pc' := 25) dX9_append_22 rfl gf_LandBase_Tape_15 k1 rfl ?_
          refine go_lload_n (i := 1) (pc' := 26) dX9_append_25 rfl rfl rfl ?_
          refine go_iload_n (i := 3) (pc' := 27) dX9_append_26 rfl rfl rfl ?_
          refine go_lushr (pc' := 28) dX9_append_27 rfl rfl ?_
          refine go_l2i (pc' := 29) dX9_append_28 rfl rfl ?_
          refine go_i2b (pc' := 30) dX9_append_29 rfl rfl ?_
          refine go_bastoreK (pc' := 31) dX9_append_30 rfl k2 hin (fun hp1 zp1 cp1 fp1 => ?_)
          have hz := zp1.trans hz
          have k1 := (fp1 _ (by omega)).trans k1
          have hfr : ∀ b, (b ≠ 1 ∧ b ≠ 2) → hp1.2 b = hc.2 b := fun b hb => (fp1 b (by omega)).trans (hfr b hb)
          have k2 := cp1
          rw [hcl] at k2
          first | refine go_aload_n (i := 0) (pc' := 32) dX9_append_31 rfl rfl rfl ?_ | refine go_aloadX_n (i := 0) (pc' := 32) dX9_append_31 rfl rfl rfl ?_ | refine go_aload_nN (i := 0) (pc' := 32) dX9_append_31 rfl rfl rfl ?_
          refine go_dup (pc' := 33) dX9_append_32 rfl rfl ?_
          refine go_getf (pc' := 36) dX9_append_33 rfl gf_LandBase_Tape_15 k1 rfl ?_
          refine go_iconst (v := 1) (pc' := 37) dX9_append_36 rfl (by decide) ?_
          refine go_iadd (pc' := 38) dX9_append_37 rfl ?_
          refine go_putfK (pc' := 41) dX9_append_38 rfl pf_LandBase_Tape_15 (fun h => by cases h) k1 (Nat.le_of_ble_eq_true rfl) rfl rfl (fun hp2 zp2 cp2 fp2 => ?_)
          dsimp only [List.set] at cp2
          have hz := zp2.trans hz
          have k2 := (fp2 _ (by omega)).trans k2
          have hfr : ∀ b, (b ≠ 1 ∧ b ≠ 2) → hp2.2 b = hc.2 b := fun b hb => (fp2 b (by omega)).trans (hfr b hb)
          have k1 := cp2
          refine go_iincC (kk := (-8)) (pc' := 44) dX9_append_41 rfl rfl (by decide) (by decide) rfl ?_
          refine go_goto (pc' := 0) (tgt := 3) dX9_append_44 (by decide) ?_
          rw [nI_1] at k1
          rw [shf_next j (by omega)]
          exact ih (j + 1) _ _ (by omega) hz k1 k2 (ext_upd hx) (fun b hb => (hfr b hb).trans (hf b hb))
  refine go_bipush (v := 56) (pc' := 2) dX9_append_0 rfl (by decide) ?_
  refine go_istore_n (i := 3) (pc' := 3) dX9_append_2 rfl rfl (by decide) rfl ?_
  exact loop 8 0 h tb rfl rfl k1 k2 (ext_0 _ _ _) (fun _ _ => rfl)
/-- five longs, one behind the other -/
def byF (B : Int64 → Nat → Int32) (xa xb xc xd xe : Int64) (j : Nat) : Int32 := if j < 8 then B xa j else if j < 16 then B xb (j - 8) else if j < 24 then B xc (j - 16) else if j < 32 then B xd (j - 24) else B xe (j - 32)
theorem ext_5 {B : Int64 → Nat → Int32} {xa xb xc xd xe : Int64} {f f1 f2 f3 f4 f5 : Nat → Int32} {n : Nat} (h1 : ext f n 8 (B xa) f1) (h2 : ext f1 (n + 8) 8 (B xb) f2) (h3 : ext f2 (n + 16) 8 (B xc) f3) (h4 : ext f3 (n + 24) 8 (B xd) f4) (h5 : ext f4 (n + 32) 8 (B xe) f5) : ext f n 40 (byF B xa xb xc xd xe) f5 := by
  refine ⟨fun i hi => ?_, fun j hj => ?_⟩
  · rw [h5.1 i (by omega), h4.1 i (by omega), h3.1 i (by omega), h2.1 i (by omega), h1.1 i hi]
  · unfold byF
    by_cases a1 : j < 8
    · rw [if_pos a1, h5.1 _ (by omega), h4.1 _ (by omega), h3.1 _ (by omega), h2.1 _ (by omega), h1.2 j a1]
    · by_cases a2 : j < 16
      · rw [if_neg a1, if_pos a2, h5.1 _ (by omega), h4.1 _ (by omega), h3.1 _ (by omega)]
        have := h2.2 (j - 8) (by omega)
        rwa [show n + 8 + (j - 8) = n + j by omega] at this
      · by_cases a3 : j < 24
        · rw [if_neg a1, if_neg a2, if_pos a3, h5.1 _ (by omega), h4.1 _ (by omega)]
          have := h3.2 (j - 16) (by omega)
          rwa [show n + 16 + (j - 16) = n + j by omega] at this
        · by_cases a4 : j < 32
          · rw [if_neg a1, if_neg a2, if_neg a3, if_pos a4, h5.1 _ (by omega)]
            have := h4.2 (j - 24) (by omega)
            rwa [show n + 24 + (j - 24) = n + j by omega] at this
          · rw [if_neg a1, if_neg a2, if_neg a3, if_neg a4]
            have := h5.2 (j - 32) (by omega)
            rwa [show n + 32 + (j - 32) = n + j by omega] at this
set_option maxRecDepth 100000 in
theorem c_feed {G : xG} {h : xH} {ic off wa a b c d : Int32} {xa xb xc xd xe : Int64} {ts : Nat} {tb : Nat → Int32} (hts : ts ≤ 4000) (k0 : h.2 0 = some (.inr (9, cO ic off wa))) (k1 : h.2 1 = some (.inr (8, cTp (nI ts) a b c d))) (k2 : h.2 2 = some (.inl (1, 4000, .inl tb))) : Ca G mX10_feed [.ref 0, .long xa, .long xb, .long xc, .long xd, .long xe] h (fun v h' => (4000 < ts + 40 ∧ v = some (.int (-1)) ∧ h' = h) ∨ (ts + 40 ≤ 4000 ∧ v = some (.int (nI (ts + 40))) ∧ h'.1 = h.1 ∧ h'.2 1 = some (.inr (8, cTp (nI (ts + 40)) a b c d)) ∧ (∃ tb', h'.2 2 = some (.inl (1, 4000, .inl tb')) ∧ ext tb ts 40 (byF cB xa xb xc xd xe) tb') ∧ ∀ b, (b ≠ 1 ∧ b ≠ 2) → h'.2 b = h.2 b)) := by
  refine Ca.of rfl (Nat.le_of_ble_eq_true rfl) ?_
  have e40 : nI ts + 40 = nI (ts + 40) := nI_add ts 40
  first | refine go_aload_n (i := 0) (pc' := 1) dX10_feed_0 rfl rfl rfl ?_ | refine go_aloadX_n (i := 0) (pc' := 1) dX10_feed_0 rfl rfl rfl ?_ | refine go_aload_nN (i := 0) (pc' := 1) dX10_feed_0 rfl rfl rfl ?_
  refine go_getf (pc' := 4) dX10_feed_1 rfl gf_LandBase_10 k0 rfl ?_
  refine go_getf (pc' := 7) dX10_feed_4 rfl gf_LandBase_73 k1 rfl ?_
  refine go_bipush (v := 40) (pc' := 9) dX10_feed_7 rfl (by decide) ?_
  refine go_iadd (pc' := 10) dX10_feed_9 rfl ?_
  refine go_sipush (v := 4000) (pc' := 13) dX10_feed_10 rfl (by decide) ?_
  refine go_icmp_le (pc' := 16) (tgt := 18) dX10_feed_13 (by decide) rfl (fun c1 => ?_) (fun c1 => ?_)
  · have hle : ts + 40 ≤ 4000 := by
      rw [e40] at c1
      exact (nI_leI (a := ts + 40) (b := 4000) (by omega) (by omega)).mp c1
    first | refine go_aload_n (i := 0) (pc' := 19) dX10_feed_18 rfl rfl rfl ?_ | refine go_aloadX_n (i := 0) (pc' := 19) dX10_feed_18 rfl rfl rfl ?_ | refine go_aload_nN (i := 0) (pc' := 19) dX10_feed_18 rfl rfl rfl ?_
    refine go_getf (pc' := 22) dX10_feed_19 rfl gf_LandBase_10 k0 rfl ?_
    refine go_lload_n (i := 1) (pc' := 23) dX10_feed_22 rfl rfl rfl ?_
    refine go_invV (As := [_]) (pc' := 26) dX10_feed_23 rfl cf_X10_feed_76 rfl k1 rfl rfl (Nat.le_of_ble_eq_true rfl) (c_append (by omega) k1 k2) (fun v1 h1 q1 => ?_)
    obtain ⟨rfl, z1, k1, ⟨t1, k2, x1⟩, f1⟩ := q1
    have k0 := (f1 _ (by omega)).trans k0
    first | refine go_aload_n (i := 0) (pc' := 27) dX10_feed_26 rfl rfl rfl ?_ | refine go_aloadX_n (i := 0) (pc' := 27) dX10_feed_26 rfl rfl rfl ?_ | refine go_aload_nN (i := 0) (pc' := 27) dX10_feed_26 rfl rfl rfl ?_
    refine go_getf (pc' := 30) dX10_feed_27 rfl gf_LandBase_10 k0 rfl ?_
    refine go_lload_n (i := 3) (pc' := 31) dX10_feed_30 rfl rfl rfl ?_
    refine go_invV (As := [_]) (pc' := 34) dX10_feed_31 rfl cf_X10_feed_76 rfl k1 rfl rfl (Nat.le_of_ble_eq_true rfl) (c_append (by omega) k1 k2) (fun v2 h2 q2 => ?_)
    obtain ⟨rfl, z2, k1, ⟨t2, k2, x2⟩, f2⟩ := q2
    have k0 := (f2 _ (by omega)).trans k0
    first | refine go_aload_n (i := 0) (pc' := 35) dX10_feed_34 rfl rfl rfl ?_ | refine go_aloadX_n (i := 0) (pc' := 35) dX10_feed_34 rfl rfl rfl ?_ | refine go_aload_nN (i := 0) (pc' := 35) dX10_feed_34 rfl rfl rfl ?_
    refine go_getf (pc' := 38) dX10_feed_35 rfl gf_LandBase_10 k0 rfl ?_
    refine go_lload (pc' := 40) dX10_feed_38 rfl rfl ?_
    refine go_invV (As := [_]) (pc' := 43) dX10_feed_40 rfl cf_X10_feed_76 rfl k1 rfl rfl (Nat.le_of_ble_eq_true rfl) (c_append (by omega) k1 k2) (fun v3 h3 q3 => ?_)
    obtain ⟨rfl, z3, k1, ⟨t3, k2, x3⟩, f3⟩ := q3
    have k0 := (f3 _ (by omega)).trans k0
    first | refine go_aload_n (i := 0) (pc' := 44) dX10_feed_43 rfl rfl rfl ?_ | refine go_aloadX_n (i := 0) (pc' := 44) dX10_feed_43 rfl rfl rfl ?_ | refine go_aload_nN (i := 0) (pc' := 44) dX10_feed_43 rfl rfl rfl ?_
    refine go_getf (pc' := 47) dX10_feed_44 rfl gf_LandBase_10 k0 rfl ?_
    refine go_lload (pc' := 49) dX10_feed_47 rfl rfl ?_
    refine go_invV (As := [_]) (pc' := 52) dX10_feed_49 rfl cf_X10_feed_76 rfl k1 rfl rfl (Nat.le_of_ble_eq_true rfl) (c_append (by omega) k1 k2) (fun v4 h4 q4 => ?_)
    obtain ⟨rfl, z4, k1, ⟨t4, k2, x4⟩, f4⟩ := q4
    have k0 := (f4 _ (by omega)).trans k0
    first | refine go_aload_n (i := 0) (pc' := 53) dX10_feed_52 rfl rfl rfl ?_ | refine go_aloadX_n (i := 0) (pc' := 53) dX10_feed_52 rfl rfl rfl ?_ | refine go_aload_nN (i := 0) (pc' := 53) dX10_feed_52 rfl rfl rfl ?_
    refine go_getf (pc' := 56) dX10_feed_53 rfl gf_LandBase_10 k0 rfl ?_
    refine go_lload (pc' := 58) dX10_feed_56 rfl rfl ?_
    refine go_invV (As := [_]) (pc' := 61) dX10_feed_58 rfl cf_X10_feed_76 rfl k1 rfl rfl (Nat.le_of_ble_eq_true rfl) (c_append (by omega) k1 k2) (fun v5 h5 q5 => ?_)
    obtain ⟨rfl, z5, k1, ⟨t5, k2, x5⟩, f5⟩ := q5
    have k0 := (f5 _ (by omega)).trans k0
    first | refine go_aload_n (i := 0) (pc' := 62) dX10_feed_61 rfl rfl rfl ?_ | refine go_aloadX_n (i := 0) (pc' := 62) dX10_feed_61 rfl rfl rfl ?_ | refine go_aload_nN (i := 0) (pc' := 62) dX10_feed_61 rfl rfl rfl ?_
    refine go_getf (pc' := 65) dX10_feed_62 rfl gf_LandBase_10 k0 rfl ?_
    refine go_getf (pc' := 68) dX10_feed_65 rfl gf_LandBase_73 k1 rfl ?_
    exact Go.ret (v := some (.int _)) dX10_feed_68 ⟨_, rfl⟩ ⟨rfl,(Or.inr ⟨hle, rfl, z5.trans (z4.trans (z3.trans (z2.trans z1))), k1, ⟨t5, k2, ext_5 x1 x2 x3 x4 x5⟩, fun b hb => (f5 b hb).trans ((f4 b hb).trans ((f3 b hb).trans ((f2 b hb).trans (f1 b hb))))⟩)⟩
  · have hgt : 4000 < ts + 40 := by
      rw [e40] at c1
      rcases Nat.lt_or_ge 4000 (ts + 40) with q | q
      · exact q
      · exact absurd ((nI_leI (a := ts + 40) (b := 4000) (by omega) (by omega)).mpr q) c1
    refine go_iconst (v := (-1)) (pc' := 17) dX10_feed_16 rfl (by decide) ?_
    exact Go.ret (v := some (.int _)) dX10_feed_17 ⟨_, rfl⟩ ⟨rfl,(Or.inl ⟨hgt, rfl, rfl⟩)⟩
/-! the reference's -/
set_option maxRecDepth 100000 in
theorem r_lay {G : xG} {h : xH} {F : Nat → Value} {x : Int64} {ts : Nat} {tb : Nat → Int32} (hts : ts + 8 ≤ 4000) (hM : h.2 233 = some (.inr (13, mkF F 58))) (hs : F 40 = .int (nI ts)) (ht : F 39 = .ref 1863) (k2 : h.2 1863 = some (.inl (0, 4000, .inl tb))) : Ca G mX14_lay [.ref 233, .long x] h (fun v h' => v = none ∧ h'.1 = h.1 ∧ (∃ F', h'.2 233 = some (.inr (13, mkF F' 58)) ∧ F' 40 = .int (nI (ts + 8)) ∧ ∀ j, j ≠ 40 → F' j = F j) ∧ (∃ tb', h'.2 1863 = some (.inl (0, 4000, .inl tb')) ∧ ext tb ts 8 (rB x) tb') ∧ ∀ b, (b ≠ 233 ∧ b ≠ 1863) → h'.2 b = h.2 b) := by
  refine Ca.of rfl (Nat.le_of_ble_eq_true rfl) ?_
  have loop : ∀ (m j : Nat) (hc : xH) (tc : Nat → Int32) (Fc : Nat → Value), j + m = 8 → hc.1 = h.1 → hc.2 233 = some (.inr (13, mkF Fc 58)) → Fc 40 = .int (nI (ts + j)) → (∀ j, j ≠ 40 → Fc j = F j) → hc.2 1863 = some (.inl (0, 4000, .inl tc)) → ext tb ts j (rB x) tc → (∀ b, (b ≠ 233 ∧ b ≠ 1863) → hc.2 b = h.2 b) → Go G mX14_lay 3 [some (.ref 233), some (.long x), none, some (.int (shf j))] [] hc (fun v h' => xRok (xRt mX14_lay) v ∧ v = none ∧ h'.1 = h.1 ∧ (∃ F', h'.2 233 = some (.inr (13, mkF F' 58)) ∧ F' 40 = .int (nI (ts + 8)) ∧ ∀ j, j ≠ 40 → F' j = F j) ∧ (∃ tb', h'.2 1863 = some (.inl (0, 4000, .inl tb')) ∧ ext tb ts 8 (rB x) tb') ∧ ∀ b, (b ≠ 233 ∧ b ≠ 1863) → h'.2 b = h.2 b) := by
    intro m
    induction m with
    | zero =>
      intro j hc tc Fc hj hz hM hs hF k2 hx hf
      have e : j = 8 := by omega
      subst e
      refine go_iload_n (i := 3) (pc' := 4) dX14_lay_3 rfl rfl rfl ?_
      refine go_if_lt (pc' := 7) (tgt := 40) dX14_lay_4 (by decide) rfl (fun c1 => ?_) (fun c1 => ?_)
      · exact Go.ret (v := none) dX14_lay_40 rfl ⟨trivial,rfl,hz,⟨Fc,hM,hs,hF⟩,⟨tc,k2,hx⟩,hf⟩
      · exact absurd (by decide) c1
    | succ m ih =>
      intro j hc tc Fc hj hz hM hs hF k2 hx hf
      have hin : vp_in (nI (ts + j)) 4000 := vp_in_nI (by omega) (by omega)
      have hcl : (nI (ts + j)).toNatClampNeg = ts + j := nI_clamp (by omega)
      have ht' : Fc 39 = .ref 1863 := (hF 39 (by omega)).trans ht
      refine go_iload_n (i := 3) (pc' := 4) dX14_lay_3 rfl rfl rfl ?_
      refine go_if_lt (pc' := 7) (tgt := 40) dX14_lay_4 (by decide) rfl (fun c1 => ?_) (fun c1 => ?_)
      · exact absurd c1 (shf_pos j (by omega))
      · have hfr : ∀ b, (b ≠ 233 ∧ b ≠ 1863) → hc.2 b = hc.2 b := fun _ _ => rfl
        first | refine go_aload_n (i := 0) (pc' := 8) dX14_lay_7 rfl rfl rfl ?_ | refine go_aloadX_n (i := 0) (pc' := 8) dX14_lay_7 rfl rfl rfl ?_ | refine go_aload_nN (i := 0) (pc' := 8) dX14_lay_7 rfl rfl rfl ?_
        refine go_getfF (pc' := 11) dX14_lay_8 rfl gf_LandBaseModel_376 hM (by decide) ht' ?_
        first | refine go_aload_n (i := 0) (pc' := 12) dX14_lay_11 rfl rfl rfl ?_ | refine go_aloadX_n (i := 0) (pc' := 12) dX14_lay_11 rfl rfl rfl ?_ | refine go_aload_nN (i := 0) (pc' := 12) dX14_lay_11 rfl rfl rfl ?_
        refine go_getfF (pc' := 15) dX14_lay_12 rfl gf_LandBaseModel_373 hM (by decide) hs ?_
        refine go_lload_n (i := 1) (pc' := 16) dX14_lay_15 rfl rfl rfl ?_
        refine go_iload_n (i := 3) (pc' := 17) dX14_lay_16 rfl rfl rfl ?_
        refine go_lshr (pc' := 18) dX14_lay_17 rfl rfl ?_
        refine go_ldc2 (pc' := 21) dX14_lay_18 rfl wd_1239 ?_
        refine go_land (pc' := 22) dX14_lay_21 rfl ?_
        refine go_l2i (pc' := 23) dX14_lay_22 rfl rfl ?_
        refine go_iastoreK (pc' := 24) dX14_lay_23 rfl k2 hin (fun hp1 zp1 cp1 fp1 => ?_)
        have hz := zp1.trans hz
        have hM := (fp1 _ (by omega)).trans hM
        have hfr : ∀ b, (b ≠ 233 ∧ b ≠ 1863) → hp1.2 b = hc.2 b := fun b hb => (fp1 b (by omega)).trans (hfr b hb)
        have k2 := cp1
        rw [hcl] at k2
        first | refine go_aload_n (i := 0) (pc' := 25) dX14_lay_24 rfl rfl rfl ?_ | refine go_aloadX_n (i := 0) (pc' := 25) dX14_lay_24 rfl rfl rfl ?_ | refine go_aload_nN (i := 0) (pc' := 25) dX14_lay_24 rfl rfl rfl ?_
        refine go_dup (pc' := 26) dX14_lay_25 rfl rfl ?_
        refine go_getfF (pc' := 29) dX14_lay_26 rfl gf_LandBaseModel_373 hM (by decide) hs ?_
        refine go_iconst (v := 1) (pc' := 30) dX14_lay_29 rfl (by decide) ?_
        refine go_iadd (pc' := 31) dX14_lay_30 rfl ?_
        refine go_putfF (pc' := 34) dX14_lay_31 rfl pf_LandBaseModel_373 (fun h => by cases h) hM (by decide) rfl rfl (fun hp2 zp2 cp2 fp2 => ?_)
        have hz := zp2.trans hz
        have k2 := (fp2 _ (by omega)).trans k2
        have hfr : ∀ b, (b ≠ 233 ∧ b ≠ 1863) → hp2.2 b = hc.2 b := fun b hb => (fp2 b (by omega)).trans (hfr b hb)
        have hM := cp2
        refine go_iincC (kk := (-8)) (pc' := 37) dX14_lay_34 rfl rfl (by decide) (by decide) rfl ?_
        refine go_goto (pc' := 0) (tgt := 3) dX14_lay_37 (by decide) ?_
        rw [nI_1] at hM
        rw [shf_next j (by omega)]
        refine ih (j + 1) _ _ _ (by omega) hz hM rfl (fun i hi => ?_) k2 (ext_upd hx) (fun b hb => (hfr b hb).trans (hf b hb))
        simp only [updV, if_neg hi]
        exact hF i hi
  refine go_bipush (v := 56) (pc' := 2) dX14_lay_0 rfl (by decide) ?_
  refine go_istore_n (i := 3) (pc' := 3) dX14_lay_2 rfl rfl (by decide) rfl ?_
  exact loop 8 0 h tb F rfl rfl hM hs (fun _ _ => rfl) k2 (ext_0 _ _ _) (fun _ _ => rfl)
set_option maxRecDepth 100000 in
theorem r_feed {G : xG} {h : xH} {F : Nat → Value} {xa xb xc xd xe : Int64} {ts : Nat} {tb : Nat → Int32} (hts : ts ≤ 4000) (hM : h.2 233 = some (.inr (13, mkF F 58))) (hs : F 40 = .int (nI ts)) (ht : F 39 = .ref 1863) (k2 : h.2 1863 = some (.inl (0, 4000, .inl tb))) : Ca G mX14_feed [.ref 233, .long xa, .long xb, .long xc, .long xd, .long xe] h (fun v h' => (4000 < ts + 40 ∧ v = some (.int (-1)) ∧ h' = h) ∨ (ts + 40 ≤ 4000 ∧ v = some (.int (nI (ts + 40))) ∧ h'.1 = h.1 ∧ (∃ F', h'.2 233 = some (.inr (13, mkF F' 58)) ∧ F' 40 = .int (nI (ts + 40)) ∧ ∀ j, j ≠ 40 → F' j = F j) ∧ (∃ tb', h'.2 1863 = some (.inl (0, 4000, .inl tb')) ∧ ext tb ts 40 (byF rB xa xb xc xd xe) tb') ∧ ∀ b, (b ≠ 233 ∧ b ≠ 1863) → h'.2 b = h.2 b)) := by
  refine Ca.of rfl (Nat.le_of_ble_eq_true rfl) ?_
  have e40 : nI ts + 40 = nI (ts + 40) := nI_add ts 40
  first | refine go_aload_n (i := 0) (pc' := 1) dX14_feed_0 rfl rfl rfl ?_ | refine go_aloadX_n (i := 0) (pc' := 1) dX14_feed_0 rfl rfl rfl ?_ | refine go_aload_nN (i := 0) (pc' := 1) dX14_feed_0 rfl rfl rfl ?_
  refine go_getfF (pc' := 4) dX14_feed_1 rfl gf_LandBaseModel_373 hM (by decide) hs ?_
  refine go_bipush (v := 40) (pc' := 6) dX14_feed_4 rfl (by decide) ?_
  refine go_iadd (pc' := 7) dX14_feed_6 rfl ?_
  refine go_sipush (v := 4000) (pc' := 10) dX14_feed_7 rfl (by decide) ?_
  refine go_icmp_le (pc' := 13) (tgt := 15) dX14_feed_10 (by decide) rfl (fun c1 => ?_) (fun c1 => ?_)
  · have hle : ts + 40 ≤ 4000 := by
      rw [e40] at c1
      exact (nI_leI (a := ts + 40) (b := 4000) (by omega) (by omega)).mp c1
    first | refine go_aload_n (i := 0) (pc' := 16) dX14_feed_15 rfl rfl rfl ?_ | refine go_aloadX_n (i := 0) (pc' := 16) dX14_feed_15 rfl rfl rfl ?_ | refine go_aload_nN (i := 0) (pc' := 16) dX14_feed_15 rfl rfl rfl ?_
    refine go_lload_n (i := 1) (pc' := 17) dX14_feed_16 rfl rfl rfl ?_
    refine go_invV (As := [_]) (pc' := 20) dX14_feed_17 rfl cf_X14_feed_644 rfl hM rfl rfl (Nat.le_of_ble_eq_true rfl) (r_lay (by omega) hM hs ht k2) (fun v1 h1 q1 => ?_)
    obtain ⟨rfl, z1, ⟨F1, hM, hs, g1⟩, ⟨t1, k2, x1⟩, f1⟩ := q1
    have ht := (g1 39 (by omega)).trans ht
    first | refine go_aload_n (i := 0) (pc' := 21) dX14_feed_20 rfl rfl rfl ?_ | refine go_aloadX_n (i := 0) (pc' := 21) dX14_feed_20 rfl rfl rfl ?_ | refine go_aload_nN (i := 0) (pc' := 21) dX14_feed_20 rfl rfl rfl ?_
    refine go_lload_n (i := 3) (pc' := 22) dX14_feed_21 rfl rfl rfl ?_
    refine go_invV (As := [_]) (pc' := 25) dX14_feed_22 rfl cf_X14_feed_644 rfl hM rfl rfl (Nat.le_of_ble_eq_true rfl) (r_lay (by omega) hM hs ht k2) (fun v2 h2 q2 => ?_)
    obtain ⟨rfl, z2, ⟨F2, hM, hs, g2⟩, ⟨t2, k2, x2⟩, f2⟩ := q2
    have ht := (g2 39 (by omega)).trans ht
    first | refine go_aload_n (i := 0) (pc' := 26) dX14_feed_25 rfl rfl rfl ?_ | refine go_aloadX_n (i := 0) (pc' := 26) dX14_feed_25 rfl rfl rfl ?_ | refine go_aload_nN (i := 0) (pc' := 26) dX14_feed_25 rfl rfl rfl ?_
    refine go_lload (pc' := 28) dX14_feed_26 rfl rfl ?_
    refine go_invV (As := [_]) (pc' := 31) dX14_feed_28 rfl cf_X14_feed_644 rfl hM rfl rfl (Nat.le_of_ble_eq_true rfl) (r_lay (by omega) hM hs ht k2) (fun v3 h3 q3 => ?_)
    obtain ⟨rfl, z3, ⟨F3, hM, hs, g3⟩, ⟨t3, k2, x3⟩, f3⟩ := q3
    have ht := (g3 39 (by omega)).trans ht
    first | refine go_aload_n (i := 0) (pc' := 32) dX14_feed_31 rfl rfl rfl ?_ | refine go_aloadX_n (i := 0) (pc' := 32) dX14_feed_31 rfl rfl rfl ?_ | refine go_aload_nN (i := 0) (pc' := 32) dX14_feed_31 rfl rfl rfl ?_
    refine go_lload (pc' := 34) dX14_feed_32 rfl rfl ?_
    refine go_invV (As := [_]) (pc' := 37) dX14_feed_34 rfl cf_X14_feed_644 rfl hM rfl rfl (Nat.le_of_ble_eq_true rfl) (r_lay (by omega) hM hs ht k2) (fun v4 h4 q4 => ?_)
    obtain ⟨rfl, z4, ⟨F4, hM, hs, g4⟩, ⟨t4, k2, x4⟩, f4⟩ := q4
    have ht := (g4 39 (by omega)).trans ht
    first | refine go_aload_n (i := 0) (pc' := 38) dX14_feed_37 rfl rfl rfl ?_ | refine go_aloadX_n (i := 0) (pc' := 38) dX14_feed_37 rfl rfl rfl ?_ | refine go_aload_nN (i := 0) (pc' := 38) dX14_feed_37 rfl rfl rfl ?_
    refine go_lload (pc' := 40) dX14_feed_38 rfl rfl ?_
    refine go_invV (As := [_]) (pc' := 43) dX14_feed_40 rfl cf_X14_feed_644 rfl hM rfl rfl (Nat.le_of_ble_eq_true rfl) (r_lay (by omega) hM hs ht k2) (fun v5 h5 q5 => ?_)
    obtain ⟨rfl, z5, ⟨F5, hM, hs, g5⟩, ⟨t5, k2, x5⟩, f5⟩ := q5
    first | refine go_aload_n (i := 0) (pc' := 44) dX14_feed_43 rfl rfl rfl ?_ | refine go_aloadX_n (i := 0) (pc' := 44) dX14_feed_43 rfl rfl rfl ?_ | refine go_aload_nN (i := 0) (pc' := 44) dX14_feed_43 rfl rfl rfl ?_
    refine go_getfF (pc' := 47) dX14_feed_44 rfl gf_LandBaseModel_373 hM (by decide) hs ?_
    exact Go.ret (v := some (.int _)) dX14_feed_47 ⟨_, rfl⟩ ⟨rfl,(Or.inr ⟨hle, rfl, z5.trans (z4.trans (z3.trans (z2.trans z1))), ⟨F5, hM, hs, fun j hj => (g5 j hj).trans ((g4 j hj).trans ((g3 j hj).trans ((g2 j hj).trans (g1 j hj))))⟩, ⟨t5, k2, ext_5 x1 x2 x3 x4 x5⟩, fun b hb => (f5 b hb).trans ((f4 b hb).trans ((f3 b hb).trans ((f2 b hb).trans (f1 b hb))))⟩)⟩
  · have hgt : 4000 < ts + 40 := by
      rw [e40] at c1
      rcases Nat.lt_or_ge 4000 (ts + 40) with q | q
      · exact q
      · exact absurd ((nI_leI (a := ts + 40) (b := 4000) (by omega) (by omega)).mpr q) c1
    refine go_iconst (v := (-1)) (pc' := 14) dX14_feed_13 rfl (by decide) ?_
    exact Go.ret (v := some (.int _)) dX14_feed_14 ⟨_, rfl⟩ ⟨rfl,(Or.inl ⟨hgt, rfl, rfl⟩)⟩

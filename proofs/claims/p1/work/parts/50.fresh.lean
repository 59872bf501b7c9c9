/-! THE FIRST CALL: what each method does on fresh objects -/
set_option maxRecDepth 100000 in
theorem c_at0 {G : xG} {h : xH} {i j p : Int32} (hS : Ca G mX10_shapeOf [.ref 0, .int i] h (fun v h' => v = some .null ∧ h' = h)) {fs : List Value} (k0 : h.2 0 = some (.inr (9, fs))) : Ca G mX10_at [.ref 0, .int i, .int j, .int p] h (fun v h' => v = some (.int 0) ∧ h' = h) := by
  refine Ca.of rfl (Nat.le_of_ble_eq_true rfl) ?_
  first | refine go_aload_n (i := 0) (pc' := 1) dX10_at_0 rfl rfl rfl ?_ | refine go_aloadX_n (i := 0) (pc' := 1) dX10_at_0 rfl rfl rfl ?_ | refine go_aload_nN (i := 0) (pc' := 1) dX10_at_0 rfl rfl rfl ?_
  refine go_iload_n (i := 1) (pc' := 2) dX10_at_1 rfl rfl rfl ?_
  refine go_invV (As := [_]) (pc' := 5) dX10_at_2 rfl cf_X10_at_160 rfl k0 rfl rfl (Nat.le_of_ble_eq_true rfl) hS (fun v1 h1 q1 => ?_)
  obtain ⟨rfl, rfl⟩ := q1
  refine go_astoreN (pc' := 7) dX10_at_5 rfl (by decide) rfl ?_
  first | refine go_aload (pc' := 9) dX10_at_7 rfl rfl ?_ | refine go_aloadX (pc' := 9) dX10_at_7 rfl rfl ?_ | refine go_aloadN (pc' := 9) dX10_at_7 rfl rfl ?_
  refine go_ifnullN (pc' := 0) (tgt := 34) dX10_at_9 (by decide) ?_
  refine go_iconst (v := 0) (pc' := 35) dX10_at_34 rfl (by decide) ?_
  exact Go.ret (v := some (.int _)) dX10_at_35 ⟨_, rfl⟩ ⟨rfl,rfl,rfl⟩
set_option maxRecDepth 100000 in
theorem c_relate0 {G : xG} {h : xH} {r a b : Int32} (hS : ∀ i, Ca G mX10_shapeOf [.ref 0, .int i] h (fun v h' => v = some .null ∧ h' = h)) {fs : List Value} (k0 : h.2 0 = some (.inr (9, fs))) : Ca G mX10_relate [.ref 0, .int r, .int a, .int b] h (fun v h' => v = some (.int (-1)) ∧ h' = h) := by
  refine Ca.of rfl (Nat.le_of_ble_eq_true rfl) ?_
  first | refine go_aload_n (i := 0) (pc' := 1) dX10_relate_0 rfl rfl rfl ?_ | refine go_aloadX_n (i := 0) (pc' := 1) dX10_relate_0 rfl rfl rfl ?_ | refine go_aload_nN (i := 0) (pc' := 1) dX10_relate_0 rfl rfl rfl ?_
  refine go_iload_n (i := 2) (pc' := 2) dX10_relate_1 rfl rfl rfl ?_
  refine go_invV (As := [_]) (pc' := 5) dX10_relate_2 rfl cf_X10_relate_160 rfl k0 rfl rfl (Nat.le_of_ble_eq_true rfl) (hS _) (fun v1 h1 q1 => ?_)
  obtain ⟨rfl, rfl⟩ := q1
  refine go_astoreN (pc' := 7) dX10_relate_5 rfl (by decide) rfl ?_
  first | refine go_aload_n (i := 0) (pc' := 8) dX10_relate_7 rfl rfl rfl ?_ | refine go_aloadX_n (i := 0) (pc' := 8) dX10_relate_7 rfl rfl rfl ?_ | refine go_aload_nN (i := 0) (pc' := 8) dX10_relate_7 rfl rfl rfl ?_
  refine go_iload_n (i := 3) (pc' := 9) dX10_relate_8 rfl rfl rfl ?_
  refine go_invV (As := [_]) (pc' := 12) dX10_relate_9 rfl cf_X10_relate_160 rfl k0 rfl rfl (Nat.le_of_ble_eq_true rfl) (hS _) (fun v1 h2 q1 => ?_)
  obtain ⟨rfl, rfl⟩ := q1
  refine go_astoreN (pc' := 14) dX10_relate_12 rfl (by decide) rfl ?_
  first | refine go_aload (pc' := 16) dX10_relate_14 rfl rfl ?_ | refine go_aloadX (pc' := 16) dX10_relate_14 rfl rfl ?_ | refine go_aloadN (pc' := 16) dX10_relate_14 rfl rfl ?_
  refine go_ifnullN (pc' := 0) (tgt := 33) dX10_relate_16 (by decide) ?_
  refine go_iconst (v := (-1)) (pc' := 34) dX10_relate_33 rfl (by decide) ?_
  exact Go.ret (v := some (.int _)) dX10_relate_34 ⟨_, rfl⟩ ⟨rfl,rfl,rfl⟩
set_option maxRecDepth 100000 in
theorem c_nearer0 {G : xG} {h : xH} {a b x y : Int32} (hS : ∀ i, Ca G mX10_shapeOf [.ref 0, .int i] h (fun v h' => v = some .null ∧ h' = h)) {fs : List Value} (k0 : h.2 0 = some (.inr (9, fs))) : Ca G mX10_nearer [.ref 0, .int a, .int b, .int x, .int y] h (fun v h' => v = some (.int (-2)) ∧ h' = h) := by
  refine Ca.of rfl (Nat.le_of_ble_eq_true rfl) ?_
  first | refine go_aload_n (i := 0) (pc' := 1) dX10_nearer_0 rfl rfl rfl ?_ | refine go_aloadX_n (i := 0) (pc' := 1) dX10_nearer_0 rfl rfl rfl ?_ | refine go_aload_nN (i := 0) (pc' := 1) dX10_nearer_0 rfl rfl rfl ?_
  refine go_iload_n (i := 1) (pc' := 2) dX10_nearer_1 rfl rfl rfl ?_
  refine go_invV (As := [_]) (pc' := 5) dX10_nearer_2 rfl cf_X10_nearer_160 rfl k0 rfl rfl (Nat.le_of_ble_eq_true rfl) (hS _) (fun v1 h1 q1 => ?_)
  obtain ⟨rfl, rfl⟩ := q1
  refine go_astoreN (pc' := 7) dX10_nearer_5 rfl (by decide) rfl ?_
  first | refine go_aload_n (i := 0) (pc' := 8) dX10_nearer_7 rfl rfl rfl ?_ | refine go_aloadX_n (i := 0) (pc' := 8) dX10_nearer_7 rfl rfl rfl ?_ | refine go_aload_nN (i := 0) (pc' := 8) dX10_nearer_7 rfl rfl rfl ?_
  refine go_iload_n (i := 2) (pc' := 9) dX10_nearer_8 rfl rfl rfl ?_
  refine go_invV (As := [_]) (pc' := 12) dX10_nearer_9 rfl cf_X10_nearer_160 rfl k0 rfl rfl (Nat.le_of_ble_eq_true rfl) (hS _) (fun v1 h2 q1 => ?_)
  obtain ⟨rfl, rfl⟩ := q1
  refine go_astoreN (pc' := 14) dX10_nearer_12 rfl (by decide) rfl ?_
  first | refine go_aload (pc' := 16) dX10_nearer_14 rfl rfl ?_ | refine go_aloadX (pc' := 16) dX10_nearer_14 rfl rfl ?_ | refine go_aloadN (pc' := 16) dX10_nearer_14 rfl rfl ?_
  refine go_ifnullN (pc' := 0) (tgt := 41) dX10_nearer_16 (by decide) ?_
  refine go_bipush (v := (-2)) (pc' := 43) dX10_nearer_41 rfl (by decide) ?_
  exact Go.ret (v := some (.int _)) dX10_nearer_43 ⟨_, rfl⟩ ⟨rfl,rfl,rfl⟩
set_option maxRecDepth 100000 in
theorem c_badRows0 {G : xG} {h : xH} {a : Nat} {x y : Value} (hh : h.2 a = some (.inr (7, [x, y, .int 0]))) : Ca G mX8_countBadRows [.ref a] h (fun v h' => v = some (.int 0) ∧ h' = h) := by
  refine Ca.of rfl (Nat.le_of_ble_eq_true rfl) ?_
  refine go_iconst (v := 0) (pc' := 1) dX8_countBadRows_0 rfl (by decide) ?_
  refine go_istore_n (i := 1) (pc' := 2) dX8_countBadRows_1 rfl rfl (by decide) rfl ?_
  refine go_iconst (v := 0) (pc' := 3) dX8_countBadRows_2 rfl (by decide) ?_
  refine go_istore_n (i := 2) (pc' := 4) dX8_countBadRows_3 rfl rfl (by decide) rfl ?_
  refine go_iload_n (i := 2) (pc' := 5) dX8_countBadRows_4 rfl rfl rfl ?_
  first | refine go_aload_n (i := 0) (pc' := 6) dX8_countBadRows_5 rfl rfl rfl ?_ | refine go_aloadX_n (i := 0) (pc' := 6) dX8_countBadRows_5 rfl rfl rfl ?_ | refine go_aload_nN (i := 0) (pc' := 6) dX8_countBadRows_5 rfl rfl rfl ?_
  refine go_getf (pc' := 9) dX8_countBadRows_6 rfl gf_LandBase_Table_21 hh rfl ?_
  refine go_icmp_ge (pc' := 12) (tgt := 133) dX8_countBadRows_9 (by decide) rfl (fun c1 => ?_) (fun c1 => ?_)
  · refine go_iload_n (i := 1) (pc' := 134) dX8_countBadRows_133 rfl rfl rfl ?_
    exact Go.ret (v := some (.int _)) dX8_countBadRows_134 ⟨_, rfl⟩ ⟨rfl,rfl,rfl⟩
  · exact absurd (by decide) c1
set_option maxRecDepth 100000 in
theorem c_flaws0 {G : xG} {h : xH} {fs : List Value} (hfs : fs[2]? = some (.ref 10)) {x y x2 y2 : Value} (k0 : h.2 0 = some (.inr (9, fs))) (k10 : h.2 10 = some (.inr (3, cKp 0 0 0 0 0 0 0 (-1) 0))) (k11 : h.2 11 = some (.inr (7, [x, y, .int 0]))) (k14 : h.2 14 = some (.inr (7, [x2, y2, .int 0]))) : Ca G mX10_flaws [.ref 0] h (fun v h' => v = some (.int 0) ∧ h' = h) := by
  have inner : Ca G mX3_countFlaws [.ref 10] h (fun v h' => v = some (.int 0) ∧ h' = h) := by
    refine Ca.of rfl (Nat.le_of_ble_eq_true rfl) ?_
    first | refine go_aload_n (i := 0) (pc' := 1) dX3_countFlaws_0 rfl rfl rfl ?_ | refine go_aloadX_n (i := 0) (pc' := 1) dX3_countFlaws_0 rfl rfl rfl ?_ | refine go_aload_nN (i := 0) (pc' := 1) dX3_countFlaws_0 rfl rfl rfl ?_
    refine go_getf (pc' := 4) dX3_countFlaws_1 rfl gf_LandBase_Keeper_12 k10 rfl ?_
    refine go_invV (As := []) (pc' := 7) dX3_countFlaws_4 rfl cf_X3_countFlaws_81 rfl k11 rfl rfl (Nat.le_of_ble_eq_true rfl) (c_badRows0 k11) (fun v1 h1 q1 => ?_)
    obtain ⟨rfl, rfl⟩ := q1
    first | refine go_aload_n (i := 0) (pc' := 8) dX3_countFlaws_7 rfl rfl rfl ?_ | refine go_aloadX_n (i := 0) (pc' := 8) dX3_countFlaws_7 rfl rfl rfl ?_ | refine go_aload_nN (i := 0) (pc' := 8) dX3_countFlaws_7 rfl rfl rfl ?_
    refine go_getf (pc' := 11) dX3_countFlaws_8 rfl gf_LandBase_Keeper_18 k10 rfl ?_
    refine go_invV (As := []) (pc' := 14) dX3_countFlaws_11 rfl cf_X3_countFlaws_81 rfl k14 rfl rfl (Nat.le_of_ble_eq_true rfl) (c_badRows0 k14) (fun v1 h2 q1 => ?_)
    obtain ⟨rfl, rfl⟩ := q1
    refine go_iadd (pc' := 15) dX3_countFlaws_14 rfl ?_
    refine go_istore_n (i := 1) (pc' := 16) dX3_countFlaws_15 rfl rfl (by decide) rfl ?_
    first | refine go_aload_n (i := 0) (pc' := 17) dX3_countFlaws_16 rfl rfl rfl ?_ | refine go_aloadX_n (i := 0) (pc' := 17) dX3_countFlaws_16 rfl rfl rfl ?_ | refine go_aload_nN (i := 0) (pc' := 17) dX3_countFlaws_16 rfl rfl rfl ?_
    refine go_getf (pc' := 20) dX3_countFlaws_17 rfl gf_LandBase_Keeper_69 k10 rfl ?_
    refine go_if_lt (pc' := 23) (tgt := 49) dX3_countFlaws_20 (by decide) rfl (fun c1 => ?_) (fun c1 => ?_)
    · exact absurd c1 (by decide)
    · first | refine go_aload_n (i := 0) (pc' := 24) dX3_countFlaws_23 rfl rfl rfl ?_ | refine go_aloadX_n (i := 0) (pc' := 24) dX3_countFlaws_23 rfl rfl rfl ?_ | refine go_aload_nN (i := 0) (pc' := 24) dX3_countFlaws_23 rfl rfl rfl ?_
      refine go_getf (pc' := 27) dX3_countFlaws_24 rfl gf_LandBase_Keeper_69 k10 rfl ?_
      refine go_bipush (v := 64) (pc' := 29) dX3_countFlaws_27 rfl (by decide) ?_
      refine go_icmp_gt (pc' := 32) (tgt := 49) dX3_countFlaws_29 (by decide) rfl (fun c2 => ?_) (fun c2 => ?_)
      · exact absurd c2 (by decide)
      · first | refine go_aload_n (i := 0) (pc' := 33) dX3_countFlaws_32 rfl rfl rfl ?_ | refine go_aloadX_n (i := 0) (pc' := 33) dX3_countFlaws_32 rfl rfl rfl ?_ | refine go_aload_nN (i := 0) (pc' := 33) dX3_countFlaws_32 rfl rfl rfl ?_
        refine go_getf (pc' := 36) dX3_countFlaws_33 rfl gf_LandBase_Keeper_45 k10 rfl ?_
        refine go_if_lt (pc' := 39) (tgt := 49) dX3_countFlaws_36 (by decide) rfl (fun c3 => ?_) (fun c3 => ?_)
        · exact absurd c3 (by decide)
        · first | refine go_aload_n (i := 0) (pc' := 40) dX3_countFlaws_39 rfl rfl rfl ?_ | refine go_aloadX_n (i := 0) (pc' := 40) dX3_countFlaws_39 rfl rfl rfl ?_ | refine go_aload_nN (i := 0) (pc' := 40) dX3_countFlaws_39 rfl rfl rfl ?_
          refine go_getf (pc' := 43) dX3_countFlaws_40 rfl gf_LandBase_Keeper_45 k10 rfl ?_
          refine go_sipush (v := 14112) (pc' := 46) dX3_countFlaws_43 rfl (by decide) ?_
          refine go_icmp_le (pc' := 49) (tgt := 52) dX3_countFlaws_46 (by decide) rfl (fun c4 => ?_) (fun c4 => ?_)
          · first | refine go_aload_n (i := 0) (pc' := 53) dX3_countFlaws_52 rfl rfl rfl ?_ | refine go_aloadX_n (i := 0) (pc' := 53) dX3_countFlaws_52 rfl rfl rfl ?_ | refine go_aload_nN (i := 0) (pc' := 53) dX3_countFlaws_52 rfl rfl rfl ?_
            refine go_getf (pc' := 56) dX3_countFlaws_53 rfl gf_LandBase_Keeper_41 k10 rfl ?_
            refine go_if_ne (pc' := 59) (tgt := 86) dX3_countFlaws_56 (by decide) rfl (fun c5 => ?_) (fun c5 => ?_)
            · exact absurd rfl c5
            · first | refine go_aload_n (i := 0) (pc' := 60) dX3_countFlaws_59 rfl rfl rfl ?_ | refine go_aloadX_n (i := 0) (pc' := 60) dX3_countFlaws_59 rfl rfl rfl ?_ | refine go_aload_nN (i := 0) (pc' := 60) dX3_countFlaws_59 rfl rfl rfl ?_
              refine go_getf (pc' := 63) dX3_countFlaws_60 rfl gf_LandBase_Keeper_75 k10 rfl ?_
              refine go_if_ne (pc' := 66) (tgt := 86) dX3_countFlaws_63 (by decide) rfl (fun c6 => ?_) (fun c6 => ?_)
              · exact absurd rfl c6
              · first | refine go_aload_n (i := 0) (pc' := 67) dX3_countFlaws_66 rfl rfl rfl ?_ | refine go_aloadX_n (i := 0) (pc' := 67) dX3_countFlaws_66 rfl rfl rfl ?_ | refine go_aload_nN (i := 0) (pc' := 67) dX3_countFlaws_66 rfl rfl rfl ?_
                refine go_getf (pc' := 70) dX3_countFlaws_67 rfl gf_LandBase_Keeper_12 k10 rfl ?_
                refine go_getf (pc' := 73) dX3_countFlaws_70 rfl gf_LandBase_Keeper_84 k11 rfl ?_
                first | refine go_aload_n (i := 0) (pc' := 74) dX3_countFlaws_73 rfl rfl rfl ?_ | refine go_aloadX_n (i := 0) (pc' := 74) dX3_countFlaws_73 rfl rfl rfl ?_ | refine go_aload_nN (i := 0) (pc' := 74) dX3_countFlaws_73 rfl rfl rfl ?_
                refine go_getf (pc' := 77) dX3_countFlaws_74 rfl gf_LandBase_Keeper_18 k10 rfl ?_
                refine go_getf (pc' := 80) dX3_countFlaws_77 rfl gf_LandBase_Keeper_84 k14 rfl ?_
                refine go_icmp_eq (pc' := 83) (tgt := 86) dX3_countFlaws_80 (by decide) rfl (fun c7 => ?_) (fun c7 => ?_)
                · refine go_iload_n (i := 1) (pc' := 87) dX3_countFlaws_86 rfl rfl rfl ?_
                  exact Go.ret (v := some (.int _)) dX3_countFlaws_87 ⟨_, rfl⟩ ⟨rfl,rfl,rfl⟩
                · exact absurd rfl c7
          · exact absurd (by decide) c4
  refine Ca.of rfl (Nat.le_of_ble_eq_true rfl) ?_
  first | refine go_aload_n (i := 0) (pc' := 1) dX10_flaws_0 rfl rfl rfl ?_ | refine go_aloadX_n (i := 0) (pc' := 1) dX10_flaws_0 rfl rfl rfl ?_ | refine go_aload_nN (i := 0) (pc' := 1) dX10_flaws_0 rfl rfl rfl ?_
  refine go_getf (pc' := 4) dX10_flaws_1 rfl gf_LandBase_26 k0 hfs ?_
  refine go_invV (As := []) (pc' := 7) dX10_flaws_4 rfl cf_X10_flaws_201 rfl k10 rfl rfl (Nat.le_of_ble_eq_true rfl) inner (fun v1 h1 q1 => ?_)
  obtain ⟨rfl, rfl⟩ := q1
  exact Go.ret (v := some (.int _)) dX10_flaws_7 ⟨_, rfl⟩ ⟨rfl,rfl,rfl⟩
set_option maxRecDepth 100000 in
theorem c_copy0 {G : xG} {h : xH} {a b : Nat} {x y x2 y2 : Value} (hz : h.1 = h.1) (hh : h.2 a = some (.inr (7, [x, y, .int 0]))) (ho : h.2 b = some (.inr (7, [x2, y2, .int 0]))) : Ca G mX8_copyFrom [.ref a, .ref b] h (fun v h' => v = none ∧ h'.1 = h.1 ∧ h'.2 a = some (.inr (7, [x, y, .int 0])) ∧ ∀ c, c ≠ a → h'.2 c = h.2 c) := by
  refine Ca.of rfl (Nat.le_of_ble_eq_true rfl) ?_
  refine go_iconst (v := 0) (pc' := 1) dX8_copyFrom_0 rfl (by decide) ?_
  refine go_istore_n (i := 2) (pc' := 2) dX8_copyFrom_1 rfl rfl (by decide) rfl ?_
  refine go_iload_n (i := 2) (pc' := 3) dX8_copyFrom_2 rfl rfl rfl ?_
  first | refine go_aload_n (i := 0) (pc' := 4) dX8_copyFrom_3 rfl rfl rfl ?_ | refine go_aloadX_n (i := 0) (pc' := 4) dX8_copyFrom_3 rfl rfl rfl ?_ | refine go_aload_nN (i := 0) (pc' := 4) dX8_copyFrom_3 rfl rfl rfl ?_
  refine go_getf (pc' := 7) dX8_copyFrom_4 rfl gf_LandBase_Table_21 hh rfl ?_
  refine go_icmp_ge (pc' := 10) (tgt := 31) dX8_copyFrom_7 (by decide) rfl (fun c1 => ?_) (fun c1 => ?_)
  · have hfr : ∀ b, (b ≠ a) → h.2 b = h.2 b := fun _ _ => rfl
    first | refine go_aload_n (i := 0) (pc' := 32) dX8_copyFrom_31 rfl rfl rfl ?_ | refine go_aloadX_n (i := 0) (pc' := 32) dX8_copyFrom_31 rfl rfl rfl ?_ | refine go_aload_nN (i := 0) (pc' := 32) dX8_copyFrom_31 rfl rfl rfl ?_
    first | refine go_aload_n (i := 1) (pc' := 33) dX8_copyFrom_32 rfl rfl rfl ?_ | refine go_aloadX_n (i := 1) (pc' := 33) dX8_copyFrom_32 rfl rfl rfl ?_ | refine go_aload_nN (i := 1) (pc' := 33) dX8_copyFrom_32 rfl rfl rfl ?_
    refine go_getf (pc' := 36) dX8_copyFrom_33 rfl gf_LandBase_Table_21 ho rfl ?_
    refine go_putfK (pc' := 39) dX8_copyFrom_36 rfl pf_LandBase_Table_21 (fun h => by cases h) hh (Nat.le_of_ble_eq_true rfl) rfl rfl (fun hp1 zp1 cp1 fp1 => ?_)
    dsimp only [List.set] at cp1
    have hz := zp1.trans hz
    have hfr : ∀ b, (b ≠ a) → hp1.2 b = h.2 b := fun b hb => (fp1 b (by omega)).trans (hfr b hb)
    have hh := cp1
    refine go_iconst (v := 0) (pc' := 40) dX8_copyFrom_39 rfl (by decide) ?_
    refine go_istore_n (i := 2) (pc' := 41) dX8_copyFrom_40 rfl rfl (by decide) rfl ?_
    refine go_iload_n (i := 2) (pc' := 42) dX8_copyFrom_41 rfl rfl rfl ?_
    first | refine go_aload_n (i := 0) (pc' := 43) dX8_copyFrom_42 rfl rfl rfl ?_ | refine go_aloadX_n (i := 0) (pc' := 43) dX8_copyFrom_42 rfl rfl rfl ?_ | refine go_aload_nN (i := 0) (pc' := 43) dX8_copyFrom_42 rfl rfl rfl ?_
    refine go_getf (pc' := 46) dX8_copyFrom_43 rfl gf_LandBase_Table_21 hh rfl ?_
    refine go_icmp_ge (pc' := 49) (tgt := 94) dX8_copyFrom_46 (by decide) rfl (fun c2 => ?_) (fun c2 => ?_)
    · exact Go.ret (v := none) dX8_copyFrom_94 rfl ⟨trivial,rfl,hz,hh,hfr⟩
    · exact absurd (by decide) c2
  · exact absurd (by decide) c1
set_option maxRecDepth 100000 in
theorem c_recover0 {G : xG} {h : xH} {fs : List Value} (hfs : fs[2]? = some (.ref 10)) {pd lg op dn by_ bl sv ck cl : Int32} {x y x2 y2 : Value} (k0 : h.2 0 = some (.inr (9, fs))) (k10 : h.2 10 = some (.inr (3, cKp pd lg op dn by_ bl sv ck cl))) (k11 : h.2 11 = some (.inr (7, [x, y, .int 0]))) (k14 : h.2 14 = some (.inr (7, [x2, y2, .int 0]))) : Ca G mX10_recover [.ref 0] h (fun v h' => v = some (.int 0) ∧ h'.1 = h.1 ∧ ∀ b, (b ≠ 10 ∧ b ≠ 11) → h'.2 b = h.2 b) := by
  have inner : Ca G mX3_restore [.ref 10] h (fun v h' => v = none ∧ h'.1 = h.1 ∧ h'.2 10 = some (.inr (3, cKp pd lg 0 0 by_ bl sv (-1) cl)) ∧ h'.2 11 = some (.inr (7, [x, y, .int 0])) ∧ ∀ b, (b ≠ 10 ∧ b ≠ 11) → h'.2 b = h.2 b) := by
    refine Ca.of rfl (Nat.le_of_ble_eq_true rfl) ?_
    first | refine go_aload_n (i := 0) (pc' := 1) dX3_restore_0 rfl rfl rfl ?_ | refine go_aloadX_n (i := 0) (pc' := 1) dX3_restore_0 rfl rfl rfl ?_ | refine go_aload_nN (i := 0) (pc' := 1) dX3_restore_0 rfl rfl rfl ?_
    refine go_getf (pc' := 4) dX3_restore_1 rfl gf_LandBase_Keeper_12 k10 rfl ?_
    first | refine go_aload_n (i := 0) (pc' := 5) dX3_restore_4 rfl rfl rfl ?_ | refine go_aloadX_n (i := 0) (pc' := 5) dX3_restore_4 rfl rfl rfl ?_ | refine go_aload_nN (i := 0) (pc' := 5) dX3_restore_4 rfl rfl rfl ?_
    refine go_getf (pc' := 8) dX3_restore_5 rfl gf_LandBase_Keeper_18 k10 rfl ?_
    refine go_invV (As := [_]) (pc' := 11) dX3_restore_8 rfl cf_X3_restore_65 rfl k11 rfl rfl (Nat.le_of_ble_eq_true rfl) (c_copy0 rfl k11 k14) (fun v1 h1 q1 => ?_)
    obtain ⟨rfl, hz, k11, f1⟩ := q1
    have k10 := (f1 _ (by omega)).trans k10
    have hfr : ∀ b, (b ≠ 10 ∧ b ≠ 11) → h1.2 b = h1.2 b := fun _ _ => rfl
    first | refine go_aload_n (i := 0) (pc' := 12) dX3_restore_11 rfl rfl rfl ?_ | refine go_aloadX_n (i := 0) (pc' := 12) dX3_restore_11 rfl rfl rfl ?_ | refine go_aload_nN (i := 0) (pc' := 12) dX3_restore_11 rfl rfl rfl ?_
    refine go_iconst (v := 0) (pc' := 13) dX3_restore_12 rfl (by decide) ?_
    refine go_putfK (pc' := 16) dX3_restore_13 rfl pf_LandBase_Keeper_41 (fun h => by cases h) k10 (Nat.le_of_ble_eq_true rfl) rfl rfl (fun hp2 zp2 cp2 fp2 => ?_)
    dsimp only [List.set] at cp2
    have hz := zp2.trans hz
    have k11 := (fp2 _ (by omega)).trans k11
    have hfr : ∀ b, (b ≠ 10 ∧ b ≠ 11) → hp2.2 b = h1.2 b := fun b hb => (fp2 b (by omega)).trans (hfr b hb)
    have k10 := cp2
    first | refine go_aload_n (i := 0) (pc' := 17) dX3_restore_16 rfl rfl rfl ?_ | refine go_aloadX_n (i := 0) (pc' := 17) dX3_restore_16 rfl rfl rfl ?_ | refine go_aload_nN (i := 0) (pc' := 17) dX3_restore_16 rfl rfl rfl ?_
    refine go_iconst (v := 0) (pc' := 18) dX3_restore_17 rfl (by decide) ?_
    refine go_putfK (pc' := 21) dX3_restore_18 rfl pf_LandBase_Keeper_75 (fun h => by cases h) k10 (Nat.le_of_ble_eq_true rfl) rfl rfl (fun hp3 zp3 cp3 fp3 => ?_)
    dsimp only [List.set] at cp3
    have hz := zp3.trans hz
    have k11 := (fp3 _ (by omega)).trans k11
    have hfr : ∀ b, (b ≠ 10 ∧ b ≠ 11) → hp3.2 b = h1.2 b := fun b hb => (fp3 b (by omega)).trans (hfr b hb)
    have k10 := cp3
    first | refine go_aload_n (i := 0) (pc' := 22) dX3_restore_21 rfl rfl rfl ?_ | refine go_aloadX_n (i := 0) (pc' := 22) dX3_restore_21 rfl rfl rfl ?_ | refine go_aload_nN (i := 0) (pc' := 22) dX3_restore_21 rfl rfl rfl ?_
    refine go_iconst (v := (-1)) (pc' := 23) dX3_restore_22 rfl (by decide) ?_
    refine go_putfK (pc' := 26) dX3_restore_23 rfl pf_LandBase_Keeper_27 (fun h => by cases h) k10 (Nat.le_of_ble_eq_true rfl) rfl rfl (fun hp4 zp4 cp4 fp4 => ?_)
    dsimp only [List.set] at cp4
    have hz := zp4.trans hz
    have k11 := (fp4 _ (by omega)).trans k11
    have hfr : ∀ b, (b ≠ 10 ∧ b ≠ 11) → hp4.2 b = h1.2 b := fun b hb => (fp4 b (by omega)).trans (hfr b hb)
    have k10 := cp4
    exact Go.ret (v := none) dX3_restore_26 rfl ⟨trivial,rfl,hz,k10,k11,(fun b hb => (hfr b hb).trans (f1 b hb.2))⟩
  refine Ca.of rfl (Nat.le_of_ble_eq_true rfl) ?_
  first | refine go_aload_n (i := 0) (pc' := 1) dX10_recover_0 rfl rfl rfl ?_ | refine go_aloadX_n (i := 0) (pc' := 1) dX10_recover_0 rfl rfl rfl ?_ | refine go_aload_nN (i := 0) (pc' := 1) dX10_recover_0 rfl rfl rfl ?_
  refine go_getf (pc' := 4) dX10_recover_1 rfl gf_LandBase_26 k0 hfs ?_
  refine go_invV (As := []) (pc' := 7) dX10_recover_4 rfl cf_X10_recover_142 rfl k10 rfl rfl (Nat.le_of_ble_eq_true rfl) inner (fun v1 h1 q1 => ?_)
  obtain ⟨rfl, hz, k10, k11, f1⟩ := q1
  have k0 := (f1 _ (by omega)).trans k0
  first | refine go_aload_n (i := 0) (pc' := 8) dX10_recover_7 rfl rfl rfl ?_ | refine go_aloadX_n (i := 0) (pc' := 8) dX10_recover_7 rfl rfl rfl ?_ | refine go_aload_nN (i := 0) (pc' := 8) dX10_recover_7 rfl rfl rfl ?_
  refine go_getf (pc' := 11) dX10_recover_8 rfl gf_LandBase_26 k0 hfs ?_
  refine go_getf (pc' := 14) dX10_recover_11 rfl gf_LandBase_145 k10 rfl ?_
  refine go_getf (pc' := 17) dX10_recover_14 rfl gf_LandBase_149 k11 rfl ?_
  exact Go.ret (v := some (.int _)) dX10_recover_17 ⟨_, rfl⟩ ⟨rfl,rfl,hz,f1⟩
set_option maxRecDepth 100000 in
theorem c_advance0 {G : xG} {h : xH} {a b d : Int32} (hz : h.1 = h.1) (k1 : h.2 1 = some (.inr (8, cTp 0 a b 0 d))) : Ca G mX9_advance [.ref 1] h (fun v h' => v = none ∧ h'.1 = h.1 ∧ h'.2 1 = some (.inr (8, cTp 0 0 0 0 d)) ∧ ∀ c, c ≠ 1 → h'.2 c = h.2 c) := by
  refine Ca.of rfl (Nat.le_of_ble_eq_true rfl) ?_
  first | refine go_aload_n (i := 0) (pc' := 1) dX9_advance_0 rfl rfl rfl ?_ | refine go_aloadX_n (i := 0) (pc' := 1) dX9_advance_0 rfl rfl rfl ?_ | refine go_aload_nN (i := 0) (pc' := 1) dX9_advance_0 rfl rfl rfl ?_
  refine go_getf (pc' := 4) dX9_advance_1 rfl gf_LandBase_Tape_19 k1 rfl ?_
  refine go_istore_n (i := 1) (pc' := 5) dX9_advance_4 rfl rfl (by decide) rfl ?_
  refine go_iload_n (i := 1) (pc' := 6) dX9_advance_5 rfl rfl rfl ?_
  first | refine go_aload_n (i := 0) (pc' := 7) dX9_advance_6 rfl rfl rfl ?_ | refine go_aloadX_n (i := 0) (pc' := 7) dX9_advance_6 rfl rfl rfl ?_ | refine go_aload_nN (i := 0) (pc' := 7) dX9_advance_6 rfl rfl rfl ?_
  refine go_getf (pc' := 10) dX9_advance_7 rfl gf_LandBase_Tape_15 k1 rfl ?_
  refine go_icmp_ge (pc' := 13) (tgt := 41) dX9_advance_10 (by decide) rfl (fun c1 => ?_) (fun c1 => ?_)
  · have hfr : ∀ b, (b ≠ 1) → h.2 b = h.2 b := fun _ _ => rfl
    first | refine go_aload_n (i := 0) (pc' := 42) dX9_advance_41 rfl rfl rfl ?_ | refine go_aloadX_n (i := 0) (pc' := 42) dX9_advance_41 rfl rfl rfl ?_ | refine go_aload_nN (i := 0) (pc' := 42) dX9_advance_41 rfl rfl rfl ?_
    refine go_iload_n (i := 1) (pc' := 43) dX9_advance_42 rfl rfl rfl ?_
    refine go_putfK (pc' := 46) dX9_advance_43 rfl pf_LandBase_Tape_25 (fun h => by cases h) k1 (Nat.le_of_ble_eq_true rfl) rfl rfl (fun hp1 zp1 cp1 fp1 => ?_)
    dsimp only [List.set] at cp1
    have hz := zp1.trans hz
    have hfr : ∀ b, (b ≠ 1) → hp1.2 b = h.2 b := fun b hb => (fp1 b (by omega)).trans (hfr b hb)
    have k1 := cp1
    first | refine go_aload_n (i := 0) (pc' := 47) dX9_advance_46 rfl rfl rfl ?_ | refine go_aloadX_n (i := 0) (pc' := 47) dX9_advance_46 rfl rfl rfl ?_ | refine go_aload_nN (i := 0) (pc' := 47) dX9_advance_46 rfl rfl rfl ?_
    refine go_iload_n (i := 1) (pc' := 48) dX9_advance_47 rfl rfl rfl ?_
    refine go_putfK (pc' := 51) dX9_advance_48 rfl pf_LandBase_Tape_19 (fun h => by cases h) k1 (Nat.le_of_ble_eq_true rfl) rfl rfl (fun hp2 zp2 cp2 fp2 => ?_)
    dsimp only [List.set] at cp2
    have hz := zp2.trans hz
    have hfr : ∀ b, (b ≠ 1) → hp2.2 b = h.2 b := fun b hb => (fp2 b (by omega)).trans (hfr b hb)
    have k1 := cp2
    refine go_iload_n (i := 1) (pc' := 52) dX9_advance_51 rfl rfl rfl ?_
    first | refine go_aload_n (i := 0) (pc' := 53) dX9_advance_52 rfl rfl rfl ?_ | refine go_aloadX_n (i := 0) (pc' := 53) dX9_advance_52 rfl rfl rfl ?_ | refine go_aload_nN (i := 0) (pc' := 53) dX9_advance_52 rfl rfl rfl ?_
    refine go_getf (pc' := 56) dX9_advance_53 rfl gf_LandBase_Tape_15 k1 rfl ?_
    refine go_icmp_lt (pc' := 59) (tgt := 67) dX9_advance_56 (by decide) rfl (fun c2 => ?_) (fun c2 => ?_)
    · exact absurd c2 (by decide)
    · first | refine go_aload_n (i := 0) (pc' := 60) dX9_advance_59 rfl rfl rfl ?_ | refine go_aloadX_n (i := 0) (pc' := 60) dX9_advance_59 rfl rfl rfl ?_ | refine go_aload_nN (i := 0) (pc' := 60) dX9_advance_59 rfl rfl rfl ?_
      refine go_iconst (v := 0) (pc' := 61) dX9_advance_60 rfl (by decide) ?_
      refine go_putfK (pc' := 64) dX9_advance_61 rfl pf_LandBase_Tape_28 (fun h => by cases h) k1 (Nat.le_of_ble_eq_true rfl) rfl rfl (fun hp3 zp3 cp3 fp3 => ?_)
      dsimp only [List.set] at cp3
      have hz := zp3.trans hz
      have hfr : ∀ b, (b ≠ 1) → hp3.2 b = h.2 b := fun b hb => (fp3 b (by omega)).trans (hfr b hb)
      have k1 := cp3
      refine go_goto (pc' := 0) (tgt := 206) dX9_advance_64 (by decide) ?_
      exact Go.ret (v := none) dX9_advance_206 rfl ⟨trivial,rfl,hz,k1,hfr⟩
  · exact absurd (by decide) c1
set_option maxRecDepth 100000 in
theorem c_run0 {G : xG} {h : xH} {ic off wa pd lg op by_ bl sv ck cl a b c d : Int32} (k0 : h.2 0 = some (.inr (9, cO ic off wa))) (k10 : h.2 10 = some (.inr (3, cKp pd lg op 0 by_ bl sv ck cl))) (k1 : h.2 1 = some (.inr (8, cTp 0 a b c d))) : Ca G mX10_run [.ref 0] h (fun v h' => v = some (.int 0) ∧ h'.1 = h.1 ∧ (∃ fs, h'.2 0 = some (.inr (9, fs))) ∧ ∀ b, (b ≠ 0 ∧ b ≠ 1) → h'.2 b = h.2 b) := by
  refine Ca.of rfl (Nat.le_of_ble_eq_true rfl) ?_
  have hz : h.1 = h.1 := rfl
  first | refine go_aload_n (i := 0) (pc' := 1) dX10_run_0 rfl rfl rfl ?_ | refine go_aloadX_n (i := 0) (pc' := 1) dX10_run_0 rfl rfl rfl ?_ | refine go_aload_nN (i := 0) (pc' := 1) dX10_run_0 rfl rfl rfl ?_
  refine go_getf (pc' := 4) dX10_run_1 rfl gf_LandBase_26 k0 rfl ?_
  refine go_getf (pc' := 7) dX10_run_4 rfl gf_LandBase_80 k10 rfl ?_
  refine go_if_eq (pc' := 10) (tgt := 12) dX10_run_7 (by decide) rfl (fun c1 => ?_) (fun c1 => ?_)
  · have hfr : ∀ b, (b ≠ 0 ∧ b ≠ 1) → h.2 b = h.2 b := fun _ _ => rfl
    first | refine go_aload_n (i := 0) (pc' := 13) dX10_run_12 rfl rfl rfl ?_ | refine go_aloadX_n (i := 0) (pc' := 13) dX10_run_12 rfl rfl rfl ?_ | refine go_aload_nN (i := 0) (pc' := 13) dX10_run_12 rfl rfl rfl ?_
    refine go_iconst (v := 0) (pc' := 14) dX10_run_13 rfl (by decide) ?_
    refine go_putfK (pc' := 17) dX10_run_14 rfl pf_LandBase_63 (fun h => by cases h) k0 (Nat.le_of_ble_eq_true rfl) rfl rfl (fun hp1 zp1 cp1 fp1 => ?_)
    dsimp only [List.set] at cp1
    have hz := zp1.trans hz
    have k1 := (fp1 _ (by omega)).trans k1
    have k10 := (fp1 _ (by omega)).trans k10
    have hfr : ∀ b, (b ≠ 0 ∧ b ≠ 1) → hp1.2 b = h.2 b := fun b hb => (fp1 b (by omega)).trans (hfr b hb)
    have k0 := cp1
    first | refine go_aload_n (i := 0) (pc' := 18) dX10_run_17 rfl rfl rfl ?_ | refine go_aloadX_n (i := 0) (pc' := 18) dX10_run_17 rfl rfl rfl ?_ | refine go_aload_nN (i := 0) (pc' := 18) dX10_run_17 rfl rfl rfl ?_
    refine go_iconst (v := (-1)) (pc' := 19) dX10_run_18 rfl (by decide) ?_
    refine go_putfK (pc' := 22) dX10_run_19 rfl pf_LandBase_70 (fun h => by cases h) k0 (Nat.le_of_ble_eq_true rfl) rfl rfl (fun hp2 zp2 cp2 fp2 => ?_)
    dsimp only [List.set] at cp2
    have hz := zp2.trans hz
    have k1 := (fp2 _ (by omega)).trans k1
    have k10 := (fp2 _ (by omega)).trans k10
    have hfr : ∀ b, (b ≠ 0 ∧ b ≠ 1) → hp2.2 b = h.2 b := fun b hb => (fp2 b (by omega)).trans (hfr b hb)
    have k0 := cp2
    refine go_iconst (v := 0) (pc' := 23) dX10_run_22 rfl (by decide) ?_
    refine go_istore_n (i := 1) (pc' := 24) dX10_run_23 rfl rfl (by decide) rfl ?_
    first | refine go_aload_n (i := 0) (pc' := 25) dX10_run_24 rfl rfl rfl ?_ | refine go_aloadX_n (i := 0) (pc' := 25) dX10_run_24 rfl rfl rfl ?_ | refine go_aload_nN (i := 0) (pc' := 25) dX10_run_24 rfl rfl rfl ?_
    refine go_getf (pc' := 28) dX10_run_25 rfl gf_LandBase_10 k0 rfl ?_
    have rw0 : Ca G mX9_rewind [.ref 1] hp2 (fun v h' => v = none ∧ h'.1 = hp2.1 ∧ h'.2 1 = some (.inr (8, cTp 0 0 0 0 d)) ∧ ∀ c, c ≠ 1 → h'.2 c = hp2.2 c) := by
      refine Ca.of rfl (Nat.le_of_ble_eq_true rfl) ?_
      have hz : hp2.1 = hp2.1 := rfl
      have hfr : ∀ b, (b ≠ 1) → hp2.2 b = hp2.2 b := fun _ _ => rfl
      first | refine go_aload_n (i := 0) (pc' := 1) dX9_rewind_0 rfl rfl rfl ?_ | refine go_aloadX_n (i := 0) (pc' := 1) dX9_rewind_0 rfl rfl rfl ?_ | refine go_aload_nN (i := 0) (pc' := 1) dX9_rewind_0 rfl rfl rfl ?_
      refine go_iconst (v := 0) (pc' := 2) dX9_rewind_1 rfl (by decide) ?_
      refine go_putfK (pc' := 5) dX9_rewind_2 rfl pf_LandBase_Tape_19 (fun h => by cases h) k1 (Nat.le_of_ble_eq_true rfl) rfl rfl (fun hp11 zp11 cp11 fp11 => ?_)
      dsimp only [List.set] at cp11
      have hz := zp11.trans hz
      have hfr : ∀ b, (b ≠ 1) → hp11.2 b = hp2.2 b := fun b hb => (fp11 b (by omega)).trans (hfr b hb)
      have k1 := cp11
      first | refine go_aload_n (i := 0) (pc' := 6) dX9_rewind_5 rfl rfl rfl ?_ | refine go_aloadX_n (i := 0) (pc' := 6) dX9_rewind_5 rfl rfl rfl ?_ | refine go_aload_nN (i := 0) (pc' := 6) dX9_rewind_5 rfl rfl rfl ?_
      refine go_invV (As := []) (pc' := 9) dX9_rewind_6 rfl cf_X9_rewind_22 rfl k1 rfl rfl (Nat.le_of_ble_eq_true rfl) (c_advance0 rfl k1) (fun v5 h5 q5 => ?_)
      obtain ⟨rfl, z5, k1, f5⟩ := q5
      exact Go.ret (v := none) dX9_rewind_9 rfl ⟨trivial,rfl,(z5.trans hz),k1,(fun b hb => (f5 b hb).trans (hfr b hb))⟩
    refine go_invV (As := []) (pc' := 31) dX10_run_28 rfl cf_X10_run_84 rfl k1 rfl rfl (Nat.le_of_ble_eq_true rfl) rw0 (fun v6 h6 q6 => ?_)
    obtain ⟨rfl, z6, k1, f6⟩ := q6
    have k0 := (f6 _ (by omega)).trans k0
    refine go_iload_n (i := 1) (pc' := 32) dX10_run_31 rfl rfl rfl ?_
    refine go_sipush (v := 4000) (pc' := 35) dX10_run_32 rfl (by decide) ?_
    refine go_icmp_ge (pc' := 38) (tgt := 254) dX10_run_35 (by decide) rfl (fun c2 => ?_) (fun c2 => ?_)
    · exact absurd c2 (by decide)
    · first | refine go_aload_n (i := 0) (pc' := 39) dX10_run_38 rfl rfl rfl ?_ | refine go_aloadX_n (i := 0) (pc' := 39) dX10_run_38 rfl rfl rfl ?_ | refine go_aload_nN (i := 0) (pc' := 39) dX10_run_38 rfl rfl rfl ?_
      refine go_getf (pc' := 42) dX10_run_39 rfl gf_LandBase_10 k0 rfl ?_
      refine go_getf (pc' := 45) dX10_run_42 rfl gf_LandBase_87 k1 rfl ?_
      refine go_if_eq (pc' := 48) (tgt := 254) dX10_run_45 (by decide) rfl (fun c3 => ?_) (fun c3 => ?_)
      · first | refine go_aload_n (i := 0) (pc' := 255) dX10_run_254 rfl rfl rfl ?_ | refine go_aloadX_n (i := 0) (pc' := 255) dX10_run_254 rfl rfl rfl ?_ | refine go_aload_nN (i := 0) (pc' := 255) dX10_run_254 rfl rfl rfl ?_
        refine go_getf (pc' := 258) dX10_run_255 rfl gf_LandBase_10 k0 rfl ?_
        have cl0 : Ca G mX9_clear [.ref 1] h6 (fun v h' => v = none ∧ h'.1 = h6.1 ∧ ∀ c, c ≠ 1 → h'.2 c = h6.2 c) := by
          refine Ca.of rfl (Nat.le_of_ble_eq_true rfl) ?_
          have hz : h6.1 = h6.1 := rfl
          have hfr : ∀ b, (b ≠ 1) → h6.2 b = h6.2 b := fun _ _ => rfl
          first | refine go_aload_n (i := 0) (pc' := 1) dX9_clear_0 rfl rfl rfl ?_ | refine go_aloadX_n (i := 0) (pc' := 1) dX9_clear_0 rfl rfl rfl ?_ | refine go_aload_nN (i := 0) (pc' := 1) dX9_clear_0 rfl rfl rfl ?_
          refine go_iconst (v := 0) (pc' := 2) dX9_clear_1 rfl (by decide) ?_
          refine go_putfK (pc' := 5) dX9_clear_2 rfl pf_LandBase_Tape_15 (fun h => by cases h) k1 (Nat.le_of_ble_eq_true rfl) rfl rfl (fun hp21 zp21 cp21 fp21 => ?_)
          dsimp only [List.set] at cp21
          have hz := zp21.trans hz
          have hfr : ∀ b, (b ≠ 1) → hp21.2 b = h6.2 b := fun b hb => (fp21 b (by omega)).trans (hfr b hb)
          have k1 := cp21
          exact Go.ret (v := none) dX9_clear_5 rfl ⟨trivial,rfl,hz,hfr⟩
        refine go_invV (As := []) (pc' := 261) dX10_run_258 rfl cf_X10_run_133 rfl k1 rfl rfl (Nat.le_of_ble_eq_true rfl) cl0 (fun v7 h7 q7 => ?_)
        obtain ⟨rfl, z7, f7⟩ := q7
        refine go_iload_n (i := 1) (pc' := 262) dX10_run_261 rfl rfl rfl ?_
        exact Go.ret (v := some (.int _)) dX10_run_262 ⟨_, rfl⟩ ⟨rfl,rfl,(z7.trans (z6.trans hz)),⟨_,((f7 0 (by omega)).trans k0)⟩,(fun b hb => (f7 b hb.2).trans ((f6 b hb.2).trans (hfr b hb)))⟩
      · exact absurd rfl c3
  · exact absurd rfl c1
/-! the reference's -/
set_option maxRecDepth 100000 in
theorem r_find0 {G : xG} {h : xH} {a : Nat} {x : Value} {id : Int32} (hh : h.2 a = some (.inr (12, [x, .int 0]))) : Ca G mX13_find [.ref a, .int id] h (fun v h' => v = some (.int (-1)) ∧ h' = h) := by
  refine Ca.of rfl (Nat.le_of_ble_eq_true rfl) ?_
  refine go_iconst (v := 0) (pc' := 1) dX13_find_0 rfl (by decide) ?_
  refine go_istore_n (i := 2) (pc' := 2) dX13_find_1 rfl rfl (by decide) rfl ?_
  refine go_iload_n (i := 2) (pc' := 3) dX13_find_2 rfl rfl rfl ?_
  first | refine go_aload_n (i := 0) (pc' := 4) dX13_find_3 rfl rfl rfl ?_ | refine go_aloadX_n (i := 0) (pc' := 4) dX13_find_3 rfl rfl rfl ?_ | refine go_aload_nN (i := 0) (pc' := 4) dX13_find_3 rfl rfl rfl ?_
  refine go_getf (pc' := 7) dX13_find_4 rfl gf_LandBaseModel_State_18 hh rfl ?_
  refine go_icmp_ge (pc' := 10) (tgt := 31) dX13_find_7 (by decide) rfl (fun c1 => ?_) (fun c1 => ?_)
  · refine go_iconst (v := (-1)) (pc' := 32) dX13_find_31 rfl (by decide) ?_
    exact Go.ret (v := some (.int _)) dX13_find_32 ⟨_, rfl⟩ ⟨rfl,rfl,rfl⟩
  · exact absurd (by decide) c1
set_option maxRecDepth 100000 in
theorem r_standing0 {G : xG} {h : xH} {F : Nat → Value} {x : Value} {id : Int32} (hM : h.2 233 = some (.inr (13, mkF F 58))) (hd : F 33 = .int 0) (hl : F 30 = .ref 259) (hs : h.2 259 = some (.inr (12, [x, .int 0]))) : Ca G mX14_standing [.ref 233, .int id] h (fun v h' => v = some (.int (-1)) ∧ h' = h) := by
  refine Ca.of rfl (Nat.le_of_ble_eq_true rfl) ?_
  first | refine go_aload_n (i := 0) (pc' := 1) dX14_standing_0 rfl rfl rfl ?_ | refine go_aloadX_n (i := 0) (pc' := 1) dX14_standing_0 rfl rfl rfl ?_ | refine go_aload_nN (i := 0) (pc' := 1) dX14_standing_0 rfl rfl rfl ?_
  refine go_getfF (pc' := 4) dX14_standing_1 rfl gf_LandBaseModel_318 hM (by decide) hd ?_
  refine go_if_eq (pc' := 7) (tgt := 11) dX14_standing_4 (by decide) rfl (fun c1 => ?_) (fun c1 => ?_)
  · first | refine go_aload_n (i := 0) (pc' := 12) dX14_standing_11 rfl rfl rfl ?_ | refine go_aloadX_n (i := 0) (pc' := 12) dX14_standing_11 rfl rfl rfl ?_ | refine go_aload_nN (i := 0) (pc' := 12) dX14_standing_11 rfl rfl rfl ?_
    refine go_getfF (pc' := 15) dX14_standing_12 rfl gf_LandBaseModel_351 hM (by decide) hl ?_
    refine go_iload_n (i := 1) (pc' := 16) dX14_standing_15 rfl rfl rfl ?_
    refine go_invV (As := [_]) (pc' := 19) dX14_standing_16 rfl cf_X14_standing_573 rfl hs rfl rfl (Nat.le_of_ble_eq_true rfl) (r_find0 hs) (fun v1 h1 q1 => ?_)
    obtain ⟨rfl, rfl⟩ := q1
    exact Go.ret (v := some (.int _)) dX14_standing_19 ⟨_, rfl⟩ ⟨rfl,rfl,rfl⟩
  · exact absurd rfl c1
set_option maxRecDepth 100000 in
theorem r_kindOf0 {G : xG} {h : xH} {id : Int32} {fs : List Value} (hM : h.2 233 = some (.inr (13, fs))) (hS : Ca G mX14_standing [.ref 233, .int id] h (fun v h' => v = some (.int (-1)) ∧ h' = h)) : Ca G mX14_kindOf [.ref 233, .int id] h (fun v h' => v = some (.int (-1)) ∧ h' = h) := by
  refine Ca.of rfl (Nat.le_of_ble_eq_true rfl) ?_
  first | refine go_aload_n (i := 0) (pc' := 1) dX14_kindOf_0 rfl rfl rfl ?_ | refine go_aloadX_n (i := 0) (pc' := 1) dX14_kindOf_0 rfl rfl rfl ?_ | refine go_aload_nN (i := 0) (pc' := 1) dX14_kindOf_0 rfl rfl rfl ?_
  refine go_iload_n (i := 1) (pc' := 2) dX14_kindOf_1 rfl rfl rfl ?_
  refine go_invV (As := [_]) (pc' := 5) dX14_kindOf_2 rfl cf_X14_kindOf_650 rfl hM rfl rfl (Nat.le_of_ble_eq_true rfl) hS (fun v1 h1 q1 => ?_)
  obtain ⟨rfl, rfl⟩ := q1
  refine go_istore_n (i := 2) (pc' := 6) dX14_kindOf_5 rfl rfl (by decide) rfl ?_
  refine go_iload_n (i := 2) (pc' := 7) dX14_kindOf_6 rfl rfl rfl ?_
  refine go_if_ge (pc' := 10) (tgt := 14) dX14_kindOf_7 (by decide) rfl (fun c1 => ?_) (fun c1 => ?_)
  · exact absurd c1 (by decide)
  · refine go_iconst (v := (-1)) (pc' := 11) dX14_kindOf_10 rfl (by decide) ?_
    refine go_goto (pc' := 0) (tgt := 26) dX14_kindOf_11 (by decide) ?_
    exact Go.ret (v := some (.int _)) dX14_kindOf_26 ⟨_, rfl⟩ ⟨rfl,rfl,rfl⟩
set_option maxRecDepth 100000 in
theorem r_places0 {G : xG} {h : xH} {id : Int32} {fs : List Value} (hM : h.2 233 = some (.inr (13, fs))) (hS : Ca G mX14_standing [.ref 233, .int id] h (fun v h' => v = some (.int (-1)) ∧ h' = h)) : Ca G mX14_places [.ref 233, .int id] h (fun v h' => v = some (.int (-1)) ∧ h' = h) := by
  refine Ca.of rfl (Nat.le_of_ble_eq_true rfl) ?_
  first | refine go_aload_n (i := 0) (pc' := 1) dX14_places_0 rfl rfl rfl ?_ | refine go_aloadX_n (i := 0) (pc' := 1) dX14_places_0 rfl rfl rfl ?_ | refine go_aload_nN (i := 0) (pc' := 1) dX14_places_0 rfl rfl rfl ?_
  refine go_iload_n (i := 1) (pc' := 2) dX14_places_1 rfl rfl rfl ?_
  refine go_invV (As := [_]) (pc' := 5) dX14_places_2 rfl cf_X14_places_650 rfl hM rfl rfl (Nat.le_of_ble_eq_true rfl) hS (fun v1 h1 q1 => ?_)
  obtain ⟨rfl, rfl⟩ := q1
  refine go_istore_n (i := 2) (pc' := 6) dX14_places_5 rfl rfl (by decide) rfl ?_
  refine go_iload_n (i := 2) (pc' := 7) dX14_places_6 rfl rfl rfl ?_
  refine go_if_ge (pc' := 10) (tgt := 14) dX14_places_7 (by decide) rfl (fun c1 => ?_) (fun c1 => ?_)
  · exact absurd c1 (by decide)
  · refine go_iconst (v := (-1)) (pc' := 11) dX14_places_10 rfl (by decide) ?_
    refine go_goto (pc' := 0) (tgt := 26) dX14_places_11 (by decide) ?_
    exact Go.ret (v := some (.int _)) dX14_places_26 ⟨_, rfl⟩ ⟨rfl,rfl,rfl⟩
set_option maxRecDepth 100000 in
theorem r_rings0 {G : xG} {h : xH} {id : Int32} {fs : List Value} (hM : h.2 233 = some (.inr (13, fs))) (hS : Ca G mX14_standing [.ref 233, .int id] h (fun v h' => v = some (.int (-1)) ∧ h' = h)) : Ca G mX14_rings [.ref 233, .int id] h (fun v h' => v = some (.int (-1)) ∧ h' = h) := by
  refine Ca.of rfl (Nat.le_of_ble_eq_true rfl) ?_
  first | refine go_aload_n (i := 0) (pc' := 1) dX14_rings_0 rfl rfl rfl ?_ | refine go_aloadX_n (i := 0) (pc' := 1) dX14_rings_0 rfl rfl rfl ?_ | refine go_aload_nN (i := 0) (pc' := 1) dX14_rings_0 rfl rfl rfl ?_
  refine go_iload_n (i := 1) (pc' := 2) dX14_rings_1 rfl rfl rfl ?_
  refine go_invV (As := [_]) (pc' := 5) dX14_rings_2 rfl cf_X14_rings_650 rfl hM rfl rfl (Nat.le_of_ble_eq_true rfl) hS (fun v1 h1 q1 => ?_)
  obtain ⟨rfl, rfl⟩ := q1
  refine go_istore_n (i := 2) (pc' := 6) dX14_rings_5 rfl rfl (by decide) rfl ?_
  refine go_iload_n (i := 2) (pc' := 7) dX14_rings_6 rfl rfl rfl ?_
  refine go_if_ge (pc' := 10) (tgt := 14) dX14_rings_7 (by decide) rfl (fun c1 => ?_) (fun c1 => ?_)
  · exact absurd c1 (by decide)
  · refine go_iconst (v := (-1)) (pc' := 11) dX14_rings_10 rfl (by decide) ?_
    refine go_goto (pc' := 0) (tgt := 26) dX14_rings_11 (by decide) ?_
    exact Go.ret (v := some (.int _)) dX14_rings_26 ⟨_, rfl⟩ ⟨rfl,rfl,rfl⟩
set_option maxRecDepth 100000 in
theorem r_at0 {G : xG} {h : xH} {i j p : Int32} {fs : List Value} (hM : h.2 233 = some (.inr (13, fs))) (hS : Ca G mX14_standing [.ref 233, .int i] h (fun v h' => v = some (.int (-1)) ∧ h' = h)) : Ca G mX14_at [.ref 233, .int i, .int j, .int p] h (fun v h' => v = some (.int 0) ∧ h' = h) := by
  refine Ca.of rfl (Nat.le_of_ble_eq_true rfl) ?_
  first | refine go_aload_n (i := 0) (pc' := 1) dX14_at_0 rfl rfl rfl ?_ | refine go_aloadX_n (i := 0) (pc' := 1) dX14_at_0 rfl rfl rfl ?_ | refine go_aload_nN (i := 0) (pc' := 1) dX14_at_0 rfl rfl rfl ?_
  refine go_iload_n (i := 1) (pc' := 2) dX14_at_1 rfl rfl rfl ?_
  refine go_invV (As := [_]) (pc' := 5) dX14_at_2 rfl cf_X14_at_650 rfl hM rfl rfl (Nat.le_of_ble_eq_true rfl) hS (fun v1 h1 q1 => ?_)
  obtain ⟨rfl, rfl⟩ := q1
  refine go_istore (pc' := 7) dX14_at_5 rfl (by decide) rfl ?_
  refine go_iload (pc' := 9) dX14_at_7 rfl rfl ?_
  refine go_if_lt (pc' := 12) (tgt := 42) dX14_at_9 (by decide) rfl (fun c1 => ?_) (fun c1 => ?_)
  · refine go_iconst (v := 0) (pc' := 43) dX14_at_42 rfl (by decide) ?_
    exact Go.ret (v := some (.int _)) dX14_at_43 ⟨_, rfl⟩ ⟨rfl,rfl,rfl⟩
  · exact absurd (by decide) c1
set_option maxRecDepth 100000 in
theorem r_relate0 {G : xG} {h : xH} {r a b : Int32} {fs : List Value} (hM : h.2 233 = some (.inr (13, fs))) (hS : ∀ i, Ca G mX14_standing [.ref 233, .int i] h (fun v h' => v = some (.int (-1)) ∧ h' = h)) : Ca G mX14_relate [.ref 233, .int r, .int a, .int b] h (fun v h' => v = some (.int (-1)) ∧ h' = h) := by
  refine Ca.of rfl (Nat.le_of_ble_eq_true rfl) ?_
  first | refine go_aload_n (i := 0) (pc' := 1) dX14_relate_0 rfl rfl rfl ?_ | refine go_aloadX_n (i := 0) (pc' := 1) dX14_relate_0 rfl rfl rfl ?_ | refine go_aload_nN (i := 0) (pc' := 1) dX14_relate_0 rfl rfl rfl ?_
  refine go_iload_n (i := 2) (pc' := 2) dX14_relate_1 rfl rfl rfl ?_
  refine go_invV (As := [_]) (pc' := 5) dX14_relate_2 rfl cf_X14_relate_650 rfl hM rfl rfl (Nat.le_of_ble_eq_true rfl) (hS _) (fun v1 h1 q1 => ?_)
  obtain ⟨rfl, rfl⟩ := q1
  refine go_istore (pc' := 7) dX14_relate_5 rfl (by decide) rfl ?_
  first | refine go_aload_n (i := 0) (pc' := 8) dX14_relate_7 rfl rfl rfl ?_ | refine go_aloadX_n (i := 0) (pc' := 8) dX14_relate_7 rfl rfl rfl ?_ | refine go_aload_nN (i := 0) (pc' := 8) dX14_relate_7 rfl rfl rfl ?_
  refine go_iload_n (i := 3) (pc' := 9) dX14_relate_8 rfl rfl rfl ?_
  refine go_invV (As := [_]) (pc' := 12) dX14_relate_9 rfl cf_X14_relate_650 rfl hM rfl rfl (Nat.le_of_ble_eq_true rfl) (hS _) (fun v1 h2 q1 => ?_)
  obtain ⟨rfl, rfl⟩ := q1
  refine go_istore (pc' := 14) dX14_relate_12 rfl (by decide) rfl ?_
  refine go_iload (pc' := 16) dX14_relate_14 rfl rfl ?_
  refine go_if_lt (pc' := 19) (tgt := 33) dX14_relate_16 (by decide) rfl (fun c1 => ?_) (fun c1 => ?_)
  · refine go_iconst (v := (-1)) (pc' := 34) dX14_relate_33 rfl (by decide) ?_
    exact Go.ret (v := some (.int _)) dX14_relate_34 ⟨_, rfl⟩ ⟨rfl,rfl,rfl⟩
  · exact absurd (by decide) c1
set_option maxRecDepth 100000 in
theorem r_nearer0 {G : xG} {h : xH} {a b x y : Int32} {fs : List Value} (hM : h.2 233 = some (.inr (13, fs))) (hS : ∀ i, Ca G mX14_standing [.ref 233, .int i] h (fun v h' => v = some (.int (-1)) ∧ h' = h)) : Ca G mX14_nearer [.ref 233, .int a, .int b, .int x, .int y] h (fun v h' => v = some (.int (-2)) ∧ h' = h) := by
  refine Ca.of rfl (Nat.le_of_ble_eq_true rfl) ?_
  first | refine go_aload_n (i := 0) (pc' := 1) dX14_nearer_0 rfl rfl rfl ?_ | refine go_aloadX_n (i := 0) (pc' := 1) dX14_nearer_0 rfl rfl rfl ?_ | refine go_aload_nN (i := 0) (pc' := 1) dX14_nearer_0 rfl rfl rfl ?_
  refine go_iload_n (i := 1) (pc' := 2) dX14_nearer_1 rfl rfl rfl ?_
  refine go_invV (As := [_]) (pc' := 5) dX14_nearer_2 rfl cf_X14_nearer_650 rfl hM rfl rfl (Nat.le_of_ble_eq_true rfl) (hS _) (fun v1 h1 q1 => ?_)
  obtain ⟨rfl, rfl⟩ := q1
  refine go_istore (pc' := 7) dX14_nearer_5 rfl (by decide) rfl ?_
  first | refine go_aload_n (i := 0) (pc' := 8) dX14_nearer_7 rfl rfl rfl ?_ | refine go_aloadX_n (i := 0) (pc' := 8) dX14_nearer_7 rfl rfl rfl ?_ | refine go_aload_nN (i := 0) (pc' := 8) dX14_nearer_7 rfl rfl rfl ?_
  refine go_iload_n (i := 2) (pc' := 9) dX14_nearer_8 rfl rfl rfl ?_
  refine go_invV (As := [_]) (pc' := 12) dX14_nearer_9 rfl cf_X14_nearer_650 rfl hM rfl rfl (Nat.le_of_ble_eq_true rfl) (hS _) (fun v1 h2 q1 => ?_)
  obtain ⟨rfl, rfl⟩ := q1
  refine go_istore (pc' := 14) dX14_nearer_12 rfl (by decide) rfl ?_
  refine go_iload (pc' := 16) dX14_nearer_14 rfl rfl ?_
  refine go_if_lt (pc' := 19) (tgt := 41) dX14_nearer_16 (by decide) rfl (fun c1 => ?_) (fun c1 => ?_)
  · refine go_bipush (v := (-2)) (pc' := 43) dX14_nearer_41 rfl (by decide) ?_
    exact Go.ret (v := some (.int _)) dX14_nearer_43 ⟨_, rfl⟩ ⟨rfl,rfl,rfl⟩
  · exact absurd (by decide) c1
set_option maxRecDepth 100000 in
theorem r_idAt0 {G : xG} {h : xH} {F : Nat → Value} {x : Value} {i : Int32} (hM : h.2 233 = some (.inr (13, mkF F 58))) (hd : F 33 = .int 0) (hl : F 30 = .ref 259) (hs : h.2 259 = some (.inr (12, [x, .int 0]))) : Ca G mX14_idAt [.ref 233, .int i] h (fun v h' => v = some (.int (-1)) ∧ h' = h) := by
  refine Ca.of rfl (Nat.le_of_ble_eq_true rfl) ?_
  first | refine go_aload_n (i := 0) (pc' := 1) dX14_idAt_0 rfl rfl rfl ?_ | refine go_aloadX_n (i := 0) (pc' := 1) dX14_idAt_0 rfl rfl rfl ?_ | refine go_aload_nN (i := 0) (pc' := 1) dX14_idAt_0 rfl rfl rfl ?_
  refine go_getfF (pc' := 4) dX14_idAt_1 rfl gf_LandBaseModel_318 hM (by decide) hd ?_
  refine go_if_ne (pc' := 7) (tgt := 22) dX14_idAt_4 (by decide) rfl (fun c1 => ?_) (fun c1 => ?_)
  · exact absurd rfl c1
  · refine go_iload_n (i := 1) (pc' := 8) dX14_idAt_7 rfl rfl rfl ?_
    refine go_if_lt (pc' := 11) (tgt := 22) dX14_idAt_8 (by decide) rfl (fun c2 => ?_) (fun c2 => ?_)
    · refine go_iconst (v := (-1)) (pc' := 23) dX14_idAt_22 rfl (by decide) ?_
      refine go_goto (pc' := 0) (tgt := 38) dX14_idAt_23 (by decide) ?_
      exact Go.ret (v := some (.int _)) dX14_idAt_38 ⟨_, rfl⟩ ⟨rfl,rfl,rfl⟩
    · refine go_iload_n (i := 1) (pc' := 12) dX14_idAt_11 rfl rfl rfl ?_
      first | refine go_aload_n (i := 0) (pc' := 13) dX14_idAt_12 rfl rfl rfl ?_ | refine go_aloadX_n (i := 0) (pc' := 13) dX14_idAt_12 rfl rfl rfl ?_ | refine go_aload_nN (i := 0) (pc' := 13) dX14_idAt_12 rfl rfl rfl ?_
      refine go_getfF (pc' := 16) dX14_idAt_13 rfl gf_LandBaseModel_351 hM (by decide) hl ?_
      refine go_getf (pc' := 19) dX14_idAt_16 rfl gf_LandBaseModel_581 hs rfl ?_
      refine go_icmp_lt (pc' := 22) (tgt := 26) dX14_idAt_19 (by decide) rfl (fun c3 => ?_) (fun c3 => ?_)
      · exact absurd c3 c2
      · refine go_iconst (v := (-1)) (pc' := 23) dX14_idAt_22 rfl (by decide) ?_
        refine go_goto (pc' := 0) (tgt := 38) dX14_idAt_23 (by decide) ?_
        exact Go.ret (v := some (.int _)) dX14_idAt_38 ⟨_, rfl⟩ ⟨rfl,rfl,rfl⟩
set_option maxRecDepth 100000 in
theorem r_take0 {G : xG} {h : xH} {a b : Nat} {x x2 : Value} (hz : h.1 = h.1) (hh : h.2 a = some (.inr (12, [x, .int 0]))) (ho : h.2 b = some (.inr (12, [x2, .int 0]))) : Ca G mX13_take [.ref a, .ref b] h (fun v h' => v = none ∧ h'.1 = h.1 ∧ h'.2 a = some (.inr (12, [x, .int 0])) ∧ ∀ c, c ≠ a → h'.2 c = h.2 c) := by
  refine Ca.of rfl (Nat.le_of_ble_eq_true rfl) ?_
  have hfr : ∀ b, (b ≠ a) → h.2 b = h.2 b := fun _ _ => rfl
  first | refine go_aload_n (i := 0) (pc' := 1) dX13_take_0 rfl rfl rfl ?_ | refine go_aloadX_n (i := 0) (pc' := 1) dX13_take_0 rfl rfl rfl ?_ | refine go_aload_nN (i := 0) (pc' := 1) dX13_take_0 rfl rfl rfl ?_
  first | refine go_aload_n (i := 1) (pc' := 2) dX13_take_1 rfl rfl rfl ?_ | refine go_aloadX_n (i := 1) (pc' := 2) dX13_take_1 rfl rfl rfl ?_ | refine go_aload_nN (i := 1) (pc' := 2) dX13_take_1 rfl rfl rfl ?_
  refine go_getf (pc' := 5) dX13_take_2 rfl gf_LandBaseModel_State_18 ho rfl ?_
  refine go_putfK (pc' := 8) dX13_take_5 rfl pf_LandBaseModel_State_18 (fun h => by cases h) hh (Nat.le_of_ble_eq_true rfl) rfl rfl (fun hp1 zp1 cp1 fp1 => ?_)
  dsimp only [List.set] at cp1
  have hz := zp1.trans hz
  have hfr : ∀ b, (b ≠ a) → hp1.2 b = h.2 b := fun b hb => (fp1 b (by omega)).trans (hfr b hb)
  have hh := cp1
  refine go_iconst (v := 0) (pc' := 9) dX13_take_8 rfl (by decide) ?_
  refine go_istore_n (i := 2) (pc' := 10) dX13_take_9 rfl rfl (by decide) rfl ?_
  refine go_iload_n (i := 2) (pc' := 11) dX13_take_10 rfl rfl rfl ?_
  first | refine go_aload_n (i := 0) (pc' := 12) dX13_take_11 rfl rfl rfl ?_ | refine go_aloadX_n (i := 0) (pc' := 12) dX13_take_11 rfl rfl rfl ?_ | refine go_aload_nN (i := 0) (pc' := 12) dX13_take_11 rfl rfl rfl ?_
  refine go_getf (pc' := 15) dX13_take_12 rfl gf_LandBaseModel_State_18 hh rfl ?_
  refine go_icmp_ge (pc' := 18) (tgt := 39) dX13_take_15 (by decide) rfl (fun c2 => ?_) (fun c2 => ?_)
  · exact Go.ret (v := none) dX13_take_39 rfl ⟨trivial,rfl,hz,hh,hfr⟩
  · exact absurd (by decide) c2
set_option maxRecDepth 100000 in
theorem r_recover0 {G : xG} {h : xH} {F : Nat → Value} {x x2 : Value} (hM : h.2 233 = some (.inr (13, mkF F 58))) (hl : F 30 = .ref 259) (hc : F 31 = .ref 1061) (hs : h.2 259 = some (.inr (12, [x, .int 0]))) (ho : h.2 1061 = some (.inr (12, [x2, .int 0]))) : Ca G mX14_recover [.ref 233] h (fun v h' => v = some (.int 0) ∧ h'.1 = h.1 ∧ ∀ b, (b ≠ 233 ∧ b ≠ 259) → h'.2 b = h.2 b) := by
  refine Ca.of rfl (Nat.le_of_ble_eq_true rfl) ?_
  first | refine go_aload_n (i := 0) (pc' := 1) dX14_recover_0 rfl rfl rfl ?_ | refine go_aloadX_n (i := 0) (pc' := 1) dX14_recover_0 rfl rfl rfl ?_ | refine go_aload_nN (i := 0) (pc' := 1) dX14_recover_0 rfl rfl rfl ?_
  refine go_getfF (pc' := 4) dX14_recover_1 rfl gf_LandBaseModel_351 hM (by decide) hl ?_
  first | refine go_aload_n (i := 0) (pc' := 5) dX14_recover_4 rfl rfl rfl ?_ | refine go_aloadX_n (i := 0) (pc' := 5) dX14_recover_4 rfl rfl rfl ?_ | refine go_aload_nN (i := 0) (pc' := 5) dX14_recover_4 rfl rfl rfl ?_
  refine go_getfF (pc' := 8) dX14_recover_5 rfl gf_LandBaseModel_347 hM (by decide) hc ?_
  refine go_invV (As := [_]) (pc' := 11) dX14_recover_8 rfl cf_X14_recover_354 rfl hs rfl rfl (Nat.le_of_ble_eq_true rfl) (r_take0 rfl hs ho) (fun v1 h1 q1 => ?_)
  obtain ⟨rfl, hz, hs, f1⟩ := q1
  have hM := (f1 _ (by omega)).trans hM
  have hfr : ∀ b, (b ≠ 233 ∧ b ≠ 259) → h1.2 b = h1.2 b := fun _ _ => rfl
  first | refine go_aload_n (i := 0) (pc' := 12) dX14_recover_11 rfl rfl rfl ?_ | refine go_aloadX_n (i := 0) (pc' := 12) dX14_recover_11 rfl rfl rfl ?_ | refine go_aload_nN (i := 0) (pc' := 12) dX14_recover_11 rfl rfl rfl ?_
  refine go_iconst (v := 0) (pc' := 13) dX14_recover_12 rfl (by decide) ?_
  refine go_putfF (pc' := 16) dX14_recover_13 rfl pf_LandBaseModel_321 (fun h => by cases h) hM (by decide) rfl rfl (fun hp2 zp2 cp2 fp2 => ?_)
  have hz := zp2.trans hz
  have hs := (fp2 _ (by omega)).trans hs
  have hfr : ∀ b, (b ≠ 233 ∧ b ≠ 259) → hp2.2 b = h1.2 b := fun b hb => (fp2 b (by omega)).trans (hfr b hb)
  have hM := cp2
  first | refine go_aload_n (i := 0) (pc' := 17) dX14_recover_16 rfl rfl rfl ?_ | refine go_aloadX_n (i := 0) (pc' := 17) dX14_recover_16 rfl rfl rfl ?_ | refine go_aload_nN (i := 0) (pc' := 17) dX14_recover_16 rfl rfl rfl ?_
  refine go_iconst (v := 0) (pc' := 18) dX14_recover_17 rfl (by decide) ?_
  refine go_putfF (pc' := 21) dX14_recover_18 rfl pf_LandBaseModel_318 (fun h => by cases h) hM (by decide) rfl rfl (fun hp3 zp3 cp3 fp3 => ?_)
  have hz := zp3.trans hz
  have hs := (fp3 _ (by omega)).trans hs
  have hfr : ∀ b, (b ≠ 233 ∧ b ≠ 259) → hp3.2 b = h1.2 b := fun b hb => (fp3 b (by omega)).trans (hfr b hb)
  have hM := cp3
  first | refine go_aload_n (i := 0) (pc' := 22) dX14_recover_21 rfl rfl rfl ?_ | refine go_aloadX_n (i := 0) (pc' := 22) dX14_recover_21 rfl rfl rfl ?_ | refine go_aload_nN (i := 0) (pc' := 22) dX14_recover_21 rfl rfl rfl ?_
  refine go_iconst (v := 0) (pc' := 23) dX14_recover_22 rfl (by decide) ?_
  refine go_putfF (pc' := 26) dX14_recover_23 rfl pf_LandBaseModel_338 (fun h => by cases h) hM (by decide) rfl rfl (fun hp4 zp4 cp4 fp4 => ?_)
  have hz := zp4.trans hz
  have hs := (fp4 _ (by omega)).trans hs
  have hfr : ∀ b, (b ≠ 233 ∧ b ≠ 259) → hp4.2 b = h1.2 b := fun b hb => (fp4 b (by omega)).trans (hfr b hb)
  have hM := cp4
  first | refine go_aload_n (i := 0) (pc' := 27) dX14_recover_26 rfl rfl rfl ?_ | refine go_aloadX_n (i := 0) (pc' := 27) dX14_recover_26 rfl rfl rfl ?_ | refine go_aload_nN (i := 0) (pc' := 27) dX14_recover_26 rfl rfl rfl ?_
  refine go_iconst (v := (-1)) (pc' := 28) dX14_recover_27 rfl (by decide) ?_
  refine go_putfF (pc' := 31) dX14_recover_28 rfl pf_LandBaseModel_323 (fun h => by cases h) hM (by decide) rfl rfl (fun hp5 zp5 cp5 fp5 => ?_)
  have hz := zp5.trans hz
  have hs := (fp5 _ (by omega)).trans hs
  have hfr : ∀ b, (b ≠ 233 ∧ b ≠ 259) → hp5.2 b = h1.2 b := fun b hb => (fp5 b (by omega)).trans (hfr b hb)
  have hM := cp5
  first | refine go_aload_n (i := 0) (pc' := 32) dX14_recover_31 rfl rfl rfl ?_ | refine go_aloadX_n (i := 0) (pc' := 32) dX14_recover_31 rfl rfl rfl ?_ | refine go_aload_nN (i := 0) (pc' := 32) dX14_recover_31 rfl rfl rfl ?_
  refine go_getfF (pc' := 35) dX14_recover_32 rfl gf_LandBaseModel_351 hM (by decide) hl ?_
  refine go_getf (pc' := 38) dX14_recover_35 rfl gf_LandBaseModel_581 hs rfl ?_
  exact Go.ret (v := some (.int _)) dX14_recover_38 ⟨_, rfl⟩ ⟨rfl,rfl,hz,(fun b hb => (hfr b hb).trans (f1 b hb.2))⟩
set_option maxRecDepth 100000 in
theorem r_byteAt0 {G : xG} {h : xH} {F : Nat → Value} (hM : h.2 233 = some (.inr (13, mkF F 58))) (hs : F 40 = .int 0) : Ca G mX14_byteAt [.ref 233, .int 0] h (fun v h' => v = some (.int (-1)) ∧ h' = h) := by
  refine Ca.of rfl (Nat.le_of_ble_eq_true rfl) ?_
  refine go_iload_n (i := 1) (pc' := 1) dX14_byteAt_0 rfl rfl rfl ?_
  first | refine go_aload_n (i := 0) (pc' := 2) dX14_byteAt_1 rfl rfl rfl ?_ | refine go_aloadX_n (i := 0) (pc' := 2) dX14_byteAt_1 rfl rfl rfl ?_ | refine go_aload_nN (i := 0) (pc' := 2) dX14_byteAt_1 rfl rfl rfl ?_
  refine go_getfF (pc' := 5) dX14_byteAt_2 rfl gf_LandBaseModel_373 hM (by decide) hs ?_
  refine go_icmp_ge (pc' := 8) (tgt := 17) dX14_byteAt_5 (by decide) rfl (fun c1 => ?_) (fun c1 => ?_)
  · refine go_iconst (v := (-1)) (pc' := 18) dX14_byteAt_17 rfl (by decide) ?_
    exact Go.ret (v := some (.int _)) dX14_byteAt_18 ⟨_, rfl⟩ ⟨rfl,rfl,rfl⟩
  · exact absurd (by decide) c1
set_option maxRecDepth 100000 in
theorem r_next0 {G : xG} {h : xH} {F : Nat → Value} (hM : h.2 233 = some (.inr (13, mkF F 58))) (hs : F 40 = .int 0) (ha : F 41 = .int 0) : Ca G mX14_next [.ref 233] h (fun v h' => v = none ∧ h'.1 = h.1 ∧ (∃ F', h'.2 233 = some (.inr (13, mkF F' 58)) ∧ F' 45 = .int 0) ∧ ∀ b, b ≠ 233 → h'.2 b = h.2 b) := by
  refine Ca.of rfl (Nat.le_of_ble_eq_true rfl) ?_
  have hz : h.1 = h.1 := rfl
  first | refine go_aload_n (i := 0) (pc' := 1) dX14_next_0 rfl rfl rfl ?_ | refine go_aloadX_n (i := 0) (pc' := 1) dX14_next_0 rfl rfl rfl ?_ | refine go_aload_nN (i := 0) (pc' := 1) dX14_next_0 rfl rfl rfl ?_
  first | refine go_aload_n (i := 0) (pc' := 2) dX14_next_1 rfl rfl rfl ?_ | refine go_aloadX_n (i := 0) (pc' := 2) dX14_next_1 rfl rfl rfl ?_ | refine go_aload_nN (i := 0) (pc' := 2) dX14_next_1 rfl rfl rfl ?_
  refine go_getfF (pc' := 5) dX14_next_2 rfl gf_LandBaseModel_379 hM (by decide) ha ?_
  refine go_invV (As := [_]) (pc' := 8) dX14_next_5 rfl cf_X14_next_382 rfl hM rfl rfl (Nat.le_of_ble_eq_true rfl) (r_byteAt0 hM hs) (fun v1 h1 q1 => ?_)
  obtain ⟨rfl, rfl⟩ := q1
  refine go_bipush (v := 32) (pc' := 10) dX14_next_8 rfl (by decide) ?_
  refine go_icmp_eq (pc' := 13) (tgt := 26) dX14_next_10 (by decide) rfl (fun c1 => ?_) (fun c1 => ?_)
  · exact absurd c1 (by decide)
  · first | refine go_aload_n (i := 0) (pc' := 14) dX14_next_13 rfl rfl rfl ?_ | refine go_aloadX_n (i := 0) (pc' := 14) dX14_next_13 rfl rfl rfl ?_ | refine go_aload_nN (i := 0) (pc' := 14) dX14_next_13 rfl rfl rfl ?_
    first | refine go_aload_n (i := 0) (pc' := 15) dX14_next_14 rfl rfl rfl ?_ | refine go_aloadX_n (i := 0) (pc' := 15) dX14_next_14 rfl rfl rfl ?_ | refine go_aload_nN (i := 0) (pc' := 15) dX14_next_14 rfl rfl rfl ?_
    refine go_getfF (pc' := 18) dX14_next_15 rfl gf_LandBaseModel_379 hM (by decide) ha ?_
    refine go_invV (As := [_]) (pc' := 21) dX14_next_18 rfl cf_X14_next_382 rfl hM rfl rfl (Nat.le_of_ble_eq_true rfl) (r_byteAt0 hM hs) (fun v1 h2 q1 => ?_)
    obtain ⟨rfl, rfl⟩ := q1
    refine go_bipush (v := 10) (pc' := 23) dX14_next_21 rfl (by decide) ?_
    refine go_icmp_ne (pc' := 26) (tgt := 39) dX14_next_23 (by decide) rfl (fun c2 => ?_) (fun c2 => ?_)
    · have hfr : ∀ b, (b ≠ 233) → h2.2 b = h2.2 b := fun _ _ => rfl
      first | refine go_aload_n (i := 0) (pc' := 40) dX14_next_39 rfl rfl rfl ?_ | refine go_aloadX_n (i := 0) (pc' := 40) dX14_next_39 rfl rfl rfl ?_ | refine go_aload_nN (i := 0) (pc' := 40) dX14_next_39 rfl rfl rfl ?_
      first | refine go_aload_n (i := 0) (pc' := 41) dX14_next_40 rfl rfl rfl ?_ | refine go_aloadX_n (i := 0) (pc' := 41) dX14_next_40 rfl rfl rfl ?_ | refine go_aload_nN (i := 0) (pc' := 41) dX14_next_40 rfl rfl rfl ?_
      refine go_getfF (pc' := 44) dX14_next_41 rfl gf_LandBaseModel_379 hM (by decide) ha ?_
      refine go_putfF (pc' := 47) dX14_next_44 rfl pf_LandBaseModel_368 (fun h => by cases h) hM (by decide) rfl rfl (fun hp1 zp1 cp1 fp1 => ?_)
      have hz := zp1.trans hz
      have hfr : ∀ b, (b ≠ 233) → hp1.2 b = h2.2 b := fun b hb => (fp1 b (by omega)).trans (hfr b hb)
      have hM := cp1
      first | refine go_aload_n (i := 0) (pc' := 48) dX14_next_47 rfl rfl rfl ?_ | refine go_aloadX_n (i := 0) (pc' := 48) dX14_next_47 rfl rfl rfl ?_ | refine go_aload_nN (i := 0) (pc' := 48) dX14_next_47 rfl rfl rfl ?_
      first | refine go_aload_n (i := 0) (pc' := 49) dX14_next_48 rfl rfl rfl ?_ | refine go_aloadX_n (i := 0) (pc' := 49) dX14_next_48 rfl rfl rfl ?_ | refine go_aload_nN (i := 0) (pc' := 49) dX14_next_48 rfl rfl rfl ?_
      refine go_getfF (pc' := 52) dX14_next_49 rfl gf_LandBaseModel_379 hM (by decide) ha ?_
      refine go_invV (As := [_]) (pc' := 55) dX14_next_52 rfl cf_X14_next_382 rfl hM rfl rfl (Nat.le_of_ble_eq_true rfl) (r_byteAt0 hM hs) (fun v1 h3 q1 => ?_)
      obtain ⟨rfl, rfl⟩ := q1
      refine go_istore_n (i := 1) (pc' := 56) dX14_next_55 rfl rfl (by decide) rfl ?_
      refine go_iload_n (i := 1) (pc' := 57) dX14_next_56 rfl rfl rfl ?_
      refine go_if_ge (pc' := 60) (tgt := 68) dX14_next_57 (by decide) rfl (fun c3 => ?_) (fun c3 => ?_)
      · exact absurd c3 (by decide)
      · first | refine go_aload_n (i := 0) (pc' := 61) dX14_next_60 rfl rfl rfl ?_ | refine go_aloadX_n (i := 0) (pc' := 61) dX14_next_60 rfl rfl rfl ?_ | refine go_aload_nN (i := 0) (pc' := 61) dX14_next_60 rfl rfl rfl ?_
        refine go_iconst (v := 0) (pc' := 62) dX14_next_61 rfl (by decide) ?_
        refine go_putfF (pc' := 65) dX14_next_62 rfl pf_LandBaseModel_385 (fun h => by cases h) hM (by decide) rfl rfl (fun hp2 zp2 cp2 fp2 => ?_)
        have hz := zp2.trans hz
        have hfr : ∀ b, (b ≠ 233) → hp2.2 b = h2.2 b := fun b hb => (fp2 b (by omega)).trans (hfr b hb)
        have hM := cp2
        refine go_goto (pc' := 0) (tgt := 197) dX14_next_65 (by decide) ?_
        exact Go.ret (v := none) dX14_next_197 rfl ⟨trivial,rfl,hz,⟨_,hM,rfl⟩,hfr⟩
    · exact absurd c2 (by decide)
set_option maxRecDepth 100000 in
theorem r_run0 {G : xG} {h : xH} {F : Nat → Value} (hM : h.2 233 = some (.inr (13, mkF F 58))) (hd : F 33 = .int 0) (hs : F 40 = .int 0) : Ca G mX14_run [.ref 233] h (fun v h' => v = some (.int 0) ∧ h'.1 = h.1 ∧ ∀ b, b ≠ 233 → h'.2 b = h.2 b) := by
  refine Ca.of rfl (Nat.le_of_ble_eq_true rfl) ?_
  have hz : h.1 = h.1 := rfl
  first | refine go_aload_n (i := 0) (pc' := 1) dX14_run_0 rfl rfl rfl ?_ | refine go_aloadX_n (i := 0) (pc' := 1) dX14_run_0 rfl rfl rfl ?_ | refine go_aload_nN (i := 0) (pc' := 1) dX14_run_0 rfl rfl rfl ?_
  refine go_getfF (pc' := 4) dX14_run_1 rfl gf_LandBaseModel_318 hM (by decide) hd ?_
  refine go_if_eq (pc' := 7) (tgt := 9) dX14_run_4 (by decide) rfl (fun c1 => ?_) (fun c1 => ?_)
  · have hfr : ∀ b, (b ≠ 233) → h.2 b = h.2 b := fun _ _ => rfl
    first | refine go_aload_n (i := 0) (pc' := 10) dX14_run_9 rfl rfl rfl ?_ | refine go_aloadX_n (i := 0) (pc' := 10) dX14_run_9 rfl rfl rfl ?_ | refine go_aload_nN (i := 0) (pc' := 10) dX14_run_9 rfl rfl rfl ?_
    refine go_iconst (v := 0) (pc' := 11) dX14_run_10 rfl (by decide) ?_
    refine go_putfF (pc' := 14) dX14_run_11 rfl pf_LandBaseModel_362 (fun h => by cases h) hM (by decide) rfl rfl (fun hp1 zp1 cp1 fp1 => ?_)
    have hz := zp1.trans hz
    have hfr : ∀ b, (b ≠ 233) → hp1.2 b = h.2 b := fun b hb => (fp1 b (by omega)).trans (hfr b hb)
    have hM := cp1
    first | refine go_aload_n (i := 0) (pc' := 15) dX14_run_14 rfl rfl rfl ?_ | refine go_aloadX_n (i := 0) (pc' := 15) dX14_run_14 rfl rfl rfl ?_ | refine go_aload_nN (i := 0) (pc' := 15) dX14_run_14 rfl rfl rfl ?_
    refine go_iconst (v := (-1)) (pc' := 16) dX14_run_15 rfl (by decide) ?_
    refine go_putfF (pc' := 19) dX14_run_16 rfl pf_LandBaseModel_370 (fun h => by cases h) hM (by decide) rfl rfl (fun hp2 zp2 cp2 fp2 => ?_)
    have hz := zp2.trans hz
    have hfr : ∀ b, (b ≠ 233) → hp2.2 b = h.2 b := fun b hb => (fp2 b (by omega)).trans (hfr b hb)
    have hM := cp2
    first | refine go_aload_n (i := 0) (pc' := 20) dX14_run_19 rfl rfl rfl ?_ | refine go_aloadX_n (i := 0) (pc' := 20) dX14_run_19 rfl rfl rfl ?_ | refine go_aload_nN (i := 0) (pc' := 20) dX14_run_19 rfl rfl rfl ?_
    refine go_iconst (v := 0) (pc' := 21) dX14_run_20 rfl (by decide) ?_
    refine go_putfF (pc' := 24) dX14_run_21 rfl pf_LandBaseModel_365 (fun h => by cases h) hM (by decide) rfl rfl (fun hp3 zp3 cp3 fp3 => ?_)
    have hz := zp3.trans hz
    have hfr : ∀ b, (b ≠ 233) → hp3.2 b = h.2 b := fun b hb => (fp3 b (by omega)).trans (hfr b hb)
    have hM := cp3
    first | refine go_aload_n (i := 0) (pc' := 25) dX14_run_24 rfl rfl rfl ?_ | refine go_aloadX_n (i := 0) (pc' := 25) dX14_run_24 rfl rfl rfl ?_ | refine go_aload_nN (i := 0) (pc' := 25) dX14_run_24 rfl rfl rfl ?_
    refine go_iconst (v := 0) (pc' := 26) dX14_run_25 rfl (by decide) ?_
    refine go_putfF (pc' := 29) dX14_run_26 rfl pf_LandBaseModel_379 (fun h => by cases h) hM (by decide) rfl rfl (fun hp4 zp4 cp4 fp4 => ?_)
    have hz := zp4.trans hz
    have hfr : ∀ b, (b ≠ 233) → hp4.2 b = h.2 b := fun b hb => (fp4 b (by omega)).trans (hfr b hb)
    have hM := cp4
    refine go_iconst (v := 0) (pc' := 30) dX14_run_29 rfl (by decide) ?_
    refine go_istore_n (i := 1) (pc' := 31) dX14_run_30 rfl rfl (by decide) rfl ?_
    first | refine go_aload_n (i := 0) (pc' := 32) dX14_run_31 rfl rfl rfl ?_ | refine go_aloadX_n (i := 0) (pc' := 32) dX14_run_31 rfl rfl rfl ?_ | refine go_aload_nN (i := 0) (pc' := 32) dX14_run_31 rfl rfl rfl ?_
    refine go_invV (As := []) (pc' := 35) dX14_run_32 rfl cf_X14_run_423 rfl hM rfl rfl (Nat.le_of_ble_eq_true rfl) (r_next0 hM hs rfl) (fun v1 h1 q1 => ?_)
    obtain ⟨rfl, z1, ⟨F1, hM, ht⟩, f1⟩ := q1
    have hz := z1.trans hz
    have hfr0 := hfr
    first | refine go_aload_n (i := 0) (pc' := 36) dX14_run_35 rfl rfl rfl ?_ | refine go_aloadX_n (i := 0) (pc' := 36) dX14_run_35 rfl rfl rfl ?_ | refine go_aload_nN (i := 0) (pc' := 36) dX14_run_35 rfl rfl rfl ?_
    refine go_getfF (pc' := 39) dX14_run_36 rfl gf_LandBaseModel_385 hM (by decide) ht ?_
    refine go_if_eq (pc' := 42) (tgt := 85) dX14_run_39 (by decide) rfl (fun c2 => ?_) (fun c2 => ?_)
    · have hfr : ∀ b, (b ≠ 233) → h1.2 b = h1.2 b := fun _ _ => rfl
      first | refine go_aload_n (i := 0) (pc' := 86) dX14_run_85 rfl rfl rfl ?_ | refine go_aloadX_n (i := 0) (pc' := 86) dX14_run_85 rfl rfl rfl ?_ | refine go_aload_nN (i := 0) (pc' := 86) dX14_run_85 rfl rfl rfl ?_
      refine go_iconst (v := 0) (pc' := 87) dX14_run_86 rfl (by decide) ?_
      refine go_putfF (pc' := 90) dX14_run_87 rfl pf_LandBaseModel_373 (fun h => by cases h) hM (by decide) rfl rfl (fun hp31 zp31 cp31 fp31 => ?_)
      have hz := zp31.trans hz
      have hfr : ∀ b, (b ≠ 233) → hp31.2 b = h1.2 b := fun b hb => (fp31 b (by omega)).trans (hfr b hb)
      have hM := cp31
      refine go_iload_n (i := 1) (pc' := 91) dX14_run_90 rfl rfl rfl ?_
      exact Go.ret (v := some (.int _)) dX14_run_91 ⟨_, rfl⟩ ⟨rfl,rfl,hz,(fun b hb => (hfr b hb).trans ((f1 b hb).trans (hfr0 b hb)))⟩
    · exact absurd rfl c2
  · exact absurd rfl c1

/-! looking a shape up -/
abbrev cRefs (t n : Nat) (f : Nat → Option Nat) : xC := .inl (t, n, .inr (.inr (.inr (.inr f))))
theorem ixOf_lt {f : Nat → Int32} {id : Int32} : ∀ (n i j : Nat), ixOf f id i n = some j → i ≤ j ∧ j < i + n := by
  intro n
  induction n with
  | zero => intro i j h; cases h
  | succ n ih =>
    intro i j h
    rw [ixOf] at h
    by_cases c : f i = id
    · rw [if_pos c] at h; cases h; omega
    · rw [if_neg c] at h
      have := ih (i + 1) j h
      omega
/-- the address that stands beside id -/
def shOf (f : Nat → Int32) (sh : Nat → Option Nat) (id : Int32) (n : Nat) : Option Nat := (ixOf f id 0 n).bind sh
theorem rfOk (r : Option Nat) (n : String) : xRok (some (.object n)) (some (va_rf r)) := by cases r <;> trivial
theorem rfRet (r : Option Nat) : xRetI (some (va_rf r)) .areturn := by cases r; exact Or.inl rfl; exact Or.inr ⟨_, rfl⟩
set_option maxRecDepth 100000 in
theorem c_shapeWith {G : xG} {h : xH} {a ai as : Nat} {n : Nat} {f : Nat → Int32} {sh : Nat → Option Nat} {id : Int32} (hn : n ≤ 200) (hh : h.2 a = some (.inr (7, [.ref ai, .ref as, .int (nI n)]))) (hi : h.2 ai = some (.inl (0, 200, .inl f))) (hs : h.2 as = some (cRefs 4 200 sh)) : Ca G mX8_shapeWith [.ref a, .int id] h (fun v h' => v = some (va_rf (shOf f sh id n)) ∧ h' = h) := by
  refine Ca.of rfl (Nat.le_of_ble_eq_true rfl) ?_
  first | refine go_aload_n (i := 0) (pc' := 1) dX8_shapeWith_0 rfl rfl rfl ?_ | refine go_aloadX_n (i := 0) (pc' := 1) dX8_shapeWith_0 rfl rfl rfl ?_ | refine go_aload_nN (i := 0) (pc' := 1) dX8_shapeWith_0 rfl rfl rfl ?_
  refine go_iload_n (i := 1) (pc' := 2) dX8_shapeWith_1 rfl rfl rfl ?_
  refine go_invV (As := [_]) (pc' := 5) dX8_shapeWith_2 rfl cf_X8_shapeWith_25 rfl hh rfl rfl (Nat.le_of_ble_eq_true rfl) (c_Table_indexOf hn hh hi) (fun v1 h1 q1 => ?_)
  obtain ⟨rfl, rfl⟩ := q1
  refine go_istore_n (i := 2) (pc' := 6) dX8_shapeWith_5 rfl rfl (by decide) rfl ?_
  refine go_iload_n (i := 2) (pc' := 7) dX8_shapeWith_6 rfl rfl rfl ?_
  refine go_if_ge (pc' := 10) (tgt := 14) dX8_shapeWith_7 (by decide) rfl (fun c1 => ?_) (fun c1 => ?_)
  · cases e : ixOf f id 0 n with
    | none => rw [e] at c1; exact absurd c1 (by decide)
    | some j =>
      have hj := ixOf_lt n 0 j e
      have hin : vp_in (ixI (some j)) 200 := vp_in_nI (by omega) (by omega)
      have hc : (ixI (some j)).toNatClampNeg = j := nI_clamp (by omega)
      first | refine go_aload_n (i := 0) (pc' := 15) dX8_shapeWith_14 rfl rfl rfl ?_ | refine go_aloadX_n (i := 0) (pc' := 15) dX8_shapeWith_14 rfl rfl rfl ?_ | refine go_aload_nN (i := 0) (pc' := 15) dX8_shapeWith_14 rfl rfl rfl ?_
      refine go_getf (pc' := 18) dX8_shapeWith_15 rfl gf_LandBase_Table_17 hh rfl ?_
      refine go_iload_n (i := 2) (pc' := 19) dX8_shapeWith_18 rfl rfl rfl ?_
      refine go_aaload (pc' := 20) dX8_shapeWith_19 rfl (by decide) hs hin ?_
      rw [hc]
      refine Go.ret (v := some _) dX8_shapeWith_20 (rfRet _) ⟨rfOk _ _, ?_, rfl⟩
      rw [shOf, e]; rfl
  · cases e : ixOf f id 0 n with
    | none =>
      refine go_null (pc' := 11) dX8_shapeWith_10 rfl ?_
      refine go_goto (pc' := 0) (tgt := 20) dX8_shapeWith_11 (by decide) ?_
      refine Go.ret (v := some .null) dX8_shapeWith_20 (Or.inl rfl) ⟨trivial, ?_, rfl⟩
      rw [shOf, e]; rfl
    | some j =>
      have hj := ixOf_lt n 0 j e
      rw [e] at c1
      exact absurd (nI_pos' (n := j) (by omega)) c1
set_option maxRecDepth 100000 in
theorem c_shapeOf {G : xG} {h : xH} {ic off wa pd lg op dn by_ bl sv ck cl id : Int32} {n : Nat} {f : Nat → Int32} {sh : Nat → Option Nat} (hn : n ≤ 200) (k0 : h.2 0 = some (.inr (9, cO ic off wa))) (k10 : h.2 10 = some (.inr (3, cKp pd lg op dn by_ bl sv ck cl))) (k11 : h.2 11 = some (.inr (7, [.ref 12, .ref 13, .int (nI n)]))) (k12 : h.2 12 = some (.inl (0, 200, .inl f))) (k13 : h.2 13 = some (cRefs 4 200 sh)) : Ca G mX10_shapeOf [.ref 0, .int id] h (fun v h' => v = some (va_rf (if dn = 0 then shOf f sh id n else none)) ∧ h' = h) := by
  refine Ca.of rfl (Nat.le_of_ble_eq_true rfl) ?_
  first | refine go_aload_n (i := 0) (pc' := 1) dX10_shapeOf_0 rfl rfl rfl ?_ | refine go_aloadX_n (i := 0) (pc' := 1) dX10_shapeOf_0 rfl rfl rfl ?_ | refine go_aload_nN (i := 0) (pc' := 1) dX10_shapeOf_0 rfl rfl rfl ?_
  refine go_getf (pc' := 4) dX10_shapeOf_1 rfl gf_LandBase_26 k0 rfl ?_
  refine go_getf (pc' := 7) dX10_shapeOf_4 rfl gf_LandBase_80 k10 rfl ?_
  refine go_if_eq (pc' := 10) (tgt := 14) dX10_shapeOf_7 (by decide) rfl (fun c1 => ?_) (fun c1 => ?_)
  · first | refine go_aload_n (i := 0) (pc' := 15) dX10_shapeOf_14 rfl rfl rfl ?_ | refine go_aloadX_n (i := 0) (pc' := 15) dX10_shapeOf_14 rfl rfl rfl ?_ | refine go_aload_nN (i := 0) (pc' := 15) dX10_shapeOf_14 rfl rfl rfl ?_
    refine go_getf (pc' := 18) dX10_shapeOf_15 rfl gf_LandBase_26 k0 rfl ?_
    refine go_getf (pc' := 21) dX10_shapeOf_18 rfl gf_LandBase_145 k10 rfl ?_
    refine go_iload_n (i := 1) (pc' := 22) dX10_shapeOf_21 rfl rfl rfl ?_
    refine go_invV (As := [_]) (pc' := 25) dX10_shapeOf_22 rfl cf_X10_shapeOf_208 rfl k11 rfl rfl (Nat.le_of_ble_eq_true rfl) (c_shapeWith hn k11 k12 k13) (fun v1 h1 q1 => ?_)
    obtain ⟨rfl, rfl⟩ := q1
    rw [if_pos c1]
    exact Go.ret (v := some _) dX10_shapeOf_25 (rfRet _) ⟨rfOk _ _, rfl, rfl⟩
  · refine go_null (pc' := 11) dX10_shapeOf_10 rfl ?_
    refine go_goto (pc' := 0) (tgt := 25) dX10_shapeOf_11 (by decide) ?_
    rw [if_neg c1]
    exact Go.ret (v := some .null) dX10_shapeOf_25 (Or.inl rfl) ⟨trivial, rfl, rfl⟩
/-- a number of the shape beside id, -1 if there is none -/
def numOf (g : Nat → Int32) : Option Nat → Int32
  | none => -1
  | some a => g a
set_option maxRecDepth 100000 in
theorem c_kindOf {G : xG} {h : xH} {ic off wa pd lg op dn by_ bl sv ck cl id : Int32} {n : Nat} {f : Nat → Int32} {sh : Nat → Option Nat} {g : Nat → Int32} (hn : n ≤ 200) (k0 : h.2 0 = some (.inr (9, cO ic off wa))) (k10 : h.2 10 = some (.inr (3, cKp pd lg op dn by_ bl sv ck cl))) (k11 : h.2 11 = some (.inr (7, [.ref 12, .ref 13, .int (nI n)]))) (k12 : h.2 12 = some (.inl (0, 200, .inl f))) (k13 : h.2 13 = some (cRefs 4 200 sh)) (hg : ∀ i a, i < n → sh i = some a → ∃ fs, h.2 a = some (.inr (6, fs)) ∧ fs[0]? = some (.int (g a))) : Ca G mX10_kindOf [.ref 0, .int id] h (fun v h' => v = some (.int (numOf g (if dn = 0 then shOf f sh id n else none))) ∧ h' = h) := by
  refine Ca.of rfl (Nat.le_of_ble_eq_true rfl) ?_
  first | refine go_aload_n (i := 0) (pc' := 1) dX10_kindOf_0 rfl rfl rfl ?_ | refine go_aloadX_n (i := 0) (pc' := 1) dX10_kindOf_0 rfl rfl rfl ?_ | refine go_aload_nN (i := 0) (pc' := 1) dX10_kindOf_0 rfl rfl rfl ?_
  refine go_iload_n (i := 1) (pc' := 2) dX10_kindOf_1 rfl rfl rfl ?_
  refine go_invV (As := [_]) (pc' := 5) dX10_kindOf_2 rfl cf_X10_kindOf_160 rfl k0 rfl rfl (Nat.le_of_ble_eq_true rfl) (c_shapeOf hn k0 k10 k11 k12 k13) (fun v1 h1 q1 => ?_)
  obtain ⟨rfl, rfl⟩ := q1
  cases e : (if dn = 0 then shOf f sh id n else none) with
  | none =>
    refine go_astore_nN (i := 2) (pc' := 6) dX10_kindOf_5 rfl rfl (by decide) rfl ?_
    first | refine go_aload_n (i := 2) (pc' := 7) dX10_kindOf_6 rfl rfl rfl ?_ | refine go_aloadX_n (i := 2) (pc' := 7) dX10_kindOf_6 rfl rfl rfl ?_ | refine go_aload_nN (i := 2) (pc' := 7) dX10_kindOf_6 rfl rfl rfl ?_
    refine go_ifnonnullN (pc' := 10) dX10_kindOf_7 rfl ?_
    refine go_iconst (v := (-1)) (pc' := 11) dX10_kindOf_10 rfl (by decide) ?_
    refine go_goto (pc' := 0) (tgt := 18) dX10_kindOf_11 (by decide) ?_
    exact Go.ret (v := some (.int _)) dX10_kindOf_18 ⟨_, rfl⟩ ⟨rfl,rfl,rfl⟩
  | some a =>
    obtain ⟨fs, ha, hf⟩ : ∃ fs, h1.2 a = some (.inr (6, fs)) ∧ fs[0]? = some (.int (g a)) := by
      by_cases hd : dn = 0
      · rw [if_pos hd, shOf] at e
        cases ei : ixOf f id 0 n with
        | none => rw [ei] at e; cases e
        | some i =>
          rw [ei] at e
          exact hg i a (by have := ixOf_lt n 0 i ei; omega) e
      · rw [if_neg hd] at e; cases e
    refine go_astore_n (i := 2) (x := a) (pc' := 6) dX10_kindOf_5 rfl rfl (by decide) rfl ?_
    first | refine go_aload_n (i := 2) (pc' := 7) dX10_kindOf_6 rfl rfl rfl ?_ | refine go_aloadX_n (i := 2) (pc' := 7) dX10_kindOf_6 rfl rfl rfl ?_ | refine go_aload_nN (i := 2) (pc' := 7) dX10_kindOf_6 rfl rfl rfl ?_
    refine go_ifnonnull (pc' := 0) (tgt := 14) dX10_kindOf_7 (by decide) ?_
    first | refine go_aload_n (i := 2) (pc' := 15) dX10_kindOf_14 rfl rfl rfl ?_ | refine go_aloadX_n (i := 2) (pc' := 15) dX10_kindOf_14 rfl rfl rfl ?_ | refine go_aload_nN (i := 2) (pc' := 15) dX10_kindOf_14 rfl rfl rfl ?_
    refine go_getf (pc' := 18) dX10_kindOf_15 rfl gf_LandBase_164 ha hf ?_
    exact Go.ret (v := some (.int _)) dX10_kindOf_18 ⟨_, rfl⟩ ⟨rfl,rfl,rfl⟩
set_option maxRecDepth 100000 in
theorem c_places {G : xG} {h : xH} {ic off wa pd lg op dn by_ bl sv ck cl id : Int32} {n : Nat} {f : Nat → Int32} {sh : Nat → Option Nat} {g : Nat → Int32} (hn : n ≤ 200) (k0 : h.2 0 = some (.inr (9, cO ic off wa))) (k10 : h.2 10 = some (.inr (3, cKp pd lg op dn by_ bl sv ck cl))) (k11 : h.2 11 = some (.inr (7, [.ref 12, .ref 13, .int (nI n)]))) (k12 : h.2 12 = some (.inl (0, 200, .inl f))) (k13 : h.2 13 = some (cRefs 4 200 sh)) (hg : ∀ i a, i < n → sh i = some a → ∃ fs, h.2 a = some (.inr (6, fs)) ∧ fs[1]? = some (.int (g a))) : Ca G mX10_places [.ref 0, .int id] h (fun v h' => v = some (.int (numOf g (if dn = 0 then shOf f sh id n else none))) ∧ h' = h) := by
  refine Ca.of rfl (Nat.le_of_ble_eq_true rfl) ?_
  first | refine go_aload_n (i := 0) (pc' := 1) dX10_places_0 rfl rfl rfl ?_ | refine go_aloadX_n (i := 0) (pc' := 1) dX10_places_0 rfl rfl rfl ?_ | refine go_aload_nN (i := 0) (pc' := 1) dX10_places_0 rfl rfl rfl ?_
  refine go_iload_n (i := 1) (pc' := 2) dX10_places_1 rfl rfl rfl ?_
  refine go_invV (As := [_]) (pc' := 5) dX10_places_2 rfl cf_X10_places_160 rfl k0 rfl rfl (Nat.le_of_ble_eq_true rfl) (c_shapeOf hn k0 k10 k11 k12 k13) (fun v1 h1 q1 => ?_)
  obtain ⟨rfl, rfl⟩ := q1
  cases e : (if dn = 0 then shOf f sh id n else none) with
  | none =>
    refine go_astore_nN (i := 2) (pc' := 6) dX10_places_5 rfl rfl (by decide) rfl ?_
    first | refine go_aload_n (i := 2) (pc' := 7) dX10_places_6 rfl rfl rfl ?_ | refine go_aloadX_n (i := 2) (pc' := 7) dX10_places_6 rfl rfl rfl ?_ | refine go_aload_nN (i := 2) (pc' := 7) dX10_places_6 rfl rfl rfl ?_
    refine go_ifnonnullN (pc' := 10) dX10_places_7 rfl ?_
    refine go_iconst (v := (-1)) (pc' := 11) dX10_places_10 rfl (by decide) ?_
    refine go_goto (pc' := 0) (tgt := 18) dX10_places_11 (by decide) ?_
    exact Go.ret (v := some (.int _)) dX10_places_18 ⟨_, rfl⟩ ⟨rfl,rfl,rfl⟩
  | some a =>
    obtain ⟨fs, ha, hf⟩ : ∃ fs, h1.2 a = some (.inr (6, fs)) ∧ fs[1]? = some (.int (g a)) := by
      by_cases hd : dn = 0
      · rw [if_pos hd, shOf] at e
        cases ei : ixOf f id 0 n with
        | none => rw [ei] at e; cases e
        | some i =>
          rw [ei] at e
          exact hg i a (by have := ixOf_lt n 0 i ei; omega) e
      · rw [if_neg hd] at e; cases e
    refine go_astore_n (i := 2) (x := a) (pc' := 6) dX10_places_5 rfl rfl (by decide) rfl ?_
    first | refine go_aload_n (i := 2) (pc' := 7) dX10_places_6 rfl rfl rfl ?_ | refine go_aloadX_n (i := 2) (pc' := 7) dX10_places_6 rfl rfl rfl ?_ | refine go_aload_nN (i := 2) (pc' := 7) dX10_places_6 rfl rfl rfl ?_
    refine go_ifnonnull (pc' := 0) (tgt := 14) dX10_places_7 (by decide) ?_
    first | refine go_aload_n (i := 2) (pc' := 15) dX10_places_14 rfl rfl rfl ?_ | refine go_aloadX_n (i := 2) (pc' := 15) dX10_places_14 rfl rfl rfl ?_ | refine go_aload_nN (i := 2) (pc' := 15) dX10_places_14 rfl rfl rfl ?_
    refine go_getf (pc' := 18) dX10_places_15 rfl gf_LandBase_169 ha hf ?_
    exact Go.ret (v := some (.int _)) dX10_places_18 ⟨_, rfl⟩ ⟨rfl,rfl,rfl⟩
set_option maxRecDepth 100000 in
theorem c_rings {G : xG} {h : xH} {ic off wa pd lg op dn by_ bl sv ck cl id : Int32} {n : Nat} {f : Nat → Int32} {sh : Nat → Option Nat} {g : Nat → Int32} (hn : n ≤ 200) (k0 : h.2 0 = some (.inr (9, cO ic off wa))) (k10 : h.2 10 = some (.inr (3, cKp pd lg op dn by_ bl sv ck cl))) (k11 : h.2 11 = some (.inr (7, [.ref 12, .ref 13, .int (nI n)]))) (k12 : h.2 12 = some (.inl (0, 200, .inl f))) (k13 : h.2 13 = some (cRefs 4 200 sh)) (hg : ∀ i a, i < n → sh i = some a → ∃ fs, h.2 a = some (.inr (6, fs)) ∧ fs[2]? = some (.int (g a))) : Ca G mX10_rings [.ref 0, .int id] h (fun v h' => v = some (.int (numOf g (if dn = 0 then shOf f sh id n else none))) ∧ h' = h) := by
  refine Ca.of rfl (Nat.le_of_ble_eq_true rfl) ?_
  first | refine go_aload_n (i := 0) (pc' := 1) dX10_rings_0 rfl rfl rfl ?_ | refine go_aloadX_n (i := 0) (pc' := 1) dX10_rings_0 rfl rfl rfl ?_ | refine go_aload_nN (i := 0) (pc' := 1) dX10_rings_0 rfl rfl rfl ?_
  refine go_iload_n (i := 1) (pc' := 2) dX10_rings_1 rfl rfl rfl ?_
  refine go_invV (As := [_]) (pc' := 5) dX10_rings_2 rfl cf_X10_rings_160 rfl k0 rfl rfl (Nat.le_of_ble_eq_true rfl) (c_shapeOf hn k0 k10 k11 k12 k13) (fun v1 h1 q1 => ?_)
  obtain ⟨rfl, rfl⟩ := q1
  cases e : (if dn = 0 then shOf f sh id n else none) with
  | none =>
    refine go_astore_nN (i := 2) (pc' := 6) dX10_rings_5 rfl rfl (by decide) rfl ?_
    first | refine go_aload_n (i := 2) (pc' := 7) dX10_rings_6 rfl rfl rfl ?_ | refine go_aloadX_n (i := 2) (pc' := 7) dX10_rings_6 rfl rfl rfl ?_ | refine go_aload_nN (i := 2) (pc' := 7) dX10_rings_6 rfl rfl rfl ?_
    refine go_ifnonnullN (pc' := 10) dX10_rings_7 rfl ?_
    refine go_iconst (v := (-1)) (pc' := 11) dX10_rings_10 rfl (by decide) ?_
    refine go_goto (pc' := 0) (tgt := 18) dX10_rings_11 (by decide) ?_
    exact Go.ret (v := some (.int _)) dX10_rings_18 ⟨_, rfl⟩ ⟨rfl,rfl,rfl⟩
  | some a =>
    obtain ⟨fs, ha, hf⟩ : ∃ fs, h1.2 a = some (.inr (6, fs)) ∧ fs[2]? = some (.int (g a)) := by
      by_cases hd : dn = 0
      · rw [if_pos hd, shOf] at e
        cases ei : ixOf f id 0 n with
        | none => rw [ei] at e; cases e
        | some i =>
          rw [ei] at e
          exact hg i a (by have := ixOf_lt n 0 i ei; omega) e
      · rw [if_neg hd] at e; cases e
    refine go_astore_n (i := 2) (x := a) (pc' := 6) dX10_rings_5 rfl rfl (by decide) rfl ?_
    first | refine go_aload_n (i := 2) (pc' := 7) dX10_rings_6 rfl rfl rfl ?_ | refine go_aloadX_n (i := 2) (pc' := 7) dX10_rings_6 rfl rfl rfl ?_ | refine go_aload_nN (i := 2) (pc' := 7) dX10_rings_6 rfl rfl rfl ?_
    refine go_ifnonnull (pc' := 0) (tgt := 14) dX10_rings_7 (by decide) ?_
    first | refine go_aload_n (i := 2) (pc' := 15) dX10_rings_14 rfl rfl rfl ?_ | refine go_aloadX_n (i := 2) (pc' := 15) dX10_rings_14 rfl rfl rfl ?_ | refine go_aload_nN (i := 2) (pc' := 15) dX10_rings_14 rfl rfl rfl ?_
    refine go_getf (pc' := 18) dX10_rings_15 rfl gf_LandBase_170 ha hf ?_
    exact Go.ret (v := some (.int _)) dX10_rings_18 ⟨_, rfl⟩ ⟨rfl,rfl,rfl⟩

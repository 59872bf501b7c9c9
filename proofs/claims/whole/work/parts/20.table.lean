/-! Table: its constructor, indexOf -/
set_option maxRecDepth 100000 in
theorem c_Table_init {G : xG} {h : xH} {a n s : Nat} (hz : h.1 = (n, s)) (ha : a < n) (hh : h.2 a = some (.inr (7, [.null, .null, .int 0]))) : Ca G mX8_init [.ref a] h (fun v h' => v = none ∧ h'.1 = (n + 2, s + 400) ∧ h'.2 a = some (.inr (7, [.ref n, .ref (n + 1), .int 0])) ∧ h'.2 n = some (.inl (0, 200, .inl (fun _ => 0))) ∧ h'.2 (n + 1) = some (.inl (4, 200, .inr (.inr (.inr (.inr (fun _ => none)))))) ∧ ∀ b, (b < n ∧ b ≠ a) → h'.2 b = h.2 b) := by
  refine Ca.of rfl (Nat.le_of_ble_eq_true rfl) ?_
  have hfr : ∀ b, (b < n ∧ b ≠ a) → h.2 b = h.2 b := fun _ _ => rfl
  first | refine go_aload_n (i := 0) (pc' := 1) dX8_init_0 rfl rfl rfl ?_ | refine go_aloadX_n (i := 0) (pc' := 1) dX8_init_0 rfl rfl rfl ?_ | refine go_aload_nN (i := 0) (pc' := 1) dX8_init_0 rfl rfl rfl ?_
  refine go_objInit (pc' := 4) dX8_init_1 rfl wd_185 wd_27 wd_28 (by decide) (Nat.le_of_ble_eq_true rfl) ?_
  first | refine go_aload_n (i := 0) (pc' := 5) dX8_init_4 rfl rfl rfl ?_ | refine go_aloadX_n (i := 0) (pc' := 5) dX8_init_4 rfl rfl rfl ?_ | refine go_aload_nN (i := 0) (pc' := 5) dX8_init_4 rfl rfl rfl ?_
  refine go_sipush (v := 200) (pc' := 8) dX8_init_5 rfl (by decide) ?_
  refine go_newarrayK (t := 0) (N := 200) (pc' := 10) dX8_init_8 rfl rfl (by decide) wd_148 (by decide) (by decide) (by decide) hz (fun hp1 zp1 cp1 fp1 => ?_)
  have hz := zp1
  have hh := (fp1 _ (by omega)).trans hh
  have hfr : ∀ b, (b < n ∧ b ≠ a) → hp1.2 b = h.2 b := fun b hb => (fp1 b (by omega)).trans (hfr b hb)
  have hi : hp1.2 _ = some (.inl (0, 200, .inl (fun _ => 0))) := cp1
  refine go_putfK (pc' := 13) dX8_init_10 rfl pf_LandBase_Table_9 (fun _ => rfl) hh (Nat.le_of_ble_eq_true rfl) rfl rfl (fun hp2 zp2 cp2 fp2 => ?_)
  dsimp only [List.set] at cp2
  have hz := zp2.trans hz
  have hi := (fp2 _ (by omega)).trans hi
  have hfr : ∀ b, (b < n ∧ b ≠ a) → hp2.2 b = h.2 b := fun b hb => (fp2 b (by omega)).trans (hfr b hb)
  have hh := cp2
  first | refine go_aload_n (i := 0) (pc' := 14) dX8_init_13 rfl rfl rfl ?_ | refine go_aloadX_n (i := 0) (pc' := 14) dX8_init_13 rfl rfl rfl ?_ | refine go_aload_nN (i := 0) (pc' := 14) dX8_init_13 rfl rfl rfl ?_
  refine go_sipush (v := 200) (pc' := 17) dX8_init_14 rfl (by decide) ?_
  refine go_anewarrayK (t := 4) (N := 200) (pc' := 20) dX8_init_17 rfl (by decide) rfl wd_186 (by decide) (by decide) (by decide) hz (fun hp3 zp3 cp3 fp3 => ?_)
  have hz := zp3
  have hh := (fp3 _ (by omega)).trans hh
  have hi := (fp3 _ (by omega)).trans hi
  have hfr : ∀ b, (b < n ∧ b ≠ a) → hp3.2 b = h.2 b := fun b hb => (fp3 b (by omega)).trans (hfr b hb)
  have hs : hp3.2 _ = some (.inl (4, 200, .inr (.inr (.inr (.inr (fun _ => none)))))) := cp3
  refine go_putfK (pc' := 23) dX8_init_20 rfl pf_LandBase_Table_17 (fun _ => rfl) hh (Nat.le_of_ble_eq_true rfl) rfl rfl (fun hp4 zp4 cp4 fp4 => ?_)
  dsimp only [List.set] at cp4
  have hz := zp4.trans hz
  have hi := (fp4 _ (by omega)).trans hi
  have hs := (fp4 _ (by omega)).trans hs
  have hfr : ∀ b, (b < n ∧ b ≠ a) → hp4.2 b = h.2 b := fun b hb => (fp4 b (by omega)).trans (hfr b hb)
  have hh := cp4
  first | refine go_aload_n (i := 0) (pc' := 24) dX8_init_23 rfl rfl rfl ?_ | refine go_aloadX_n (i := 0) (pc' := 24) dX8_init_23 rfl rfl rfl ?_ | refine go_aload_nN (i := 0) (pc' := 24) dX8_init_23 rfl rfl rfl ?_
  refine go_iconst (v := 0) (pc' := 25) dX8_init_24 rfl (by decide) ?_
  refine go_putfK (pc' := 28) dX8_init_25 rfl pf_LandBase_Table_21 (fun h => by cases h) hh (Nat.le_of_ble_eq_true rfl) rfl rfl (fun hp5 zp5 cp5 fp5 => ?_)
  dsimp only [List.set] at cp5
  have hz := zp5.trans hz
  have hi := (fp5 _ (by omega)).trans hi
  have hs := (fp5 _ (by omega)).trans hs
  have hfr : ∀ b, (b < n ∧ b ≠ a) → hp5.2 b = h.2 b := fun b hb => (fp5 b (by omega)).trans (hfr b hb)
  have hh := cp5
  exact Go.ret (v := none) dX8_init_28 rfl ⟨trivial,rfl,hz,hh,hi,hs,hfr⟩
/-- where id stands among the first n of f -/
def ixOf (f : Nat → Int32) (id : Int32) : Nat → Nat → Option Nat
  | _, 0 => none
  | i, n + 1 => if f i = id then some i else ixOf f id (i + 1) n
def ixI : Option Nat → Int32
  | none => -1
  | some i => nI i
set_option maxRecDepth 100000 in
theorem c_Table_indexOf {G : xG} {h : xH} {a ai as : Nat} {n : Nat} {f : Nat → Int32} {id : Int32} (hn : n ≤ 200) (hh : h.2 a = some (.inr (7, [.ref ai, .ref as, .int (nI n)]))) (hi : h.2 ai = some (.inl (0, 200, .inl f))) : Ca G mX8_indexOf [.ref a, .int id] h (fun v h' => v = some (.int (ixI (ixOf f id 0 n))) ∧ h' = h) := by
  refine Ca.of rfl (Nat.le_of_ble_eq_true rfl) ?_
  have loop : ∀ (m i : Nat), i + m = n → Go G mX8_indexOf 2 [some (.ref a), some (.int id), some (.int (nI i))] [] h (fun v h' => xRok (xRt mX8_indexOf) v ∧ v = some (.int (ixI (ixOf f id i m))) ∧ h' = h) := by
    intro m
    induction m with
    | zero =>
      intro i him
      refine go_iload_n (i := 2) (pc' := 3) dX8_indexOf_2 rfl rfl rfl ?_
      first | refine go_aload_n (i := 0) (pc' := 4) dX8_indexOf_3 rfl rfl rfl ?_ | refine go_aloadX_n (i := 0) (pc' := 4) dX8_indexOf_3 rfl rfl rfl ?_ | refine go_aload_nN (i := 0) (pc' := 4) dX8_indexOf_3 rfl rfl rfl ?_
      refine go_getf (pc' := 7) dX8_indexOf_4 rfl gf_LandBase_Table_21 hh rfl ?_
      refine go_icmp_ge (pc' := 10) (tgt := 28) dX8_indexOf_7 (by decide) rfl (fun c1 => ?_) (fun c1 => ?_)
      · refine go_iconst (v := (-1)) (pc' := 29) dX8_indexOf_28 rfl (by decide) ?_
        exact Go.ret (v := some (.int _)) dX8_indexOf_29 ⟨_, rfl⟩ ⟨rfl,rfl,rfl⟩
      · exact absurd (nI_le (by omega) (by omega)) c1
    | succ m ih =>
      intro i him
      have hin : vp_in (nI i) 200 := vp_in_nI (by omega) (by omega)
      have hc : (nI i).toNatClampNeg = i := nI_clamp (by omega)
      refine go_iload_n (i := 2) (pc' := 3) dX8_indexOf_2 rfl rfl rfl ?_
      first | refine go_aload_n (i := 0) (pc' := 4) dX8_indexOf_3 rfl rfl rfl ?_ | refine go_aloadX_n (i := 0) (pc' := 4) dX8_indexOf_3 rfl rfl rfl ?_ | refine go_aload_nN (i := 0) (pc' := 4) dX8_indexOf_3 rfl rfl rfl ?_
      refine go_getf (pc' := 7) dX8_indexOf_4 rfl gf_LandBase_Table_21 hh rfl ?_
      refine go_icmp_ge (pc' := 10) (tgt := 28) dX8_indexOf_7 (by decide) rfl (fun c1 => ?_) (fun c1 => ?_)
      · exact absurd c1 (nI_ge (by omega) (by omega))
      · first | refine go_aload_n (i := 0) (pc' := 11) dX8_indexOf_10 rfl rfl rfl ?_ | refine go_aloadX_n (i := 0) (pc' := 11) dX8_indexOf_10 rfl rfl rfl ?_ | refine go_aload_nN (i := 0) (pc' := 11) dX8_indexOf_10 rfl rfl rfl ?_
        refine go_getf (pc' := 14) dX8_indexOf_11 rfl gf_LandBase_Table_9 hh rfl ?_
        refine go_iload_n (i := 2) (pc' := 15) dX8_indexOf_14 rfl rfl rfl ?_
        refine go_iaload (pc' := 16) dX8_indexOf_15 rfl hi hin ?_
        refine go_iload_n (i := 1) (pc' := 17) dX8_indexOf_16 rfl rfl rfl ?_
        rw [hc]
        refine go_icmp_ne (pc' := 20) (tgt := 22) dX8_indexOf_17 (by decide) rfl (fun c2 => ?_) (fun c2 => ?_)
        · refine go_iincC (kk := 1) (pc' := 25) dX8_indexOf_22 rfl rfl (by decide) (by decide) rfl ?_
          refine go_goto (pc' := 0) (tgt := 2) dX8_indexOf_25 (by decide) ?_
          rw [nI_1]
          have := ih (i + 1) (by omega)
          rw [ixOf, if_neg c2]
          exact this
        · refine go_iload_n (i := 2) (pc' := 21) dX8_indexOf_20 rfl rfl rfl ?_
          rw [ixOf, if_pos c2]
          exact Go.ret (v := some (.int _)) dX8_indexOf_21 ⟨_, rfl⟩ ⟨rfl,rfl,rfl⟩
  refine go_iconst (v := 0) (pc' := 1) dX8_indexOf_0 rfl (by decide) ?_
  refine go_istore_n (i := 2) (pc' := 2) dX8_indexOf_1 rfl rfl (by decide) rfl ?_
  exact loop n 0 (by omega)

/-! Table: its constructor, indexOf -/
set_option maxRecDepth 100000 in
theorem c_Table_init {G : xG} {h : xH} {a n s : Nat} (hz : h.1 = (n, s)) (ha : a < n) (hh : h.2 a = some (.inr (7, [.null, .null, .int 0]))) : Ca G mX8_init [.ref a] h (fun v h' => v = none ∧ h'.1 = (n + 2, s + 400) ∧ h'.2 a = some (.inr (7, [.ref n, .ref (n + 1), .int 0])) ∧ h'.2 n = some (.inl (0, 200, .inl (fun _ => 0))) ∧ h'.2 (n + 1) = some (.inl (4, 200, .inr (.inr (.inr (.inr (fun _ => none)))))) ∧ ∀ b, (b < n ∧ b ≠ a) → h'.2 b = h.2 b) := by
  refine Ca.of rfl (by decide) ?_
  have hfr : ∀ b, (b < n ∧ b ≠ a) → h.2 b = h.2 b := fun _ _ => rfl
  first | refine go_aload_n (i := 0) (pc' := 1) dX8_init_0 rfl rfl rfl ?_ | refine go_aloadX_n (i := 0) (pc' := 1) dX8_init_0 rfl rfl rfl ?_ | refine go_aload_nN (i := 0) (pc' := 1) dX8_init_0 rfl rfl rfl ?_
  refine go_objInit (pc' := 4) dX8_init_1 rfl wd_186 wd_28 wd_29 (by decide) (Nat.le_of_ble_eq_true rfl) ?_
  first | refine go_aload_n (i := 0) (pc' := 5) dX8_init_4 rfl rfl rfl ?_ | refine go_aloadX_n (i := 0) (pc' := 5) dX8_init_4 rfl rfl rfl ?_ | refine go_aload_nN (i := 0) (pc' := 5) dX8_init_4 rfl rfl rfl ?_
  refine go_sipush (v := 200) (pc' := 8) dX8_init_5 rfl (by decide) ?_
  refine go_newarrayK (t := 0) (N := 200) (pc' := 10) dX8_init_8 rfl rfl (by decide) wd_149 (by decide) (by decide) (by decide) hz (fun h1 z1 c1 f1 => ?_)
  have hz := z1
  have hh := (f1 _ (by omega)).trans hh
  have hfr : ∀ b, (b < n ∧ b ≠ a) → h1.2 b = h.2 b := fun b hb => (f1 b (by omega)).trans (hfr b hb)
  have hi : h1.2 _ = some (.inl (0, 200, .inl (fun _ => 0))) := c1
  refine go_putfK (pc' := 13) dX8_init_10 rfl pf_LandBase_Table_9 (fun _ => rfl) hh (Nat.le_of_ble_eq_true rfl) rfl rfl (fun h2 z2 c2 f2 => ?_)
  dsimp only [List.set] at c2
  have hz := z2.trans hz
  have hi := (f2 _ (by omega)).trans hi
  have hfr : ∀ b, (b < n ∧ b ≠ a) → h2.2 b = h.2 b := fun b hb => (f2 b (by omega)).trans (hfr b hb)
  have hh := c2
  first | refine go_aload_n (i := 0) (pc' := 14) dX8_init_13 rfl rfl rfl ?_ | refine go_aloadX_n (i := 0) (pc' := 14) dX8_init_13 rfl rfl rfl ?_ | refine go_aload_nN (i := 0) (pc' := 14) dX8_init_13 rfl rfl rfl ?_
  refine go_sipush (v := 200) (pc' := 17) dX8_init_14 rfl (by decide) ?_
  refine go_anewarrayK (t := 4) (N := 200) (pc' := 20) dX8_init_17 rfl (by decide) rfl wd_187 (by decide) (by decide) (by decide) hz (fun h3 z3 c3 f3 => ?_)
  have hz := z3
  have hh := (f3 _ (by omega)).trans hh
  have hi := (f3 _ (by omega)).trans hi
  have hfr : ∀ b, (b < n ∧ b ≠ a) → h3.2 b = h.2 b := fun b hb => (f3 b (by omega)).trans (hfr b hb)
  have hs : h3.2 _ = some (.inl (4, 200, .inr (.inr (.inr (.inr (fun _ => none)))))) := c3
  refine go_putfK (pc' := 23) dX8_init_20 rfl pf_LandBase_Table_17 (fun _ => rfl) hh (Nat.le_of_ble_eq_true rfl) rfl rfl (fun h4 z4 c4 f4 => ?_)
  dsimp only [List.set] at c4
  have hz := z4.trans hz
  have hi := (f4 _ (by omega)).trans hi
  have hs := (f4 _ (by omega)).trans hs
  have hfr : ∀ b, (b < n ∧ b ≠ a) → h4.2 b = h.2 b := fun b hb => (f4 b (by omega)).trans (hfr b hb)
  have hh := c4
  first | refine go_aload_n (i := 0) (pc' := 24) dX8_init_23 rfl rfl rfl ?_ | refine go_aloadX_n (i := 0) (pc' := 24) dX8_init_23 rfl rfl rfl ?_ | refine go_aload_nN (i := 0) (pc' := 24) dX8_init_23 rfl rfl rfl ?_
  refine go_iconst (v := 0) (pc' := 25) dX8_init_24 rfl (by decide) ?_
  refine go_putfK (pc' := 28) dX8_init_25 rfl pf_LandBase_Table_21 (fun h => by cases h) hh (Nat.le_of_ble_eq_true rfl) rfl rfl (fun h5 z5 c5 f5 => ?_)
  dsimp only [List.set] at c5
  have hz := z5.trans hz
  have hi := (f5 _ (by omega)).trans hi
  have hs := (f5 _ (by omega)).trans hs
  have hfr : ∀ b, (b < n ∧ b ≠ a) → h5.2 b = h.2 b := fun b hb => (f5 b (by omega)).trans (hfr b hb)
  have hh := c5
  exact Go.ret (v := none) dX8_init_28 rfl ⟨trivial,rfl,hz,hh,hi,hs,hfr⟩

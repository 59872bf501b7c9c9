/-! CONSTRUCTORS of the parts -/
set_option maxRecDepth 100000 in
theorem c_Tape_init {G : xG} {h : xH} {a n s : Nat} (hz : h.1 = (n, s)) (ha : a < n) (hh : h.2 a = some (.inr (8, [.null, .int 0, .int 0, .int 0, .int 0, .int 0]))) : Ca G mX9_init [.ref a] h (fun v h' => v = none ∧ h'.1 = (n + 1, s + 4000) ∧ h'.2 a = some (.inr (8, [.ref n, .int 0, .int 0, .int 0, .int 0, .int 0])) ∧ h'.2 n = some (.inl (1, 4000, .inl (fun _ => 0))) ∧ ∀ b, (b < n ∧ b ≠ a) → h'.2 b = h.2 b) := by
  refine Ca.of rfl (Nat.le_of_ble_eq_true rfl) ?_
  have hfr : ∀ b, (b < n ∧ b ≠ a) → h.2 b = h.2 b := fun _ _ => rfl
  first | refine go_aload_n (i := 0) (pc' := 1) dX9_init_0 rfl rfl rfl ?_ | refine go_aloadX_n (i := 0) (pc' := 1) dX9_init_0 rfl rfl rfl ?_ | refine go_aload_nN (i := 0) (pc' := 1) dX9_init_0 rfl rfl rfl ?_
  refine go_objInit (pc' := 4) dX9_init_1 rfl wd_34 wd_27 wd_28 (by decide) (Nat.le_of_ble_eq_true rfl) ?_
  first | refine go_aload_n (i := 0) (pc' := 5) dX9_init_4 rfl rfl rfl ?_ | refine go_aloadX_n (i := 0) (pc' := 5) dX9_init_4 rfl rfl rfl ?_ | refine go_aload_nN (i := 0) (pc' := 5) dX9_init_4 rfl rfl rfl ?_
  refine go_sipush (v := 4000) (pc' := 8) dX9_init_5 rfl (by decide) ?_
  refine go_newarrayK (t := 1) (N := 4000) (pc' := 10) dX9_init_8 rfl rfl (by decide) wd_59 (by decide) (by decide) (by decide) hz (fun hp1 zp1 cp1 fp1 => ?_)
  have hz := zp1
  have hh := (fp1 _ (by omega)).trans hh
  have hfr : ∀ b, (b < n ∧ b ≠ a) → hp1.2 b = h.2 b := fun b hb => (fp1 b (by omega)).trans (hfr b hb)
  have hi : hp1.2 _ = some (.inl (1, 4000, .inl (fun _ => 0))) := cp1
  refine go_putfK (pc' := 13) dX9_init_10 rfl pf_LandBase_Tape_9 (fun _ => rfl) hh (Nat.le_of_ble_eq_true rfl) rfl rfl (fun hp2 zp2 cp2 fp2 => ?_)
  dsimp only [List.set] at cp2
  have hz := zp2.trans hz
  have hi := (fp2 _ (by omega)).trans hi
  have hfr : ∀ b, (b < n ∧ b ≠ a) → hp2.2 b = h.2 b := fun b hb => (fp2 b (by omega)).trans (hfr b hb)
  have hh := cp2
  first | refine go_aload_n (i := 0) (pc' := 14) dX9_init_13 rfl rfl rfl ?_ | refine go_aloadX_n (i := 0) (pc' := 14) dX9_init_13 rfl rfl rfl ?_ | refine go_aload_nN (i := 0) (pc' := 14) dX9_init_13 rfl rfl rfl ?_
  refine go_iconst (v := 0) (pc' := 15) dX9_init_14 rfl (by decide) ?_
  refine go_putfK (pc' := 18) dX9_init_15 rfl pf_LandBase_Tape_15 (fun h => by cases h) hh (Nat.le_of_ble_eq_true rfl) rfl rfl (fun hp3 zp3 cp3 fp3 => ?_)
  dsimp only [List.set] at cp3
  have hz := zp3.trans hz
  have hi := (fp3 _ (by omega)).trans hi
  have hfr : ∀ b, (b < n ∧ b ≠ a) → hp3.2 b = h.2 b := fun b hb => (fp3 b (by omega)).trans (hfr b hb)
  have hh := cp3
  exact Go.ret (v := none) dX9_init_18 rfl ⟨trivial,rfl,hz,hh,hi,hfr⟩
/-- a shape of the system: its cell and its four rows stand one behind the other -/
def CSh (h : xH) (a : Nat) (kind size rc tl x0 y0 x1 y1 ho : Int32) (xs ys rs il : Nat → Int32) : Prop :=
  h.2 a = some (.inr (6, [.int kind, .int size, .int rc, .int tl, .int x0, .int y0, .int x1, .int y1, .int ho, .ref (a + 1), .ref (a + 2), .ref (a + 3), .ref (a + 4)])) ∧ h.2 (a + 1) = some (.inl (0, 40, .inl xs)) ∧ h.2 (a + 2) = some (.inl (0, 40, .inl ys)) ∧ h.2 (a + 3) = some (.inl (0, 8, .inl rs)) ∧ h.2 (a + 4) = some (.inl (3, 40, .inl il))
def CSh0 (h : xH) (a : Nat) : Prop := CSh h a 0 0 0 0 0 0 0 0 0 (fun _ => 0) (fun _ => 0) (fun _ => 0) (fun _ => 0)
theorem CSh0.kept {h h1 : xH} {a : Nat} (k : CSh0 h a) (f : ∀ b, a ≤ b → b < a + 5 → h1.2 b = h.2 b) : CSh0 h1 a :=
  ⟨(f a (by omega) (by omega)).trans k.1, (f (a + 1) (by omega) (by omega)).trans k.2.1, (f (a + 2) (by omega) (by omega)).trans k.2.2.1, (f (a + 3) (by omega) (by omega)).trans k.2.2.2.1, (f (a + 4) (by omega) (by omega)).trans k.2.2.2.2⟩
set_option maxRecDepth 100000 in
theorem c_Shape_init {G : xG} {h : xH} {a n s : Nat} (hz : h.1 = (n, s)) (ha : a + 1 = n) (hh : h.2 a = some (.inr (6, [.int 0, .int 0, .int 0, .int 0, .int 0, .int 0, .int 0, .int 0, .int 0, .null, .null, .null, .null]))) : Ca G mX7_init [.ref a] h (fun v h' => v = none ∧ h'.1 = (n + 4, s + 128) ∧ CSh0 h' a ∧ ∀ b, b < a → h'.2 b = h.2 b) := by
  refine Ca.of rfl (Nat.le_of_ble_eq_true rfl) ?_
  subst ha
  have hfr : ∀ b, (b < a) → h.2 b = h.2 b := fun _ _ => rfl
  first | refine go_aload_n (i := 0) (pc' := 1) dX7_init_0 rfl rfl rfl ?_ | refine go_aloadX_n (i := 0) (pc' := 1) dX7_init_0 rfl rfl rfl ?_ | refine go_aload_nN (i := 0) (pc' := 1) dX7_init_0 rfl rfl rfl ?_
  refine go_objInit (pc' := 4) dX7_init_1 rfl wd_71 wd_27 wd_28 (by decide) (Nat.le_of_ble_eq_true rfl) ?_
  first | refine go_aload_n (i := 0) (pc' := 5) dX7_init_4 rfl rfl rfl ?_ | refine go_aloadX_n (i := 0) (pc' := 5) dX7_init_4 rfl rfl rfl ?_ | refine go_aload_nN (i := 0) (pc' := 5) dX7_init_4 rfl rfl rfl ?_
  refine go_bipush (v := 40) (pc' := 7) dX7_init_5 rfl (by decide) ?_
  refine go_newarrayK (t := 0) (N := 40) (pc' := 9) dX7_init_7 rfl rfl (by decide) wd_148 (by decide) (by decide) (by decide) hz (fun hp1 zp1 cp1 fp1 => ?_)
  have hz := zp1
  have hh := (fp1 _ (by omega)).trans hh
  have hfr : ∀ b, (b < a) → hp1.2 b = h.2 b := fun b hb => (fp1 b (by omega)).trans (hfr b hb)
  have hx : hp1.2 _ = some (.inl (0, 40, .inl (fun _ => 0))) := cp1
  refine go_putfK (pc' := 12) dX7_init_9 rfl pf_LandBase_Shape_9 (fun _ => rfl) hh (Nat.le_of_ble_eq_true rfl) rfl rfl (fun hp2 zp2 cp2 fp2 => ?_)
  dsimp only [List.set] at cp2
  have hz := zp2.trans hz
  have hx := (fp2 _ (by omega)).trans hx
  have hfr : ∀ b, (b < a) → hp2.2 b = h.2 b := fun b hb => (fp2 b (by omega)).trans (hfr b hb)
  have hh := cp2
  first | refine go_aload_n (i := 0) (pc' := 13) dX7_init_12 rfl rfl rfl ?_ | refine go_aloadX_n (i := 0) (pc' := 13) dX7_init_12 rfl rfl rfl ?_ | refine go_aload_nN (i := 0) (pc' := 13) dX7_init_12 rfl rfl rfl ?_
  refine go_bipush (v := 40) (pc' := 15) dX7_init_13 rfl (by decide) ?_
  refine go_newarrayK (t := 0) (N := 40) (pc' := 17) dX7_init_15 rfl rfl (by decide) wd_148 (by decide) (by decide) (by decide) hz (fun hp3 zp3 cp3 fp3 => ?_)
  have hz := zp3
  have hh := (fp3 _ (by omega)).trans hh
  have hx := (fp3 _ (by omega)).trans hx
  have hfr : ∀ b, (b < a) → hp3.2 b = h.2 b := fun b hb => (fp3 b (by omega)).trans (hfr b hb)
  have hy : hp3.2 _ = some (.inl (0, 40, .inl (fun _ => 0))) := cp3
  refine go_putfK (pc' := 20) dX7_init_17 rfl pf_LandBase_Shape_15 (fun _ => rfl) hh (Nat.le_of_ble_eq_true rfl) rfl rfl (fun hp4 zp4 cp4 fp4 => ?_)
  dsimp only [List.set] at cp4
  have hz := zp4.trans hz
  have hx := (fp4 _ (by omega)).trans hx
  have hy := (fp4 _ (by omega)).trans hy
  have hfr : ∀ b, (b < a) → hp4.2 b = h.2 b := fun b hb => (fp4 b (by omega)).trans (hfr b hb)
  have hh := cp4
  first | refine go_aload_n (i := 0) (pc' := 21) dX7_init_20 rfl rfl rfl ?_ | refine go_aloadX_n (i := 0) (pc' := 21) dX7_init_20 rfl rfl rfl ?_ | refine go_aload_nN (i := 0) (pc' := 21) dX7_init_20 rfl rfl rfl ?_
  refine go_bipush (v := 8) (pc' := 23) dX7_init_21 rfl (by decide) ?_
  refine go_newarrayK (t := 0) (N := 8) (pc' := 25) dX7_init_23 rfl rfl (by decide) wd_148 (by decide) (by decide) (by decide) hz (fun hp5 zp5 cp5 fp5 => ?_)
  have hz := zp5
  have hh := (fp5 _ (by omega)).trans hh
  have hx := (fp5 _ (by omega)).trans hx
  have hy := (fp5 _ (by omega)).trans hy
  have hfr : ∀ b, (b < a) → hp5.2 b = h.2 b := fun b hb => (fp5 b (by omega)).trans (hfr b hb)
  have hr : hp5.2 _ = some (.inl (0, 8, .inl (fun _ => 0))) := cp5
  refine go_putfK (pc' := 28) dX7_init_25 rfl pf_LandBase_Shape_18 (fun _ => rfl) hh (Nat.le_of_ble_eq_true rfl) rfl rfl (fun hp6 zp6 cp6 fp6 => ?_)
  dsimp only [List.set] at cp6
  have hz := zp6.trans hz
  have hx := (fp6 _ (by omega)).trans hx
  have hy := (fp6 _ (by omega)).trans hy
  have hr := (fp6 _ (by omega)).trans hr
  have hfr : ∀ b, (b < a) → hp6.2 b = h.2 b := fun b hb => (fp6 b (by omega)).trans (hfr b hb)
  have hh := cp6
  first | refine go_aload_n (i := 0) (pc' := 29) dX7_init_28 rfl rfl rfl ?_ | refine go_aloadX_n (i := 0) (pc' := 29) dX7_init_28 rfl rfl rfl ?_ | refine go_aload_nN (i := 0) (pc' := 29) dX7_init_28 rfl rfl rfl ?_
  refine go_bipush (v := 40) (pc' := 31) dX7_init_29 rfl (by decide) ?_
  refine go_newarrayK (t := 3) (N := 40) (pc' := 33) dX7_init_31 rfl rfl (by decide) wd_149 (by decide) (by decide) (by decide) hz (fun hp7 zp7 cp7 fp7 => ?_)
  have hz := zp7
  have hh := (fp7 _ (by omega)).trans hh
  have hx := (fp7 _ (by omega)).trans hx
  have hy := (fp7 _ (by omega)).trans hy
  have hr := (fp7 _ (by omega)).trans hr
  have hfr : ∀ b, (b < a) → hp7.2 b = h.2 b := fun b hb => (fp7 b (by omega)).trans (hfr b hb)
  have hl : hp7.2 _ = some (.inl (3, 40, .inl (fun _ => 0))) := cp7
  refine go_putfK (pc' := 36) dX7_init_33 rfl pf_LandBase_Shape_21 (fun _ => rfl) hh (Nat.le_of_ble_eq_true rfl) rfl rfl (fun hp8 zp8 cp8 fp8 => ?_)
  dsimp only [List.set] at cp8
  have hz := zp8.trans hz
  have hx := (fp8 _ (by omega)).trans hx
  have hy := (fp8 _ (by omega)).trans hy
  have hr := (fp8 _ (by omega)).trans hr
  have hl := (fp8 _ (by omega)).trans hl
  have hfr : ∀ b, (b < a) → hp8.2 b = h.2 b := fun b hb => (fp8 b (by omega)).trans (hfr b hb)
  have hh := cp8
  exact Go.ret (v := none) dX7_init_36 rfl ⟨trivial,rfl,hz,⟨hh,hx,hy,hr,hl⟩,hfr⟩
set_option maxRecDepth 100000 in
theorem c_Reader_init {G : xG} {h : xH} {a n s : Nat} (hz : h.1 = (n, s)) (ha : a < n) (hh : h.2 a = some (.inr (4, [.null, .null, .int 0, .int 0, .int 0, .int 0]))) : Ca G mX5_init [.ref a] h (fun v h' => v = none ∧ h'.1 = (n + 6, s + 147) ∧ h'.2 a = some (.inr (4, [.ref n, .ref (n + 1), .int 0, .int 0, .int 0, .int 0])) ∧ h'.2 n = some (.inl (0, 6, .inl (fun _ => 0))) ∧ CSh0 h' (n + 1) ∧ ∀ b, (b < n ∧ b ≠ a) → h'.2 b = h.2 b) := by
  refine Ca.of rfl (Nat.le_of_ble_eq_true rfl) ?_
  have hfr : ∀ b, (b < n ∧ b ≠ a) → h.2 b = h.2 b := fun _ _ => rfl
  first | refine go_aload_n (i := 0) (pc' := 1) dX5_init_0 rfl rfl rfl ?_ | refine go_aloadX_n (i := 0) (pc' := 1) dX5_init_0 rfl rfl rfl ?_ | refine go_aload_nN (i := 0) (pc' := 1) dX5_init_0 rfl rfl rfl ?_
  refine go_objInit (pc' := 4) dX5_init_1 rfl wd_65 wd_27 wd_28 (by decide) (Nat.le_of_ble_eq_true rfl) ?_
  first | refine go_aload_n (i := 0) (pc' := 5) dX5_init_4 rfl rfl rfl ?_ | refine go_aloadX_n (i := 0) (pc' := 5) dX5_init_4 rfl rfl rfl ?_ | refine go_aload_nN (i := 0) (pc' := 5) dX5_init_4 rfl rfl rfl ?_
  refine go_bipush (v := 6) (pc' := 7) dX5_init_5 rfl (by decide) ?_
  refine go_newarrayK (t := 0) (N := 6) (pc' := 9) dX5_init_7 rfl rfl (by decide) wd_148 (by decide) (by decide) (by decide) hz (fun hp1 zp1 cp1 fp1 => ?_)
  have hz := zp1
  have hh := (fp1 _ (by omega)).trans hh
  have hfr : ∀ b, (b < n ∧ b ≠ a) → hp1.2 b = h.2 b := fun b hb => (fp1 b (by omega)).trans (hfr b hb)
  have hi : hp1.2 _ = some (.inl (0, 6, .inl (fun _ => 0))) := cp1
  refine go_putfK (pc' := 12) dX5_init_9 rfl pf_LandBase_Reader_11 (fun _ => rfl) hh (Nat.le_of_ble_eq_true rfl) rfl rfl (fun hp2 zp2 cp2 fp2 => ?_)
  dsimp only [List.set] at cp2
  have hz := zp2.trans hz
  have hi := (fp2 _ (by omega)).trans hi
  have hfr : ∀ b, (b < n ∧ b ≠ a) → hp2.2 b = h.2 b := fun b hb => (fp2 b (by omega)).trans (hfr b hb)
  have hh := cp2
  first | refine go_aload_n (i := 0) (pc' := 13) dX5_init_12 rfl rfl rfl ?_ | refine go_aloadX_n (i := 0) (pc' := 13) dX5_init_12 rfl rfl rfl ?_ | refine go_aload_nN (i := 0) (pc' := 13) dX5_init_12 rfl rfl rfl ?_
  refine go_newK (pc' := 16) dX5_init_13 rfl nw_LandBase_Reader_15 hz (fun hp3 zp3 cp3 fp3 => ?_)
  have hz := zp3
  have hh := (fp3 _ (by omega)).trans hh
  have hi := (fp3 _ (by omega)).trans hi
  have hfr : ∀ b, (b < n ∧ b ≠ a) → hp3.2 b = h.2 b := fun b hb => (fp3 b (by omega)).trans (hfr b hb)
  have ht := cp3
  refine go_dup (pc' := 17) dX5_init_16 rfl rfl ?_
  refine go_invI (As := []) (pc' := 20) dX5_init_17 rfl cf_X5_init_17 rfl rfl (Nat.le_of_ble_eq_true rfl) (c_Shape_init (hz:=hz) (ha:=rfl) (hh:=ht)) (fun vp4 hp4 qp4 => ?_)
  obtain ⟨rfl, hz, hS, fp4⟩ := qp4
  have hh := (fp4 _ (by omega)).trans hh
  have hi := (fp4 _ (by omega)).trans hi
  have hfr : ∀ b, (b < n ∧ b ≠ a) → hp4.2 b = h.2 b := fun b hb => (fp4 b (by omega)).trans (hfr b hb)
  have hR : ∀ b, (n + 1) ≤ b → b < (n + 6) → hp4.2 b = hp4.2 b := fun _ _ _ => rfl
  refine go_putfK (pc' := 23) dX5_init_20 rfl pf_LandBase_Reader_18 (fun _ => rfl) hh (Nat.le_of_ble_eq_true rfl) rfl rfl (fun hp5 zp5 cp5 fp5 => ?_)
  dsimp only [List.set] at cp5
  have hz := zp5.trans hz
  have hi := (fp5 _ (by omega)).trans hi
  have hR : ∀ b, (n + 1) ≤ b → b < (n + 6) → hp5.2 b = hp4.2 b := fun b p q => (fp5 b (by omega)).trans (hR b p q)
  have hfr : ∀ b, (b < n ∧ b ≠ a) → hp5.2 b = h.2 b := fun b hb => (fp5 b (by omega)).trans (hfr b hb)
  have hh := cp5
  exact Go.ret (v := none) dX5_init_23 rfl ⟨trivial,rfl,hz,hh,hi,hS.kept (fun b p q => hR b (by omega) (by omega)),hfr⟩
set_option maxRecDepth 100000 in
theorem c_Keeper_init {G : xG} {h : xH} {a n s : Nat} (hz : h.1 = (n, s)) (ha : a < n) (hh : h.2 a = some (.inr (3, [.null, .null, .null, .int 0, .int 0, .int 0, .int 0, .int 0, .int 0, .int 0, .int 0, .int 0]))) : Ca G mX3_init [.ref a] h (fun v h' => v = none ∧ h'.1 = (n + 7, s + 1207) ∧ h'.2 a = some (.inr (3, [.ref n, .ref (n + 3), .ref (n + 6), .int 0, .int 0, .int 0, .int 0, .int 0, .int 0, .int 0, .int (-1), .int 0])) ∧
    h'.2 n = some (.inr (7, [.ref (n + 1), .ref (n + 2), .int 0])) ∧ h'.2 (n + 1) = some (.inl (0, 200, .inl (fun _ => 0))) ∧ h'.2 (n + 2) = some (.inl (4, 200, .inr (.inr (.inr (.inr (fun _ => none)))))) ∧ h'.2 (n + 3) = some (.inr (7, [.ref (n + 4), .ref (n + 5), .int 0])) ∧ h'.2 (n + 4) = some (.inl (0, 200, .inl (fun _ => 0))) ∧ h'.2 (n + 5) = some (.inl (4, 200, .inr (.inr (.inr (.inr (fun _ => none)))))) ∧ h'.2 (n + 6) = some (.inl (4, 401, .inr (.inr (.inr (.inr (fun _ => none)))))) ∧ ∀ b, (b < n ∧ b ≠ a) → h'.2 b = h.2 b) := by
  refine Ca.of rfl (Nat.le_of_ble_eq_true rfl) ?_
  have hfr : ∀ b, (b < n ∧ b ≠ a) → h.2 b = h.2 b := fun _ _ => rfl
  first | refine go_aload_n (i := 0) (pc' := 1) dX3_init_0 rfl rfl rfl ?_ | refine go_aloadX_n (i := 0) (pc' := 1) dX3_init_0 rfl rfl rfl ?_ | refine go_aload_nN (i := 0) (pc' := 1) dX3_init_0 rfl rfl rfl ?_
  refine go_objInit (pc' := 4) dX3_init_1 rfl wd_179 wd_27 wd_28 (by decide) (Nat.le_of_ble_eq_true rfl) ?_
  first | refine go_aload_n (i := 0) (pc' := 5) dX3_init_4 rfl rfl rfl ?_ | refine go_aloadX_n (i := 0) (pc' := 5) dX3_init_4 rfl rfl rfl ?_ | refine go_aload_nN (i := 0) (pc' := 5) dX3_init_4 rfl rfl rfl ?_
  refine go_newK (pc' := 8) dX3_init_5 rfl nw_LandBase_Keeper_9 hz (fun hp1 zp1 cp1 fp1 => ?_)
  have hz := zp1
  have hh := (fp1 _ (by omega)).trans hh
  have hfr : ∀ b, (b < n ∧ b ≠ a) → hp1.2 b = h.2 b := fun b hb => (fp1 b (by omega)).trans (hfr b hb)
  have ht := cp1
  refine go_dup (pc' := 9) dX3_init_8 rfl rfl ?_
  refine go_invI (As := []) (pc' := 12) dX3_init_9 rfl cf_X3_init_11 rfl rfl (Nat.le_of_ble_eq_true rfl) (c_Table_init (hz:=hz) (ha:=by omega) (hh:=ht)) (fun vp2 hp2 qp2 => ?_)
  obtain ⟨rfl, hz, ht, hti, hts, fp2⟩ := qp2
  have hh := (fp2 _ (by omega)).trans hh
  have hfr : ∀ b, (b < n ∧ b ≠ a) → hp2.2 b = h.2 b := fun b hb => (fp2 b (by omega)).trans (hfr b hb)
  refine go_putfK (pc' := 15) dX3_init_12 rfl pf_LandBase_Keeper_12 (fun _ => rfl) hh (Nat.le_of_ble_eq_true rfl) rfl rfl (fun hp3 zp3 cp3 fp3 => ?_)
  dsimp only [List.set] at cp3
  have hz := zp3.trans hz
  have ht := (fp3 _ (by omega)).trans ht
  have hti := (fp3 _ (by omega)).trans hti
  have hts := (fp3 _ (by omega)).trans hts
  have hfr : ∀ b, (b < n ∧ b ≠ a) → hp3.2 b = h.2 b := fun b hb => (fp3 b (by omega)).trans (hfr b hb)
  have hh := cp3
  first | refine go_aload_n (i := 0) (pc' := 16) dX3_init_15 rfl rfl rfl ?_ | refine go_aloadX_n (i := 0) (pc' := 16) dX3_init_15 rfl rfl rfl ?_ | refine go_aload_nN (i := 0) (pc' := 16) dX3_init_15 rfl rfl rfl ?_
  refine go_newK (pc' := 19) dX3_init_16 rfl nw_LandBase_Keeper_9 hz (fun hp4 zp4 cp4 fp4 => ?_)
  have hz := zp4
  have hh := (fp4 _ (by omega)).trans hh
  have ht := (fp4 _ (by omega)).trans ht
  have hti := (fp4 _ (by omega)).trans hti
  have hts := (fp4 _ (by omega)).trans hts
  have hfr : ∀ b, (b < n ∧ b ≠ a) → hp4.2 b = h.2 b := fun b hb => (fp4 b (by omega)).trans (hfr b hb)
  have hu := cp4
  refine go_dup (pc' := 20) dX3_init_19 rfl rfl ?_
  refine go_invI (As := []) (pc' := 23) dX3_init_20 rfl cf_X3_init_11 rfl rfl (Nat.le_of_ble_eq_true rfl) (c_Table_init (hz:=hz) (ha:=by omega) (hh:=hu)) (fun vp5 hp5 qp5 => ?_)
  obtain ⟨rfl, hz, hu, hui, hus, fp5⟩ := qp5
  have hh := (fp5 _ (by omega)).trans hh
  have ht := (fp5 _ (by omega)).trans ht
  have hti := (fp5 _ (by omega)).trans hti
  have hts := (fp5 _ (by omega)).trans hts
  have hfr : ∀ b, (b < n ∧ b ≠ a) → hp5.2 b = h.2 b := fun b hb => (fp5 b (by omega)).trans (hfr b hb)
  refine go_putfK (pc' := 26) dX3_init_23 rfl pf_LandBase_Keeper_18 (fun _ => rfl) hh (Nat.le_of_ble_eq_true rfl) rfl rfl (fun hp6 zp6 cp6 fp6 => ?_)
  dsimp only [List.set] at cp6
  have hz := zp6.trans hz
  have ht := (fp6 _ (by omega)).trans ht
  have hti := (fp6 _ (by omega)).trans hti
  have hts := (fp6 _ (by omega)).trans hts
  have hu := (fp6 _ (by omega)).trans hu
  have hui := (fp6 _ (by omega)).trans hui
  have hus := (fp6 _ (by omega)).trans hus
  have hfr : ∀ b, (b < n ∧ b ≠ a) → hp6.2 b = h.2 b := fun b hb => (fp6 b (by omega)).trans (hfr b hb)
  have hh := cp6
  first | refine go_aload_n (i := 0) (pc' := 27) dX3_init_26 rfl rfl rfl ?_ | refine go_aloadX_n (i := 0) (pc' := 27) dX3_init_26 rfl rfl rfl ?_ | refine go_aload_nN (i := 0) (pc' := 27) dX3_init_26 rfl rfl rfl ?_
  refine go_sipush (v := 401) (pc' := 30) dX3_init_27 rfl (by decide) ?_
  refine go_anewarrayK (t := 4) (N := 401) (pc' := 33) dX3_init_30 rfl (by decide) rfl wd_202 (by decide) (by decide) (by decide) hz (fun hp7 zp7 cp7 fp7 => ?_)
  have hz := zp7
  have hh := (fp7 _ (by omega)).trans hh
  have ht := (fp7 _ (by omega)).trans ht
  have hti := (fp7 _ (by omega)).trans hti
  have hts := (fp7 _ (by omega)).trans hts
  have hu := (fp7 _ (by omega)).trans hu
  have hui := (fp7 _ (by omega)).trans hui
  have hus := (fp7 _ (by omega)).trans hus
  have hfr : ∀ b, (b < n ∧ b ≠ a) → hp7.2 b = h.2 b := fun b hb => (fp7 b (by omega)).trans (hfr b hb)
  have hp : hp7.2 _ = some (.inl (4, 401, .inr (.inr (.inr (.inr (fun _ => none)))))) := cp7
  refine go_putfK (pc' := 36) dX3_init_33 rfl pf_LandBase_Keeper_23 (fun _ => rfl) hh (Nat.le_of_ble_eq_true rfl) rfl rfl (fun hp8 zp8 cp8 fp8 => ?_)
  dsimp only [List.set] at cp8
  have hz := zp8.trans hz
  have ht := (fp8 _ (by omega)).trans ht
  have hti := (fp8 _ (by omega)).trans hti
  have hts := (fp8 _ (by omega)).trans hts
  have hu := (fp8 _ (by omega)).trans hu
  have hui := (fp8 _ (by omega)).trans hui
  have hus := (fp8 _ (by omega)).trans hus
  have hp := (fp8 _ (by omega)).trans hp
  have hfr : ∀ b, (b < n ∧ b ≠ a) → hp8.2 b = h.2 b := fun b hb => (fp8 b (by omega)).trans (hfr b hb)
  have hh := cp8
  first | refine go_aload_n (i := 0) (pc' := 37) dX3_init_36 rfl rfl rfl ?_ | refine go_aloadX_n (i := 0) (pc' := 37) dX3_init_36 rfl rfl rfl ?_ | refine go_aload_nN (i := 0) (pc' := 37) dX3_init_36 rfl rfl rfl ?_
  refine go_iconst (v := (-1)) (pc' := 38) dX3_init_37 rfl (by decide) ?_
  refine go_putfK (pc' := 41) dX3_init_38 rfl pf_LandBase_Keeper_27 (fun h => by cases h) hh (Nat.le_of_ble_eq_true rfl) rfl rfl (fun hp9 zp9 cp9 fp9 => ?_)
  dsimp only [List.set] at cp9
  have hz := zp9.trans hz
  have ht := (fp9 _ (by omega)).trans ht
  have hti := (fp9 _ (by omega)).trans hti
  have hts := (fp9 _ (by omega)).trans hts
  have hu := (fp9 _ (by omega)).trans hu
  have hui := (fp9 _ (by omega)).trans hui
  have hus := (fp9 _ (by omega)).trans hus
  have hp := (fp9 _ (by omega)).trans hp
  have hfr : ∀ b, (b < n ∧ b ≠ a) → hp9.2 b = h.2 b := fun b hb => (fp9 b (by omega)).trans (hfr b hb)
  have hh := cp9
  exact Go.ret (v := none) dX3_init_41 rfl ⟨trivial,rfl,hz,hh,ht,hti,hts,hu,hui,hus,hp,hfr⟩
set_option maxRecDepth 100000 in
theorem c_Cutter_init {G : xG} {h : xH} {a n s : Nat} (hz : h.1 = (n, s)) (ha : a < n) (hh : h.2 a = some (.inr (1, [.null, .int 0, .int 0, .int 0, .int 0, .int 0, .int 0, .null, .null, .null, .int 0, .int 0, .int 0, .int 0]))) : Ca G mX1_init [.ref a] h (fun v h' => v = none ∧ h'.1 = (n + 8, s + 381) ∧ h'.2 a = some (.inr (1, [.ref n, .int 0, .int 0, .int 0, .int 0, .int 0, .int 0, .ref (n + 5), .ref (n + 6), .ref (n + 7), .int 0, .int 0, .int 0, .int 0])) ∧ CSh0 h' n ∧ h'.2 (n + 5) = some (.inl (2, 80, .inr (.inl (fun _ => 0)))) ∧ h'.2 (n + 6) = some (.inl (2, 80, .inr (.inl (fun _ => 0)))) ∧ h'.2 (n + 7) = some (.inl (0, 80, .inl (fun _ => 0))) ∧ ∀ b, (b < n ∧ b ≠ a) → h'.2 b = h.2 b) := by
  refine Ca.of rfl (Nat.le_of_ble_eq_true rfl) ?_
  have hfr : ∀ b, (b < n ∧ b ≠ a) → h.2 b = h.2 b := fun _ _ => rfl
  first | refine go_aload_n (i := 0) (pc' := 1) dX1_init_0 rfl rfl rfl ?_ | refine go_aloadX_n (i := 0) (pc' := 1) dX1_init_0 rfl rfl rfl ?_ | refine go_aload_nN (i := 0) (pc' := 1) dX1_init_0 rfl rfl rfl ?_
  refine go_objInit (pc' := 4) dX1_init_1 rfl wd_252 wd_27 wd_28 (by decide) (Nat.le_of_ble_eq_true rfl) ?_
  first | refine go_aload_n (i := 0) (pc' := 5) dX1_init_4 rfl rfl rfl ?_ | refine go_aloadX_n (i := 0) (pc' := 5) dX1_init_4 rfl rfl rfl ?_ | refine go_aload_nN (i := 0) (pc' := 5) dX1_init_4 rfl rfl rfl ?_
  refine go_newK (pc' := 8) dX1_init_5 rfl nw_LandBase_Cutter_9 hz (fun hp1 zp1 cp1 fp1 => ?_)
  have hz := zp1
  have hh := (fp1 _ (by omega)).trans hh
  have hfr : ∀ b, (b < n ∧ b ≠ a) → hp1.2 b = h.2 b := fun b hb => (fp1 b (by omega)).trans (hfr b hb)
  have ht := cp1
  refine go_dup (pc' := 9) dX1_init_8 rfl rfl ?_
  refine go_invI (As := []) (pc' := 12) dX1_init_9 rfl cf_X1_init_11 rfl rfl (Nat.le_of_ble_eq_true rfl) (c_Shape_init (hz:=hz) (ha:=rfl) (hh:=ht)) (fun vp2 hp2 qp2 => ?_)
  obtain ⟨rfl, hz, hS, fp2⟩ := qp2
  have hh := (fp2 _ (by omega)).trans hh
  have hfr : ∀ b, (b < n ∧ b ≠ a) → hp2.2 b = h.2 b := fun b hb => (fp2 b (by omega)).trans (hfr b hb)
  have hR : ∀ b, n ≤ b → b < (n + 5) → hp2.2 b = hp2.2 b := fun _ _ _ => rfl
  refine go_putfK (pc' := 15) dX1_init_12 rfl pf_LandBase_Cutter_12 (fun h => by cases h) hh (Nat.le_of_ble_eq_true rfl) rfl rfl (fun hp3 zp3 cp3 fp3 => ?_)
  dsimp only [List.set] at cp3
  have hz := zp3.trans hz
  have hR : ∀ b, n ≤ b → b < (n + 5) → hp3.2 b = hp2.2 b := fun b p q => (fp3 b (by omega)).trans (hR b p q)
  have hfr : ∀ b, (b < n ∧ b ≠ a) → hp3.2 b = h.2 b := fun b hb => (fp3 b (by omega)).trans (hfr b hb)
  have hh := cp3
  first | refine go_aload_n (i := 0) (pc' := 16) dX1_init_15 rfl rfl rfl ?_ | refine go_aloadX_n (i := 0) (pc' := 16) dX1_init_15 rfl rfl rfl ?_ | refine go_aload_nN (i := 0) (pc' := 16) dX1_init_15 rfl rfl rfl ?_
  refine go_bipush (v := 80) (pc' := 18) dX1_init_16 rfl (by decide) ?_
  refine go_newarrayK (t := 2) (N := 80) (pc' := 20) dX1_init_18 rfl rfl (by decide) wd_298 (by decide) (by decide) (by decide) hz (fun hp4 zp4 cp4 fp4 => ?_)
  have hz := zp4
  have hh := (fp4 _ (by omega)).trans hh
  have hR : ∀ b, n ≤ b → b < (n + 5) → hp4.2 b = hp2.2 b := fun b p q => (fp4 b (by omega)).trans (hR b p q)
  have hfr : ∀ b, (b < n ∧ b ≠ a) → hp4.2 b = h.2 b := fun b hb => (fp4 b (by omega)).trans (hfr b hb)
  have ho : hp4.2 _ = some (.inl (2, 80, .inr (.inl (fun _ => 0)))) := cp4
  refine go_putfK (pc' := 23) dX1_init_20 rfl pf_LandBase_Cutter_18 (fun _ => rfl) hh (Nat.le_of_ble_eq_true rfl) rfl rfl (fun hp5 zp5 cp5 fp5 => ?_)
  dsimp only [List.set] at cp5
  have hz := zp5.trans hz
  have ho := (fp5 _ (by omega)).trans ho
  have hR : ∀ b, n ≤ b → b < (n + 5) → hp5.2 b = hp2.2 b := fun b p q => (fp5 b (by omega)).trans (hR b p q)
  have hfr : ∀ b, (b < n ∧ b ≠ a) → hp5.2 b = h.2 b := fun b hb => (fp5 b (by omega)).trans (hfr b hb)
  have hh := cp5
  first | refine go_aload_n (i := 0) (pc' := 24) dX1_init_23 rfl rfl rfl ?_ | refine go_aloadX_n (i := 0) (pc' := 24) dX1_init_23 rfl rfl rfl ?_ | refine go_aload_nN (i := 0) (pc' := 24) dX1_init_23 rfl rfl rfl ?_
  refine go_bipush (v := 80) (pc' := 26) dX1_init_24 rfl (by decide) ?_
  refine go_newarrayK (t := 2) (N := 80) (pc' := 28) dX1_init_26 rfl rfl (by decide) wd_298 (by decide) (by decide) (by decide) hz (fun hp6 zp6 cp6 fp6 => ?_)
  have hz := zp6
  have hh := (fp6 _ (by omega)).trans hh
  have ho := (fp6 _ (by omega)).trans ho
  have hR : ∀ b, n ≤ b → b < (n + 5) → hp6.2 b = hp2.2 b := fun b p q => (fp6 b (by omega)).trans (hR b p q)
  have hfr : ∀ b, (b < n ∧ b ≠ a) → hp6.2 b = h.2 b := fun b hb => (fp6 b (by omega)).trans (hfr b hb)
  have hu : hp6.2 _ = some (.inl (2, 80, .inr (.inl (fun _ => 0)))) := cp6
  refine go_putfK (pc' := 31) dX1_init_28 rfl pf_LandBase_Cutter_22 (fun _ => rfl) hh (Nat.le_of_ble_eq_true rfl) rfl rfl (fun hp7 zp7 cp7 fp7 => ?_)
  dsimp only [List.set] at cp7
  have hz := zp7.trans hz
  have ho := (fp7 _ (by omega)).trans ho
  have hu := (fp7 _ (by omega)).trans hu
  have hR : ∀ b, n ≤ b → b < (n + 5) → hp7.2 b = hp2.2 b := fun b p q => (fp7 b (by omega)).trans (hR b p q)
  have hfr : ∀ b, (b < n ∧ b ≠ a) → hp7.2 b = h.2 b := fun b hb => (fp7 b (by omega)).trans (hfr b hb)
  have hh := cp7
  first | refine go_aload_n (i := 0) (pc' := 32) dX1_init_31 rfl rfl rfl ?_ | refine go_aloadX_n (i := 0) (pc' := 32) dX1_init_31 rfl rfl rfl ?_ | refine go_aload_nN (i := 0) (pc' := 32) dX1_init_31 rfl rfl rfl ?_
  refine go_bipush (v := 80) (pc' := 34) dX1_init_32 rfl (by decide) ?_
  refine go_newarrayK (t := 0) (N := 80) (pc' := 36) dX1_init_34 rfl rfl (by decide) wd_148 (by decide) (by decide) (by decide) hz (fun hp8 zp8 cp8 fp8 => ?_)
  have hz := zp8
  have hh := (fp8 _ (by omega)).trans hh
  have ho := (fp8 _ (by omega)).trans ho
  have hu := (fp8 _ (by omega)).trans hu
  have hR : ∀ b, n ≤ b → b < (n + 5) → hp8.2 b = hp2.2 b := fun b p q => (fp8 b (by omega)).trans (hR b p q)
  have hfr : ∀ b, (b < n ∧ b ≠ a) → hp8.2 b = h.2 b := fun b hb => (fp8 b (by omega)).trans (hfr b hb)
  have hv : hp8.2 _ = some (.inl (0, 80, .inl (fun _ => 0))) := cp8
  refine go_putfK (pc' := 39) dX1_init_36 rfl pf_LandBase_Cutter_25 (fun _ => rfl) hh (Nat.le_of_ble_eq_true rfl) rfl rfl (fun hp9 zp9 cp9 fp9 => ?_)
  dsimp only [List.set] at cp9
  have hz := zp9.trans hz
  have ho := (fp9 _ (by omega)).trans ho
  have hu := (fp9 _ (by omega)).trans hu
  have hv := (fp9 _ (by omega)).trans hv
  have hR : ∀ b, n ≤ b → b < (n + 5) → hp9.2 b = hp2.2 b := fun b p q => (fp9 b (by omega)).trans (hR b p q)
  have hfr : ∀ b, (b < n ∧ b ≠ a) → hp9.2 b = h.2 b := fun b hb => (fp9 b (by omega)).trans (hfr b hb)
  have hh := cp9
  exact Go.ret (v := none) dX1_init_39 rfl ⟨trivial,rfl,hz,hh,hS.kept (fun b p q => hR b (by omega) (by omega)),ho,hu,hv,hfr⟩
set_option maxRecDepth 100000 in
theorem c_Checker_init {G : xG} {h : xH} {a n s k : Nat} (hz : h.1 = (n, s)) (ha : a < n) (hh : h.2 a = some (.inr (0, [.null, .null]))) : Ca G mX0_init [.ref a, .ref k] h (fun v h' => v = none ∧ h'.1 = (n + 1, s + 8) ∧ h'.2 a = some (.inr (0, [.ref k, .ref n])) ∧ h'.2 n = some (.inl (0, 8, .inl (fun _ => 0))) ∧ ∀ b, (b < n ∧ b ≠ a) → h'.2 b = h.2 b) := by
  refine Ca.of rfl (Nat.le_of_ble_eq_true rfl) ?_
  have hfr : ∀ b, (b < n ∧ b ≠ a) → h.2 b = h.2 b := fun _ _ => rfl
  first | refine go_aload_n (i := 0) (pc' := 1) dX0_init_0 rfl rfl rfl ?_ | refine go_aloadX_n (i := 0) (pc' := 1) dX0_init_0 rfl rfl rfl ?_ | refine go_aload_nN (i := 0) (pc' := 1) dX0_init_0 rfl rfl rfl ?_
  refine go_objInit (pc' := 4) dX0_init_1 rfl wd_304 wd_27 wd_28 (by decide) (Nat.le_of_ble_eq_true rfl) ?_
  first | refine go_aload_n (i := 0) (pc' := 5) dX0_init_4 rfl rfl rfl ?_ | refine go_aloadX_n (i := 0) (pc' := 5) dX0_init_4 rfl rfl rfl ?_ | refine go_aload_nN (i := 0) (pc' := 5) dX0_init_4 rfl rfl rfl ?_
  first | refine go_aload_n (i := 1) (pc' := 6) dX0_init_5 rfl rfl rfl ?_ | refine go_aloadX_n (i := 1) (pc' := 6) dX0_init_5 rfl rfl rfl ?_ | refine go_aload_nN (i := 1) (pc' := 6) dX0_init_5 rfl rfl rfl ?_
  refine go_putfK (pc' := 9) dX0_init_6 rfl pf_LandBase_Checker_9 (fun _ => rfl) hh (Nat.le_of_ble_eq_true rfl) rfl rfl (fun hp1 zp1 cp1 fp1 => ?_)
  dsimp only [List.set] at cp1
  have hz := zp1.trans hz
  have hfr : ∀ b, (b < n ∧ b ≠ a) → hp1.2 b = h.2 b := fun b hb => (fp1 b (by omega)).trans (hfr b hb)
  have hh := cp1
  first | refine go_aload_n (i := 0) (pc' := 10) dX0_init_9 rfl rfl rfl ?_ | refine go_aloadX_n (i := 0) (pc' := 10) dX0_init_9 rfl rfl rfl ?_ | refine go_aload_nN (i := 0) (pc' := 10) dX0_init_9 rfl rfl rfl ?_
  refine go_bipush (v := 8) (pc' := 12) dX0_init_10 rfl (by decide) ?_
  refine go_newarrayK (t := 0) (N := 8) (pc' := 14) dX0_init_12 rfl rfl (by decide) wd_148 (by decide) (by decide) (by decide) hz (fun hp2 zp2 cp2 fp2 => ?_)
  have hz := zp2
  have hh := (fp2 _ (by omega)).trans hh
  have hfr : ∀ b, (b < n ∧ b ≠ a) → hp2.2 b = h.2 b := fun b hb => (fp2 b (by omega)).trans (hfr b hb)
  have hi : hp2.2 _ = some (.inl (0, 8, .inl (fun _ => 0))) := cp2
  refine go_putfK (pc' := 17) dX0_init_14 rfl pf_LandBase_Checker_15 (fun _ => rfl) hh (Nat.le_of_ble_eq_true rfl) rfl rfl (fun hp3 zp3 cp3 fp3 => ?_)
  dsimp only [List.set] at cp3
  have hz := zp3.trans hz
  have hi := (fp3 _ (by omega)).trans hi
  have hfr : ∀ b, (b < n ∧ b ≠ a) → hp3.2 b = h.2 b := fun b hb => (fp3 b (by omega)).trans (hfr b hb)
  have hh := cp3
  exact Go.ret (v := none) dX0_init_17 rfl ⟨trivial,rfl,hz,hh,hi,hfr⟩
set_option maxRecDepth 100000 in
theorem c_Relations_init {G : xG} {h : xH} {a n s k : Nat} (hz : h.1 = (n, s)) (hh : h.2 a = some (.inr (5, [.null]))) : Ca G mX6_init [.ref a, .ref k] h (fun v h' => v = none ∧ h'.1 = (n, s) ∧ h'.2 a = some (.inr (5, [.ref k])) ∧ ∀ b, (b ≠ a) → h'.2 b = h.2 b) := by
  refine Ca.of rfl (Nat.le_of_ble_eq_true rfl) ?_
  have hfr : ∀ b, (b ≠ a) → h.2 b = h.2 b := fun _ _ => rfl
  first | refine go_aload_n (i := 0) (pc' := 1) dX6_init_0 rfl rfl rfl ?_ | refine go_aloadX_n (i := 0) (pc' := 1) dX6_init_0 rfl rfl rfl ?_ | refine go_aload_nN (i := 0) (pc' := 1) dX6_init_0 rfl rfl rfl ?_
  refine go_objInit (pc' := 4) dX6_init_1 rfl wd_317 wd_27 wd_28 (by decide) (Nat.le_of_ble_eq_true rfl) ?_
  first | refine go_aload_n (i := 0) (pc' := 5) dX6_init_4 rfl rfl rfl ?_ | refine go_aloadX_n (i := 0) (pc' := 5) dX6_init_4 rfl rfl rfl ?_ | refine go_aload_nN (i := 0) (pc' := 5) dX6_init_4 rfl rfl rfl ?_
  first | refine go_aload_n (i := 1) (pc' := 6) dX6_init_5 rfl rfl rfl ?_ | refine go_aloadX_n (i := 1) (pc' := 6) dX6_init_5 rfl rfl rfl ?_ | refine go_aload_nN (i := 1) (pc' := 6) dX6_init_5 rfl rfl rfl ?_
  refine go_putfK (pc' := 9) dX6_init_6 rfl pf_LandBase_Relations_9 (fun _ => rfl) hh (Nat.le_of_ble_eq_true rfl) rfl rfl (fun hp1 zp1 cp1 fp1 => ?_)
  dsimp only [List.set] at cp1
  have hz := zp1.trans hz
  have hfr : ∀ b, (b ≠ a) → hp1.2 b = h.2 b := fun b hb => (fp1 b (by omega)).trans (hfr b hb)
  have hh := cp1
  exact Go.ret (v := none) dX6_init_9 rfl ⟨trivial,rfl,hz,hh,hfr⟩
set_option maxRecDepth 100000 in
theorem c_Distance_init {G : xG} {h : xH} {a n s : Nat} (hz : h.1 = (n, s)) (hh : h.2 a = some (.inr (2, [.long 0, .long 0, .long 0]))) : Ca G mX2_init [.ref a] h (fun v h' => v = none ∧ h'.1 = (n, s) ∧ h'.2 a = some (.inr (2, [.long 0, .long 0, .long 1])) ∧ ∀ b, (b ≠ a) → h'.2 b = h.2 b) := by
  refine Ca.of rfl (Nat.le_of_ble_eq_true rfl) ?_
  have hfr : ∀ b, (b ≠ a) → h.2 b = h.2 b := fun _ _ => rfl
  first | refine go_aload_n (i := 0) (pc' := 1) dX2_init_0 rfl rfl rfl ?_ | refine go_aloadX_n (i := 0) (pc' := 1) dX2_init_0 rfl rfl rfl ?_ | refine go_aload_nN (i := 0) (pc' := 1) dX2_init_0 rfl rfl rfl ?_
  refine go_objInit (pc' := 4) dX2_init_1 rfl wd_328 wd_27 wd_28 (by decide) (Nat.le_of_ble_eq_true rfl) ?_
  first | refine go_aload_n (i := 0) (pc' := 5) dX2_init_4 rfl rfl rfl ?_ | refine go_aloadX_n (i := 0) (pc' := 5) dX2_init_4 rfl rfl rfl ?_ | refine go_aload_nN (i := 0) (pc' := 5) dX2_init_4 rfl rfl rfl ?_
  refine go_lconst (v := 1) (pc' := 6) dX2_init_5 rfl (by decide) ?_
  refine go_putfK (pc' := 9) dX2_init_6 rfl pf_LandBase_Distance_9 (fun h => by cases h) hh (Nat.le_of_ble_eq_true rfl) rfl rfl (fun hp1 zp1 cp1 fp1 => ?_)
  dsimp only [List.set] at cp1
  have hz := zp1.trans hz
  have hfr : ∀ b, (b ≠ a) → hp1.2 b = h.2 b := fun b hb => (fp1 b (by omega)).trans (hfr b hb)
  have hh := cp1
  exact Go.ret (v := none) dX2_init_9 rfl ⟨trivial,rfl,hz,hh,hfr⟩

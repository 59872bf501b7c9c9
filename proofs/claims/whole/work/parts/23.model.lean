/-! LandBaseModel() and its parts -/
def MSh (h : xH) (a : Nat) (id kind pl ri : Int32) (en xs ys : Nat → Int32) : Prop :=
  h.2 a = some (.inr (11, [.int id, .int kind, .int pl, .int ri, .ref (a + 1), .ref (a + 2), .ref (a + 3)])) ∧ h.2 (a + 1) = some (.inl (0, 8, .inl en)) ∧ h.2 (a + 2) = some (.inl (0, 40, .inl xs)) ∧ h.2 (a + 3) = some (.inl (0, 40, .inl ys))
def MSh0 (h : xH) (a : Nat) : Prop := MSh h a 0 0 0 0 (fun _ => 0) (fun _ => 0) (fun _ => 0)
theorem MSh0.kept {h h1 : xH} {a : Nat} (k : MSh0 h a) (f : ∀ b, a ≤ b → b < a + 4 → h1.2 b = h.2 b) : MSh0 h1 a :=
  ⟨(f a (by omega) (by omega)).trans k.1, (f (a + 1) (by omega) (by omega)).trans k.2.1, (f (a + 2) (by omega) (by omega)).trans k.2.2.1, (f (a + 3) (by omega) (by omega)).trans k.2.2.2⟩
def MDi (h : xH) (a : Nat) (nu de : Nat → Int64) : Prop :=
  h.2 a = some (.inr (10, [.ref (a + 1), .ref (a + 2)])) ∧ h.2 (a + 1) = some (.inl (2, 8, .inr (.inl nu))) ∧ h.2 (a + 2) = some (.inl (2, 8, .inr (.inl de)))
def MDi0 (h : xH) (a : Nat) : Prop := MDi h a (fun _ => 0) (fun _ => 0)
theorem MDi0.kept {h h1 : xH} {a : Nat} (k : MDi0 h a) (f : ∀ b, a ≤ b → b < a + 3 → h1.2 b = h.2 b) : MDi0 h1 a :=
  ⟨(f a (by omega) (by omega)).trans k.1, (f (a + 1) (by omega) (by omega)).trans k.2.1, (f (a + 2) (by omega) (by omega)).trans k.2.2⟩
set_option maxRecDepth 100000 in
theorem c_MShape_init {G : xG} {h : xH} {a n s : Nat} (hz : h.1 = (n, s)) (ha : a + 1 = n) (hh : h.2 a = some (.inr (11, [.int 0, .int 0, .int 0, .int 0, .null, .null, .null]))) : Ca G mX12_init [.ref a] h (fun v h' => v = none ∧ h'.1 = (n + 3, s + 88) ∧ MSh0 h' a ∧ ∀ b, b < a → h'.2 b = h.2 b) := by
  refine Ca.of rfl (Nat.le_of_ble_eq_true rfl) ?_
  subst ha
  have hfr : ∀ b, (b < a) → h.2 b = h.2 b := fun _ _ => rfl
  first | refine go_aload_n (i := 0) (pc' := 1) dX12_init_0 rfl rfl rfl ?_ | refine go_aloadX_n (i := 0) (pc' := 1) dX12_init_0 rfl rfl rfl ?_ | refine go_aload_nN (i := 0) (pc' := 1) dX12_init_0 rfl rfl rfl ?_
  refine go_objInit (pc' := 4) dX12_init_1 rfl wd_987 wd_27 wd_28 (by decide) (Nat.le_of_ble_eq_true rfl) ?_
  first | refine go_aload_n (i := 0) (pc' := 5) dX12_init_4 rfl rfl rfl ?_ | refine go_aloadX_n (i := 0) (pc' := 5) dX12_init_4 rfl rfl rfl ?_ | refine go_aload_nN (i := 0) (pc' := 5) dX12_init_4 rfl rfl rfl ?_
  refine go_bipush (v := 8) (pc' := 7) dX12_init_5 rfl (by decide) ?_
  refine go_newarrayK (t := 0) (N := 8) (pc' := 9) dX12_init_7 rfl rfl (by decide) wd_148 (by decide) (by decide) (by decide) hz (fun hp1 zp1 cp1 fp1 => ?_)
  have hz := zp1
  have hh := (fp1 _ (by omega)).trans hh
  have hfr : ∀ b, (b < a) → hp1.2 b = h.2 b := fun b hb => (fp1 b (by omega)).trans (hfr b hb)
  have he : hp1.2 _ = some (.inl (0, 8, .inl (fun _ => 0))) := cp1
  refine go_putfK (pc' := 12) dX12_init_9 rfl pf_LandBaseModel_Shape_9 (fun _ => rfl) hh (Nat.le_of_ble_eq_true rfl) rfl rfl (fun hp2 zp2 cp2 fp2 => ?_)
  dsimp only [List.set] at cp2
  have hz := zp2.trans hz
  have he := (fp2 _ (by omega)).trans he
  have hfr : ∀ b, (b < a) → hp2.2 b = h.2 b := fun b hb => (fp2 b (by omega)).trans (hfr b hb)
  have hh := cp2
  first | refine go_aload_n (i := 0) (pc' := 13) dX12_init_12 rfl rfl rfl ?_ | refine go_aloadX_n (i := 0) (pc' := 13) dX12_init_12 rfl rfl rfl ?_ | refine go_aload_nN (i := 0) (pc' := 13) dX12_init_12 rfl rfl rfl ?_
  refine go_bipush (v := 40) (pc' := 15) dX12_init_13 rfl (by decide) ?_
  refine go_newarrayK (t := 0) (N := 40) (pc' := 17) dX12_init_15 rfl rfl (by decide) wd_148 (by decide) (by decide) (by decide) hz (fun hp3 zp3 cp3 fp3 => ?_)
  have hz := zp3
  have hh := (fp3 _ (by omega)).trans hh
  have he := (fp3 _ (by omega)).trans he
  have hfr : ∀ b, (b < a) → hp3.2 b = h.2 b := fun b hb => (fp3 b (by omega)).trans (hfr b hb)
  have hx : hp3.2 _ = some (.inl (0, 40, .inl (fun _ => 0))) := cp3
  refine go_putfK (pc' := 20) dX12_init_17 rfl pf_LandBaseModel_Shape_15 (fun _ => rfl) hh (Nat.le_of_ble_eq_true rfl) rfl rfl (fun hp4 zp4 cp4 fp4 => ?_)
  dsimp only [List.set] at cp4
  have hz := zp4.trans hz
  have he := (fp4 _ (by omega)).trans he
  have hx := (fp4 _ (by omega)).trans hx
  have hfr : ∀ b, (b < a) → hp4.2 b = h.2 b := fun b hb => (fp4 b (by omega)).trans (hfr b hb)
  have hh := cp4
  first | refine go_aload_n (i := 0) (pc' := 21) dX12_init_20 rfl rfl rfl ?_ | refine go_aloadX_n (i := 0) (pc' := 21) dX12_init_20 rfl rfl rfl ?_ | refine go_aload_nN (i := 0) (pc' := 21) dX12_init_20 rfl rfl rfl ?_
  refine go_bipush (v := 40) (pc' := 23) dX12_init_21 rfl (by decide) ?_
  refine go_newarrayK (t := 0) (N := 40) (pc' := 25) dX12_init_23 rfl rfl (by decide) wd_148 (by decide) (by decide) (by decide) hz (fun hp5 zp5 cp5 fp5 => ?_)
  have hz := zp5
  have hh := (fp5 _ (by omega)).trans hh
  have he := (fp5 _ (by omega)).trans he
  have hx := (fp5 _ (by omega)).trans hx
  have hfr : ∀ b, (b < a) → hp5.2 b = h.2 b := fun b hb => (fp5 b (by omega)).trans (hfr b hb)
  have hy : hp5.2 _ = some (.inl (0, 40, .inl (fun _ => 0))) := cp5
  refine go_putfK (pc' := 28) dX12_init_25 rfl pf_LandBaseModel_Shape_18 (fun _ => rfl) hh (Nat.le_of_ble_eq_true rfl) rfl rfl (fun hp6 zp6 cp6 fp6 => ?_)
  dsimp only [List.set] at cp6
  have hz := zp6.trans hz
  have he := (fp6 _ (by omega)).trans he
  have hx := (fp6 _ (by omega)).trans hx
  have hy := (fp6 _ (by omega)).trans hy
  have hfr : ∀ b, (b < a) → hp6.2 b = h.2 b := fun b hb => (fp6 b (by omega)).trans (hfr b hb)
  have hh := cp6
  exact Go.ret (v := none) dX12_init_28 rfl ⟨trivial,rfl,hz,⟨hh,he,hx,hy⟩,hfr⟩
set_option maxRecDepth 100000 in
theorem c_MDist_init {G : xG} {h : xH} {a n s : Nat} (hz : h.1 = (n, s)) (ha : a + 1 = n) (hh : h.2 a = some (.inr (10, [.null, .null]))) : Ca G mX11_init [.ref a] h (fun v h' => v = none ∧ h'.1 = (n + 2, s + 16) ∧ MDi0 h' a ∧ ∀ b, b < a → h'.2 b = h.2 b) := by
  refine Ca.of rfl (Nat.le_of_ble_eq_true rfl) ?_
  subst ha
  have hfr : ∀ b, (b < a) → h.2 b = h.2 b := fun _ _ => rfl
  first | refine go_aload_n (i := 0) (pc' := 1) dX11_init_0 rfl rfl rfl ?_ | refine go_aloadX_n (i := 0) (pc' := 1) dX11_init_0 rfl rfl rfl ?_ | refine go_aload_nN (i := 0) (pc' := 1) dX11_init_0 rfl rfl rfl ?_
  refine go_objInit (pc' := 4) dX11_init_1 rfl wd_1023 wd_27 wd_28 (by decide) (Nat.le_of_ble_eq_true rfl) ?_
  first | refine go_aload_n (i := 0) (pc' := 5) dX11_init_4 rfl rfl rfl ?_ | refine go_aloadX_n (i := 0) (pc' := 5) dX11_init_4 rfl rfl rfl ?_ | refine go_aload_nN (i := 0) (pc' := 5) dX11_init_4 rfl rfl rfl ?_
  refine go_bipush (v := 8) (pc' := 7) dX11_init_5 rfl (by decide) ?_
  refine go_newarrayK (t := 2) (N := 8) (pc' := 9) dX11_init_7 rfl rfl (by decide) wd_298 (by decide) (by decide) (by decide) hz (fun hp1 zp1 cp1 fp1 => ?_)
  have hz := zp1
  have hh := (fp1 _ (by omega)).trans hh
  have hfr : ∀ b, (b < a) → hp1.2 b = h.2 b := fun b hb => (fp1 b (by omega)).trans (hfr b hb)
  have hn : hp1.2 _ = some (.inl (2, 8, .inr (.inl (fun _ => 0)))) := cp1
  refine go_putfK (pc' := 12) dX11_init_9 rfl pf_LandBaseModel_Distance_9 (fun _ => rfl) hh (Nat.le_of_ble_eq_true rfl) rfl rfl (fun hp2 zp2 cp2 fp2 => ?_)
  dsimp only [List.set] at cp2
  have hz := zp2.trans hz
  have hn := (fp2 _ (by omega)).trans hn
  have hfr : ∀ b, (b < a) → hp2.2 b = h.2 b := fun b hb => (fp2 b (by omega)).trans (hfr b hb)
  have hh := cp2
  first | refine go_aload_n (i := 0) (pc' := 13) dX11_init_12 rfl rfl rfl ?_ | refine go_aloadX_n (i := 0) (pc' := 13) dX11_init_12 rfl rfl rfl ?_ | refine go_aload_nN (i := 0) (pc' := 13) dX11_init_12 rfl rfl rfl ?_
  refine go_bipush (v := 8) (pc' := 15) dX11_init_13 rfl (by decide) ?_
  refine go_newarrayK (t := 2) (N := 8) (pc' := 17) dX11_init_15 rfl rfl (by decide) wd_298 (by decide) (by decide) (by decide) hz (fun hp3 zp3 cp3 fp3 => ?_)
  have hz := zp3
  have hh := (fp3 _ (by omega)).trans hh
  have hn := (fp3 _ (by omega)).trans hn
  have hfr : ∀ b, (b < a) → hp3.2 b = h.2 b := fun b hb => (fp3 b (by omega)).trans (hfr b hb)
  have hd : hp3.2 _ = some (.inl (2, 8, .inr (.inl (fun _ => 0)))) := cp3
  refine go_putfK (pc' := 20) dX11_init_17 rfl pf_LandBaseModel_Distance_15 (fun _ => rfl) hh (Nat.le_of_ble_eq_true rfl) rfl rfl (fun hp4 zp4 cp4 fp4 => ?_)
  dsimp only [List.set] at cp4
  have hz := zp4.trans hz
  have hn := (fp4 _ (by omega)).trans hn
  have hd := (fp4 _ (by omega)).trans hd
  have hfr : ∀ b, (b < a) → hp4.2 b = h.2 b := fun b hb => (fp4 b (by omega)).trans (hfr b hb)
  have hh := cp4
  exact Go.ret (v := none) dX11_init_20 rfl ⟨trivial,rfl,hz,⟨hh,hn,hd⟩,hfr⟩
/-- a state of the reference: its cell, its row, 200 shapes of four cells each -/
def MSt (h : xH) (a : Nat) (f : Nat → Option Nat) (c : Int32) : Prop := h.2 a = some (.inr (12, [.ref (a + 1), .int c])) ∧ h.2 (a + 1) = some (.inl (6, 200, .inr (.inr (.inr (.inr f)))))
def MSt0 (h : xH) (a : Nat) : Prop := ∃ f, MSt h a f 0 ∧ ∀ i, i < 200 → f i = some (a + 2 + 4 * i) ∧ MSh0 h (a + 2 + 4 * i)
theorem MSt0.kept {h h1 : xH} {a : Nat} (k : MSt0 h a) (f : ∀ b, a ≤ b → b < a + 802 → h1.2 b = h.2 b) : MSt0 h1 a := by
  obtain ⟨g, ⟨k1, k2⟩, k3⟩ := k
  exact ⟨g, ⟨(f a (by omega) (by omega)).trans k1, (f (a + 1) (by omega) (by omega)).trans k2⟩, fun i hi => ⟨(k3 i hi).1, (k3 i hi).2.kept (fun b p q => f b (by omega) (by omega))⟩⟩
set_option maxRecDepth 100000 in
theorem g_MState_init {G : xG} {P : Option Value → xH → Prop} {a s : Nat} :
    ∀ (m i : Nat) (h : xH) (f : Nat → Option Nat), i + m = 200 → h.1 = (a + 2 + 4 * i, s + 95 * i) → h.2 a = some (.inr (12, [.ref (a + 1), .int 0])) → h.2 (a + 1) = some (.inl (6, 200, .inr (.inr (.inr (.inr f))))) → (∀ j, j < i → f j = some (a + 2 + 4 * j) ∧ MSh0 h (a + 2 + 4 * j)) →
    (∀ (h' : xH) (f' : Nat → Option Nat), h'.1 = (a + 802, s + 19000) → MSt h' a f' 0 → (∀ j, j < 200 → f' j = some (a + 2 + 4 * j) ∧ MSh0 h' (a + 2 + 4 * j)) → (∀ b, b < a → h'.2 b = h.2 b) → Go G mX13_init 42 [some (.ref a), some (.int 200)] [] h' P) →
    Go G mX13_init 16 [some (.ref a), some (.int (nI i))] [] h P := by
  intro m
  induction m with
  | zero =>
    intro i h f him hz h0 h1 hj k
    have hi : i = 200 := by omega
    subst hi
    refine go_iload_n (i := 1) (pc' := 17) dX13_init_16 rfl rfl rfl ?_
    refine go_sipush (v := 200) (pc' := 20) dX13_init_17 rfl (by decide) ?_
    refine go_icmp_ge (pc' := 23) (tgt := 42) dX13_init_20 (by decide) rfl (fun c1 => ?_) (fun c1 => ?_)
    · exact k h f hz ⟨h0, h1⟩ hj (fun _ _ => rfl)
    · exact absurd (by decide) c1
  | succ m ih =>
    intro i h f him hz h0 h1a hj k
    have hin : vp_in (nI i) 200 := vp_in_nI (by omega) (by omega)
    have hc : (nI i).toNatClampNeg = i := nI_clamp (by omega)
    refine go_iload_n (i := 1) (pc' := 17) dX13_init_16 rfl rfl rfl ?_
    refine go_sipush (v := 200) (pc' := 20) dX13_init_17 rfl (by decide) ?_
    refine go_icmp_ge (pc' := 23) (tgt := 42) dX13_init_20 (by decide) rfl (fun c1 => ?_) (fun c1 => ?_)
    · exact absurd c1 (nI_ge (a := i) (b := 200) (by omega) (by omega))
    · first | refine go_aload_n (i := 0) (pc' := 24) dX13_init_23 rfl rfl rfl ?_ | refine go_aloadX_n (i := 0) (pc' := 24) dX13_init_23 rfl rfl rfl ?_ | refine go_aload_nN (i := 0) (pc' := 24) dX13_init_23 rfl rfl rfl ?_
      refine go_getf (pc' := 27) dX13_init_24 rfl gf_LandBaseModel_State_11 h0 rfl ?_
      refine go_iload_n (i := 1) (pc' := 28) dX13_init_27 rfl rfl rfl ?_
      refine go_newK (pc' := 31) dX13_init_28 rfl nw_LandBaseModel_State_9 hz (fun hp1 zp1 cp1 fp1 => ?_)
      have hz := zp1
      have h0 := (fp1 _ (by omega)).trans h0
      have h1a := (fp1 _ (by omega)).trans h1a
      have hD := cp1
      refine go_dup (pc' := 32) dX13_init_31 rfl rfl ?_
      refine go_invIN (As := []) (pc' := 35) dX13_init_32 rfl cf_X13_init_17 rfl rfl (Nat.le_of_ble_eq_true rfl) (c_MShape_init (hz:=hz) (ha:=rfl) (hh:=hD)) (fun vp2 hp2 qp2 => ?_)
      obtain ⟨rfl, hz, hD, fp2⟩ := qp2
      have h0 := (fp2 _ (by omega)).trans h0
      have h1a := (fp2 _ (by omega)).trans h1a
      refine go_aastoreK (pc' := 36) dX13_init_35 rfl (by decide) rfl rfl h1a hD.1 hin (fun hp3 zp3 cp3 fp3 => ?_)
      have hz := zp3.trans hz
      have h0 := (fp3 _ (by omega)).trans h0
      have h1a := cp3
      refine go_iincC (kk := 1) (pc' := 39) dX13_init_36 rfl rfl (by decide) (by decide) rfl ?_
      refine go_goto (pc' := 0) (tgt := 16) dX13_init_39 (by decide) ?_
      rw [hc] at h1a
      rw [nI_1]
      refine ih (i + 1) _ _ (by omega) (by rw [hz]; congr 1) h0 h1a (fun j hj2 => ?_) (fun h' f' e1 e2 e3 e5 => k h' f' e1 e2 e3 (fun b q => (e5 b q).trans ?_))
      · by_cases e : j = i
        · subst e
          exact ⟨by simp [va_up], hD.kept (fun b p q => fp3 b (by omega))⟩
        · refine ⟨by simp [va_up, e, (hj j (by omega)).1], (hj j (by omega)).2.kept (fun b p q => ?_)⟩
          rw [fp3 _ (by omega), fp2 _ (by omega), fp1 _ (by omega)]
      · rw [fp3 _ (by omega), fp2 _ (by omega), fp1 _ (by omega)]
set_option maxRecDepth 100000 in
theorem c_MState_init {G : xG} {h : xH} {a n s : Nat} (hz : h.1 = (n, s)) (ha : a + 1 = n) (hh : h.2 a = some (.inr (12, [.null, .int 0]))) : Ca G mX13_init [.ref a] h (fun v h' => v = none ∧ h'.1 = (n + 801, s + 19200) ∧ MSt0 h' a ∧ ∀ b, b < a → h'.2 b = h.2 b) := by
  refine Ca.of rfl (Nat.le_of_ble_eq_true rfl) ?_
  subst ha
  first | refine go_aload_n (i := 0) (pc' := 1) dX13_init_0 rfl rfl rfl ?_ | refine go_aloadX_n (i := 0) (pc' := 1) dX13_init_0 rfl rfl rfl ?_ | refine go_aload_nN (i := 0) (pc' := 1) dX13_init_0 rfl rfl rfl ?_
  refine go_objInit (pc' := 4) dX13_init_1 rfl wd_1038 wd_27 wd_28 (by decide) (Nat.le_of_ble_eq_true rfl) ?_
  first | refine go_aload_n (i := 0) (pc' := 5) dX13_init_4 rfl rfl rfl ?_ | refine go_aloadX_n (i := 0) (pc' := 5) dX13_init_4 rfl rfl rfl ?_ | refine go_aload_nN (i := 0) (pc' := 5) dX13_init_4 rfl rfl rfl ?_
  refine go_sipush (v := 200) (pc' := 8) dX13_init_5 rfl (by decide) ?_
  refine go_anewarrayK (t := 6) (N := 200) (pc' := 11) dX13_init_8 rfl (by decide) rfl wd_1039 (by decide) (by decide) (by decide) hz (fun hp1 zp1 cp1 fp1 => ?_)
  have hz := zp1
  have hh := (fp1 _ (by omega)).trans hh
  have hx : hp1.2 _ = some (.inl (6, 200, .inr (.inr (.inr (.inr (fun _ => none)))))) := cp1
  refine go_putfK (pc' := 14) dX13_init_11 rfl pf_LandBaseModel_State_11 (fun _ => rfl) hh (Nat.le_of_ble_eq_true rfl) rfl rfl (fun hp2 zp2 cp2 fp2 => ?_)
  dsimp only [List.set] at cp2
  have hz := zp2.trans hz
  have hx := (fp2 _ (by omega)).trans hx
  have hh := cp2
  refine go_iconst (v := 0) (pc' := 15) dX13_init_14 rfl (by decide) ?_
  refine go_istore_n (i := 1) (pc' := 16) dX13_init_15 rfl rfl (by decide) rfl ?_
  refine g_MState_init (s := s + 200) 200 0 _ _ rfl hz hh hx (fun j hj => absurd hj (by omega)) (fun h' f' e1 e2 e3 e4 => ?_)
  exact Go.ret (v := none) dX13_init_42 rfl ⟨trivial,rfl,e1,⟨f',e2,e3⟩,(fun b hb => by rw [e4 b hb, fp2 b (by omega), fp1 b (by omega)])⟩

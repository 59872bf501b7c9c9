/-! feed: bytes -/
def qqb (l : Int64) (m : Nat) : Nat := l.toBitVec.toNat / 2 ^ (8 * m) % 256
set_option maxHeartbeats 200000 in
theorem qsh_s : ∀ m : Fin 8, ((iI (8 * (m.val : Nat))).toInt64.toUInt64 &&& Int64.toUInt64 63) = UInt64.ofNat (8 * m.val) := by decide +kernel
set_option maxHeartbeats 200000 in
theorem qsh_m : ∀ m : Fin 8, (((iI (8 * (m.val : Nat))).toInt64 &&& 63).toBitVec.smod 64) = BitVec.ofNat 64 (8 * m.val) := by decide +kernel
set_option maxHeartbeats 200000 in
theorem qb8 : ∀ b : Fin 256, (Int8.ofBitVec (BitVec.ofNat 8 b.val)).toInt32 = iI (sB (b.val : Nat)) := by decide +kernel
set_option maxHeartbeats 200000 in
theorem qqb_lt (l : Int64) (m : Nat) : qqb l m < 256 := Nat.mod_lt _ (by decide)
set_option maxHeartbeats 200000 in
theorem qqb_s0 (l : Int64) {m : Nat} (hm : m < 8) : ((((l.toUInt64 >>> ((iI (8 * (m : Nat))).toInt64.toUInt64 &&& Int64.toUInt64 63)).toInt64).toInt32).toInt8.toInt32) = iI (sB (qqb l m : Nat)) := by
  rw [qsh_s ⟨m, hm⟩]
  have e : ((l.toUInt64 >>> UInt64.ofNat (8 * m)).toInt64.toInt32).toInt8 = Int8.ofBitVec (BitVec.ofNat 8 (qqb l m)) := by
    rw [Int64.toInt8_toInt32]
    apply Int8.toBitVec_inj.mp
    apply BitVec.eq_of_toNat_eq
    rw [Int64.toBitVec_toInt8, BitVec.signExtend_eq_setWidth_of_le _ (by decide)]
    show ((l.toUInt64 >>> UInt64.ofNat (8 * m)).toBitVec.setWidth 8).toNat = (BitVec.ofNat 8 (qqb l m)).toNat
    rw [BitVec.toNat_setWidth, BitVec.toNat_ofNat]
    have h1 : (UInt64.ofNat (8 * m)).toNat = 8 * m := by
      rw [UInt64.toNat_ofNat']; omega
    have h2 : (l.toUInt64 >>> UInt64.ofNat (8 * m)).toBitVec.toNat = l.toBitVec.toNat / 2 ^ (8 * m) := by
      show (l.toUInt64 >>> UInt64.ofNat (8 * m)).toNat = _
      rw [UInt64.toNat_shiftRight, h1, Nat.shiftRight_eq_div_pow, Nat.mod_eq_of_lt (show 8 * m < 64 by omega)]
      rfl
    rw [h2]
    unfold qqb
    show _ % 256 = _ % 256 % 256
    omega
  rw [e]
  exact qb8 ⟨qqb l m, qqb_lt l m⟩
set_option maxHeartbeats 200000 in
theorem qn8 (x : Int32) : (x.toInt8.toInt32).toInt8.toInt32 = x.toInt8.toInt32 := by simp
set_option maxHeartbeats 200000 in
theorem qlN : ∀ b : Fin 256, (lN b.val).toInt32 = iI (b.val : Nat) := by decide +kernel
set_option maxHeartbeats 200000 in
theorem qqb_m (l : Int64) {m : Nat} (hm : m < 8) : ((l >>> ((iI (8 * (m : Nat))).toInt64 &&& 63)) &&& ((255 : Int64))).toInt32 = iI (qqb l m : Nat) := by
  have e : (l >>> ((iI (8 * (m : Nat))).toInt64 &&& 63)) &&& ((255 : Int64)) = lN (qqb l m) := by
    apply w_inj
    rw [w_bv, Int64.toBitVec_and, Int64.toBitVec_shiftRight]
    have k : (BitVec.ofNat 64 (8 * m)).toNat = 8 * m := by rw [BitVec.toNat_ofNat]; omega
    have k2 : (((iI (8 * (m : Nat))).toInt64 &&& 63).toBitVec.smod 64) = BitVec.ofNat 64 (8 * m) := qsh_m ⟨m, hm⟩
    rw [k2]
    have e2 : l.toBitVec.sshiftRight' (BitVec.ofNat 64 (8 * m)) &&& (255 : Int64).toBitVec = (l.toBitVec >>> (8 * m)) &&& (255 : Int64).toBitVec := by
      rw [BitVec.sshiftRight', k]
      apply BitVec.eq_of_getLsbD_eq
      intro i hi
      rw [BitVec.getLsbD_and, BitVec.getLsbD_and, BitVec.getLsbD_sshiftRight, BitVec.getLsbD_ushiftRight]
      by_cases q : i < 8
      · rw [if_pos (by omega)]
        simp [show ¬ 64 ≤ i by omega]
      · have : ((255 : Int64).toBitVec).getLsbD i = false := by
          show (BitVec.ofNat 64 255).getLsbD i = false
          rw [BitVec.getLsbD_ofNat]
          have : (255 : Nat).testBit i = false := Nat.testBit_lt_two_pow (Nat.lt_of_lt_of_le (by decide : 255 < 2 ^ 8) (Nat.pow_le_pow_right (by decide) (by omega)))
          rw [this, Bool.and_false]
        rw [this, Bool.and_false, Bool.and_false]
    rw [e2]
    apply BitVec.eq_of_toNat_eq
    rw [BitVec.toNat_and, BitVec.toNat_ushiftRight, Nat.shiftRight_eq_div_pow, BitVec.toNat_ofNat]
    show _ &&& 255 = _
    rw [show (255 : Nat) = 2 ^ 8 - 1 from rfl, Nat.and_two_pow_sub_one_eq_mod]
    have := qqb_lt l m
    unfold qqb at this ⊢
    rw [Nat.mod_eq_of_lt (show l.toBitVec.toNat / 2 ^ (8 * m) % 256 < 2 ^ 64 from Nat.lt_trans this (by decide))]
  rw [e]
  exact qlN ⟨qqb l m, qqb_lt l m⟩
set_option maxHeartbeats 200000 in
theorem qnar (x : Int32) : vp_nar .byte x.toInt8.toInt32 = x.toInt8.toInt32 := by
  show (x.toInt8.toInt32).toInt8.toInt32 = x.toInt8.toInt32
  exact qn8 x
set_option maxHeartbeats 200000 in
theorem qqb_s (l : Int64) {m : Nat} (hm : m < 8) : vp_nar .byte ((((l.toUInt64 >>> ((iI (8 * (m : Nat))).toInt64.toUInt64 &&& Int64.toUInt64 63)).toInt64).toInt32).toInt8.toInt32) = iI (sB (qqb l m : Nat)) := by
  rw [qnar]; exact qqb_s0 l hm
/-! bytes are appended -/
def pshT (T : Tp) (b : Int) : Tp := (T.1 + 1, fun i => if i = T.1 then b else T.2 i)
def apnT (l : Int64) : Nat → Tp → Tp
  | 0, T => T
  | m + 1, T => apnT l m (pshT T (qqb l m : Nat))
set_option maxHeartbeats 200000 in
theorem apnT_l (l : Int64) : ∀ m T, (apnT l m T).1 = T.1 + m := by
  intro m
  induction m with
  | zero => intro T; rfl
  | succ m ih => intro T; rw [apnT, ih]; show T.1 + 1 + m = _; omega
set_option maxHeartbeats 200000 in
theorem apnT_ok (l : Int64) : ∀ m T, T.1 + m ≤ 4000 → okTp T → okTp (apnT l m T) := by
  intro m
  induction m with
  | zero => intro T _ h; exact h
  | succ m ih =>
    intro T hT h
    rw [apnT]
    refine ih _ (by show T.1 + 1 + m ≤ 4000; omega) ⟨by show T.1 + 1 ≤ 4000; omega, fun i hi => ?_⟩
    have hi' : i < T.1 + 1 := hi
    have := qqb_lt l m
    show 0 ≤ (if i = T.1 then ((qqb l m : Nat) : Int) else T.2 i) ∧ (if i = T.1 then ((qqb l m : Nat) : Int) else T.2 i) ≤ 255
    by_cases e : i = T.1
    · rw [if_pos e]; omega
    · rw [if_neg e]; exact h.2 i (by omega)
def PAp (b k : Nat) : Prop := (b = 1 ∧ k = 1) ∨ b = 2
set_option maxHeartbeats 200000 in
theorem l_apnS {n : Nat} (l : Int64) : ∀ m f T σ, m < f → m ≤ 8 → T.1 + m ≤ 4000 → TpS σ T → ∃ σ', l_X9_append_3 n f l (iI (8 * (m : Nat) - 8)) σ = some ((), σ') ∧ Fk PAp σ σ' ∧ TpS σ' (apnT l m T) := by
  intro m
  induction m with
  | zero =>
    intro f T σ hf _ hT h
    obtain ⟨g, rfl⟩ : ∃ g, f = g + 1 := ⟨f - 1, by omega⟩
    rw [l_X9_append_3, if_pos (by decide)]
    exact ⟨σ, rfl, Fk.refl, h⟩
  | succ m ih =>
    intro f T σ hf hm hT h
    obtain ⟨g, rfl⟩ : ∃ g, f = g + 1 := ⟨f - 1, by omega⟩
    have R8 : R32 (8 * (m : Nat)) := ⟨by omega, by omega⟩
    have ex : iI (8 * ((m + 1 : Nat) : Int) - 8) = iI (8 * (m : Nat)) := by congr 1; omega
    have e8 : iI (8 * (m : Nat)) + (-8) = iI (8 * (m : Nat) - 8) := by rw [show (-8 : Int32) = iI (-8) from rfl, iI_add, show (8 * (m : Nat) + -8 : Int) = 8 * (m : Nat) - 8 by omega]
    have e1 : ∀ v, sI (wI σ 2 T.1 v) 1 1 = nI T.1 := fun v => by rw [sI_wI, if_neg (by omega)]; exact h.1
    rw [ex, l_X9_append_3, if_neg (fun y => by have := (iIl0 R8).mp y; omega), h.1, if_neg (fun y => by have := (nIg4000 (show T.1 < 2147483648 by omega)).mp y; omega), gd_in (by omega) (by omega), nI_k (by omega), qqb_s l (by omega), st, e1, nI_s, st, e8]
    have F : Fk PAp σ (wI (wI σ 2 T.1 (iI (sB (qqb l m : Nat)))) 1 1 (nI (T.1 + 1))) := (Fk.wI (Or.inr rfl)).trans (Fk.wI (Or.inl ⟨rfl, rfl⟩))
    obtain ⟨σ', t1, t2, t3⟩ := ih g (pshT T (qqb l m : Nat)) (wI (wI σ 2 T.1 (iI (sB (qqb l m : Nat)))) 1 1 (nI (T.1 + 1))) (by omega) (by omega) (by show T.1 + 1 + m ≤ 4000; omega) ⟨by rw [sI_own]; rfl, fun i hi => by
      have hi' : i < T.1 + 1 := hi
      show _ = iI (sB (if i = T.1 then ((qqb l m : Nat) : Int) else T.2 i))
      rw [sI_wI, if_neg (by omega)]
      by_cases e : i = T.1
      · rw [if_pos e, e, sI_own]
      · rw [if_neg e, sI_wI, if_neg (by omega)]; exact h.2 i (by omega)⟩
    exact ⟨σ', t1, F.trans t2, t3⟩
set_option maxHeartbeats 200000 in
theorem e_apn {n : Nat} (l : Int64) {T : Tp} {σ : xσ} (hT : T.1 + 8 ≤ 4000) (h : TpS σ T) : ∃ σ', f_X9_append n l σ = some ((), σ') ∧ Fk PAp σ σ' ∧ TpS σ' (apnT l 8 T) := by
  have := l_apnS (n := n) l 8 xFU T σ (xFU_lt (by omega)) (by omega) hT h
  rw [show iI (8 * ((8 : Nat) : Int) - 8) = 56 from rfl] at this
  rw [f_X9_append]; exact this
def PLy (b k : Nat) : Prop := (b = 233 ∧ k = 40) ∨ b = 1863
set_option maxHeartbeats 200000 in
theorem l_layM {n : Nat} (l : Int64) : ∀ m f T σ, m < f → m ≤ 8 → T.1 + m ≤ 4000 → TpM σ T → ∃ σ', l_X14_lay_3 n f l (iI (8 * (m : Nat) - 8)) σ = some ((), σ') ∧ Fk PLy σ σ' ∧ TpM σ' (apnT l m T) := by
  intro m
  induction m with
  | zero =>
    intro f T σ hf _ hT h
    obtain ⟨g, rfl⟩ : ∃ g, f = g + 1 := ⟨f - 1, by omega⟩
    rw [l_X14_lay_3, if_pos (by decide)]
    exact ⟨σ, rfl, Fk.refl, h⟩
  | succ m ih =>
    intro f T σ hf hm hT h
    obtain ⟨g, rfl⟩ : ∃ g, f = g + 1 := ⟨f - 1, by omega⟩
    have R8 : R32 (8 * (m : Nat)) := ⟨by omega, by omega⟩
    have ex : iI (8 * ((m + 1 : Nat) : Int) - 8) = iI (8 * (m : Nat)) := by congr 1; omega
    have e8 : iI (8 * (m : Nat)) + (-8) = iI (8 * (m : Nat) - 8) := by rw [show (-8 : Int32) = iI (-8) from rfl, iI_add, show (8 * (m : Nat) + -8 : Int) = 8 * (m : Nat) - 8 by omega]
    have e1 : ∀ v, sI (wI σ 1863 T.1 v) 233 40 = nI T.1 := fun v => by rw [sI_wI, if_neg (by omega)]; exact h.1
    rw [ex, l_X14_lay_3, if_neg (fun y => by have := (iIl0 R8).mp y; omega), h.1, gd_in (by omega) (by omega), nI_k (by omega), qqb_m l (by omega), st, e1, nI_s, st, e8]
    have F : Fk PLy σ (wI (wI σ 1863 T.1 (iI (qqb l m : Nat))) 233 40 (nI (T.1 + 1))) := (Fk.wI (Or.inr rfl)).trans (Fk.wI (Or.inl ⟨rfl, rfl⟩))
    obtain ⟨σ', t1, t2, t3⟩ := ih g (pshT T (qqb l m : Nat)) (wI (wI σ 1863 T.1 (iI (qqb l m : Nat))) 233 40 (nI (T.1 + 1))) (by omega) (by omega) (by show T.1 + 1 + m ≤ 4000; omega) ⟨by rw [sI_own]; rfl, fun i hi => by
      have hi' : i < T.1 + 1 := hi
      show _ = iI (if i = T.1 then ((qqb l m : Nat) : Int) else T.2 i)
      rw [sI_wI, if_neg (by omega)]
      by_cases e : i = T.1
      · rw [if_pos e, e, sI_own]
      · rw [if_neg e, sI_wI, if_neg (by omega)]; exact h.2 i (by omega)⟩
    exact ⟨σ', t1, F.trans t2, t3⟩
set_option maxHeartbeats 200000 in
theorem m_lay {n : Nat} (l : Int64) {T : Tp} {σ : xσ} (hT : T.1 + 8 ≤ 4000) (h : TpM σ T) : ∃ σ', f_X14_lay n l σ = some ((), σ') ∧ Fk PLy σ σ' ∧ TpM σ' (apnT l 8 T) := by
  have := l_layM (n := n) l 8 xFU T σ (xFU_lt (by omega)) (by omega) hT h
  rw [show iI (8 * ((8 : Nat) : Int) - 8) = 56 from rfl] at this
  rw [f_X14_lay]; exact this
def fdA (T : Tp) (a b c d e : Int64) : Tp := apnT e 8 (apnT d 8 (apnT c 8 (apnT b 8 (apnT a 8 T))))
set_option maxHeartbeats 200000 in
theorem c_feed {n : Nat} {σ : xσ} (h : In n σ) (l1 l3 l5 l7 l9 : Int64) : C1 n σ (f_X10_feed n l1 l3 l5 l7 l9) (f_X14_feed n l1 l3 l5 l7 l9) := by
  obtain ⟨⟨T, k, w, wr⟩, ⟨o1, o2, o3⟩, a, b⟩ := h
  have o1' : okTp T := o1
  have t4 := o1'.1
  have aT : TpS σ T := a.1
  have bT : TpM σ T := b.1
  have e40 : nI T.1 + 40 = nI (T.1 + 40) := by rw [show (40 : Int32) = nI 40 from rfl, nI_ad]
  by_cases q : T.1 + 40 ≤ 4000
  · have y : nI (T.1 + 40) ≤ 4000 := (nIe4000 (by omega)).mpr q
    have s1 : (apnT l1 8 T).1 = T.1 + 8 := apnT_l _ _ _
    have s2 : (apnT l3 8 (apnT l1 8 T)).1 = T.1 + 16 := by rw [apnT_l, s1]
    have s3 : (apnT l5 8 (apnT l3 8 (apnT l1 8 T))).1 = T.1 + 24 := by rw [apnT_l, s2]
    have s4 : (apnT l7 8 (apnT l5 8 (apnT l3 8 (apnT l1 8 T)))).1 = T.1 + 32 := by rw [apnT_l, s3]
    have s5 : (fdA T l1 l3 l5 l7 l9).1 = T.1 + 40 := by unfold fdA; rw [apnT_l, s4]
    have ok' : okTp (fdA T l1 l3 l5 l7 l9) := apnT_ok _ _ _ (by rw [s4]; omega) (apnT_ok _ _ _ (by rw [s3]; omega) (apnT_ok _ _ _ (by rw [s2]; omega) (apnT_ok _ _ _ (by rw [s1]; omega) (apnT_ok _ _ _ (by omega) o1'))))
    refine C1_of (s := (T, k, w, wr)) (s' := (fdA T l1 l3 l5 l7 l9, k, w, wr)) (v := nI (T.1 + 40)) b ⟨ok', o2, o3⟩ ?_ (fun τ c => ?_)
    · obtain ⟨σ1, u1, u2, u3⟩ := e_apn (n := n) l1 (by omega) aT
      obtain ⟨σ2, v1, v2, v3⟩ := e_apn (n := n) l3 (by omega) u3
      obtain ⟨σ3, w1, w2, w3⟩ := e_apn (n := n) l5 (by omega) v3
      obtain ⟨σ4, x1, x2, x3⟩ := e_apn (n := n) l7 (by omega) w3
      obtain ⟨σ5, y1, y2, y3⟩ := e_apn (n := n) l9 (by omega) x3
      have F : Fk PAp σ σ5 := (((u2.trans v2).trans w2).trans x2).trans y2
      have nP : ∀ b k, ¬ ((b = 1 ∧ k = 1) ∨ b = 2) → ¬ PAp b k := fun b k y => y
      obtain ⟨_, g2, g3, g4, g5⟩ := a
      refine ⟨σ5, ?_, F.mono (fun b k y => by unfold PAp at y; unfold sysP; omega), y3, g2.fk F (fun b k y => by unfold PAp at y; unfold outK; omega), g3.fk F (nP _ _ (by omega)) (fun k => nP _ _ (by omega)), by rw [(F 0 10 (nP _ _ (by omega))).1]; exact g4, g5.fk F (fun k => nP _ _ (by omega))⟩
      have yz : sI σ5 1 1 = nI (T.1 + 40) := by rw [y3.1]; exact congrArg nI s5
      rw [f_X10_feed, aT.1, e40, if_pos y, u1, bd, v1, bd, w1, bd, x1, bd, y1, bd, yz]
    · have cT : TpM τ T := c.1
      obtain ⟨σ1, u1, u2, u3⟩ := m_lay (n := n) l1 (by omega) cT
      obtain ⟨σ2, v1, v2, v3⟩ := m_lay (n := n) l3 (by omega) u3
      obtain ⟨σ3, w1, w2, w3⟩ := m_lay (n := n) l5 (by omega) v3
      obtain ⟨σ4, x1, x2, x3⟩ := m_lay (n := n) l7 (by omega) w3
      obtain ⟨σ5, y1, y2, y3⟩ := m_lay (n := n) l9 (by omega) x3
      have F : Fk PLy τ σ5 := (((u2.trans v2).trans w2).trans x2).trans y2
      have nP : ∀ b k, ¬ ((b = 233 ∧ k = 40) ∨ b = 1863) → ¬ PLy b k := fun b k y => y
      obtain ⟨_, g2, g3, g4, g5⟩ := c
      refine ⟨σ5, ?_, F.mono (fun b k y => by unfold PLy at y; unfold refP; omega), y3, g2.fk F (fun j hj => nP _ _ (by omega)) (fun b j l1 l2 => nP _ _ (by omega)), g3.fk F (nP _ _ (by omega)) (fun k => nP _ _ (by omega)), by rw [(F 233 42 (nP _ _ (by omega))).1]; exact g4, g5.fk F (fun k => nP _ _ (by omega))⟩
      have yz : sI σ5 233 40 = nI (T.1 + 40) := by rw [y3.1]; exact congrArg nI s5
      rw [f_X14_feed, cT.1, e40, if_pos y, u1, bd, v1, bd, w1, bd, x1, bd, y1, bd, yz]
  · have y : ¬ nI (T.1 + 40) ≤ 4000 := fun y => q ((nIe4000 (by omega)).mp y)
    refine ⟨-1, σ, σ, ?_, ?_, (T, k, w, wr), ⟨o1, o2, o3⟩, a, b⟩
    · rw [f_X10_feed, aT.1, e40, if_neg y]
    · rw [f_X14_feed, bT.1, e40, if_neg y]
/-! what the invariant owes -/
set_option maxHeartbeats 200000 in
theorem In_pure : Pure In := ⟨fun n σ a b c d e h => c_feed h a b c d e, fun n σ a h => c_end h a, fun n σ h => c_run h, fun n σ h => c_wrong h, fun n σ h => c_outputs h, fun n σ a h => c_out h a, fun n σ a b c h => c_crash h a b c, fun n σ h => c_recover h, fun n σ h => c_isDown h, fun n σ h => c_isOpen h, fun n σ h => c_live h, fun n σ a h => c_idAt h a, fun n σ a h => c_kindOf h a, fun n σ a h => c_places h a, fun n σ a h => c_rings h a, fun n σ a b c h => c_at h a b c, fun n σ a b c h => c_relate h a b c, fun n σ a b c d h => c_nearer h a b c d, fun n σ h => c_used h, fun n σ h => c_saves h, fun n σ h => c_flaws h⟩

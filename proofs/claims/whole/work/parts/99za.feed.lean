/-! feed: bytes -/
def bt (l : Int64) (m : Nat) : Nat := l.toBitVec.toNat / 2 ^ (8 * m) % 256
set_option maxHeartbeats 200000 in
theorem sh_s : ∀ m : Fin 8, ((iI (8 * (m.val : Nat))).toInt64.toUInt64 &&& Int64.toUInt64 63) = UInt64.ofNat (8 * m.val) := by decide +kernel
set_option maxHeartbeats 200000 in
theorem sh_m : ∀ m : Fin 8, (((iI (8 * (m.val : Nat))).toInt64 &&& 63).toBitVec.smod 64) = BitVec.ofNat 64 (8 * m.val) := by decide +kernel
set_option maxHeartbeats 200000 in
theorem b8 : ∀ b : Fin 256, (Int8.ofBitVec (BitVec.ofNat 8 b.val)).toInt32 = iI (sB (b.val : Nat)) := by decide +kernel
set_option maxHeartbeats 200000 in
theorem nar8 (x : Int8) : vp_nar .byte x.toInt32 = x.toInt32 := by
  show ((x.toInt32).toInt8).toInt32 = x.toInt32
  rw [Int8.toInt8_toInt32]
set_option maxHeartbeats 200000 in
theorem bt_lt (l : Int64) (m : Nat) : bt l m < 256 := Nat.mod_lt _ (by decide)
set_option maxHeartbeats 200000 in
theorem bt_s (l : Int64) {m : Nat} (hm : m < 8) : vp_nar .byte ((((l.toUInt64 >>> ((iI (8 * (m : Nat))).toInt64.toUInt64 &&& Int64.toUInt64 63)).toInt64).toInt32).toInt8.toInt32) = iI (sB (bt l m : Nat)) := by
  rw [nar8, sh_s ⟨m, hm⟩]
  have e : ((l.toUInt64 >>> UInt64.ofNat (8 * m)).toInt64.toInt32).toInt8 = Int8.ofBitVec (BitVec.ofNat 8 (bt l m)) := by
    rw [Int64.toInt8_toInt32]
    apply Int8.toBitVec_inj.mp
    apply BitVec.eq_of_toNat_eq
    rw [Int64.toBitVec_toInt8]
    show ((l.toUInt64 >>> UInt64.ofNat (8 * m)).toBitVec.setWidth 8).toNat = (BitVec.ofNat 8 (bt l m)).toNat
    rw [BitVec.toNat_setWidth, BitVec.toNat_ofNat]
    have h1 : (UInt64.ofNat (8 * m)).toNat = 8 * m := by
      rw [UInt64.toNat_ofNat']; omega
    have h2 : (l.toUInt64 >>> UInt64.ofNat (8 * m)).toBitVec.toNat = l.toBitVec.toNat / 2 ^ (8 * m) := by
      show (l.toUInt64 >>> UInt64.ofNat (8 * m)).toNat = _
      rw [UInt64.toNat_shiftRight, h1, Nat.shiftRight_eq_div_pow, Nat.mod_eq_of_lt (show 8 * m < 64 by omega)]
      rfl
    rw [h2]
    unfold bt
    show _ % 256 = _ % 256 % 256
    omega
  rw [e]
  exact b8 ⟨bt l m, bt_lt l m⟩
set_option maxHeartbeats 200000 in
theorem bt_m (l : Int64) {m : Nat} (hm : m < 8) : ((l >>> ((iI (8 * (m : Nat))).toInt64 &&& 63)) &&& ((255 : Int64))).toInt32 = iI (bt l m : Nat) := by
  have e : (l >>> ((iI (8 * (m : Nat))).toInt64 &&& 63)) &&& ((255 : Int64)) = lN (bt l m) := by
    apply w_inj
    rw [w_bv, Int64.toBitVec_and, Int64.toBitVec_shiftRight, sh_m ⟨m, hm⟩]
    have k : (BitVec.ofNat 64 (8 * m)).toNat = 8 * m := by rw [BitVec.toNat_ofNat]; omega
    have e2 : l.toBitVec.sshiftRight' (BitVec.ofNat 64 (8 * m)) &&& (255 : Int64).toBitVec = (l.toBitVec >>> (8 * m)) &&& (255 : Int64).toBitVec := by
      rw [BitVec.sshiftRight', k]
      apply BitVec.eq_of_getLsbD_eq
      intro i hi
      rw [BitVec.getLsbD_and, BitVec.getLsbD_and, BitVec.getLsbD_sshiftRight, BitVec.getLsbD_ushiftRight]
      by_cases q : i < 8
      · rw [if_pos (by omega)]
        simp [show ¬ 64 ≤ i by omega]
      · have : ((255 : Int64).toBitVec).getLsbD i = false := by
          show (BitVec.ofNat 64 255).getLsbD i = false
          rw [BitVec.getLsbD_ofNat]
          have : (255 : Nat).testBit i = false := Nat.testBit_lt_two_pow (Nat.lt_of_lt_of_le (by decide : 255 < 2 ^ 8) (Nat.pow_le_pow_right (by decide) (by omega)))
          rw [this, Bool.and_false]
        rw [this, Bool.and_false, Bool.and_false]
    show l.toBitVec.sshiftRight' (BitVec.ofNat 64 (8 * m)) &&& (255 : Int64).toBitVec = _
    rw [e2]
    apply BitVec.eq_of_toNat_eq
    rw [BitVec.toNat_and, BitVec.toNat_ushiftRight, Nat.shiftRight_eq_div_pow, BitVec.toNat_ofNat]
    show _ &&& 255 = _
    rw [show (255 : Nat) = 2 ^ 8 - 1 from rfl, Nat.and_two_pow_sub_one_eq_mod]
    have := bt_lt l m
    unfold bt at this ⊢
    rw [Nat.mod_eq_of_lt (show _ < 2 ^ 64 from Nat.lt_trans this (by decide))]
  rw [e]
  sorry

/-! products of 128 bits: upperProduct, compareBits, compareProducts -/
set_option maxHeartbeats 200000 in
theorem w_bv (n : Nat) : (lN n).toBitVec = BitVec.ofNat 64 n := rfl
set_option maxHeartbeats 200000 in
theorem w_inj {x y : Int64} (h : x.toBitVec = y.toBitVec) : x = y := Int64.toBitVec_inj.mp h
set_option maxHeartbeats 200000 in
theorem w_nat {n : Nat} (h : n < 18446744073709551616) : (lN n).toBitVec.toNat = n := by rw [w_bv, BitVec.toNat_ofNat]; omega
set_option maxHeartbeats 200000 in
theorem w_mod (n : Nat) : lN n = lN (n % 18446744073709551616) := by
  apply w_inj; rw [w_bv, w_bv]; apply BitVec.eq_of_toNat_eq; rw [BitVec.toNat_ofNat, BitVec.toNat_ofNat]; omega
set_option maxHeartbeats 200000 in
theorem w_ex (x : Int64) : ∃ k, k < 18446744073709551616 ∧ x = lN k := by
  refine ⟨x.toBitVec.toNat, x.toBitVec.isLt, ?_⟩
  apply w_inj; rw [w_bv]; apply BitVec.eq_of_toNat_eq; rw [BitVec.toNat_ofNat]
  have := x.toBitVec.isLt; omega
set_option maxHeartbeats 200000 in
theorem w_c32 : ((32 : Int32).toInt64.toUInt64 &&& Int64.toUInt64 63) = UInt64.ofNat 32 := by decide +kernel
set_option maxHeartbeats 200000 in
theorem w_shr {n : Nat} (hn : n < 18446744073709551616) : ((lN n).toUInt64 >>> ((32 : Int32).toInt64.toUInt64 &&& Int64.toUInt64 63)).toInt64 = lN (n / 4294967296) := by
  rw [w_c32]
  apply w_inj
  apply BitVec.eq_of_toNat_eq
  show ((lN n).toUInt64 >>> UInt64.ofNat 32).toNat = (BitVec.ofNat 64 _).toNat
  have h2 : (lN n).toUInt64.toNat = n := w_nat hn
  have h1 : (UInt64.ofNat 32).toNat = 32 := rfl
  rw [UInt64.toNat_shiftRight, h1, h2, Nat.shiftRight_eq_div_pow, BitVec.toNat_ofNat]
  show n / 4294967296 = n / 4294967296 % 18446744073709551616
  omega
set_option maxHeartbeats 200000 in
theorem w_msk {n : Nat} (hn : n < 18446744073709551616) : lN n &&& (4294967295 : Int64) = lN (n % 4294967296) := by
  show lN n &&& lN 4294967295 = _
  apply w_inj
  rw [Int64.toBitVec_and, w_bv, w_bv, w_bv]
  apply BitVec.eq_of_toNat_eq
  rw [BitVec.toNat_and, BitVec.toNat_ofNat, BitVec.toNat_ofNat, BitVec.toNat_ofNat]
  have e : (4294967295 % 2 ^ 64 : Nat) = 2 ^ 32 - 1 := by decide
  rw [e, Nat.and_two_pow_sub_one_eq_mod]
  show n % 18446744073709551616 % 4294967296 = n % 4294967296 % 18446744073709551616
  omega
set_option maxHeartbeats 200000 in
theorem x63 {a : Nat} (h : a < 9223372036854775808) : a ^^^ 9223372036854775808 = 9223372036854775808 + a := by
  apply Nat.eq_of_testBit_eq
  intro i
  have e : (9223372036854775808 : Nat) = 2 ^ 63 := by decide
  rw [Nat.testBit_xor, e, Nat.testBit_two_pow]
  rcases Nat.lt_trichotomy i 63 with q | q | q
  · rw [Nat.testBit_two_pow_add_gt q]
    have : ¬ 63 = i := by omega
    simp [this]
  · subst q
    rw [Nat.testBit_two_pow_add_eq]
    simp
  · have h1 : a.testBit i = false := Nat.testBit_lt_two_pow (Nat.lt_of_lt_of_le (show a < 2 ^ 63 by omega) (Nat.pow_le_pow_right (by decide) (by omega)))
    have h2 : (2 ^ 63 + a).testBit i = false := Nat.testBit_lt_two_pow (Nat.lt_of_lt_of_le (show 2 ^ 63 + a < 2 ^ 64 by omega) (Nat.pow_le_pow_right (by decide) (by omega)))
    have : ¬ 63 = i := by omega
    rw [h1, h2]; simp [this]
set_option maxHeartbeats 200000 in
theorem w_xor {a : Nat} (h : a < 18446744073709551616) : lN a ^^^ (-9223372036854775808 : Int64) = lN (if a < 9223372036854775808 then 9223372036854775808 + a else a - 9223372036854775808) := by
  have e0 : (-9223372036854775808 : Int64) = lN 9223372036854775808 := by decide
  rw [e0]
  apply w_inj
  rw [Int64.toBitVec_xor, w_bv, w_bv, w_bv]
  apply BitVec.eq_of_toNat_eq
  rw [BitVec.toNat_xor, BitVec.toNat_ofNat, BitVec.toNat_ofNat, BitVec.toNat_ofNat]
  have e1 : a % 2 ^ 64 = a := by omega
  have e2 : 9223372036854775808 % 2 ^ 64 = 9223372036854775808 := by decide
  rw [e1, e2]
  split
  · rename_i q
    rw [x63 q]; omega
  · rename_i q
    have e3 : a = (a - 9223372036854775808) ^^^ 9223372036854775808 := by rw [x63 (by omega)]; omega
    have e4 : a ^^^ 9223372036854775808 = a - 9223372036854775808 := by
      rw [e3, Nat.xor_assoc, Nat.xor_self, Nat.xor_zero, ← e3]
    rw [e4]; omega
set_option maxHeartbeats 200000 in
theorem w_ti {m : Nat} (h : m < 18446744073709551616) : (lN m).toInt = if m < 9223372036854775808 then (m : Int) else (m : Int) - 18446744073709551616 := by
  show (lN m).toBitVec.toInt = _
  rw [BitVec.toInt_eq_toNat_cond, w_nat h]
  by_cases q : m < 9223372036854775808
  · rw [if_pos (show 2 * m < 2 ^ 64 by omega), if_pos q]
  · rw [if_neg (show ¬ 2 * m < 2 ^ 64 by omega), if_neg q]; rfl
def cmN (a b : Nat) : Int32 := if a < b then -1 else if a = b then 0 else 1
set_option maxHeartbeats 200000 in
theorem e_compareBits {n : Nat} {σ : xσ} {a b : Nat} (ha : a < 18446744073709551616) (hb : b < 18446744073709551616) : f_X4_compareBits n (lN a) (lN b) σ = some (cmN a b, σ) := by
  rw [f_X4_compareBits, w_xor ha, w_xor hb]
  unfold cmN
  have t : ∀ x : Nat, x < 18446744073709551616 → (lN (if x < 9223372036854775808 then 9223372036854775808 + x else x - 9223372036854775808)).toInt = (x : Int) - 9223372036854775808 := by
    intro x hx
    by_cases q : x < 9223372036854775808
    · rw [if_pos q, w_ti (by omega), if_neg (by omega)]; omega
    · rw [if_neg q, w_ti (by omega), if_pos (by omega)]; omega
  have e0 : lN a = lN b ↔ a = b := by
    refine ⟨fun q => ?_, fun q => by rw [q]⟩
    have u := congrArg (fun x : Int64 => x.toBitVec.toNat) q
    simp only [w_nat ha, w_nat hb] at u
    exact u
  have e1 : 0 ≤ lg_cmp (lN (if a < 9223372036854775808 then 9223372036854775808 + a else a - 9223372036854775808)) (lN (if b < 9223372036854775808 then 9223372036854775808 + b else b - 9223372036854775808)) ↔ ¬ a < b := by
    rw [← Int32.not_lt, lgc_lt, Int64.lt_iff_toInt_lt, t a ha, t b hb]
    omega
  by_cases q : a = b
  · rw [if_pos (lgc_eq.mpr (e0.mpr q)), if_neg (show ¬ a < b by omega), if_pos q]
  · rw [if_neg (fun w => q (e0.mp (lgc_eq.mp w)))]
    by_cases r : a < b
    · rw [if_neg (fun w => e1.mp w r), if_pos r]
    · rw [if_pos (e1.mpr r), if_neg r, if_neg q]
set_option maxHeartbeats 200000 in
theorem mul32 {a b : Nat} (ha : a < 4294967296) (hb : b < 4294967296) : a * b ≤ 18446744065119617025 := Nat.mul_le_mul (Nat.le_of_lt_succ ha) (Nat.le_of_lt_succ hb)
set_option maxHeartbeats 200000 in
theorem e_upperProduct {n : Nat} {σ : xσ} {a b : Nat} (ha : a < 18446744073709551616) (hb : b < 18446744073709551616) : f_X4_upperProduct n (lN a) (lN b) σ = some (lN (a * b / 18446744073709551616), σ) := by
  rw [f_X4_upperProduct]
  simp only [st]
  rw [w_shr ha, w_msk ha, w_shr hb, w_msk hb]
  simp only [lN_mul, lN_add]
  have a1 : a / 4294967296 < 4294967296 := by omega
  have a0 : a % 4294967296 < 4294967296 := by omega
  have b1 : b / 4294967296 < 4294967296 := by omega
  have b0 : b % 4294967296 < 4294967296 := by omega
  have p11 := mul32 a1 b1
  have p10 := mul32 a1 b0
  have p01 := mul32 a0 b1
  have p00 := mul32 a0 b0
  have e : a * b = (a / 4294967296) * (b / 4294967296) * 18446744073709551616 + ((a / 4294967296) * (b % 4294967296) + (a % 4294967296) * (b / 4294967296)) * 4294967296 + (a % 4294967296) * (b % 4294967296) := by
    have ea : a = (a / 4294967296) * 4294967296 + a % 4294967296 := by omega
    have eb : b = (b / 4294967296) * 4294967296 + b % 4294967296 := by omega
    generalize a / 4294967296 = u at *
    generalize a % 4294967296 = v at *
    generalize b / 4294967296 = w at *
    generalize b % 4294967296 = z at *
    subst ea eb
    grind
  generalize (a / 4294967296) * (b / 4294967296) = P at *
  generalize (a / 4294967296) * (b % 4294967296) = Q at *
  generalize (a % 4294967296) * (b / 4294967296) = R at *
  generalize (a % 4294967296) * (b % 4294967296) = T at *
  rw [w_shr (show T < 18446744073709551616 by omega)]
  simp only [lN_add]
  rw [w_msk (show Q + T / 4294967296 < 18446744073709551616 by omega), w_shr (show Q + T / 4294967296 < 18446744073709551616 by omega)]
  simp only [lN_add]
  rw [w_shr (show R + (Q + T / 4294967296) % 4294967296 < 18446744073709551616 by omega)]
  simp only [lN_add]
  congr 3
  omega
set_option maxHeartbeats 200000 in
theorem lN_j {z : Int} (h : 0 ≤ z) : jJ z = lN z.toNat := by
  have : z = (z.toNat : Int) := by omega
  rw [this]; exact Int64.ofInt_eq_ofNat
/-! compares a * b with c * d -/
set_option maxHeartbeats 200000 in
theorem e_compareProducts {n : Nat} {σ : xσ} {a b c d : Nat} (ha : a < 18446744073709551616) (hb : b < 18446744073709551616) (hc : c < 18446744073709551616) (hd : d < 18446744073709551616) : f_X4_compareProducts n (lN a) (lN b) (lN c) (lN d) σ = some (cmN (a * b) (c * d), σ) := by
  have up : ∀ x y : Nat, x < 18446744073709551616 → y < 18446744073709551616 → x * y / 18446744073709551616 < 18446744073709551616 := by
    intro x y hx hy
    have : x * y < 18446744073709551616 * 18446744073709551616 := Nat.mul_lt_mul_of_lt_of_lt hx hy
    omega
  rw [f_X4_compareProducts, e_upperProduct ha hb, bd, e_upperProduct hc hd, bd, e_compareBits (up a b ha hb) (up c d hc hd), bd]
  simp only [lN_mul]
  rw [w_mod (a * b), w_mod (c * d), e_compareBits (by omega) (by omega), bd]
  unfold cmN
  generalize a * b = x
  generalize c * d = y
  by_cases h1 : x / 18446744073709551616 < y / 18446744073709551616
  · rw [if_pos h1, if_neg (by decide), if_pos (by omega)]
  · by_cases h2 : x / 18446744073709551616 = y / 18446744073709551616
    · rw [if_neg h1, if_pos h2, if_pos rfl]
      by_cases h3 : x % 18446744073709551616 < y % 18446744073709551616
      · rw [if_pos h3, if_pos (by omega)]
      · by_cases h4 : x % 18446744073709551616 = y % 18446744073709551616
        · rw [if_neg h3, if_pos h4, if_neg (by omega), if_pos (by omega)]
        · rw [if_neg h3, if_neg h4, if_neg (by omega), if_neg (by omega)]
    · rw [if_neg h1, if_neg h2, if_neg (by decide), if_neg (by omega), if_neg (by omega)]

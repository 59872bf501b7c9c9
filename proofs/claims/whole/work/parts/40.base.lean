/-! NUMBERS: ints and longs as whole numbers -/
def iI (z : Int) : Int32 := Int32.ofInt z
def jJ (z : Int) : Int64 := Int64.ofInt z
abbrev R32 (z : Int) : Prop := -2147483648 ≤ z ∧ z < 2147483648
abbrev R64 (z : Int) : Prop := -9223372036854775808 ≤ z ∧ z < 9223372036854775808
theorem iI_ti (x : Int32) : iI x.toInt = x := Int32.ofInt_toInt x
theorem jJ_ti (x : Int64) : jJ x.toInt = x := Int64.ofInt_toInt x
theorem iI_to {z : Int} (h : R32 z) : (iI z).toInt = z := Int32.toInt_ofInt_of_le h.1 h.2
theorem jJ_to {z : Int} (h : R64 z) : (jJ z).toInt = z := Int64.toInt_ofInt_of_le h.1 h.2
theorem iI_r (x : Int32) : R32 x.toInt := ⟨Int32.minValue_le_toInt x, by have := Int32.toInt_lt x; omega⟩
theorem jJ_r (x : Int64) : R64 x.toInt := ⟨Int64.minValue_le_toInt x, by have := Int64.toInt_lt x; omega⟩
theorem nI_i (n : Nat) : nI n = iI n := (Int32.ofInt_eq_ofNat).symm
theorem iI_add (a b : Int) : iI a + iI b = iI (a + b) := (Int32.ofInt_add a b).symm
theorem iI_sub (a b : Int) : iI a - iI b = iI (a - b) := (Int32.ofInt_sub a b).symm
theorem iI_mul (a b : Int) : iI a * iI b = iI (a * b) := (Int32.ofInt_mul a b).symm
theorem jJ_add (a b : Int) : jJ a + jJ b = jJ (a + b) := (Int64.ofInt_add a b).symm
theorem jJ_sub (a b : Int) : jJ a - jJ b = jJ (a - b) := (Int64.ofInt_sub a b).symm
theorem jJ_mul (a b : Int) : jJ a * jJ b = jJ (a * b) := (Int64.ofInt_mul a b).symm
theorem jJ_neg (a : Int) : -jJ a = jJ (-a) := Int64.neg_ofInt
theorem iI_lt {a b : Int} (ha : R32 a) (hb : R32 b) : iI a < iI b ↔ a < b := by rw [Int32.lt_iff_toInt_lt, iI_to ha, iI_to hb]
theorem iI_le {a b : Int} (ha : R32 a) (hb : R32 b) : iI a ≤ iI b ↔ a ≤ b := by rw [Int32.le_iff_toInt_le, iI_to ha, iI_to hb]
theorem iI_eq {a b : Int} (ha : R32 a) (hb : R32 b) : iI a = iI b ↔ a = b := by rw [← Int32.toInt_inj, iI_to ha, iI_to hb]
theorem jJ_lt {a b : Int} (ha : R64 a) (hb : R64 b) : jJ a < jJ b ↔ a < b := by rw [Int64.lt_iff_toInt_lt, jJ_to ha, jJ_to hb]
theorem jJ_le {a b : Int} (ha : R64 a) (hb : R64 b) : jJ a ≤ jJ b ↔ a ≤ b := by rw [Int64.le_iff_toInt_le, jJ_to ha, jJ_to hb]
theorem jJ_eq {a b : Int} (ha : R64 a) (hb : R64 b) : jJ a = jJ b ↔ a = b := by rw [← Int64.toInt_inj, jJ_to ha, jJ_to hb]
theorem iI_64 {a : Int} (h : R32 a) : (iI a).toInt64 = jJ a := by
  rw [← Int64.toInt_inj, Int32.toInt_toInt64, iI_to h, jJ_to ⟨by omega, by omega⟩]
theorem jJ_32 (a : Int) : (jJ a).toInt32 = iI a := by
  have h : ∀ x : Int64, x.toInt32 = iI x.toInt := fun x => (Int32.ofInt_int64ToInt x).symm
  rw [h]
  apply Int32.toBitVec_inj.mp
  show BitVec.ofInt 32 (jJ a).toInt = BitVec.ofInt 32 a
  apply BitVec.eq_of_toInt_eq
  rw [BitVec.toInt_ofInt, BitVec.toInt_ofInt, jJ, Int64.toInt_ofInt]
  show (a.bmod 18446744073709551616).bmod 4294967296 = a.bmod 4294967296
  exact Int.bmod_bmod_of_dvd ⟨4294967296, by decide⟩
theorem lc_lt {a b : Int} (ha : R64 a) (hb : R64 b) : lg_cmp (jJ a) (jJ b) < 0 ↔ a < b := lgc_lt.trans (jJ_lt ha hb)
theorem lc_gt {a b : Int} (ha : R64 a) (hb : R64 b) : 0 < lg_cmp (jJ a) (jJ b) ↔ b < a := lgc_gt.trans (jJ_lt hb ha)
theorem lc_eq {a b : Int} (ha : R64 a) (hb : R64 b) : lg_cmp (jJ a) (jJ b) = 0 ↔ a = b := lgc_eq.trans (jJ_eq ha hb)
theorem lc_le {a b : Int} (ha : R64 a) (hb : R64 b) : lg_cmp (jJ a) (jJ b) ≤ 0 ↔ a ≤ b := by rw [← Int32.not_lt, lc_gt ha hb]; omega
theorem lc_ge {a b : Int} (ha : R64 a) (hb : R64 b) : 0 ≤ lg_cmp (jJ a) (jJ b) ↔ b ≤ a := by rw [← Int32.not_lt, lc_lt ha hb]; omega
theorem imin_i {a b : Int} (ha : R32 a) (hb : R32 b) : imin (iI a) (iI b) = iI (min a b) := by
  unfold imin
  by_cases h : b < a
  · rw [if_pos ((iI_lt hb ha).mpr h), Int.min_eq_right (by omega)]
  · rw [if_neg (fun q => h ((iI_lt hb ha).mp q)), Int.min_eq_left (by omega)]
theorem imax_i {a b : Int} (ha : R32 a) (hb : R32 b) : imax (iI a) (iI b) = iI (max a b) := by
  unfold imax
  by_cases h : a < b
  · rw [if_pos ((iI_lt ha hb).mpr h), Int.max_eq_right (by omega)]
  · rw [if_neg (fun q => h ((iI_lt ha hb).mp q)), Int.max_eq_left (by omega)]
theorem lmin_j {a b : Int} (ha : R64 a) (hb : R64 b) : lmin (jJ a) (jJ b) = jJ (min a b) := by
  unfold lmin
  by_cases h : b < a
  · rw [if_pos ((jJ_lt hb ha).mpr h), Int.min_eq_right (by omega)]
  · rw [if_neg (fun q => h ((jJ_lt hb ha).mp q)), Int.min_eq_left (by omega)]
theorem lmax_j {a b : Int} (ha : R64 a) (hb : R64 b) : lmax (jJ a) (jJ b) = jJ (max a b) := by
  unfold lmax
  by_cases h : b < a
  · rw [if_pos ((jJ_lt hb ha).mpr h), Int.max_eq_left (by omega)]
  · rw [if_neg (fun q => h ((jJ_lt hb ha).mp q)), Int.max_eq_right (by omega)]
/-- a truth as a number -/
noncomputable def tf (p : Prop) : Int32 := @ite _ p (Classical.propDecidable p) 1 0
theorem tf_t {p : Prop} (h : p) : tf p = 1 := if_pos h
theorem tf_f {p : Prop} (h : ¬ p) : tf p = 0 := if_neg h
theorem tf_0 {p : Prop} : tf p = 0 ↔ ¬ p := by
  by_cases h : p
  · rw [tf_t h]; constructor
    · intro e; exact absurd e (by decide)
    · intro e; exact (e h).elim
  · rw [tf_f h]; simp [h]
theorem tf_1 {p : Prop} : tf p = 1 ↔ p := by
  by_cases h : p
  · rw [tf_t h]; simp [h]
  · rw [tf_f h]; constructor
    · intro e; exact absurd e (by decide)
    · intro e; exact (h e).elim
theorem tn {p : Prop} (h : p) : ¬ tf p = 0 := fun e => tf_0.mp e h
theorem tf_c {p q : Prop} (h : p ↔ q) : tf p = tf q := by rw [propext h]
theorem tf_01 (p : Prop) : tf p = 0 ∨ tf p = 1 := by
  by_cases h : p
  · exact Or.inr (tf_t h)
  · exact Or.inl (tf_f h)
/-! guards of indexes -/
theorem gd_in {α : Type} {i k : Nat} {x : Option α} (h : i < k) (hk : k < 2147483648) : gd (inb (nI i) k) x = x := gd_pos (nI_in h hk) x
theorem nI_s (a : Nat) : nI a + 1 = nI (a + 1) := nI_1 a
theorem nI_m {a b : Nat} (h : b ≤ a) : nI a - nI b = nI (a - b) := pk_sub h
theorem nI_k {n : Nat} (h : n < 2147483648) : (nI n).toNatClampNeg = n := nI_clamp h
theorem nI_l' {a b : Nat} (ha : a < 2147483648) (hb : b < 2147483648) : nI a < nI b ↔ a < b := nI_ltI ha hb
theorem nI_e' {a b : Nat} (ha : a < 2147483648) (hb : b < 2147483648) : nI a ≤ nI b ↔ a ≤ b := nI_leI ha hb
theorem nI_q' {a b : Nat} (ha : a < 2147483648) (hb : b < 2147483648) : nI a = nI b ↔ a = b := nI_eq ha hb
theorem lt0 : (0 : Int32) = nI 0 := rfl
theorem lt1 : (1 : Int32) = nI 1 := rfl
theorem lt2 : (2 : Int32) = nI 2 := rfl
theorem lt3 : (3 : Int32) = nI 3 := rfl
theorem lt4 : (4 : Int32) = nI 4 := rfl
theorem lt8 : (8 : Int32) = nI 8 := rfl
theorem lt40 : (40 : Int32) = nI 40 := rfl
theorem lt80 : (80 : Int32) = nI 80 := rfl
theorem lt200 : (200 : Int32) = nI 200 := rfl
theorem lj0 : (0 : Int64) = jJ 0 := rfl
theorem lj1 : (1 : Int64) = jJ 1 := rfl
theorem nIe0 {a : Nat} (ha : a < 2147483648) : nI a ≤ 0 ↔ a ≤ 0 := nI_leI ha (by decide : 0 < 2147483648)
theorem nIg0 {a : Nat} (ha : a < 2147483648) : 0 ≤ nI a ↔ 0 ≤ a := nI_leI (by decide : 0 < 2147483648) ha
theorem nIh0 {a : Nat} (ha : a < 2147483648) : 0 < nI a ↔ 0 < a := nI_ltI (by decide : 0 < 2147483648) ha
theorem nIq0 {a : Nat} (ha : a < 2147483648) : nI a = 0 ↔ a = 0 := nI_eq ha (by decide : 0 < 2147483648)
theorem nIl1 {a : Nat} (ha : a < 2147483648) : nI a < 1 ↔ a < 1 := nI_ltI ha (by decide : 1 < 2147483648)
theorem nIe1 {a : Nat} (ha : a < 2147483648) : nI a ≤ 1 ↔ a ≤ 1 := nI_leI ha (by decide : 1 < 2147483648)
theorem nIg1 {a : Nat} (ha : a < 2147483648) : 1 ≤ nI a ↔ 1 ≤ a := nI_leI (by decide : 1 < 2147483648) ha
theorem nIh1 {a : Nat} (ha : a < 2147483648) : 1 < nI a ↔ 1 < a := nI_ltI (by decide : 1 < 2147483648) ha
theorem nIq1 {a : Nat} (ha : a < 2147483648) : nI a = 1 ↔ a = 1 := nI_eq ha (by decide : 1 < 2147483648)
theorem nIl2 {a : Nat} (ha : a < 2147483648) : nI a < 2 ↔ a < 2 := nI_ltI ha (by decide : 2 < 2147483648)
theorem nIe2 {a : Nat} (ha : a < 2147483648) : nI a ≤ 2 ↔ a ≤ 2 := nI_leI ha (by decide : 2 < 2147483648)
theorem nIg2 {a : Nat} (ha : a < 2147483648) : 2 ≤ nI a ↔ 2 ≤ a := nI_leI (by decide : 2 < 2147483648) ha
theorem nIh2 {a : Nat} (ha : a < 2147483648) : 2 < nI a ↔ 2 < a := nI_ltI (by decide : 2 < 2147483648) ha
theorem nIq2 {a : Nat} (ha : a < 2147483648) : nI a = 2 ↔ a = 2 := nI_eq ha (by decide : 2 < 2147483648)
theorem nIl3 {a : Nat} (ha : a < 2147483648) : nI a < 3 ↔ a < 3 := nI_ltI ha (by decide : 3 < 2147483648)
theorem nIe3 {a : Nat} (ha : a < 2147483648) : nI a ≤ 3 ↔ a ≤ 3 := nI_leI ha (by decide : 3 < 2147483648)
theorem nIg3 {a : Nat} (ha : a < 2147483648) : 3 ≤ nI a ↔ 3 ≤ a := nI_leI (by decide : 3 < 2147483648) ha
theorem nIh3 {a : Nat} (ha : a < 2147483648) : 3 < nI a ↔ 3 < a := nI_ltI (by decide : 3 < 2147483648) ha
theorem nIq3 {a : Nat} (ha : a < 2147483648) : nI a = 3 ↔ a = 3 := nI_eq ha (by decide : 3 < 2147483648)
theorem nIl4 {a : Nat} (ha : a < 2147483648) : nI a < 4 ↔ a < 4 := nI_ltI ha (by decide : 4 < 2147483648)
theorem nIe4 {a : Nat} (ha : a < 2147483648) : nI a ≤ 4 ↔ a ≤ 4 := nI_leI ha (by decide : 4 < 2147483648)
theorem nIg4 {a : Nat} (ha : a < 2147483648) : 4 ≤ nI a ↔ 4 ≤ a := nI_leI (by decide : 4 < 2147483648) ha
theorem nIh4 {a : Nat} (ha : a < 2147483648) : 4 < nI a ↔ 4 < a := nI_ltI (by decide : 4 < 2147483648) ha
theorem nIq4 {a : Nat} (ha : a < 2147483648) : nI a = 4 ↔ a = 4 := nI_eq ha (by decide : 4 < 2147483648)
theorem nIl8 {a : Nat} (ha : a < 2147483648) : nI a < 8 ↔ a < 8 := nI_ltI ha (by decide : 8 < 2147483648)
theorem nIe8 {a : Nat} (ha : a < 2147483648) : nI a ≤ 8 ↔ a ≤ 8 := nI_leI ha (by decide : 8 < 2147483648)
theorem nIg8 {a : Nat} (ha : a < 2147483648) : 8 ≤ nI a ↔ 8 ≤ a := nI_leI (by decide : 8 < 2147483648) ha
theorem nIh8 {a : Nat} (ha : a < 2147483648) : 8 < nI a ↔ 8 < a := nI_ltI (by decide : 8 < 2147483648) ha
theorem nIq8 {a : Nat} (ha : a < 2147483648) : nI a = 8 ↔ a = 8 := nI_eq ha (by decide : 8 < 2147483648)
theorem nIl40 {a : Nat} (ha : a < 2147483648) : nI a < 40 ↔ a < 40 := nI_ltI ha (by decide : 40 < 2147483648)
theorem nIe40 {a : Nat} (ha : a < 2147483648) : nI a ≤ 40 ↔ a ≤ 40 := nI_leI ha (by decide : 40 < 2147483648)
theorem nIg40 {a : Nat} (ha : a < 2147483648) : 40 ≤ nI a ↔ 40 ≤ a := nI_leI (by decide : 40 < 2147483648) ha
theorem nIh40 {a : Nat} (ha : a < 2147483648) : 40 < nI a ↔ 40 < a := nI_ltI (by decide : 40 < 2147483648) ha
theorem nIq40 {a : Nat} (ha : a < 2147483648) : nI a = 40 ↔ a = 40 := nI_eq ha (by decide : 40 < 2147483648)
theorem nIl80 {a : Nat} (ha : a < 2147483648) : nI a < 80 ↔ a < 80 := nI_ltI ha (by decide : 80 < 2147483648)
theorem nIe80 {a : Nat} (ha : a < 2147483648) : nI a ≤ 80 ↔ a ≤ 80 := nI_leI ha (by decide : 80 < 2147483648)
theorem nIg80 {a : Nat} (ha : a < 2147483648) : 80 ≤ nI a ↔ 80 ≤ a := nI_leI (by decide : 80 < 2147483648) ha
theorem nIh80 {a : Nat} (ha : a < 2147483648) : 80 < nI a ↔ 80 < a := nI_ltI (by decide : 80 < 2147483648) ha
theorem nIq80 {a : Nat} (ha : a < 2147483648) : nI a = 80 ↔ a = 80 := nI_eq ha (by decide : 80 < 2147483648)
theorem nIl200 {a : Nat} (ha : a < 2147483648) : nI a < 200 ↔ a < 200 := nI_ltI ha (by decide : 200 < 2147483648)
theorem nIe200 {a : Nat} (ha : a < 2147483648) : nI a ≤ 200 ↔ a ≤ 200 := nI_leI ha (by decide : 200 < 2147483648)
theorem nIg200 {a : Nat} (ha : a < 2147483648) : 200 ≤ nI a ↔ 200 ≤ a := nI_leI (by decide : 200 < 2147483648) ha
theorem nIh200 {a : Nat} (ha : a < 2147483648) : 200 < nI a ↔ 200 < a := nI_ltI (by decide : 200 < 2147483648) ha
theorem nIq200 {a : Nat} (ha : a < 2147483648) : nI a = 200 ↔ a = 200 := nI_eq ha (by decide : 200 < 2147483648)
theorem nIl0 {a : Nat} (ha : a < 2147483648) : nI a < 0 ↔ False := ⟨fun h => nI_pos ha h, fun h => h.elim⟩
theorem nIm1 {a : Nat} (h : 1 ≤ a) : nI a - 1 = nI (a - 1) := pk_sub h
theorem nIp2 (a : Nat) : nI a + 2 = nI (a + 2) := nI_add a 2
theorem lz_lt {a : Int} (ha : R64 a) : lg_cmp (jJ a) 0 < 0 ↔ a < 0 := by rw [lj0]; exact lc_lt ha ⟨by decide, by decide⟩
theorem lz_gt {a : Int} (ha : R64 a) : 0 < lg_cmp (jJ a) 0 ↔ 0 < a := by rw [lj0]; exact lc_gt ha ⟨by decide, by decide⟩
theorem lz_eq {a : Int} (ha : R64 a) : lg_cmp (jJ a) 0 = 0 ↔ a = 0 := by rw [lj0]; exact lc_eq ha ⟨by decide, by decide⟩
theorem lz_le {a : Int} (ha : R64 a) : lg_cmp (jJ a) 0 ≤ 0 ↔ a ≤ 0 := by rw [lj0]; exact lc_le ha ⟨by decide, by decide⟩
theorem lz_ge {a : Int} (ha : R64 a) : 0 ≤ lg_cmp (jJ a) 0 ↔ 0 ≤ a := by rw [lj0]; exact lc_ge ha ⟨by decide, by decide⟩
/-- what a method leaves as it was: all but the addresses of A -/
def Fr (A : Nat → Prop) (σ σ' : xσ) : Prop := ∀ b, ¬ A b → ∀ k, sI σ' b k = sI σ b k ∧ sJ σ' b k = sJ σ b k ∧ sR σ' b k = sR σ b k
theorem Fr.refl {A : Nat → Prop} {σ : xσ} : Fr A σ σ := fun _ _ _ => ⟨rfl, rfl, rfl⟩
theorem Fr.trans {A : Nat → Prop} {σ1 σ2 σ3 : xσ} (h : Fr A σ1 σ2) (k : Fr A σ2 σ3) : Fr A σ1 σ3 := fun b hb j => ⟨(k b hb j).1.trans (h b hb j).1, (k b hb j).2.1.trans (h b hb j).2.1, (k b hb j).2.2.trans (h b hb j).2.2⟩
theorem Fr.mono {A B : Nat → Prop} {σ1 σ2 : xσ} (h : Fr A σ1 σ2) (k : ∀ b, A b → B b) : Fr B σ1 σ2 := fun b hb j => h b (fun q => hb (k b q)) j
theorem Fr.wI {A : Nat → Prop} {σ : xσ} {a k : Nat} {v : Int32} (h : A a) : Fr A σ (wI σ a k v) := fun b hb j => by
  have : b ≠ a := fun e => hb (e ▸ h)
  refine ⟨?_, rfl, rfl⟩
  rw [sI_wI, if_neg (fun q => this q.1)]
theorem Fr.wJ {A : Nat → Prop} {σ : xσ} {a k : Nat} {v : Int64} (h : A a) : Fr A σ (wJ σ a k v) := fun b hb j => by
  have : b ≠ a := fun e => hb (e ▸ h)
  refine ⟨rfl, ?_, rfl⟩
  rw [sJ_wJ, if_neg (fun q => this q.1)]
theorem Fr.wR {A : Nat → Prop} {σ : xσ} {a k : Nat} {v : Option Nat} (h : A a) : Fr A σ (wR σ a k v) := fun b hb j => by
  have : b ≠ a := fun e => hb (e ▸ h)
  refine ⟨rfl, rfl, ?_⟩
  rw [sR_wR, if_neg (fun q => this q.1)]
/-! SHAPES: kind, places, rings, the places, the rings' ends -/
abbrev Ct : Type := Nat × Nat × Nat × (Nat → V2) × (Nat → Nat)
def cK (c : Ct) : Nat := c.1
def cN (c : Ct) : Nat := c.2.1
def cR (c : Ct) : Nat := c.2.2.1
def cV (c : Ct) : Nat → V2 := c.2.2.2.1
def cE (c : Ct) : Nat → Nat := c.2.2.2.2
def b30 (z : Int) : Prop := -1073741823 ≤ z ∧ z ≤ 1073741823
def bV (v : V2) : Prop := b30 v.1 ∧ b30 v.2
/-- the last place of a ring -/
def isE (c : Ct) (i : Nat) : Prop := ∃ r, r < cR c ∧ cE c r = i + 1
def sr (c : Ct) (r : Nat) : Nat := if r = 0 then 0 else cE c (r - 1)
def mn (f : Nat → Int) : Nat → Int
  | 0 => f 0
  | k + 1 => min (mn f k) (f (k + 1))
def mx (f : Nat → Int) : Nat → Int
  | 0 => f 0
  | k + 1 => max (mx f k) (f (k + 1))
def WF (c : Ct) : Prop := (cK c ≤ 2 ∧ 1 ≤ cN c ∧ cN c ≤ 40 ∧ 1 ≤ cR c ∧ cR c ≤ 8) ∧ (∀ r, r < cR c → 1 ≤ cE c r ∧ cE c r ≤ cN c) ∧ (∀ r, r + 1 < cR c → cE c r < cE c (r + 1)) ∧ cE c (cR c - 1) = cN c ∧ (∀ i, i < cN c → bV (cV c i)) ∧ (cK c ≠ 2 → cR c = 1) ∧ (cK c = 0 → cN c = 1)
/-- a shape of the system holds c -/
def SH (n : Nat) (σ : xσ) (a : Nat) (c : Ct) : Prop := okS n a ∧ (sI σ a 0 = nI (cK c) ∧ sI σ a 1 = nI (cN c) ∧ sI σ a 2 = nI (cR c)) ∧
  (sI σ a 4 = iI (mn (fun i => (cV c i).1) (cN c - 1)) ∧ sI σ a 5 = iI (mn (fun i => (cV c i).2) (cN c - 1)) ∧ sI σ a 6 = iI (mx (fun i => (cV c i).1) (cN c - 1)) ∧ sI σ a 7 = iI (mx (fun i => (cV c i).2) (cN c - 1))) ∧
  (∀ i, i < cN c → sI σ (a + 1) i = iI (cV c i).1 ∧ sI σ (a + 2) i = iI (cV c i).2 ∧ sI σ (a + 4) i = tf (isE c i)) ∧ (∀ r, r < cR c → sI σ (a + 3) r = nI (cE c r))
/-- a shape of the reference holds c -/
def MH (σ : xσ) (a : Nat) (c : Ct) : Prop := okM a ∧ (sI σ a 1 = nI (cK c) ∧ sI σ a 2 = nI (cN c) ∧ sI σ a 3 = nI (cR c)) ∧ (∀ i, i < cN c → sI σ (a + 2) i = iI (cV c i).1 ∧ sI σ (a + 3) i = iI (cV c i).2) ∧ (∀ r, r < cR c → sI σ (a + 1) r = nI (cE c r))
theorem SH.fr {n : Nat} {σ σ' : xσ} {a : Nat} {c : Ct} {A : Nat → Prop} (h : SH n σ a c) (f : Fr A σ σ') (hA : ∀ j, j < 5 → ¬ A (a + j)) : SH n σ' a c := by
  obtain ⟨h1, ⟨h2, h3, h4⟩, ⟨h5, h6, h7, h8⟩, h9, h10⟩ := h
  have f0 := f a (hA 0 (by omega))
  have f1 := f (a + 1) (hA 1 (by omega))
  have f2 := f (a + 2) (hA 2 (by omega))
  have f3 := f (a + 3) (hA 3 (by omega))
  have f4 := f (a + 4) (hA 4 (by omega))
  refine ⟨h1, ⟨?_, ?_, ?_⟩, ⟨?_, ?_, ?_, ?_⟩, fun i hi => ⟨?_, ?_, ?_⟩, fun r hr => ?_⟩
  · rw [(f0 0).1, h2]
  · rw [(f0 1).1, h3]
  · rw [(f0 2).1, h4]
  · rw [(f0 4).1, h5]
  · rw [(f0 5).1, h6]
  · rw [(f0 6).1, h7]
  · rw [(f0 7).1, h8]
  · rw [(f1 i).1, (h9 i hi).1]
  · rw [(f2 i).1, (h9 i hi).2.1]
  · rw [(f4 i).1, (h9 i hi).2.2]
  · rw [(f3 r).1, h10 r hr]
theorem MH.fr {σ σ' : xσ} {a : Nat} {c : Ct} {A : Nat → Prop} (h : MH σ a c) (f : Fr A σ σ') (hA : ∀ j, j < 4 → ¬ A (a + j)) : MH σ' a c := by
  obtain ⟨h1, ⟨h2, h3, h4⟩, h9, h10⟩ := h
  have f0 := f a (hA 0 (by omega))
  have f1 := f (a + 1) (hA 1 (by omega))
  have f2 := f (a + 2) (hA 2 (by omega))
  have f3 := f (a + 3) (hA 3 (by omega))
  refine ⟨h1, ⟨?_, ?_, ?_⟩, fun i hi => ⟨?_, ?_⟩, fun r hr => ?_⟩
  · rw [(f0 1).1, h2]
  · rw [(f0 2).1, h3]
  · rw [(f0 3).1, h4]
  · rw [(f2 i).1, (h9 i hi).1]
  · rw [(f3 i).1, (h9 i hi).2]
  · rw [(f1 r).1, h10 r hr]
theorem b30.r {z : Int} (h : b30 z) : R32 z := ⟨by have := h.1; omega, by have := h.2; omega⟩
theorem ab_mul {a b m : Int} (ha : -m ≤ a ∧ a ≤ m) (hb : -m ≤ b ∧ b ≤ m) : -(m * m) ≤ a * b ∧ a * b ≤ m * m := by
  have h1 : 0 ≤ (m - a) * (m + b) := Int.mul_nonneg (by omega) (by omega)
  have h2 : 0 ≤ (m + a) * (m - b) := Int.mul_nonneg (by omega) (by omega)
  have h3 : 0 ≤ (m - a) * (m - b) := Int.mul_nonneg (by omega) (by omega)
  have h4 : 0 ≤ (m + a) * (m + b) := Int.mul_nonneg (by omega) (by omega)
  have e1 : (m - a) * (m + b) + (m + a) * (m - b) = 2 * (m * m) - 2 * (a * b) := by grind
  have e2 : (m - a) * (m - b) + (m + a) * (m + b) = 2 * (m * m) + 2 * (a * b) := by grind
  omega
/-- differences of places -/
def b31 (z : Int) : Prop := -2147483646 ≤ z ∧ z ≤ 2147483646
theorem b31.s {a b : Int} (ha : b30 a) (hb : b30 b) : b31 (a - b) := ⟨by have := ha.1; have := hb.2; omega, by have := ha.2; have := hb.1; omega⟩
theorem b31.mul {a b : Int} (ha : b31 a) (hb : b31 b) : -4611686009837453316 ≤ a * b ∧ a * b ≤ 4611686009837453316 := by
  have := ab_mul (m := 2147483646) ha hb
  omega
theorem crs_r {a b c d : Int} (ha : b31 a) (hb : b31 b) (hc : b31 c) (hd : b31 d) : R64 (a * b - c * d) := by
  have h1 := b31.mul ha hb
  have h2 := b31.mul hc hd
  constructor <;> omega
theorem dot_r {a b c d : Int} (ha : b31 a) (hb : b31 b) (hc : b31 c) (hd : b31 d) : R64 (a * b + c * d) := by
  have h1 := b31.mul ha hb
  have h2 := b31.mul hc hd
  constructor <;> omega

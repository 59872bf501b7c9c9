/-! THE REFERENCE: numbers of eight limbs -/
def lim (x k : Nat) : Nat := x / 268435456 ^ k % 268435456
set_option maxHeartbeats 200000 in
theorem lim_lt (x k : Nat) : lim x k < 268435456 := Nat.mod_lt _ (by decide)
def LB (σ : xσ) (a x : Nat) : Prop := ∀ k, k < 8 → sJ σ a k = lN (lim x k)
set_option maxHeartbeats 200000 in
theorem LB.fr {σ σ' : xσ} {a x : Nat} {A : Nat → Prop} (h : LB σ a x) (f : Fr A σ σ') (ha : ¬ A a) : LB σ' a x := fun k hk => ((f a ha k).2.1).trans (h k hk)
set_option maxHeartbeats 200000 in
theorem div_s (x k : Nat) : x / 268435456 ^ k / 268435456 = x / 268435456 ^ (k + 1) := by rw [Nat.div_div_eq_div_mul, Nat.pow_succ]
set_option maxHeartbeats 200000 in
theorem lB28 : (268435456 : Int64) = lN 268435456 := rfl
set_option maxHeartbeats 200000 in
theorem l_set {n a x : Nat} (hx : x < 9223372036854775808) : ∀ (fu k : Nat) (σ : xσ), 8 - k < fu → k ≤ 8 → (∀ j, j < k → sJ σ a j = lN (lim x j)) →
    ∃ σ', l_X14_set_5 n fu a (lN (x / 268435456 ^ k)) (nI k) σ = some ((), σ') ∧ Fr (· = a) σ σ' ∧ LB σ' a x := by
  intro fu
  induction fu with
  | zero => intro k σ h; omega
  | succ fu ih =>
    intro k σ hf hk h
    rw [l_X14_set_5]
    simp (disch := omega) only [nIg8]
    by_cases q : 8 ≤ k
    · rw [if_pos q]
      exact ⟨σ, rfl, Fr.refl, fun j hj => h j (by omega)⟩
    · rw [if_neg q]
      have h1 : x / 268435456 ^ k < 2 ^ 63 := Nat.lt_of_le_of_lt (Nat.div_le_self _ _) hx
      simp (disch := omega) only [gd_pos (show ¬ (268435456 : Int64) = 0 by decide), gd_pos (show ¬ lN 268435456 = 0 by decide), gd_in, nI_k, st, lB28, nI_s]
      rw [pk_lRem h1 (by decide) (by decide), pk_lDiv h1 (by decide) (by decide), div_s]
      obtain ⟨σ', a1, a2, a3⟩ := ih (k + 1) (wJ σ a k (lN (x / 268435456 ^ k % 268435456))) (by omega) (by omega) (fun j hj => by
        rw [sJ_wJ]
        by_cases z : j = k
        · rw [if_pos ⟨rfl, z⟩, z]; rfl
        · rw [if_neg (fun y => z y.2)]; exact h j (by omega))
      exact ⟨σ', a1, (Fr.wJ (A := (· = a)) rfl).trans a2, a3⟩
set_option maxHeartbeats 200000 in
theorem m_set {n a x : Nat} {σ : xσ} (ha : okL a) (hx : x < 9223372036854775808) : ∃ σ', f_X14_set n a (lN x) σ = some ((), σ') ∧ Fr (· = a) σ σ' ∧ LB σ' a x := by
  rw [f_X14_set, gd_pos ha]
  have := l_set (n := n) (a := a) hx xFU 0 σ (xFU_lt (by omega)) (by omega) (fun j hj => by omega)
  rw [Nat.pow_zero, Nat.div_one] at this
  exact this
set_option maxHeartbeats 200000 in
theorem l_copy {n a b x : Nat} (hab : b ≠ a) : ∀ (fu k : Nat) (σ : xσ), 8 - k < fu → k ≤ 8 → LB σ b x → (∀ j, j < k → sJ σ a j = lN (lim x j)) →
    ∃ σ', l_X14_copy_2 n fu a b (nI k) σ = some ((), σ') ∧ Fr (· = a) σ σ' ∧ LB σ' a x := by
  intro fu
  induction fu with
  | zero => intro k σ h; omega
  | succ fu ih =>
    intro k σ hf hk hb h
    rw [l_X14_copy_2]
    simp (disch := omega) only [nIg8]
    by_cases q : 8 ≤ k
    · rw [if_pos q]
      exact ⟨σ, rfl, Fr.refl, fun j hj => h j (by omega)⟩
    · rw [if_neg q]
      simp (disch := omega) only [gd_in, nI_k, st, nI_s]
      rw [hb k (by omega)]
      obtain ⟨σ', a1, a2, a3⟩ := ih (k + 1) (wJ σ a k (lN (lim x k))) (by omega) (by omega) (hb.fr (Fr.wJ (A := (· = a)) rfl) hab) (fun j hj => by
        rw [sJ_wJ]
        by_cases z : j = k
        · rw [if_pos ⟨rfl, z⟩, z]
        · rw [if_neg (fun y => z y.2)]; exact h j (by omega))
      exact ⟨σ', a1, (Fr.wJ (A := (· = a)) rfl).trans a2, a3⟩
set_option maxHeartbeats 200000 in
theorem m_copy {n a b x : Nat} {σ : xσ} (ha : okL a) (hb : okL b) (hab : b ≠ a) (h : LB σ b x) : ∃ σ', f_X14_copy n a b σ = some ((), σ') ∧ Fr (· = a) σ σ' ∧ LB σ' a x := by
  rw [f_X14_copy, gd_pos ha, gd_pos hb]
  exact l_copy hab xFU 0 σ (xFU_lt (by omega)) (by omega) h (fun j hj => by omega)
/-! products -/
def snN (f : Nat → Nat) : Nat → Nat
  | 0 => 0
  | k + 1 => snN f k + f k
def cK2 (x y k i : Nat) : Nat := snN (fun j => lim x j * lim y (k - j)) i
def rK (x y k : Nat) : Nat := snN (fun i => lim x i * (y / 268435456 ^ (k - i))) k + x / 268435456 ^ k * y
set_option maxHeartbeats 200000 in
theorem snN_congr {f g : Nat → Nat} {N : Nat} (h : ∀ i, i < N → f i = g i) : snN f N = snN g N := by
  induction N with
  | zero => rfl
  | succ k ih => rw [snN, snN, ih (fun i hi => h i (by omega)), h k (by omega)]
set_option maxHeartbeats 200000 in
theorem snN_lin (f g : Nat → Nat) (N : Nat) : snN (fun i => f i + 268435456 * g i) N = snN f N + 268435456 * snN g N := by
  induction N with
  | zero => rfl
  | succ k ih => rw [snN, snN, snN, ih, Nat.mul_add]; omega
set_option maxHeartbeats 200000 in
theorem lim_div (y m : Nat) : y / 268435456 ^ m = lim y m + 268435456 * (y / 268435456 ^ (m + 1)) := by
  have := Nat.mod_add_div (y / 268435456 ^ m) 268435456
  rw [div_s] at this
  unfold lim; omega
set_option maxHeartbeats 200000 in
theorem rK_s (x y k : Nat) : rK x y k = cK2 x y k (k + 1) + 268435456 * rK x y (k + 1) := by
  unfold rK cK2
  have e1 : snN (fun i => lim x i * (y / 268435456 ^ (k - i))) k = snN (fun j => lim x j * lim y (k - j)) k + 268435456 * snN (fun i => lim x i * (y / 268435456 ^ (k + 1 - i))) k := by
    rw [← snN_lin]
    refine snN_congr (fun i hi => ?_)
    rw [lim_div y (k - i), show k - i + 1 = k + 1 - i by omega, Nat.mul_add, Nat.mul_left_comm]
  rw [e1, snN, snN, lim_div x k, Nat.sub_self, show k + 1 - k = 1 by omega]
  have e2 : y = lim y 0 + 268435456 * (y / 268435456 ^ 1) := by
    have := lim_div y 0
    rw [Nat.pow_zero, Nat.div_one, Nat.zero_add] at this
    exact this
  have e3 : (lim x k + 268435456 * (x / 268435456 ^ (k + 1))) * y = lim x k * lim y 0 + 268435456 * (lim x k * (y / 268435456 ^ 1)) + 268435456 * (x / 268435456 ^ (k + 1) * y) := by
    have : lim x k * y = lim x k * lim y 0 + 268435456 * (lim x k * (y / 268435456 ^ 1)) := by
      conv => lhs; rw [e2]
      rw [Nat.mul_add, Nat.mul_left_comm]
    rw [Nat.add_mul, this, Nat.mul_assoc]
  rw [e3, Nat.mul_add, Nat.mul_add]
  omega
set_option maxHeartbeats 200000 in
theorem cK2_b (x y k : Nat) : ∀ i, cK2 x y k i ≤ i * 72057594037927936 := by
  intro i
  induction i with
  | zero => exact Nat.le_of_eq (by unfold cK2 snN; omega)
  | succ i ih =>
    have h : lim x i * lim y (k - i) ≤ 268435455 * 268435455 := Nat.mul_le_mul (by have := lim_lt x i; omega) (by have := lim_lt y (k - i); omega)
    unfold cK2 at *
    rw [snN]; omega
set_option maxHeartbeats 200000 in
theorem l_times18 {n a0 a1 a2 x y k c : Nat} {σ : xσ} (hk : k < 8) (hc : c < 4294967296) (h1 : LB σ a1 x) (h2 : LB σ a2 y) (K : Nat → Nat → Nat → Int64 → Int32 → xσ → Option (Unit × xσ)) : ∀ (fu i : Nat), 9 - i < fu → i ≤ k + 1 →
    l_X14_times_18 n K fu a0 a1 a2 (nI k) (lN (c + cK2 x y k i)) (nI i) σ = K a0 a1 a2 (lN ((c + cK2 x y k (k + 1)) / 268435456)) (nI (k + 1)) (wJ σ a0 k (lN ((c + cK2 x y k (k + 1)) % 268435456))) := by
  intro fu
  induction fu with
  | zero => intro i h; omega
  | succ fu ih =>
    intro i hf hi
    rw [l_X14_times_18]
    simp (disch := omega) only [nI_l']
    by_cases q : k < i
    · rw [if_pos q]
      have : i = k + 1 := by omega
      subst this
      have hb := cK2_b x y k (k + 1)
      have hs : c + cK2 x y k (k + 1) < 2 ^ 63 := by omega
      simp (disch := omega) only [gd_pos (show ¬ (268435456 : Int64) = 0 by decide), gd_pos (show ¬ lN 268435456 = 0 by decide), gd_in, nI_k, st, lB28, nI_s]
      rw [pk_lRem hs (by decide) (by decide), pk_lDiv hs (by decide) (by decide)]
    · rw [if_neg q]
      rw [nI_m (show i ≤ k by omega)]
      simp (disch := omega) only [gd_in, nI_k, st, nI_s]
      rw [h1 i (by omega), h2 (k - i) (by omega), lN_mul, lN_add]
      have : c + cK2 x y k i + lim x i * lim y (k - i) = c + cK2 x y k (i + 1) := by unfold cK2; rw [snN]; omega
      rw [this]
      exact ih (i + 1) (by omega) (by omega)
set_option maxHeartbeats 200000 in
theorem l_times5 {n a0 a1 a2 x y : Nat} (n1 : a1 ≠ a0) (n2 : a2 ≠ a0) : ∀ (fu k c : Nat) (σ : xσ), 8 - k < fu → k ≤ 8 → LB σ a1 x → LB σ a2 y → c < 4294967296 → c + rK x y k = x * y / 268435456 ^ k → (∀ j, j < k → sJ σ a0 j = lN (lim (x * y) j)) →
    ∃ σ', l_X14_times_5 n fu a0 a1 a2 (lN c) (nI k) σ = some ((), σ') ∧ Fr (· = a0) σ σ' ∧ LB σ' a0 (x * y) := by
  intro fu
  induction fu with
  | zero => intro k c σ h; omega
  | succ fu ih =>
    intro k c σ hf hk h1 h2 hc hr h
    rw [l_X14_times_5]
    simp (disch := omega) only [nIg8]
    by_cases q : 8 ≤ k
    · rw [if_pos q]
      exact ⟨σ, rfl, Fr.refl, fun j hj => h j (by omega)⟩
    · rw [if_neg q]
      have := l_times18 (n := n) (a0 := a0) (show k < 8 by omega) hc h1 h2 (l_X14_times_5 n fu) xFU 0 (xFU_lt (by omega)) (by omega)
      have z0 : cK2 x y k 0 = 0 := rfl
      rw [z0, Nat.add_zero] at this
      rw [show (0 : Int32) = nI 0 from rfl, this]
      have hb := cK2_b x y k (k + 1)
      have hs := rK_s x y k
      have e1 : c + cK2 x y k (k + 1) + 268435456 * rK x y (k + 1) = x * y / 268435456 ^ k := by omega
      have fw : Fr (· = a0) σ (wJ σ a0 k (lN ((c + cK2 x y k (k + 1)) % 268435456))) := Fr.wJ rfl
      obtain ⟨σ', b1, b2, b3⟩ := ih (k + 1) ((c + cK2 x y k (k + 1)) / 268435456) _ (by omega) (by omega) (h1.fr fw n1) (h2.fr fw n2) (by omega) (by
        rw [← div_s, ← e1]; omega) (fun j hj => by
        rw [sJ_wJ]
        by_cases z : j = k
        · rw [if_pos ⟨rfl, z⟩, z]
          unfold lim
          rw [← e1, Nat.add_mul_mod_self_left]
        · rw [if_neg (fun y => z y.2)]; exact h j (by omega))
      exact ⟨σ', b1, fw.trans b2, b3⟩
set_option maxHeartbeats 200000 in
theorem m_times {n a0 a1 a2 x y : Nat} {σ : xσ} (o0 : okL a0) (o1 : okL a1) (o2 : okL a2) (n1 : a1 ≠ a0) (n2 : a2 ≠ a0) (h1 : LB σ a1 x) (h2 : LB σ a2 y) : ∃ σ', f_X14_times n a0 a1 a2 σ = some ((), σ') ∧ Fr (· = a0) σ σ' ∧ LB σ' a0 (x * y) := by
  rw [f_X14_times, gd_pos o0, gd_pos o1, gd_pos o2]
  refine l_times5 n1 n2 xFU 0 0 σ (xFU_lt (by omega)) (by omega) h1 h2 (by omega) ?_ (fun j hj => by omega)
  unfold rK snN
  rw [Nat.pow_zero, Nat.div_one, Nat.div_one]; omega
/-! comparing -/
set_option maxHeartbeats 200000 in
theorem l_cmp {n a b x y : Nat} {σ : xσ} (h1 : LB σ a x) (h2 : LB σ b y) : ∀ (fu k : Nat), k < fu → k ≤ 8 → x / 268435456 ^ k = y / 268435456 ^ k → l_X14_compare_3 n fu a b (nI k + -1) σ = some (cmN x y, σ) := by
  intro fu
  induction fu with
  | zero => intro k h; omega
  | succ fu ih =>
    intro k hf hk h
    rw [l_X14_compare_3]
    by_cases q : k = 0
    · subst q
      rw [if_pos (show nI 0 + -1 < 0 by decide)]
      rw [Nat.pow_zero, Nat.div_one, Nat.div_one] at h
      rw [h]; unfold cmN; rw [if_neg (by omega), if_pos rfl]
    · rw [nI_m1' (by omega)]
      simp (disch := omega) only [nIl0, if_false, gd_in, nI_k]
      rw [h1 (k - 1) (by omega), h2 (k - 1) (by omega)]
      have a1 := lim_lt x (k - 1)
      have a2 := lim_lt y (k - 1)
      have d1 := lim_div x (k - 1)
      have d2 := lim_div y (k - 1)
      rw [show k - 1 + 1 = k by omega] at d1 d2
      have e0 : lg_cmp (lN (lim x (k - 1))) (lN (lim y (k - 1))) = 0 ↔ lim x (k - 1) = lim y (k - 1) := lgc_eq.trans (pk_lEQ (by omega) (by omega))
      have e1 : 0 ≤ lg_cmp (lN (lim x (k - 1))) (lN (lim y (k - 1))) ↔ ¬ lim x (k - 1) < lim y (k - 1) := by
        rw [← Int32.not_lt, lgc_lt, pk_lLT (by omega) (by omega)]
      by_cases w : lim x (k - 1) = lim y (k - 1)
      · rw [if_pos (e0.mpr w)]
        exact ih (k - 1) (by omega) (by omega) (by omega)
      · rw [if_neg (fun z => w (e0.mp z))]
        have mono : ∀ u v : Nat, u / 268435456 ^ (k - 1) < v / 268435456 ^ (k - 1) → u < v := by
          intro u v huv
          by_cases z : u < v
          · exact z
          · have := Nat.div_le_div_right (c := 268435456 ^ (k - 1)) (show v ≤ u by omega); omega
        by_cases z : lim x (k - 1) < lim y (k - 1)
        · rw [if_neg (fun t => (e1.mp t) z)]
          have := mono x y (by omega)
          unfold cmN; rw [if_pos this]
        · rw [if_pos (e1.mpr z)]
          have := mono y x (by omega)
          unfold cmN; rw [if_neg (by omega), if_neg (by omega)]
set_option maxHeartbeats 200000 in
theorem m_compare {n a b x y : Nat} {σ : xσ} (oa : okL a) (ob : okL b) (h1 : LB σ a x) (h2 : LB σ b y) (hx : x < 268435456 ^ 8) (hy : y < 268435456 ^ 8) : f_X14_compare n a b σ = some (cmN x y, σ) := by
  rw [f_X14_compare, gd_pos oa, gd_pos ob, show (7 : Int32) = nI 8 + -1 from rfl]
  exact l_cmp h1 h2 xFU 8 (xFU_lt (by omega)) (by omega) (by rw [Nat.div_eq_of_lt hx, Nat.div_eq_of_lt hy])
def A47 (b : Nat) : Prop := 234 ≤ b ∧ b ≤ 237
set_option maxHeartbeats 200000 in
theorem ok234 : okL 234 := ⟨rfl, by decide⟩
set_option maxHeartbeats 200000 in
theorem ok235 : okL 235 := ⟨rfl, by decide⟩
set_option maxHeartbeats 200000 in
theorem ok236 : okL 236 := ⟨rfl, by decide⟩
set_option maxHeartbeats 200000 in
theorem ok237 : okL 237 := ⟨rfl, by decide⟩
/-! a / b against c / d -/
set_option maxHeartbeats 200000 in
theorem m_cmpQ {n : Nat} {σ : xσ} {a b c d : Nat} (ha : a < 9223372036854775808) (hb : b < 9223372036854775808) (hc : c < 9223372036854775808) (hd : d < 9223372036854775808) : ∃ σ', f_X14_compare_ n (lN a) (lN b) (lN c) (lN d) σ = some (cmN (a * d) (c * b), σ') ∧ Fr A47 σ σ' := by
  obtain ⟨σ1, a1, a2, a3⟩ := m_set (n := n) (σ := σ) ok234 ha
  obtain ⟨σ2, b1, b2, b3⟩ := m_set (n := n) (σ := σ1) ok235 hd
  obtain ⟨σ3, c1, c2, c3⟩ := m_times (n := n) ok236 ok234 ok235 (by decide) (by decide) (a3.fr b2 (by decide)) b3
  obtain ⟨σ4, d1, d2, d3⟩ := m_set (n := n) (σ := σ3) ok234 hc
  obtain ⟨σ5, e1, e2, e3⟩ := m_set (n := n) (σ := σ4) ok235 hb
  obtain ⟨σ6, f1, f2, f3⟩ := m_times (n := n) ok237 ok234 ok235 (by decide) (by decide) (d3.fr e2 (by decide)) e3
  have p : ∀ u v : Nat, u < 9223372036854775808 → v < 9223372036854775808 → u * v < 268435456 ^ 8 := by
    intro u v hu hv
    have : u * v ≤ 9223372036854775808 * 9223372036854775808 := Nat.mul_le_mul (by omega) (by omega)
    omega
  have g := m_compare (n := n) ok236 ok237 (((c3.fr d2 (by decide)).fr e2 (by decide)).fr f2 (by decide)) f3 (p a d ha hd) (p c b hc hb)
  refine ⟨σ6, ?_, ?_⟩
  · rw [f_X14_compare_, a1, bd, b1, bd, c1, bd, d1, bd, e1, bd, f1, bd, g, bd]
  · have k : ∀ {A : Nat} {s t : xσ}, 234 ≤ A → A ≤ 237 → Fr (· = A) s t → Fr A47 s t := fun h1 h2 f => f.mono (fun b hb => by unfold A47; omega)
    exact (k (by omega) (by omega) a2).trans ((k (by omega) (by omega) b2).trans ((k (by omega) (by omega) c2).trans ((k (by omega) (by omega) d2).trans ((k (by omega) (by omega) e2).trans (k (by omega) (by omega) f2)))))

/-! distances of the system: numbers of 128 bits over numbers of 64 -/
set_option maxHeartbeats 200000 in
theorem top3 {u w V : Nat} (hu : u < 18446744073709551616) (hw : w < 18446744073709551616) (hV : V < 18446744073709551616) : (u * 18446744073709551616 + w) * V = (u * V / 18446744073709551616 + (if (u * V + w * V / 18446744073709551616) % 18446744073709551616 < w * V / 18446744073709551616 then 1 else 0)) * (18446744073709551616 * 18446744073709551616) + (u * V + w * V / 18446744073709551616) % 18446744073709551616 * 18446744073709551616 + w * V % 18446744073709551616 ∧ w * V / 18446744073709551616 < 18446744073709551616 ∧ u * V / 18446744073709551616 + (if (u * V + w * V / 18446744073709551616) % 18446744073709551616 < w * V / 18446744073709551616 then 1 else 0) < 18446744073709551616 := by
  have e : (u * 18446744073709551616 + w) * V = u * V * 18446744073709551616 + w * V := by grind
  have x1 : u * V ≤ 18446744073709551615 * 18446744073709551615 := Nat.mul_le_mul (by omega) (by omega)
  have y1 : w * V ≤ 18446744073709551615 * 18446744073709551615 := Nat.mul_le_mul (by omega) (by omega)
  rw [e]
  generalize u * V = x at *
  generalize w * V = y at *
  split <;> omega
set_option maxHeartbeats 200000 in
theorem cm3 {a b c a' b' c' : Nat} (hb : b < 18446744073709551616) (hc : c < 18446744073709551616) (hb' : b' < 18446744073709551616) (hc' : c' < 18446744073709551616) : cmN (a * (18446744073709551616 * 18446744073709551616) + b * 18446744073709551616 + c) (a' * (18446744073709551616 * 18446744073709551616) + b' * 18446744073709551616 + c') = if a = a' then (if b = b' then cmN c c' else cmN b b') else cmN a a' := by
  unfold cmN
  by_cases h1 : a = a'
  · subst h1
    rw [if_pos rfl]
    by_cases h2 : b = b'
    · subst h2
      rw [if_pos rfl]
      by_cases h3 : c < c'
      · rw [if_pos (by omega), if_pos h3]
      · rw [if_neg (by omega), if_neg h3]
        by_cases h4 : c = c'
        · rw [if_pos (by omega), if_pos h4]
        · rw [if_neg (by omega), if_neg h4]
    · rw [if_neg h2]
      by_cases h3 : b < b'
      · rw [if_pos (by omega), if_pos h3]
      · rw [if_neg (by omega), if_neg h3, if_neg (by omega), if_neg h2]
  · rw [if_neg h1]
    by_cases h3 : a < a'
    · rw [if_pos (by omega), if_pos h3]
    · rw [if_neg (by omega), if_neg h3, if_neg (by omega), if_neg h1]
set_option maxHeartbeats 200000 in
theorem cmN_0 {a b : Nat} : cmN a b = 0 ↔ a = b := by
  unfold cmN
  by_cases h : a < b
  · rw [if_pos h]; exact ⟨fun y => absurd y (by decide), fun y => by omega⟩
  · rw [if_neg h]
    by_cases k : a = b
    · rw [if_pos k]; exact ⟨fun _ => k, fun _ => rfl⟩
    · rw [if_neg k]; exact ⟨fun y => absurd y (by decide), fun y => (k y).elim⟩
set_option maxHeartbeats 200000 in
theorem cmN_ge {a b : Nat} : 0 ≤ cmN a b ↔ ¬ a < b := by
  unfold cmN
  by_cases h : a < b
  · rw [if_pos h]; exact ⟨fun y => absurd y (by decide), fun y => (y h).elim⟩
  · rw [if_neg h]
    refine ⟨fun _ => h, fun _ => ?_⟩
    split <;> decide
def DD (σ : xσ) (a u w v : Nat) : Prop := sJ σ a 0 = lN u ∧ sJ σ a 1 = lN w ∧ sJ σ a 2 = lN v
set_option maxHeartbeats 200000 in
theorem e_compareParts {n : Nat} {σ : xσ} {a u w v U W V : Nat} (ok : okD a) (h : DD σ a u w v) (hu : u < 18446744073709551616) (hw : w < 18446744073709551616) (hv : v < 18446744073709551616) (hU : U < 18446744073709551616) (hW : W < 18446744073709551616) (hV : V < 18446744073709551616) : f_X2_compareParts n a (lN U) (lN W) (lN V) σ = some (cmN ((u * 18446744073709551616 + w) * V) ((U * 18446744073709551616 + W) * v), σ) := by
  obtain ⟨h0, h1, h2⟩ := h
  obtain ⟨p1, p2, p3⟩ := top3 hu hw hV
  obtain ⟨q1, q2, q3⟩ := top3 hU hW hv
  rw [p1, q1, cm3 (Nat.mod_lt _ (by omega)) (Nat.mod_lt _ (by omega)) (Nat.mod_lt _ (by omega)) (Nat.mod_lt _ (by omega))]
  have m1 : (u * V + w * V / 18446744073709551616) % 18446744073709551616 < 18446744073709551616 := Nat.mod_lt _ (by omega)
  have m2 : (U * v + W * v / 18446744073709551616) % 18446744073709551616 < 18446744073709551616 := Nat.mod_lt _ (by omega)
  have l1 : w * V % 18446744073709551616 < 18446744073709551616 := Nat.mod_lt _ (by omega)
  have l2 : W * v % 18446744073709551616 < 18446744073709551616 := Nat.mod_lt _ (by omega)
  rw [f_X2_compareParts, gd_pos ok, h1, e_upperProduct hw hV, bd, st, h0, e_upperProduct hu hV, bd, lN_mul, lN_add, w_mod (u * V + w * V / 18446744073709551616), e_compareBits m1 p2, bd]
  generalize hm : (u * V + w * V / 18446744073709551616) % 18446744073709551616 = mid at *
  generalize hc : w * V / 18446744073709551616 = car at *
  generalize ht : u * V / 18446744073709551616 = tp at *
  -- the last part
  have fin : ∀ t t' mm, t < 18446744073709551616 → t' < 18446744073709551616 → mm < 18446744073709551616 → (bd (f_X4_compareBits n (lN t) (lN t') σ) (fun v103 σ104 => if v103 = 0 then bd (f_X4_compareBits n (lN mid) (lN mm) σ104) (fun v115 σ116 => b_X2_compareParts_122 n a (lN W) (lN V) v115 σ116) else if v103 = 0 then bd (f_X4_compareBits n ((sJ σ104 a 1) * (lN V)) ((lN W) * (sJ σ104 a 2)) σ104) (fun v110 σ111 => b_X2_compareParts_145 n v110 σ111) else some (v103, σ104))) = some (if t = t' then (if mid = mm then cmN (w * V % 18446744073709551616) (W * v % 18446744073709551616) else cmN mid mm) else cmN t t', σ) := by
    intro t t' mm ht ht' hmm
    rw [e_compareBits ht ht', bd]
    by_cases e1 : t = t'
    · rw [if_pos (cmN_0.mpr e1), if_pos e1, e_compareBits m1 hmm, bd, b_X2_compareParts_122]
      by_cases e2 : mid = mm
      · rw [if_pos (cmN_0.mpr e2), if_pos e2, h1, h2, lN_mul, lN_mul, w_mod (w * V), w_mod (W * v), e_compareBits l1 l2, bd, b_X2_compareParts_145]
      · rw [if_neg (fun y => e2 (cmN_0.mp y)), if_neg e2]
    · rw [if_neg (fun y => e1 (cmN_0.mp y)), if_neg (fun y => e1 (cmN_0.mp y)), if_neg e1]
  have snd : ∀ (x : Int32) (xn : Nat), x.toInt64 = lN xn → tp + xn < 18446744073709551616 → b_X2_compareParts_47 n a (lN U) (lN W) (lN V) (lN mid) x (lN tp) σ = some (if tp + xn = U * v / 18446744073709551616 + (if (U * v + W * v / 18446744073709551616) % 18446744073709551616 < W * v / 18446744073709551616 then 1 else 0) then (if mid = (U * v + W * v / 18446744073709551616) % 18446744073709551616 then cmN (w * V % 18446744073709551616) (W * v % 18446744073709551616) else cmN mid ((U * v + W * v / 18446744073709551616) % 18446744073709551616)) else cmN (tp + xn) (U * v / 18446744073709551616 + (if (U * v + W * v / 18446744073709551616) % 18446744073709551616 < W * v / 18446744073709551616 then 1 else 0)), σ) := by
    intro x xn hx hb
    rw [b_X2_compareParts_47, st, h2, hx, lN_add, e_upperProduct hW hv, bd, st, h2, e_upperProduct hU hv, bd, lN_mul, lN_add, w_mod (U * v + W * v / 18446744073709551616), e_compareBits m2 q2, bd]
    by_cases z : (U * v + W * v / 18446744073709551616) % 18446744073709551616 < W * v / 18446744073709551616
    · rw [if_pos z] at q3 ⊢
      rw [if_neg (fun y => cmN_ge.mp y z), b_X2_compareParts_95, st, show (1 : Int32).toInt64 = lN 1 from rfl, lN_add]
      exact fin _ _ _ hb q3 m2
    · rw [if_neg z] at q3 ⊢
      rw [if_pos (cmN_ge.mpr z), b_X2_compareParts_95, st, show (0 : Int32).toInt64 = lN 0 from rfl, lN_add]
      exact fin _ _ _ hb q3 m2
  by_cases z : mid < car
  · rw [if_pos z] at p3 ⊢
    rw [if_neg (fun y => cmN_ge.mp y z)]
    exact snd 1 1 rfl p3
  · rw [if_neg z] at p3 ⊢
    rw [if_pos (cmN_ge.mpr z)]
    exact snd 0 0 rfl p3

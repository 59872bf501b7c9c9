/-! Math, Long -/
theorem lgc_lt {x y : Int64} : lg_cmp x y < 0 ↔ x < y := by
  unfold lg_cmp
  by_cases h1 : y < x
  · have : ¬ x < y := Int64.not_lt.mpr (Int64.le_of_lt h1)
    simp [h1, this]
  · by_cases h2 : x = y
    · subst h2; simp [h1]
    · have h3 : x < y := Int64.lt_of_le_of_ne (Int64.not_lt.mp h1) h2
      simp [h1, h2, h3]
theorem lgc_gt {x y : Int64} : 0 < lg_cmp x y ↔ y < x := by
  unfold lg_cmp
  by_cases h1 : y < x
  · simp [h1]
  · by_cases h2 : x = y
    · subst h2; simp [h1]
    · simp [h1, h2]
theorem lgc_eq {x y : Int64} : lg_cmp x y = 0 ↔ x = y := by
  unfold lg_cmp
  by_cases h1 : y < x
  · have : x ≠ y := fun e => by subst e; exact Int64.lt_irrefl h1
    simp [h1, this]
  · by_cases h2 : x = y
    · subst h2; simp [h1]
    · simp [h1, h2]
def lcm (a b : Int64) : Int32 := if a < b then -1 else if a = b then 0 else 1
theorem j_compare {G : xG} {h : xH} {a b : Int64} : Ca G mJ13_compare_74951 [.long a, .long b] h (fun v h' => v = some (.int (lcm a b)) ∧ h' = h) := by
  refine Ca.of (by decide) (Nat.le_of_ble_eq_true rfl) ?_
  refine go_lload_n (i := 0) (pc' := 1) dJ13_compare_74951_0 rfl rfl rfl ?_
  refine go_lload_n (i := 2) (pc' := 2) dJ13_compare_74951_1 rfl rfl rfl ?_
  refine go_lcmp (pc' := 3) dJ13_compare_74951_2 rfl ?_
  refine go_if_ge (pc' := 6) (tgt := 10) dJ13_compare_74951_3 (by decide) rfl (fun c1 => ?_) (fun c1 => ?_)
  · have c1' : ¬ a < b := fun q => absurd (lgc_lt.mpr q) (Int32.not_lt.mpr c1)
    refine go_lload_n (i := 0) (pc' := 11) dJ13_compare_74951_10 rfl rfl rfl ?_
    refine go_lload_n (i := 2) (pc' := 12) dJ13_compare_74951_11 rfl rfl rfl ?_
    refine go_lcmp (pc' := 13) dJ13_compare_74951_12 rfl ?_
    refine go_if_ne (pc' := 16) (tgt := 20) dJ13_compare_74951_13 (by decide) rfl (fun c2 => ?_) (fun c2 => ?_)
    · refine go_iconst (v := 1) (pc' := 21) dJ13_compare_74951_20 rfl (by decide) ?_
      rw [lcm, if_neg c1', if_neg (fun q => c2 (lgc_eq.mpr q))]
      exact Go.ret (v := some (.int _)) dJ13_compare_74951_21 ⟨_, rfl⟩ ⟨rfl,rfl,rfl⟩
    · refine go_iconst (v := 0) (pc' := 17) dJ13_compare_74951_16 rfl (by decide) ?_
      refine go_goto (pc' := 0) (tgt := 21) dJ13_compare_74951_17 (by decide) ?_
      rw [lcm, if_neg c1', if_pos (lgc_eq.mp c2)]
      exact Go.ret (v := some (.int _)) dJ13_compare_74951_21 ⟨_, rfl⟩ ⟨rfl,rfl,rfl⟩
  · refine go_iconst (v := (-1)) (pc' := 7) dJ13_compare_74951_6 rfl (by decide) ?_
    refine go_goto (pc' := 0) (tgt := 21) dJ13_compare_74951_7 (by decide) ?_
    rw [lcm, if_pos (lgc_lt.mp (Int32.not_le.mp c1))]
    exact Go.ret (v := some (.int _)) dJ13_compare_74951_21 ⟨_, rfl⟩ ⟨rfl,rfl,rfl⟩

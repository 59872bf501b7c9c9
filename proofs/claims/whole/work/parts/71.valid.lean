/-! rings: hasPauses -/
/-- whether two places one behind the other are alike, among k places from i on -/
def pausF (xs ys : Nat → Int32) : Nat → Nat → Int32
  | _, 0 => 0
  | i, k + 1 => if cAlB xs ys i (i + 1) = 0 then pausF xs ys (i + 1) k else 1
set_option maxRecDepth 100000 in
theorem c_hasPauses {G : xG} {h : xH} {a fr to : Nat} {kind size rc tl x0 y0 x1 y1 ho : Int32} {xs ys rs il : Nat → Int32} (hS : CSh h a kind size rc tl x0 y0 x1 y1 ho xs ys rs il) (ht : to ≤ 40) (hf : fr ≤ 40) : Ca G mX0_hasPauses [.ref a, .int (nI fr), .int (nI to)] h (fun v h' => v = some (.int (pausF xs ys fr (to - fr - 1))) ∧ h' = h) := by
  refine Ca.of rfl (Nat.le_of_ble_eq_true rfl) ?_
  have loop : ∀ (m i : Nat), m = to - i - 1 → i ≤ 40 → Go G mX0_hasPauses 2 [some (.ref a), some (.int (nI fr)), some (.int (nI to)), some (.int (nI i))] [] h (fun v h' => xRok (xRt mX0_hasPauses) v ∧ v = some (.int (pausF xs ys i m)) ∧ h' = h) := by
    intro m
    induction m with
    | zero =>
      intro i hm hi
      refine go_iload_n (i := 3) (pc' := 3) dX0_hasPauses_2 rfl rfl rfl ?_
      refine go_iconst (v := nI 1) (pc' := 4) dX0_hasPauses_3 rfl (by decide) ?_
      first | refine go_iaddN (pc' := 5) dX0_hasPauses_4 rfl ?_ | refine go_iadd (pc' := 5) dX0_hasPauses_4 rfl ?_
      refine go_iload_n (i := 2) (pc' := 6) dX0_hasPauses_5 rfl rfl rfl ?_
      refine go_icmpN_ge (pc' := 9) (tgt := 28) dX0_hasPauses_6 (by decide) rfl (by omega) (by omega) (fun c1 => ?_) (fun c1 => ?_)
      · refine go_iconst (v := nI 0) (pc' := 29) dX0_hasPauses_28 rfl (by decide) ?_
        exact Go.ret (v := some (.int _)) dX0_hasPauses_29 ⟨_, rfl⟩ ⟨(bool_ok (by decide)),rfl,rfl⟩
      · exact absurd c1 (by omega)
    | succ m ih =>
      intro i hm hi
      refine go_iload_n (i := 3) (pc' := 3) dX0_hasPauses_2 rfl rfl rfl ?_
      refine go_iconst (v := nI 1) (pc' := 4) dX0_hasPauses_3 rfl (by decide) ?_
      first | refine go_iaddN (pc' := 5) dX0_hasPauses_4 rfl ?_ | refine go_iadd (pc' := 5) dX0_hasPauses_4 rfl ?_
      refine go_iload_n (i := 2) (pc' := 6) dX0_hasPauses_5 rfl rfl rfl ?_
      refine go_icmpN_ge (pc' := 9) (tgt := 28) dX0_hasPauses_6 (by decide) rfl (by omega) (by omega) (fun c1 => ?_) (fun c1 => ?_)
      · exact absurd c1 (by omega)
      · first | refine go_aload_n (i := 0) (pc' := 10) dX0_hasPauses_9 rfl rfl rfl ?_ | refine go_aloadX_n (i := 0) (pc' := 10) dX0_hasPauses_9 rfl rfl rfl ?_ | refine go_aload_nN (i := 0) (pc' := 10) dX0_hasPauses_9 rfl rfl rfl ?_
        refine go_iload_n (i := 3) (pc' := 11) dX0_hasPauses_10 rfl rfl rfl ?_
        refine go_iload_n (i := 3) (pc' := 12) dX0_hasPauses_11 rfl rfl rfl ?_
        refine go_iconst (v := nI 1) (pc' := 13) dX0_hasPauses_12 rfl (by decide) ?_
        first | refine go_iaddN (pc' := 14) dX0_hasPauses_13 rfl ?_ | refine go_iadd (pc' := 14) dX0_hasPauses_13 rfl ?_
        refine go_invV (As := [_, _]) (pc' := 17) dX0_hasPauses_14 rfl cf_X0_hasPauses_52 rfl hS.1 rfl rfl (Nat.le_of_ble_eq_true rfl) (c_isAlike hS (by omega) (by omega)) (fun v1 h1 q1 => ?_)
        obtain ⟨rfl, rfl⟩ := q1
        refine go_if_eq (pc' := 20) (tgt := 22) dX0_hasPauses_17 (by decide) rfl (fun c2 => ?_) (fun c2 => ?_)
        · first | refine go_iincN 1 (pc' := 25) dX0_hasPauses_22 rfl rfl (by decide) (by decide) rfl ?_ | refine go_iincC (kk := 1) (pc' := 25) dX0_hasPauses_22 rfl rfl (by decide) (by decide) rfl ?_
          refine go_goto (pc' := 0) (tgt := 2) dX0_hasPauses_25 (by decide) ?_
          rw [pausF, if_pos c2]
          exact ih (i + 1) (by omega) (by omega)
        · refine go_iconst (v := nI 1) (pc' := 21) dX0_hasPauses_20 rfl (by decide) ?_
          rw [pausF, if_neg c2]
          exact Go.ret (v := some (.int _)) dX0_hasPauses_21 ⟨_, rfl⟩ ⟨(bool_ok (by decide)),rfl,rfl⟩
  refine go_iload_n (i := 1) (pc' := 1) dX0_hasPauses_0 rfl rfl rfl ?_
  refine go_istore_n (i := 3) (pc' := 2) dX0_hasPauses_1 rfl rfl (by decide) rfl ?_
  exact loop _ fr rfl hf

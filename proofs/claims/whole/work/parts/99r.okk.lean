/-! what a keeper stays -/
set_option maxHeartbeats 200000 in
theorem ndD {b : Bool} {P : Prop} (h : b = false) (y : b = true) : P := by rw [h] at y; exact nomatch y
def okR (r : Int × Kp) : Prop := okK r.2 ∧ (r.1 = -1 → kD r.2 = true) ∧ (r.1 ≠ -1 → kD r.2 = false) ∧ -1 ≤ r.1 ∧ r.1 ≤ 9
set_option maxHeartbeats 200000 in
theorem okR_id {k : Kp} (o : okK k) (hD : kD k = false) {c : Int} (h : 0 ≤ c ∧ c ≤ 9) : okR (c, k) := ⟨o, fun y => by have y' : c = -1 := y; omega, fun _ => hD, by show -1 ≤ c; omega, h.2⟩
set_option maxHeartbeats 200000 in
theorem okR0 {k : Kp} (o : okK k) (hD : kD k = false) : okR (0, k) := okR_id o hD (by omega)
set_option maxHeartbeats 200000 in
theorem okR_f {k : Kp} (oL : okTb (kL k)) (oC : okTb (kC k)) (b : kB k ≤ 14112) (u : kU k ≤ 64) (c : kK k = -1 ∨ kK k = 0 ∨ kK k = 1) (x : kK k = 0 → 1 ≤ kX k ∧ kX k ≤ 1000) : okR (-1, kfall k) :=
  ⟨⟨⟨oL, oC⟩, ⟨b, u⟩, c, x, fun _ => rfl, fun _ y => ndD y rfl⟩, fun _ => rfl, fun y => (y rfl).elim, by show (-1 : Int) ≤ -1; omega, by show (-1 : Int) ≤ 9; omega⟩
set_option maxHeartbeats 200000 in
theorem okR_sv {k : Kp} (oL : okTb (kL k)) (oC : okTb (kC k)) (b : kB k ≤ 14112) (u : kU k ≤ 64) (c : kK k = -1 ∨ kK k = 0 ∨ kK k = 1) (x : kK k = 0 → 1 ≤ kX k ∧ kX k ≤ 1000) (hD : kD k = false) : okR (svK k) := by
  unfold svK
  by_cases e : kK k = 1
  · rw [if_pos e]; exact okR_f oL oC b u c x
  · rw [if_neg e]
    refine okR0 ⟨⟨oL, oL⟩, ⟨b, by show (0 : Nat) ≤ 64; omega⟩, c, x, ndD hD, fun _ _ => eqTb_r _⟩ ?_
    exact hD
set_option maxHeartbeats 200000 in
theorem okR_wl {k : Kp} (oL : okTb (kL k)) (oC : okTb (kC k)) (b : kB k ≤ 14112) (u : kU k ≤ 64) (c : kK k = -1 ∨ kK k = 0 ∨ kK k = 1) (x : kK k = 0 → 1 ≤ kX k ∧ kX k ≤ 1000) (hD : kD k = false) (m : Nat) : okR (wlK k m) := by
  unfold wlK
  have c0 : ∀ X, (kK k = 0 → 1 ≤ X ∧ X ≤ 1000) → kU k + blk m ≤ 64 → okR (0, cmtK k (kU k + blk m) X) := fun X hX hu =>
    by refine okR0 ⟨⟨oL, oL⟩, ⟨b, hu⟩, c, hX, ndD hD, fun _ _ => eqTb_r _⟩ ?_; exact hD
  by_cases e : kU k + blk m ≤ 64
  · rw [if_pos e]
    by_cases e1 : kK k = 0
    · rw [if_pos e1]
      by_cases e2 : blk m < kX k
      · rw [if_pos e2]; exact c0 _ (fun y => by have := x y; omega) e
      · rw [if_neg e2]; exact okR_f oL oC b u c x
    · rw [if_neg e1]; exact c0 _ x e
  · rw [if_neg e]; exact okR_sv oL oC b u c x hD
set_option maxHeartbeats 200000 in
theorem okR_st {k : Kp} (o : okK k) (hD : kD k = false) {L : Tb} (oL : okTb L) {m : Nat} (hr : room k m) : okR (stK (withL k L) m) := by
  obtain ⟨⟨_, o1⟩, ⟨o2, o3⟩, o4, o5, o6, o7⟩ := o
  unfold stK
  by_cases e : kO k = true
  · rw [if_pos (show kO (withL k L) = true from e)]
    have hb : kB k + m ≤ 14112 := by
      rcases hr with y | y
      · rw [e] at y; cases y
      · exact y
    refine okR0 ⟨⟨oL, o1⟩, ⟨hb, o3⟩, o4, o5, ndD hD, fun y => ndD y e⟩ ?_
    exact hD
  · rw [if_neg (show ¬ kO (withL k L) = true from e)]
    exact okR_wl (k := withL k L) oL o1 o2 o3 o4 o5 hD m
set_option maxHeartbeats 200000 in
theorem okR_tr {k : Kp} (o : okK k) (hD : kD k = false) (v : Nat) : okR (trK k v) := by
  have o' := o
  obtain ⟨⟨o0, o1⟩, ⟨o2, o3⟩, o4, o5, o6, o7⟩ := o
  unfold trK
  by_cases v4 : v = 4
  · rw [if_pos v4]
    by_cases e : kO k = true
    · rw [if_pos e]; exact okR_id o' hD (by omega)
    · rw [if_neg e]
      refine okR0 ⟨⟨o0, o1⟩, ⟨by show (0 : Nat) ≤ 14112; omega, o3⟩, o4, o5, ndD hD, fun y => ndD y rfl⟩ ?_
      exact hD
  rw [if_neg v4]
  by_cases v5 : v = 5
  · rw [if_pos v5]
    by_cases e : kO k = true
    · rw [if_pos e]; exact okR_wl (k := closeK k) o0 o1 o2 o3 o4 o5 hD _
    · rw [if_neg e]; exact okR_id o' hD (by omega)
  rw [if_neg v5]
  by_cases v6 : v = 6
  · rw [if_pos v6]
    by_cases e : kO k = true
    · rw [if_pos e]
      refine okR0 ⟨⟨o1, o1⟩, ⟨o2, o3⟩, o4, o5, ndD hD, fun _ _ => eqTb_r _⟩ ?_
      exact hD
    · rw [if_neg e]; exact okR_id o' hD (by omega)
  rw [if_neg v6]
  by_cases v7 : v = 7
  · rw [if_pos v7]; exact okR_id o' hD (by omega)
  rw [if_neg v7]
  by_cases e : kO k = true
  · rw [if_pos e]; exact okR_id o' hD (by omega)
  · rw [if_neg e]; exact okR_sv o0 o1 o2 o3 o4 o5 hD
set_option maxHeartbeats 200000 in
theorem okR_add {k : Kp} (o : okK k) (hD : kD k = false) {z : Int} {big : Prop} {c : Ct} (hW : ¬ big → WF c) : okR (addK k z big c) := by
  have L := o.1.1
  have l2 := L.1
  unfold addK
  by_cases q1 : z < 1 ∨ 9999 < z
  · rw [ifP_t q1]; exact okR_id o hD (by omega)
  rw [ifP_f q1]
  by_cases q3 : 0 ≤ fdT (kL k) z
  · rw [ifP_t q3]; exact okR_id o hD (by omega)
  rw [ifP_f q3]
  by_cases q4 : big
  · rw [ifP_t q4]; exact okR_id o hD (by omega)
  rw [ifP_f q4]
  by_cases q5 : Val c
  · rw [ifP_f (fun y => y q5)]
    by_cases q6 : 200 ≤ tC (kL k) ∨ ¬ room k (16 + 4 * cR c + 8 * cN c)
    · rw [ifP_t q6]; exact okR_id o hD (by omega)
    · rw [ifP_f q6]
      have nid : ∀ j, j < tC (kL k) → tI (kL k) j ≠ z := by
        rcases fdT_v (kL k) z with ⟨_, b⟩ | ⟨j, a, _⟩
        · exact b
        · omega
      exact okR_st o hD (okTb_ins L ⟨by omega, by omega⟩ nid (Classical.byContradiction (fun y => q6 (Or.inl (by omega)))) ⟨hW q4, q5⟩) (Classical.byContradiction (fun y => q6 (Or.inr y)))
  · rw [ifP_t q5]; exact okR_id o hD (by omega)
set_option maxHeartbeats 200000 in
theorem okR_drop {k : Kp} (o : okK k) (hD : kD k = false) {z : Int} : okR (dropK k z) := by
  unfold dropK
  by_cases q1 : fdT (kL k) z < 0
  · rw [ifP_t q1]; exact okR_id o hD (by omega)
  rw [ifP_f q1]
  by_cases q2 : room k 8
  · rw [ifP_f (fun y => y q2)]; exact okR_st o hD (okTb_rem o.1.1 (fd_lt q1).1) q2
  · rw [ifP_t q2]; exact okR_id o hD (by omega)
set_option maxHeartbeats 200000 in
theorem okR_move {k : Kp} (o : okK k) (hD : kD k = false) {z dx dy : Int} : okR (moveK k z dx dy) := by
  unfold moveK
  by_cases q1 : fdT (kL k) z < 0
  · rw [ifP_t q1]; exact okR_id o hD (by omega)
  rw [ifP_f q1]
  obtain ⟨W, V⟩ := o.1.1.2.2.2 _ (fd_lt q1).1
  by_cases q2 : inPl (tS (kL k) (fdT (kL k) z).toNat) dx dy
  · rw [ifP_f (fun y => y q2)]
    by_cases q3 : room k 16
    · rw [ifP_f (fun y => y q3)]; exact okR_st o hD (okTb_rep o.1.1 ⟨WF_mv W q2, Val_mv V dx dy⟩) q3
    · rw [ifP_t q3]; exact okR_id o hD (by omega)
  · rw [ifP_t q2]; exact okR_id o hD (by omega)
set_option maxHeartbeats 200000 in
theorem okR_fill {k : Kp} (o : okK k) (hD : kD k = false) {kn : Nat} (hk : kn < 3) {z kk x y w : Int} (hx : b30 x) (hy : b30 y) {s : Int32} : okR (fillK k z kk kn x y w s) := by
  unfold fillK
  by_cases q1 : fOk z kk x y w
  · rw [ifP_f (fun y => y q1)]
    by_cases q2 : ∃ i, i < kk.toNat ∧ 0 ≤ fdT (kL k) (z + (i : Nat))
    · rw [ifP_t q2]; exact okR_id o hD (by omega)
    rw [ifP_f q2]
    by_cases q3 : 200 < tC (kL k) + kk.toNat ∨ ¬ room k 32
    · rw [ifP_t q3]; exact okR_id o hD (by omega)
    · rw [ifP_f q3]
      unfold fOk at q1
      have ew : ((w.toNat : Nat) : Int) = w := Int.toNat_of_nonneg (by omega)
      refine okR_st o hD (FlI_e hk hx hy (w := w.toNat) (by omega) (by rw [ew]; omega) (by rw [ew]; omega) kk.toNat 0 (kL k) s ?_ (by omega) (by omega)) (Classical.byContradiction (fun y => q3 (Or.inr y)))
      refine ⟨o.1.1, Classical.byContradiction (fun y => q3 (Or.inl (by omega))), fun j x hj _ hx e => q2 ⟨x, by omega, ?_⟩⟩
      rcases fdT_v (kL k) (z + (x : Nat)) with ⟨_, b⟩ | ⟨i, a, _⟩
      · exact (b j hj e).elim
      · omega
  · rw [ifP_t q1]; exact okR_id o hD (by omega)

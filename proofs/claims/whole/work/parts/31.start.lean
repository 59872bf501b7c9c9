/-! FROM THE LAW'S ENTRY: the tables, the texts, the script; the walk of the law gives whole_start -/
def xSf (q : String × Nat × String) : Term := .field (.string q.1 q.2.1) "java/lang/String" "value" "[B"
def xSc (j : Nat) (q : String × Nat × String) : List Cond := [.exactly (.string q.1 q.2.1) "java/lang/String", .eq (.field (.string q.1 q.2.1) "java/lang/String" "coder" "B") (.int 0), .arrayOf (xSf q) .byte, .eq (.length (xSf q)) (.int (Int32.ofNat (xTb j).length))] ++ (List.range (xTb j).length).map (fun i => .eq (.elem (xSf q) (.int (Int32.ofNat i))) (.int ((xTb j).getD i 0)))
set_option maxRecDepth 1000000 in
theorem xSc_flat : (flatC narrow_1).drop 7 = (List.range 28).flatMap (fun j => xSc j (xTx.getD j ("", 0, ""))) := by decide +kernel
theorem xSr_in : (xTx.all fun q => decide (Cond.stringRef q.1 q.2.1 q.2.2 ∈ lw_tbl)) = true := by decide +kernel
theorem xTb_small : ((List.range 28).all fun j => decide ((xTb j).length < 100)) = true := by decide +kernel
theorem xTx_len : xTx.length = 28 := by decide
theorem xN_tab {w : Cond} (h : w ∈ xN) : w ∈ lw_tbl := (List.mem_filter.mp h).1
/-- where the texts and their bytes stand -/
def xgf (b t : Nat) (ad : Nat → Nat × Nat) (j : Nat) : Nat := if j = 99 then b else if j = 98 then t else if j < 200 then (ad j).1 else (ad (j - 200)).2
theorem xgf_1 {b t : Nat} {ad : Nat → Nat × Nat} {j : Nat} (h : j < 28) : xgf b t ad j = (ad j).1 := by
  rw [xgf, if_neg (by omega), if_neg (by omega), if_pos (by omega)]
theorem xgf_2 {b t : Nat} {ad : Nat → Nat × Nat} {j : Nat} : xgf b t ad (200 + j) = (ad j).2 := by
  rw [xgf, if_neg (by omega), if_neg (by omega), if_neg (by omega), Nat.add_sub_cancel_left]
/-- what holds at the law's entry gives what is known of the tables -/
theorem start_Kn {p : Program} {s : State} {m : MethodId} {meth : Method} {c : Code} (l : Launch) {b L : Nat} {xs : Nat → Int32} (C0 : lw_At p s m meth c b L xs) : ∃ G : xG, gL G = l ∧ gH G = s.heap ∧ gN G = L ∧ gX G 99 = b ∧ xKn G s := by
  obtain ⟨hx, hb, hr, hml, hown, hts, hX, hbl, hlocks, hgv⟩ := C0
  have hflat := flat_of_before _ hgv
  have hnar : ∀ w ∈ flatC narrow_1, w.before #[Value.ref b] s = true := fun w hw => hflat w (by simp only [flatC, List.mem_append]; exact Or.inr hw)
  have hA : ∀ a : Nat, a < s.heap.size → ¬ (fun q : Nat => s.heap.size ≤ q) a := fun a ha => Nat.not_le.mpr ha
  -- classes
  have hcl : ∀ (k : Nat) (q : vw_C), vwCl[k]? = some q → ∃ (d : ClassId) (i : Nat → Nat), u_Kn s q.1 q.2.1 q.2.2 d i := by
    intro k q hq
    have all : ∀ q ∈ vwCl, (∀ w ∈ u_ws q.1 q.2.1 q.2.2, w ∈ lw_tbl) ∧ Cond.instantiable q.1 q.2.2 ∈ lw_tbl := by
      have e : vwCl.all (fun q => (u_ws q.1 q.2.1 q.2.2).all (fun w => decide (w ∈ lw_tbl)) && decide (Cond.instantiable q.1 q.2.2 ∈ lw_tbl)) = true := by decide +kernel
      intro q hq
      have e1 := List.all_eq_true.mp e q hq
      simp only [Bool.and_eq_true, decide_eq_true_eq] at e1
      refine ⟨fun w hw => ?_, e1.2⟩
      have e2 := List.all_eq_true.mp e1.1 w hw
      simpa using e2
    obtain ⟨a1, a2⟩ := all q (List.mem_of_getElem? hq)
    exact u_known hts a1 (hts _ a2)
  have hcl2 : ∀ k : Nat, ∃ z : ClassId × (Nat → Nat), ∀ q : vw_C, vwCl[k]? = some q → u_Kn s q.1 q.2.1 q.2.2 z.1 z.2 := by
    intro k
    cases hq : vwCl[k]? with
    | none => exact ⟨(0, fun _ => 0), fun q h => by cases h⟩
    | some q =>
      obtain ⟨d, i, h⟩ := hcl k q hq
      exact ⟨(d, i), fun q' h' => by cases h'; exact h⟩
  obtain ⟨dd, hdd⟩ := Classical.axiomOfChoice hcl2
  -- arrays
  have har : ∀ t : Nat, ∃ cA : ClassId, t < 8 → ArrOfT s cA (xty t) ∧ va_RA s cA (xty t) := by
    intro t
    by_cases ht : t < 4
    · have hw : Cond.arrayClass (xty t) ∈ lw_tbl := by
        rcases (show t = 0 ∨ t = 1 ∨ t = 2 ∨ t = 3 by omega) with rfl | rfl | rfl | rfl <;> decide +kernel
      obtain ⟨cA, k, comp, g1, g2, g3⟩ := Cond.arrayClass_spec (hts _ hw)
      refine ⟨cA, fun _ => ⟨fun n z => ⟨fun k h => (by cases h), k, g2, comp, g3⟩, ?_⟩⟩
      rcases (show t = 0 ∨ t = 1 ∨ t = 2 ∨ t = 3 by omega) with rfl | rfl | rfl | rfl <;> exact g1
    · by_cases ht8 : t < 8
      · have hw : Cond.arrayOver (xty t) ∈ lw_tbl := by
          rcases (show t = 4 ∨ t = 5 ∨ t = 6 ∨ t = 7 by omega) with rfl | rfl | rfl | rfl <;> decide +kernel
        obtain ⟨C, hC⟩ : ∃ C, xty t = .object C := by
          rcases (show t = 4 ∨ t = 5 ∨ t = 6 ∨ t = 7 by omega) with rfl | rfl | rfl | rfl <;> exact ⟨_, rfl⟩
        rw [hC] at hw ⊢
        obtain ⟨comp, cA, k, g1, g2, g3, g4, g5⟩ := Cond.arrayOver_spec (hts _ hw)
        exact ⟨cA, fun _ => ⟨fun n z => ⟨fun k h => (by cases h), k, g3, comp, g4⟩, k, comp, g3, g4, g1, g5⟩⟩
      · exact ⟨0, fun h => absurd h ht8⟩
  obtain ⟨cA, hcA⟩ := Classical.axiomOfChoice har
  -- texts
  have htx : ∀ j : Nat, ∃ z : Nat × Nat, ∀ q, xTx[j]? = some q → vk_R q.1 q.2.1 q.2.2 z.1 s ∧ va_O "java/lang/String" z.1 (fun q : Nat => s.heap.size ≤ q) s s.heap ∧ va_OF "java/lang/String" "coder" "B" (.int 0) z.1 (fun q : Nat => s.heap.size ≤ q) s s.heap ∧ va_OF "java/lang/String" "value" "[B" (.ref z.2) z.1 (fun q : Nat => s.heap.size ≤ q) s s.heap ∧ va_T .byte z.2 (xTb j).length (fun i => .int ((xTb j).getD i 0)) (fun q : Nat => s.heap.size ≤ q) s s.heap := by
    intro j
    cases hq : xTx[j]? with
    | none => exact ⟨(0, 0), fun q h => by cases h⟩
    | some q =>
      have hj : j < 28 := by have := (List.getElem?_eq_some_iff.mp hq).1; rw [xTx_len] at this; exact this
      have e9 : (xTb j).length < 100 := by simpa using List.all_eq_true.mp xTb_small j (List.mem_range.mpr hj)
      have e8 : Cond.stringRef q.1 q.2.1 q.2.2 ∈ lw_tbl := by simpa using List.all_eq_true.mp xSr_in q (List.mem_of_getElem? hq)
      have hqd : xTx.getD j ("", 0, "") = q := by rw [List.getD_eq_getElem?_getD, hq]; rfl
      have e2 : ∀ w ∈ xSc j q, w.before #[Value.ref b] s = true := fun w hw => hnar w (List.mem_of_mem_drop (i := 7) (by rw [xSc_flat]; exact List.mem_flatMap.mpr ⟨j, List.mem_range.mpr hj, by rw [hqd]; exact hw⟩))
      have hex := e2 (.exactly (.string q.1 q.2.1) "java/lang/String") (by simp [xSc])
      have hco := e2 (.eq (.field (.string q.1 q.2.1) "java/lang/String" "coder" "B") (.int 0)) (by simp [xSc])
      have harr := e2 (.arrayOf (xSf q) .byte) (by simp [xSc])
      have hle := e2 (.eq (.length (xSf q)) (.int (Int32.ofNat (xTb j).length))) (by simp [xSc])
      have hel : ∀ i : Nat, i < (xTb j).length → (Cond.eq (.elem (xSf q) (.int (Int32.ofNat i))) (.int ((xTb j).getD i 0))).before #[Value.ref b] s = true := fun i hi => e2 _ (List.mem_append_right _ (List.mem_map.mpr ⟨i, List.mem_range.mpr hi, rfl⟩))
      obtain ⟨a, c, cC, kA, q1, q2, q3, q4, q5, q6, -⟩ := Cond.exactly_spec (args := #[Value.ref b]) (first := s) (o := none) (s := s) (idx := []) (t := .string q.1 q.2.1) (cls := "java/lang/String") hex
      obtain ⟨t, ht, hT⟩ := va_Tof (f := fun i => .int ((xTb j).getD i 0)) (A := fun q : Nat => s.heap.size ≤ q) (Nat.lt_trans e9 (by decide)) harr (va_eqt hle) (fun i hi => va_eqt (hel i hi)) hA
      refine ⟨(a, t), fun q' h' => ?_⟩
      cases h'
      exact ⟨vk_R.of (hts _ e8) q1, ⟨cC, q3, q5, by rw [q6]; exact q2, hA a (Array.getElem?_eq_some_iff.mp q3).1⟩, vk_OFof q1 (va_eqt hco) hA, vk_OFof q1 ht hA, hT⟩
  obtain ⟨ad, had⟩ := Classical.axiomOfChoice htx
  obtain ⟨t98, h98⟩ : ∃ t : Nat, va_Z "jdk/internal/util/Preconditions" "SIOOBE_FORMATTER" "Ljava/util/function/BiFunction;" .null (fun q : Nat => s.heap.size ≤ q) s s.heap ∨ va_Z "jdk/internal/util/Preconditions" "SIOOBE_FORMATTER" "Ljava/util/function/BiFunction;" (.ref t) (fun q : Nat => s.heap.size ≤ q) s s.heap := by
    rcases va_Zqof (A := fun q : Nat => s.heap.size ≤ q) (hts (.laysStatic "jdk/internal/util/Preconditions" "SIOOBE_FORMATTER" "Ljava/util/function/BiFunction;") (by decide +kernel)) (hts (.initialized "jdk/internal/util/Preconditions") (by decide +kernel)) (hnar (.isRef (.static "jdk/internal/util/Preconditions" "SIOOBE_FORMATTER" "Ljava/util/function/BiFunction;")) (by decide +kernel)) hA with h | ⟨t, h⟩
    · exact ⟨0, Or.inl h⟩
    · exact ⟨t, Or.inr h⟩
  refine ⟨(l, (fun k => (dd k).1, fun k => (dd k).2), cA, (xgf b t98 ad, fun j => (ad j).2), s.heap, (L, xs)), rfl, rfl, rfl, rfl, ⟨fun k q hq => hdd k q hq, fun k q hq => ?_⟩, fun w hw => ?_, fun t h4 h8 C hC => ?_, ⟨fun j q hq => ?_, ?_, h98⟩, hX⟩
  · have hk : k < 8 := (List.getElem?_eq_some_iff.mp hq).1
    rw [xtys_at _ hk] at hq
    cases hq
    exact hcA k hk
  · have hn := (List.mem_filter.mp hw).2
    have h := hts w (xN_tab hw)
    cases w <;> first | (simp [xIsN] at hn; done) | exact va_Nw.of rfl h
  · have hw : Cond.arrayOver (xty t) ∈ lw_tbl := by
      rcases (show t = 4 ∨ t = 5 ∨ t = 6 ∨ t = 7 by omega) with rfl | rfl | rfl | rfl <;> decide +kernel
    rw [hC] at hw
    exact va_AO.of (hts _ hw)
  · have hj : j < 28 := by have := (List.getElem?_eq_some_iff.mp hq).1; rw [xTx_len] at this; exact this
    have := had j q hq
    show vk_R q.1 q.2.1 q.2.2 (xgf b t98 ad j) s ∧ va_O "java/lang/String" (xgf b t98 ad j) _ s s.heap ∧ va_OF "java/lang/String" "coder" "B" (.int 0) (xgf b t98 ad j) _ s s.heap ∧ va_OF "java/lang/String" "value" "[B" (.ref (xgf b t98 ad (200 + j))) (xgf b t98 ad j) _ s s.heap ∧ va_T .byte (xgf b t98 ad (200 + j)) _ _ _ s s.heap
    rw [xgf_1 hj, xgf_2]
    exact this
  · exact va_Zof (hts (.laysStatic "java/lang/String" "COMPACT_STRINGS" "Z") (by decide +kernel)) (hts (.initialized "java/lang/String") (by decide +kernel)) (va_eqi (hnar (.eq (.static "java/lang/String" "COMPACT_STRINGS" "Z") (.int 1)) (by decide +kernel))) hA
theorem start_W {p : Program} {e : Env} {s : State} {m : MethodId} {below : List Frame} {meth : Method} {c : Code} (l : Launch) {b L : Nat} {xs : Nat → Int32} (C0 : lw_At p s m meth c b L xs) (hGo : ∀ G : xG, gN G = L → Go G mL_law 0 [some (.retAddr 99), none, none, none] [] ((0, 0), fun _ => none) (fun v h' => v = some (.int 1) ∧ Bd h')) : W p l e room_1 s m #[Value.ref b] below meth c s.heap [] 0 0 (lw_Z below #[Value.ref b] s) (entryFrame m ([Value.ref b] : List Value).toArray 4) := by
  obtain ⟨G, gl, gh, gn, gx, hK⟩ := start_Kn l C0
  obtain ⟨hx, hb, hr, hml, hown, hts, hX, hbl, hlocks, hgv⟩ := C0
  obtain ⟨v, h', ⟨hv, hB⟩, hE⟩ := hGo G gn
  subst hv
  have hl := lv_entry ([.ref b]) (n := 4) (Nat.le_of_ble_eq_true rfl)
  rw [lg_entry_eq]
  generalize (lg_sl ([.ref b]) ++ List.replicate (4 - (lg_sl ([.ref b])).length) Slot.unset).toArray = ls at hl ⊢
  have hL : xLs G mL_law [some (.retAddr 99), none, none, none] ls := ⟨hl.1, hl.2.1, fun q hq => by
    simp only [xps, List.mem_cons, List.not_mem_nil, or_false] at hq
    subst hq
    exact hl.2.2 (0, .ref b) (by simp [lv_args]) |>.trans (by rw [xv, gx])⟩
  have hsz : gB G = s.heap.size := by show (gH G).size = _; rw [gh]
  have hH : xHp G ((0, 0), fun _ => none) s.heap := ⟨by rw [hsz]; rfl, fun a c h => by cases h⟩
  have hS : xS G s.heap [] := ⟨by rw [gh]; exact Nat.le_refl _, fun q _ _ => by rw [gh], fun q hq => by cases hq⟩
  have hw := hE.2 p e room_1 s m #[Value.ref b] below meth c s.heap [] 0 0 h'.1.1 h'.1.2 (lw_Z below #[Value.ref b] s) ls ⟨hx, hb, hml, hown, fun w hw => hts w (List.mem_filter.mp hw).1, fun h9 => absurd h9 (by decide), hK, by decide, by decide⟩ hH hS hL (by simp) (by simp) hB.1 hB.2 (fun i pc ls' H locs d hi hH' hS' => by
    cases i <;> try exact hi.elim
    case ireturn =>
      refine va_forget (fun q hq => by rw [← hsz]; exact hS'.2.2 q hq) ?_
      refine W.widen (k := 600000) (n := 7302250) hB.1 hB.2 ?_
      rw [gl]
      exact lw_ret hx hb hr hlocks d
    case lreturn => obtain ⟨x, ev⟩ := hi; cases ev
    case areturn => rcases hi with ev | ⟨a, ev⟩ <;> cases ev
    case return_ => cases hi)
  rw [gl] at hw
  exact hw

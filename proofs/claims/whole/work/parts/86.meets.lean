/-! whether two shapes have a common point -/
def mtR (c d : Ct) : Prop := 0 ≤ loc d (cV c 0) ∨ 0 ≤ loc c (cV d 0) ∨ cmW c d
set_option maxHeartbeats 200000 in
theorem mtR_sym {c d : Ct} (h : mtR c d) : mtR d c := by
  rcases h with h | h | h
  · exact Or.inr (Or.inl h)
  · exact Or.inl h
  · exact Or.inr (Or.inr (cmW_sym h))
set_option maxHeartbeats 200000 in
theorem Good_of {c : Ct} (F : WF c) (h : Val c) (hk : cK c = 2) : Good c ∧ One c := by
  rcases h with h | h | h
  · omega
  · omega
  · exact ⟨⟨F, hk, h.2.1, RP_val h.2.1 h.2.2.1⟩, h.2.2.2⟩
set_option maxHeartbeats 200000 in
theorem Line_of {c : Ct} (h : Val c) (hk : cK c = 1) : 2 ≤ cN c ∧ ∀ i, i + 1 < cN c → cV c i ≠ cV c (i + 1) := by
  rcases h with h | h | h
  · omega
  · exact h.2
  · omega
set_option maxHeartbeats 200000 in
theorem way_ne {c : Ct} (F : WF c) (h : Val c) {i : Nat} (hi : wy c i) : cV c i ≠ cV c (i + 1) := by
  have hK := F.k
  have h1 := hi.1
  by_cases k : cK c = 1
  · exact (Line_of h k).2 i hi.2.1
  · exact (Good_of F h (by omega)).1.gd.2 i (inTC.mpr hi)
set_option maxHeartbeats 200000 in
theorem way_0 {c : Ct} (F : WF c) (h : Val c) (hk : cK c ≠ 0) : wy c 0 := by
  have hK := F.k
  by_cases k : cK c = 1
  · exact (wy_line F k).mpr (by have := (Line_of h k).1; omega)
  · have G := (Good_of F h (by omega)).1
    have hR := F.r
    have hm := (G.2.2.1 0 (by omega)).1
    have s0 : sr c 0 = 0 := by unfold sr; rw [if_pos rfl]
    exact wy_ring' F hk (show 0 < cR c by omega) (by omega) (by omega)
set_option maxHeartbeats 200000 in
theorem lo_0 {c : Ct} (hk : cK c = 0) (p : V2) : 0 ≤ loc c p ↔ cV c 0 = p := by
  unfold loc
  rw [if_pos hk]
  by_cases z : cV c 0 = p
  · rw [ifP_t z]; exact ⟨fun _ => z, fun _ => by omega⟩
  · rw [ifP_f z]; exact ⟨fun h => by omega, fun h => (z h).elim⟩
set_option maxHeartbeats 200000 in
theorem lo_1 {c : Ct} (hk : cK c = 1) (p : V2) : 0 ≤ loc c p ↔ onA c p := by
  unfold loc
  rw [if_neg (by omega), if_pos hk]
  by_cases z : onA c p
  · rw [ifP_t z]
    refine ⟨fun _ => z, fun _ => ?_⟩
    by_cases y : tip c p
    · rw [ifP_t y]; omega
    · rw [ifP_f y]; omega
  · rw [ifP_f z]; exact ⟨fun h => by omega, fun h => (z h).elim⟩
set_option maxHeartbeats 200000 in
theorem lo_2 {c : Ct} (hk : cK c = 2) (p : V2) : 0 ≤ loc c p ↔ (onA c p ∨ oddP c p = true) := by
  unfold loc
  rw [if_neg (by omega), if_neg (by omega)]
  by_cases z : onA c p
  · rw [ifP_t z]; exact ⟨fun _ => Or.inl z, fun _ => by omega⟩
  · rw [ifP_f z]
    cases y : oddP c p with
    | true => exact ⟨fun _ => Or.inr rfl, fun _ => by decide⟩
    | false => exact ⟨fun h => absurd h (by decide), fun h => by rcases h with h | h; exact (z h).elim; cases h⟩
set_option maxHeartbeats 200000 in
theorem on_0 {c : Ct} (F : WF c) (h : Val c) (hk : cK c ≠ 0) : onA c (cV c 0) := ⟨0, way_0 F h hk, onS_l _ _⟩
set_option maxHeartbeats 200000 in
theorem loc_at {c : Ct} (F : WF c) (h : Val c) : 0 ≤ loc c (cV c 0) := by
  have hK := F.k
  rcases (show cK c = 0 ∨ cK c = 1 ∨ cK c = 2 by omega) with k | k | k
  · exact (lo_0 k _).mpr rfl
  · exact (lo_1 k _).mpr (on_0 F h (by omega))
  · exact (lo_2 k _).mpr (Or.inl (on_0 F h (by omega)))
set_option maxHeartbeats 200000 in
theorem on_cm {c d : Ct} (F : WF c) (h : Val c) (hk : cK c ≠ 0) (ho : onA d (cV c 0)) : cmW c d := by
  obtain ⟨j, hj, on⟩ := ho
  exact ⟨0, j, way_0 F h hk, hj, cmn_sym (cmn_on on)⟩
set_option maxHeartbeats 200000 in
theorem mt_pt {c d : Ct} (G : WF d) (hd : Val d) (hk : cK c = 0) : mtR c d ↔ 0 ≤ loc d (cV c 0) := by
  refine ⟨fun h => ?_, fun h => Or.inl h⟩
  rcases h with h | h | h
  · exact h
  · rw [(lo_0 hk _).mp h]; exact loc_at G hd
  · obtain ⟨i, _, hi, _⟩ := h; exact (hi.1 hk).elim
set_option maxHeartbeats 200000 in
theorem mt_ln {c d : Ct} (F : WF c) (hc : Val c) (G : WF d) (hd : Val d) (hk : cK c = 1) (hl : cK d = 1) : mtR c d ↔ cmW c d := by
  refine ⟨fun h => ?_, fun h => Or.inr (Or.inr h)⟩
  rcases h with h | h | h
  · exact on_cm F hc (by omega) ((lo_1 hl _).mp h)
  · exact cmW_sym (on_cm G hd (by omega) ((lo_1 hk _).mp h))
  · exact h
/-! nothing in common: the place 0 tells for the whole row -/
set_option maxHeartbeats 200000 in
theorem no_in {c d : Ct} (F : WF c) (hc : Val c) (hk : cK c ≠ 0) (hd : Good d) (h : ¬ cmW c d) (ho : oddP d (cV c 0) = true) : InW (wy c) (cV c) (TC d) := by
  have w := way_0 F hc hk
  refine ⟨0, w, 0, 1, by omega, by omega, fun ⟨g, hg, _⟩ => no_HW h w (p := 0) (D := 1) (by omega) (by omega) (by omega) g hg, ?_⟩
  have := way_still hd.gd (way_ne F hc w) (fun p D a b e => no_HW h w a b e) 0 1 (by omega) (by omega) (by omega) _ (nz_sub (way_ne F hc w))
  unfold paT
  rw [this, ← oddP_pa, ho]
set_option maxHeartbeats 200000 in
theorem mt_lp {c d : Ct} (F : WF c) (hc : Val c) (hd : Good d) (hk : cK c = 1) : mtR c d ↔ (InW (wy c) (cV c) (TC d) ∨ cmW c d) := by
  by_cases q : cmW c d
  · exact ⟨fun _ => Or.inr q, fun _ => Or.inr (Or.inr q)⟩
  · constructor
    · rintro (h | h | h)
      · rcases (lo_2 hd.2.1 _).mp h with h | h
        · exact (q (on_cm F hc (by omega) h)).elim
        · exact Or.inl (no_in F hc (by omega) hd q h)
      · have o := (lo_1 hk _).mp h
        obtain ⟨j, hj, on⟩ := o
        have hR := hd.1.r
        have hm := (hd.2.2.1 0 (by omega)).1
        have s0 : sr d 0 = 0 := by unfold sr; rw [if_pos rfl]
        exact (q ⟨j, 0, hj, wy_ring' hd.1 hd.k (show 0 < cR d by omega) (by omega) (by omega), cmn_on on⟩).elim
      · exact (q h).elim
    · rintro (h | h)
      · left
        rw [lo_2 hd.2.1]
        right
        obtain ⟨i, hi, p, D, hp, hD, _, h2⟩ := h
        have hN := F.n
        have := row_still (V := cV c) (lo := 0) (m := cN c - 1) hd.gd (fun e _ he => (Line_of hc hk).2 e (by omega)) (fun e _ he p D a b x => no_HW q ((wy_line F hk).mpr (by omega)) a b x) i (by omega) (by have := hi.2.1; omega) p D hp (by omega) (by omega) _ (nz_sub (way_ne F hc hi))
        unfold paT at h2
        rw [h2] at this
        rw [oddP_pa, ← this]
      · exact Or.inr (Or.inr h)
set_option maxHeartbeats 200000 in
theorem mt_pp {c d : Ct} (hc : Good c) (vc : Val c) (hd : Good d) (vd : Val d) : mtR c d ↔ (InW (wy c) (cV c) (TC d) ∨ cmW c d ∨ 0 ≤ loc c (cV d 0)) := by
  by_cases q : cmW c d
  · exact ⟨fun _ => Or.inr (Or.inl q), fun _ => Or.inr (Or.inr q)⟩
  · constructor
    · rintro (h | h | h)
      · rcases (lo_2 hd.2.1 _).mp h with h | h
        · exact (q (on_cm hc.1 vc hc.k h)).elim
        · exact Or.inl (no_in hc.1 vc hc.k hd q h)
      · exact Or.inr (Or.inr h)
      · exact (q h).elim
    · rintro (h | h | h)
      · by_cases l : 0 ≤ loc c (cV d 0)
        · exact Or.inr (Or.inl l)
        · left
          rw [lo_2 hd.2.1]
          right
          rw [lo_2 hc.2.1] at l
          have k2 : pa (TC c) 1 (cV d 0) ex0 = false := by
            cases z : oddP c (cV d 0) with
            | true => exact (l (Or.inr z)).elim
            | false => rw [← oddP_pa, z]
          cases k1 : oddP d (cV c 0) with
          | true => rfl
          | false =>
            obtain ⟨i, hi, p, D, hp, hD, _, h2⟩ := h
            obtain ⟨r, hr, r1, r2⟩ := wy_r hc.1 hi
            have z := nest hc hd q (by rw [← oddP_pa, k1]) k2 hr
            have hS := hc.2.2.1 r hr
            have := row_still (V := cV c) hd.gd (fun e a b => ND_r hS ⟨a, b⟩) (fun e a b p D x y w => no_HW q (wy_ring' hc.1 hc.k hr a b) x y w) i r1 r2 p D hp (by omega) (by omega) _ (nz_sub (way_ne hc.1 vc hi))
            unfold paT at h2
            rw [h2, z] at this
            cases this
      · exact Or.inr (Or.inr h)
      · exact Or.inr (Or.inl h)

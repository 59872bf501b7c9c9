/-! GEOMETRY: a polygon whose rings and touching points make no circle is one piece -/
noncomputable def bt (c d : Ct) (D : Int) (X g : V2) : Bool := dB (nz g) && (pa (TC d) D X g ^^ (!pa (TC c) D X g && al (TC d) D X g))
set_option maxHeartbeats 200000 in
theorem bt_z {c d : Ct} {D : Int} {X a : V2} (h : zro a) : bt c d D X a = false := by unfold bt; rw [dB_f (fun z => z h)]; rfl
set_option maxHeartbeats 200000 in
theorem bt_dir {c d : Ct} (hc : GD (TC c)) (hd : GD (TC d)) {D : Int} (hD : 0 < D) {X g h : V2} (k : dir g h) : bt c d D X g = bt c d D X h := by
  unfold bt
  rw [dB_t (dir_nz k).1, dB_t (dir_nz k).2, pa_dir hd hD k, pa_dir hc hD k, al_dir k]
set_option maxHeartbeats 200000 in
theorem hs_and (T : Sy) (D : Int) (X : V2) (k : Bool) (φ : V2 → Bool) : hs T D X (fun a => k && φ a) = (k && hs T D X φ) := by
  cases k with
  | false => exact XS_none (fun e _ => by simp)
  | true => rfl
/-- what both sides of the talk must keep -/
def Good (c : Ct) : Prop := WF c ∧ cK c = 2 ∧ (∀ r, r < cR c → SmR c r) ∧ RPd c
set_option maxHeartbeats 200000 in
theorem Good.gd {c : Ct} (h : Good c) : GD (TC c) := GD_TC h.1 (by have := h.2.1; omega) h.2.2.1
set_option maxHeartbeats 200000 in
theorem Good.k {c : Ct} (h : Good c) : cK c ≠ 0 := by have := h.2.1; omega
set_option maxHeartbeats 200000 in
theorem Good.LP {c : Ct} (h : Good c) : LPd c := LP_val h.1 h.k h.2.2.1 h.2.2.2
/-! at each point the sides pair off -/
set_option maxHeartbeats 200000 in
theorem bt_pair {c d : Ct} (hc : Good c) (hd : Good d) (hni : ¬ InW (wy d) (cV d) (TC c)) {D : Int} (hD : 0 < D) (X : V2) : hs (TC c) D X (bt c d D X) = false := by
  have Gc := hc.gd
  have Gd := hd.gd
  -- the stretches
  have e2 : hs (TC c) D X (fun a => dB (nz a) && (pa (TC c) D X a && al (TC d) D X a)) = hs (TC d) D X (paD (TC c) D X) := by
    have s1 : hs (TC c) D X (fun a => dB (nz a) && (pa (TC c) D X a && al (TC d) D X a)) = hs (TC c) D X (fun a => hs (TC d) D X (fun b => (dB (nz a) && pa (TC c) D X a) && dB (dir a b))) := by
      refine hs_congr (fun a z => ?_) (fun a ha => ?_)
      · rw [dB_f (fun y => y z)]
        symm
        exact XS_none (fun e _ => by simp)
      · rw [hs_and, Bool.and_assoc]; rfl
    rw [s1, hs_comm (TC c) (TC d) D X (fun a b => (dB (nz a) && pa (TC c) D X a) && dB (dir a b))]
    refine hs_congr (fun b z => ?_) (fun b hb => ?_)
    · rw [paD_z z]
      exact XS_none (fun e _ => by
        dsimp only
        rw [dB_f (dir_z z), dB_f (dir_z z)]; simp)
    · have s2 : hs (TC c) D X (fun a => (dB (nz a) && pa (TC c) D X a) && dB (dir a b)) = hs (TC c) D X (fun a => pa (TC c) D X b && dB (dir b a)) := by
        refine hs_congr (fun a z => ?_) (fun a ha => ?_)
        · rw [dB_f (fun y => y z), dB_f (dir_z z)]; simp
        · rw [dB_t ha.1, Bool.true_and]
          by_cases k : dir a b
          · rw [dB_t k, dB_t (dir_sym k), pa_dir Gc hD k]
          · rw [dB_f k, dB_f (fun y => k (dir_sym y)), Bool.and_false, Bool.and_false]
      rw [s2, hs_and]
      show (pa (TC c) D X b && al (TC c) D X b) = paD (TC c) D X b
      rw [al_cov hc.1 hc.k hc.2.2.1 hc.2.2.2 hD]
      unfold paD
      rw [dB_t hb.1, Bool.true_and]
      by_cases k : cov (TC c) D X b
      · rw [dB_t k, Bool.and_true]
      · rw [dB_f k, Bool.and_false, out_HW hc.1 Gc hd.1 hd.k hd.2.2.1 hni hD hb k]
  have i := inter Gc Gd hD X
  have e1 : hs (TC c) D X (bt c d D X) = (hs (TC c) D X (paD (TC d) D X) ^^ (dd (TC c) (TC d) D X ^^ hs (TC c) D X (fun a => dB (nz a) && (pa (TC c) D X a && al (TC d) D X a)))) := by
    unfold dd
    rw [← hs_xor, ← hs_xor]
    refine hs_congr (fun a z => ?_) (fun a ha => ?_)
    · have z3 : al (TC d) D X a = false := hs_none (fun b _ => dB_f (fun k => (dir_nz k).1 z)) (fun b _ => dB_f (fun k => (dir_nz k).1 z))
      rw [bt_z z, paD_z z, z3, dB_f (fun y => y z)]; rfl
    · unfold bt paD
      rw [dB_t ha.1]
      cases pa (TC d) D X a <;> cases pa (TC c) D X a <;> cases al (TC d) D X a <;> rfl
  rw [e1, e2, ← i]
  cases hs (TC c) D X (paD (TC d) D X) <;> cases hs (TC d) D X (paD (TC c) D X) <;> rfl
/-! the change at a point of one ring -/
noncomputable def dl (c d : Ct) (r : Nat) (D : Int) (X : V2) : Bool := hs (TG c r) D X (bt c d D X)
set_option maxHeartbeats 200000 in
theorem dl_sum {c d : Ct} (hc : Good c) (hd : Good d) (hni : ¬ InW (wy d) (cV d) (TC c)) {D : Int} (hD : 0 < D) (X : V2) : xs (fun r => dl c d r D X) 0 (cR c) = false := by
  rw [← bt_pair hc hd hni hD X]
  unfold dl hs
  exact (XS_TC hc.1 hc.k (fun e => dB (on0 (rl (TC c) D X e) (rl (TC c) D X (e + 1))) && (bt c d D X (rl (TC c) D X e) ^^ bt c d D X (rl (TC c) D X (e + 1))))).symm
set_option maxHeartbeats 200000 in
theorem bt_sc {c d : Ct} {N : Int} (hN : 0 < N) (D : Int) (X g : V2) (hc : GD (TC c)) (hd : GD (TC d)) (hD : 0 < D) : bt c d (N * D) (scV N X) (scV N g) = bt c d D X g := by
  by_cases z : zro g
  · have z' : zro (scV N g) := (zro_mul hN).mpr z
    rw [bt_z z, bt_z z']
  · have k : dir g (scV N g) := (dir_sc hN).mpr (dir_self z)
    rw [← bt_dir hc hd (Int.mul_pos hN hD) k]
    unfold bt
    rw [pa_sc _ hN, pa_sc _ hN, al_sc _ hN]
set_option maxHeartbeats 200000 in
theorem dl_sc {c d : Ct} {N : Int} (hN : 0 < N) (r : Nat) (D : Int) (X : V2) (hc : GD (TC c)) (hd : GD (TC d)) (hD : 0 < D) : dl c d r (N * D) (scV N X) = dl c d r D X := by
  unfold dl hs
  refine XS_congr (fun e _ => ?_)
  rw [rl_sc, rl_sc, bt_sc hN D X _ hc hd hD, bt_sc hN D X _ hc hd hD, dB_c (show on0 (scV N (rl (TG c r) D X e)) (scV N (rl (TG c r) D X (e + 1))) ↔ on0 (rl (TG c r) D X e) (rl (TG c r) D X (e + 1)) from on0_mul hN)]
set_option maxHeartbeats 200000 in
theorem dl_off {c d : Ct} {r : Nat} {D : Int} {X : V2} (h : ∀ g, ¬ HW (TG c r) D X g) : dl c d r D X = false := hs_none (fun a z => bt_z z) (fun g hg => (h g hg).elim)
set_option maxHeartbeats 200000 in
theorem dl_alone {c d : Ct} (hc : Good c) (hd : Good d) (hni : ¬ InW (wy d) (cV d) (TC c)) {D : Int} (hD : 0 < D) {X : V2} {r : Nat} (hr : r < cR c) (h : ∀ q, q < cR c → q ≠ r → ∀ g, ¬ HW (TG c q) D X g) : dl c d r D X = false := by
  rw [← dl_sum hc hd hni hD X, xs_one r (Nat.zero_le r) (by omega) (fun q _ hq hne => dl_off (h q (by omega) hne))]
/-! where two rings touch is a place of one of them -/
set_option maxHeartbeats 200000 in
theorem touch {c : Ct} (hc : Good c) {r q : Nat} (hr : r < cR c) (hq : q < cR c) (hne : r ≠ q) {D : Int} (hD : 0 < D) {X : V2} {e : Nat} (e1 : sr c r ≤ e) (e2 : e < sr c r + ml c r) (ho : on0 (rl (TG c r) D X e) (rl (TG c r) D X (e + 1))) (ha : nz (rl (TG c r) D X e)) (hb : nz (rl (TG c r) D X (e + 1))) {g : V2} (hg : HW (TG c q) D X g) : ∃ k, k < cN c ∧ zro (vw D X (cV c k)) := by
  obtain ⟨F, hk2, hS, hR⟩ := hc
  obtain ⟨_, f, hf, hof, _⟩ := hg
  obtain ⟨f1, f2⟩ := inTG.mp hf
  have hE := (F.e hq).2
  have hml : sr c q + ml c q < cN c := by have := sr_lt F hq; unfold ml; omega
  by_cases z1 : zro (rl (TG c q) D X f)
  · exact ⟨f, by omega, z1⟩
  · by_cases z2 : zro (rl (TG c q) D X (f + 1))
    · exact ⟨f + 1, by omega, z2⟩
    · exfalso
      have G := GD_TG (hS q hq)
      -- forth and back of the one, and of the other
      have h1 : HW (TG c r) D X (rl (TG c r) D X e) := ⟨ha, e, inTG.mpr ⟨e1, e2⟩, ho, Or.inl rfl⟩
      have h2 : HW (TG c r) D X (rl (TG c r) D X (e + 1)) := ⟨hb, e, inTG.mpr ⟨e1, e2⟩, ho, Or.inr rfl⟩
      have h3 : HW (TG c q) D X (rl (TG c q) D X f) := ⟨z1, f, hf, hof, Or.inl rfl⟩
      have h4 : HW (TG c q) D X (rl (TG c q) D X (f + 1)) := ⟨z2, f, hf, hof, Or.inr rfl⟩
      have na := (hR r q hr hq hne).1
      have p1 := (hR r q hr hq hne).2 D X _ hD h1
      have p2 := (hR r q hr hq hne).2 D X _ hD h2
      -- the one's half-ways are opposite
      have op : dir (ng (rl (TG c r) D X (e + 1))) (rl (TG c r) D X e) := by
        have k := on0_neg ho ha hb
        refine ⟨?_, ?_⟩
        · have : crs (ng (rl (TG c r) D X (e + 1))) (rl (TG c r) D X e) = crs (rl (TG c r) D X e) (rl (TG c r) D X (e + 1)) := by unfold crs ng; grind
          rw [this, ho.1]
        · have : dt (ng (rl (TG c r) D X (e + 1))) (rl (TG c r) D X e) = -dt (rl (TG c r) D X e) (rl (TG c r) D X (e + 1)) := by unfold dt ng; grind
          omega
      rw [← pa_dir G hD op] at p1
      generalize hs1 : rl (TG c r) D X (e + 1) = s at *
      rw [pa_wedge G hD X hb] at p2
      rw [pa_wedge G hD X (ng_nz hb)] at p1
      have sum : hs (TG c q) D X (fun a => Wd s a ^^ Wd (ng s) a) = false := by
        rw [hs_xor]
        rw [← p1] at p2
        revert p2
        cases rf (TG c q) D X <;> cases hs (TG c q) D X (Wd s) <;> cases hs (TG c q) D X (Wd (ng s)) <;> simp
      rw [hs_mid (hS q hq) f1 f2 hD hof z1 z2] at sum
      have nd1 : ∀ a, HW (TG c q) D X a → ¬ dir (ng s) a := fun a h' d' => na D X _ a hD h1 h' (dir_tr (dir_sym op) d')
      have nd2 : ∀ a, HW (TG c q) D X a → ¬ dir s a := fun a h' d' => na D X _ a hD h2 h' d'
      have w1 := W_left hb z1
      have w2 := W_left hb z2
      rw [dB_f (nd1 _ h3), Bool.xor_false] at w1
      rw [dB_f (nd1 _ h4), Bool.xor_false] at w2
      -- one is to the left just if the other is not
      have cr : ∀ a, HW (TG c q) D X a → crs s a ≠ 0 := by
        intro a h' z
        by_cases y : 0 < dt s a
        · exact nd2 a h' ⟨z, y⟩
        · refine nd1 a h' ⟨?_, ?_⟩
          · have : crs (ng s) a = -crs s a := by unfold crs ng; grind
            omega
          · have e3 : dt (ng s) a = -dt s a := by unfold dt ng; grind
            have ne : dt s a ≠ 0 := by
              intro t
              have ev := al_vec (a := a) (v := s) (by rw [crs_sw, z]; rfl)
              have cc' : dt a s = dt s a := by unfold dt; rw [Int.mul_comm a.1, Int.mul_comm a.2]
              rw [cc', t] at ev
              have g1 := congrArg Prod.fst ev
              have g2 := congrArg Prod.snd ev
              simp only [Int.zero_mul] at g1 g2
              have hN := dt_pos hb
              exact h'.1 ⟨by rcases Int.mul_eq_zero.mp g1 with u | u; omega; exact u, by rcases Int.mul_eq_zero.mp g2 with u | u; omega; exact u⟩
            omega
      have k2 := on0_neg hof z1 z2
      have ev := al_vec (a := rl (TG c q) D X (f + 1)) (v := rl (TG c q) D X f) (by rw [crs_sw, hof.1]; rfl)
      have cc' : dt (rl (TG c q) D X (f + 1)) (rl (TG c q) D X f) = dt (rl (TG c q) D X f) (rl (TG c q) D X (f + 1)) := by unfold dt; rw [Int.mul_comm (rl (TG c q) D X (f + 1)).1, Int.mul_comm (rl (TG c q) D X (f + 1)).2]
      rw [cc'] at ev
      have m := crs_l2 s (congrArg Prod.fst ev) (congrArg Prod.snd ev)
      have hN := dt_pos z1
      have c3 := cr _ h3
      have c4 := cr _ h4
      have opp' : decide (0 < crs s (rl (TG c q) D X f)) = !decide (0 < crs s (rl (TG c q) D X (f + 1))) := by
        by_cases y : 0 < crs s (rl (TG c q) D X f)
        · have := Int.mul_neg_of_neg_of_pos k2 y
          rw [← m] at this
          have : ¬ 0 < crs s (rl (TG c q) D X (f + 1)) := fun t => by have := Int.mul_pos hN t; omega
          rw [decide_eq_true y, decide_eq_false this]; rfl
        · have := Int.mul_pos_of_neg_of_neg k2 (show crs s (rl (TG c q) D X f) < 0 by omega)
          rw [← m] at this
          have : 0 < crs s (rl (TG c q) D X (f + 1)) := by
            by_cases t : 0 < crs s (rl (TG c q) D X (f + 1))
            · exact t
            · have := Int.mul_nonpos_of_nonneg_of_nonpos (show 0 ≤ dt (rl (TG c q) D X f) (rl (TG c q) D X f) by omega) (show crs s (rl (TG c q) D X (f + 1)) ≤ 0 by omega); omega
          rw [decide_eq_false y, decide_eq_true this]; rfl
      rw [opp'] at w1
      revert sum w1 w2
      cases Wd s (rl (TG c q) D X f) <;> cases Wd (ng s) (rl (TG c q) D X f) <;> cases Wd s (rl (TG c q) D X (f + 1)) <;> cases Wd (ng s) (rl (TG c q) D X (f + 1)) <;> cases decide (0 < crs s (rl (TG c q) D X (f + 1))) <;> cases Wd (ng s) s <;> simp
/-! the places of a shape, each once -/
noncomputable def uqL (c : Ct) : Nat → Nat → List V2
  | 0, _ => []
  | k + 1, i => ifP (∃ j, j < i ∧ cV c i = cV c j) (uqL c k (i + 1)) (cV c i :: uqL c k (i + 1))
set_option maxHeartbeats 200000 in
theorem uq_mem {c : Ct} : ∀ k i Z, Z ∈ uqL c k i ↔ ∃ t, i ≤ t ∧ t < i + k ∧ cV c t = Z ∧ ¬ ∃ j, j < t ∧ cV c t = cV c j := by
  intro k
  induction k with
  | zero => intro i Z; exact ⟨fun h => absurd h (by simp [uqL]), fun ⟨t, a, b, _⟩ => by omega⟩
  | succ k ih =>
    intro i Z
    rw [uqL]
    by_cases q : ∃ j, j < i ∧ cV c i = cV c j
    · rw [ifP_t q, ih]
      exact ⟨fun ⟨t, a, b, x⟩ => ⟨t, by omega, by omega, x⟩, fun ⟨t, a, b, x⟩ => ⟨t, by
        have : t ≠ i := fun z => x.2 (z ▸ q)
        omega, by omega, x⟩⟩
    · rw [ifP_f q, List.mem_cons, ih]
      constructor
      · rintro (h | ⟨t, a, b, x⟩)
        · exact ⟨i, Nat.le_refl i, by omega, h.symm, q⟩
        · exact ⟨t, by omega, by omega, x⟩
      · rintro ⟨t, a, b, x⟩
        by_cases y : t = i
        · subst y; exact Or.inl x.1.symm
        · exact Or.inr ⟨t, by omega, by omega, x⟩
set_option maxHeartbeats 200000 in
theorem uq_nd {c : Ct} : ∀ k i, (uqL c k i).Nodup := by
  intro k
  induction k with
  | zero => intro i; exact List.nodup_nil
  | succ k ih =>
    intro i
    rw [uqL]
    by_cases q : ∃ j, j < i ∧ cV c i = cV c j
    · rw [ifP_t q]; exact ih (i + 1)
    · rw [ifP_f q, List.nodup_cons]
      refine ⟨fun h => ?_, ih (i + 1)⟩
      obtain ⟨t, a, b, x1, x2⟩ := (uq_mem k (i + 1) _).mp h
      exact x2 ⟨i, by omega, x1⟩
set_option maxHeartbeats 200000 in
theorem uq_all {c : Ct} : ∀ t, t < cN c → cV c t ∈ uqL c (cN c) 0 := by
  intro t
  induction t using Nat.strongRecOn with
  | ind t ih =>
    intro ht
    by_cases q : ∃ j, j < t ∧ cV c t = cV c j
    · obtain ⟨j, j1, j2⟩ := q
      rw [j2]; exact ih j j1 (by omega)
    · exact (uq_mem _ _ _).mpr ⟨t, by omega, by omega, rfl, q⟩
/-! what is joined at one place -/
set_option maxHeartbeats 200000 in
theorem cir_ok {c : Ct} {Z : V2} {R : Nat} : ∀ (k r : Nat) (h : Nat → Nat) (j : Option Nat) (g : Nat → Nat), r + k = R → cir c Z k r h j = some g →
    (∀ w : Nat → Bool, (∀ m, xs (fun q => decide (h q = m) && w q) 0 R = false) → ∀ m, xs (fun q => decide (g q = m) && w q) 0 R = false) ∧
    (∀ q q', h q = h q' → g q = g q') ∧
    (j = none → ∀ q q', r ≤ q → q < R → r ≤ q' → q' < R → onR c q Z → onR c q' Z → g q = g q') ∧
    (∀ l, j = some l → ∀ q0, h q0 = l → ∀ q, r ≤ q → q < R → onR c q Z → g q = g q0) ∧
    (∀ q q', r ≤ q → q < q' → q' < R → onR c q Z → onR c q' Z → h q ≠ h q') ∧
    (∀ l, j = some l → ∀ q, r ≤ q → q < R → onR c q Z → h q ≠ l) := by
  intro k
  induction k with
  | zero =>
    intro r h j g hr hg
    rw [cir] at hg
    cases hg
    exact ⟨fun w hw => hw, fun q q' e => e, fun _ q q' a b => by omega, fun l _ q0 _ q a b => by omega, fun q q' a b c' => by omega, fun l _ q a b => by omega⟩
  | succ k ih =>
    intro r h j g hr hg
    -- the ring r is not on it: nothing changes
    have skip : ¬ onR c r Z → cir c Z k (r + 1) h j = some g → _ := fun hn hg' => ih (r + 1) h j g (by omega) hg'
    by_cases on : onR c r Z
    · cases j with
      | none =>
        rw [cir_n, ifP_t on] at hg
        obtain ⟨i1, i2, i3, i4, i5, i6⟩ := ih (r + 1) h (some (h r)) g (by omega) hg
        refine ⟨i1, i2, fun _ q q' a b a' b' o o' => ?_, fun l hl => (nomatch hl), fun q q' a b c' o o' => ?_, fun l hl => (nomatch hl)⟩
        · have key : ∀ q, r ≤ q → q < R → onR c q Z → g q = g r := by
            intro q a b o
            by_cases z : q = r
            · rw [z]
            · exact i4 (h r) rfl r rfl q (by omega) b o
          rw [key q a b o, key q' a' b' o']
        · by_cases z : q = r
          · subst z; exact fun e => i6 (h q) rfl q' (by omega) c' o' e.symm
          · exact i5 q q' (by omega) b c' o o'
      | some l =>
        rw [cir_s, ifP_t on] at hg
        by_cases e : h r = l
        · rw [if_pos e] at hg; cases hg
        · rw [if_neg e] at hg
          obtain ⟨i1, i2, i3, i4, i5, i6⟩ := ih (r + 1) (fun q => if h q = h r then l else h q) (some l) g (by omega) hg
          refine ⟨fun w hw => i1 w (fun m => ?_), fun q q' e' => i2 q q' (by rw [e']), fun hn => (nomatch hn), fun l' hl' q0 h0 q a b o => ?_, fun q q' a b c' o o' => ?_, fun l' hl' q a b o => ?_⟩
          · -- groups that are joined
            by_cases m1 : m = l
            · subst m1
              have : xs (fun q => decide ((if h q = h r then m else h q) = m) && w q) 0 R = (xs (fun q => decide (h q = m) && w q) 0 R ^^ xs (fun q => decide (h q = h r) && w q) 0 R) := by
                rw [← xs_xor]
                refine xs_congr (fun q _ _ => ?_)
                by_cases y : h q = h r
                · have n1 : ¬ h q = m := fun t => e (by rw [← y]; exact t)
                  rw [if_pos y, decide_eq_true rfl, decide_eq_false n1, decide_eq_true y]
                  cases w q <;> rfl
                · rw [if_neg y, decide_eq_false y]
                  cases decide (h q = m) <;> cases w q <;> rfl
              rw [this, hw m, hw (h r)]; rfl
            · by_cases m2 : m = h r
              · refine xs_none (fun q _ _ => ?_)
                have : ¬ (if h q = h r then l else h q) = m := by
                  split
                  · exact fun t => m1 t.symm
                  · rename_i y; exact fun t => y (by rw [t, m2])
                rw [decide_eq_false this, Bool.false_and]
              · rw [← hw m]
                refine xs_congr (fun q _ _ => ?_)
                by_cases y : h q = h r
                · rw [if_pos y, decide_eq_false (fun t : l = m => m1 t.symm), decide_eq_false (fun t : h q = m => m2 (by rw [← t, y]))]
                · rw [if_neg y]
          · cases hl'
            have hq0 : (fun q => if h q = h r then l else h q) q0 = l := by
              dsimp only
              split
              · rfl
              · exact h0
            by_cases z : q = r
            · subst z
              exact i2 q q0 (by rw [if_pos rfl]; exact hq0.symm)
            · exact i4 l rfl q0 hq0 q (by omega) b o
          · by_cases z : q = r
            · subst z
              intro t
              have := i6 l rfl q' (by omega) c' o'
              rw [if_pos t.symm] at this
              exact this rfl
            · have := i5 q q' (by omega) b c' o o'
              intro t
              rw [t] at this
              exact this rfl
          · cases hl'
            by_cases z : q = r
            · subst z; exact e
            · have := i6 l rfl q (by omega) b o
              intro t
              rw [t] at this
              split at this
              · exact this rfl
              · exact this rfl
    · have hg' : cir c Z k (r + 1) h j = some g := by
        cases j with
        | none => rw [cir_n, ifP_f on] at hg; exact hg
        | some l => rw [cir_s, ifP_f on] at hg; exact hg
      obtain ⟨i1, i2, i3, i4, i5, i6⟩ := ih (r + 1) h j g (by omega) hg'
      have ne : ∀ q, onR c q Z → q ≠ r := fun q o z => on (z ▸ o)
      exact ⟨i1, i2, fun hn q q' a b a' b' o o' => i3 hn q q' (by have := ne q o; omega) b (by have := ne q' o'; omega) b' o o', fun l hl q0 h0 q a b o => i4 l hl q0 h0 q (by have := ne q o; omega) b o, fun q q' a b c' o o' => i5 q q' (by have := ne q o; omega) b c' o o', fun l hl q a b o => i6 l hl q (by have := ne q o; omega) b o⟩
/-! numbers on rings and touching points that vanish round each are none, where there is no circle -/
set_option maxHeartbeats 200000 in
theorem one_zero {c : Ct} {δ : Nat → V2 → Bool} (hon : ∀ r Z, r < cR c → δ r Z = true → onR c r Z) (hb : ∀ Z, xs (fun r => δ r Z) 0 (cR c) = false) : ∀ k i g, onePc c k i g → (∀ m, xs (fun r => decide (g r = m) && xl (uqL c k i) (δ r)) 0 (cR c) = false) → ∀ Z, Z ∈ uqL c k i → ∀ r, r < cR c → δ r Z = false := by
  intro k
  induction k with
  | zero => intro i g _ _ Z hZ; exact absurd hZ (by simp [uqL])
  | succ k ih =>
    intro i g ho hs
    rw [onePc] at ho
    rw [uqL] at hs ⊢
    by_cases q : ∃ j, j < i ∧ cV c i = cV c j
    · rw [ifP_t q] at ho hs ⊢
      exact ih (i + 1) g ho hs
    · rw [ifP_f q] at ho hs ⊢
      cases hg : cir c (cV c i) (cR c) 0 g none with
      | none => rw [hg] at ho; exact ho.elim
      | some g' =>
        rw [hg] at ho
        obtain ⟨i1, i2, i3, i4, i5, i6⟩ := cir_ok (R := cR c) (cR c) 0 g none g' (by omega) hg
        have hs2 : ∀ m, xs (fun r => decide (g r = m) && (δ r (cV c i) ^^ xl (uqL c k (i + 1)) (δ r))) 0 (cR c) = false := hs
        have hs3 := i1 _ hs2
        -- what is left of the row
        have tail : ∀ m, xs (fun r => decide (g' r = m) && xl (uqL c k (i + 1)) (δ r)) 0 (cR c) = false := by
          intro m
          have e : xs (fun r => decide (g' r = m) && (δ r (cV c i) ^^ xl (uqL c k (i + 1)) (δ r))) 0 (cR c) = (xs (fun r => decide (g' r = m) && δ r (cV c i)) 0 (cR c) ^^ xs (fun r => decide (g' r = m) && xl (uqL c k (i + 1)) (δ r)) 0 (cR c)) := by
            rw [← xs_xor]
            refine xs_congr (fun r _ _ => ?_)
            cases decide (g' r = m) <;> cases δ r (cV c i) <;> cases xl (uqL c k (i + 1)) (δ r) <;> rfl
          have z : xs (fun r => decide (g' r = m) && δ r (cV c i)) 0 (cR c) = false := by
            by_cases y : ∃ r0, r0 < cR c ∧ onR c r0 (cV c i) ∧ g' r0 = m
            · obtain ⟨r0, y1, y2, y3⟩ := y
              rw [← hb (cV c i)]
              refine xs_congr (fun r _ hr => ?_)
              cases t : δ r (cV c i) with
              | false => rw [Bool.and_false]
              | true =>
                have o := hon r _ (by omega) t
                rw [decide_eq_true (show g' r = m by rw [← y3]; exact i3 rfl r r0 (by omega) (by omega) (by omega) y1 o y2)]; rfl
            · refine xs_none (fun r _ hr => ?_)
              cases t : δ r (cV c i) with
              | false => rw [Bool.and_false]
              | true => rw [decide_eq_false (fun u => y ⟨r, by omega, hon r _ (by omega) t, u⟩)]; rfl
          have := hs3 m
          rw [e, z, Bool.false_xor] at this
          exact this
        have IH := ih (i + 1) g' ho tail
        intro Z hZ r hr
        rcases List.mem_cons.mp hZ with rfl | hZ
        · -- the place itself
          cases t : δ r (cV c i) with
          | false => rfl
          | true =>
            have o := hon r _ hr t
            have := hs2 (g r)
            rw [xs_one r (Nat.zero_le r) (by omega) (fun q _ hq hne => ?_), decide_eq_true rfl, Bool.true_and, t, xl_none (fun W hW => IH W hW r hr)] at this
            · cases this
            · rw [xl_none (fun W hW => IH W hW q (by omega)), Bool.xor_false]
              cases u : δ q (cV c i) with
              | false => rw [Bool.and_false]
              | true =>
                have o' := hon q _ (by omega) u
                have : g q ≠ g r := by
                  rcases Nat.lt_or_ge q r with y | y
                  · exact i5 q r (by omega) y hr o' o
                  · exact fun w => i5 r q (by omega) (by omega) (by omega) o o' w.symm
                rw [decide_eq_false this]; rfl
        · exact IH Z hZ r hr

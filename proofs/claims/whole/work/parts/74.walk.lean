/-! GEOMETRY: the same point told otherwise; crossing sums; walking along a way -/
def scV (N : Int) (a : V2) : V2 := (N * a.1, N * a.2)
set_option maxHeartbeats 200000 in
theorem rl_sc (T : Sy) (N D : Int) (X : V2) (e : Nat) : rl T (N * D) (scV N X) e = scV N (rl T D X e) := by
  unfold rl rel scV; refine Prod.ext ?_ ?_ <;> simp only <;> grind
set_option maxHeartbeats 200000 in
theorem pa_sc (T : Sy) {N : Int} (hN : 0 < N) (D : Int) (X s : V2) : pa T (N * D) (scV N X) s = pa T D X s := by
  unfold pa
  refine XS_congr (fun e _ => ?_)
  rw [rl_sc, rl_sc]
  exact cc_sc hN
set_option maxHeartbeats 200000 in
theorem nz_scV {N : Int} (hN : 0 < N) {a : V2} : nz (scV N a) ↔ nz a := not_congr (zro_mul hN)
set_option maxHeartbeats 200000 in
theorem dir_sc {N : Int} (hN : 0 < N) {g a : V2} : dir g (scV N a) ↔ dir g a := by
  have e1 : crs g (scV N a) = N * crs g a := by unfold crs scV; grind
  have e2 : dt g (scV N a) = N * dt g a := by unfold dt scV; grind
  unfold dir
  rw [e1, e2, ← sg_zero, ← sg_zero, sg_mulp hN, ← sg_pos, ← sg_pos, sg_mulp hN]
set_option maxHeartbeats 200000 in
theorem cov_sc (T : Sy) {N : Int} (hN : 0 < N) (D : Int) (X s : V2) : cov T (N * D) (scV N X) s ↔ cov T D X s := by
  constructor
  · rintro ⟨g, ⟨h1, e, h2, h3, h4⟩, h5⟩
    rw [rl_sc, rl_sc] at h3 h4
    have h3' := (on0_mul hN).mp h3
    rcases h4 with h4 | h4
    · rw [h4] at h1 h5
      exact ⟨_, ⟨(nz_scV hN).mp h1, e, h2, h3', Or.inl rfl⟩, (dir_sc hN).mp h5⟩
    · rw [h4] at h1 h5
      exact ⟨_, ⟨(nz_scV hN).mp h1, e, h2, h3', Or.inr rfl⟩, (dir_sc hN).mp h5⟩
  · rintro ⟨g, ⟨h1, e, h2, h3, h4⟩, h5⟩
    refine ⟨scV N g, ⟨(nz_scV hN).mpr h1, e, h2, ?_, ?_⟩, (dir_sc hN).mpr h5⟩
    · rw [rl_sc, rl_sc]; exact (on0_mul hN).mpr h3
    · rw [rl_sc, rl_sc]
      rcases h4 with h4 | h4
      · exact Or.inl (by rw [h4])
      · exact Or.inr (by rw [h4])
set_option maxHeartbeats 200000 in
theorem al_sc (T : Sy) {N : Int} (hN : 0 < N) (D : Int) (X g : V2) : al T (N * D) (scV N X) g = al T D X g := by
  unfold al hs
  refine XS_congr (fun e _ => ?_)
  rw [rl_sc, rl_sc]
  dsimp only
  rw [dB_c (dir_sc hN), dB_c (dir_sc hN), dB_c (show on0 (scV N (rl T D X e)) (scV N (rl T D X (e + 1))) ↔ on0 (rl T D X e) (rl T D X (e + 1)) from on0_mul hN)]
/-! a point of a way as a part of it -/
set_option maxHeartbeats 200000 in
theorem par_of {P Q : V2} (hPQ : P ≠ Q) {D : Int} (hD : 0 < D) {X : V2} (ho : on0 (vw D X P) (vw D X Q)) : ∃ N p, 0 < N ∧ 0 ≤ p ∧ p ≤ N * D ∧ scV N X = pX P Q p (N * D) ∧ (nz (vw D X Q) → p < N * D) ∧ (nz (vw D X P) → 0 < p) := by
  have hs := nz_sub hPQ
  have hN := dt_pos hs
  have eb : vw D X Q = ((vw D X P).1 + D * (sub2 Q P).1, (vw D X P).2 + D * (sub2 Q P).2) := by unfold vw sub2; refine Prod.ext ?_ ?_ <;> simp only <;> grind
  have ca : crs (vw D X P) (sub2 Q P) = 0 := by
    have : D * crs (vw D X P) (sub2 Q P) = crs (vw D X P) (vw D X Q) := by rw [eb]; unfold crs; grind
    rw [ho.1] at this
    rcases Int.mul_eq_zero.mp this with z | z
    · omega
    · exact z
  have vv := al_vec ca
  have t1 : D * dt (vw D X P) (sub2 Q P) = dt (vw D X P) (vw D X Q) - dt (vw D X P) (vw D X P) := by rw [eb]; unfold dt; grind
  have t2 : D * (dt (sub2 Q P) (sub2 Q P) * D + dt (vw D X P) (sub2 Q P)) = dt (vw D X Q) (vw D X Q) - dt (vw D X P) (vw D X Q) := by
    have k : ∀ a v : V2, D * (dt v v * D + dt a v) = dt (a.1 + D * v.1, a.2 + D * v.2) (a.1 + D * v.1, a.2 + D * v.2) - dt a (a.1 + D * v.1, a.2 + D * v.2) := by intro a v; unfold dt; grind
    rw [eb]; exact k _ _
  have n1 : 0 ≤ dt (vw D X P) (vw D X P) := by unfold dt; have := sq_nn (vw D X P).1; have := sq_nn (vw D X P).2; omega
  have n2 : 0 ≤ dt (vw D X Q) (vw D X Q) := by unfold dt; have := sq_nn (vw D X Q).1; have := sq_nn (vw D X Q).2; omega
  have h2 := ho.2
  refine ⟨dt (sub2 Q P) (sub2 Q P), -dt (vw D X P) (sub2 Q P), hN, ?_, ?_, ?_, fun hb => ?_, fun ha => ?_⟩
  · by_cases z : dt (vw D X P) (sub2 Q P) ≤ 0
    · omega
    · have := Int.mul_pos hD (show 0 < dt (vw D X P) (sub2 Q P) by omega); omega
  · by_cases z : 0 ≤ dt (sub2 Q P) (sub2 Q P) * D + dt (vw D X P) (sub2 Q P)
    · omega
    · have := Int.mul_neg_of_pos_of_neg hD (show dt (sub2 Q P) (sub2 Q P) * D + dt (vw D X P) (sub2 Q P) < 0 by omega); omega
  · have q1 := congrArg Prod.fst vv
    have q2 := congrArg Prod.snd vv
    simp only at q1 q2
    have a1 : (vw D X P).1 = D * P.1 - X.1 := rfl
    have a2 : (vw D X P).2 = D * P.2 - X.2 := rfl
    unfold scV pX at2
    generalize dt (sub2 Q P) (sub2 Q P) = N at *
    generalize dt (vw D X P) (sub2 Q P) = M at *
    rw [a1] at q1
    rw [a2] at q2
    clear a1 a2 t1 t2 n1 n2 h2 eb ca vv ho
    refine Prod.ext ?_ ?_
    · show N * X.1 = N * D * P.1 + -M * (sub2 Q P).1
      have : N * (D * P.1 - X.1) = N * D * P.1 - N * X.1 := by grind
      have : -M * (sub2 Q P).1 = -(M * (sub2 Q P).1) := by grind
      omega
    · show N * X.2 = N * D * P.2 + -M * (sub2 Q P).2
      have : N * (D * P.2 - X.2) = N * D * P.2 - N * X.2 := by grind
      have : -M * (sub2 Q P).2 = -(M * (sub2 Q P).2) := by grind
      omega
  · have := dt_pos hb
    by_cases z : 0 < dt (sub2 Q P) (sub2 Q P) * D + dt (vw D X P) (sub2 Q P)
    · omega
    · have := Int.mul_nonpos_of_nonneg_of_nonpos (show 0 ≤ D by omega) (show dt (sub2 Q P) (sub2 Q P) * D + dt (vw D X P) (sub2 Q P) ≤ 0 by omega); omega
  · have := dt_pos ha
    by_cases z : dt (vw D X P) (sub2 Q P) < 0
    · omega
    · have := Int.mul_nonneg (show 0 ≤ D by omega) (show 0 ≤ dt (vw D X P) (sub2 Q P) by omega); omega
/-! the order of sums -/
set_option maxHeartbeats 200000 in
theorem xs_comm (f : Nat → Nat → Bool) (a m b n : Nat) : xs (fun i => xs (fun j => f i j) b n) a m = xs (fun j => xs (fun i => f i j) a m) b n := by
  induction m with
  | zero => rw [xs]; exact (xs_none (fun j _ _ => rfl)).symm
  | succ m ih => rw [xs, ih, ← xs_xor]; rfl
set_option maxHeartbeats 200000 in
theorem xs_and (k : Bool) (f : Nat → Bool) (a m : Nat) : xs (fun i => k && f i) a m = (k && xs f a m) := by
  cases k with
  | false => exact xs_none (fun i _ _ => rfl)
  | true => rw [Bool.true_and]; exact xs_congr (fun i _ _ => Bool.true_and _)
set_option maxHeartbeats 200000 in
theorem XS_comm (T U : Sy) (f : Nat → Nat → Bool) : XS T (fun i => XS U (fun j => f i j)) = XS U (fun j => XS T (fun i => f i j)) := by
  unfold XS
  have e1 : (fun i => sW T i && xs (fun j => sW U j && f i j) (sL U) (sM U)) = fun i => xs (fun j => sW T i && (sW U j && f i j)) (sL U) (sM U) := funext (fun i => (xs_and _ _ _ _).symm)
  have e2 : (fun j => sW U j && xs (fun i => sW T i && f i j) (sL T) (sM T)) = fun j => xs (fun i => sW U j && (sW T i && f i j)) (sL T) (sM T) := funext (fun j => (xs_and _ _ _ _).symm)
  rw [e1, e2, xs_comm]
  refine xs_congr (fun j _ _ => xs_congr (fun i _ _ => ?_))
  cases sW T i <;> cases sW U j <;> rfl
set_option maxHeartbeats 200000 in
theorem hs_comm (T U : Sy) (D : Int) (X : V2) (f : V2 → V2 → Bool) : hs T D X (fun a => hs U D X (fun b => f a b)) = hs U D X (fun b => hs T D X (fun a => f a b)) := by
  have e : ∀ (A B : Sy) (g : V2 → V2 → Bool), hs A D X (fun a => hs B D X (fun b => g a b)) = XS A (fun i => XS B (fun j => dB (on0 (rl A D X i) (rl A D X (i + 1))) && (dB (on0 (rl B D X j) (rl B D X (j + 1))) && ((g (rl A D X i) (rl B D X j) ^^ g (rl A D X i) (rl B D X (j + 1))) ^^ (g (rl A D X (i + 1)) (rl B D X j) ^^ g (rl A D X (i + 1)) (rl B D X (j + 1))))))) := by
    intro A B g
    show XS A (fun i => _ && (XS B _ ^^ XS B _)) = _
    refine XS_congr (fun i _ => ?_)
    rw [← XS_xor, ← XS_and]
    refine XS_congr (fun j _ => ?_)
    dsimp only
    generalize dB (on0 (rl A D X i) (rl A D X (i + 1))) = x
    generalize dB (on0 (rl B D X j) (rl B D X (j + 1))) = y
    generalize g (rl A D X i) (rl B D X j) = p
    generalize g (rl A D X i) (rl B D X (j + 1)) = q
    generalize g (rl A D X (i + 1)) (rl B D X j) = r
    generalize g (rl A D X (i + 1)) (rl B D X (j + 1)) = s
    cases x <;> cases y <;> cases p <;> cases q <;> cases r <;> cases s <;> rfl
  rw [e, e U T (fun b a => f a b), XS_comm]
  refine XS_congr (fun j _ => XS_congr (fun i _ => ?_))
  generalize dB (on0 (rl T D X i) (rl T D X (i + 1))) = x
  generalize dB (on0 (rl U D X j) (rl U D X (j + 1))) = y
  generalize f (rl T D X i) (rl U D X j) = p
  generalize f (rl T D X i) (rl U D X (j + 1)) = q
  generalize f (rl T D X (i + 1)) (rl U D X j) = r
  generalize f (rl T D X (i + 1)) (rl U D X (j + 1)) = s
  cases x <;> cases y <;> cases p <;> cases q <;> cases r <;> cases s <;> rfl
/-- the parity, told of directions alone -/
noncomputable def paD (T : Sy) (D : Int) (X a : V2) : Bool := dB (nz a) && pa T D X a
set_option maxHeartbeats 200000 in
theorem paD_z {T : Sy} {D : Int} {X a : V2} (h : zro a) : paD T D X a = false := by unfold paD; rw [dB_f (fun z => z h)]; rfl
noncomputable def Wz (a b : V2) : Bool := dB (nz a) && Wd a b
set_option maxHeartbeats 200000 in
theorem hs_paD {T U : Sy} (GT : GD T) (GU : GD U) {D : Int} (hD : 0 < D) (X : V2) : hs T D X (paD U D X) = hs T D X (fun a => hs U D X (fun b => Wz a b)) := by
  have e : hs T D X (paD U D X) = hs T D X (fun a => (rf U D X && dB (nz a)) ^^ hs U D X (fun b => Wz a b)) := by
    refine hs_congr (fun a z => ?_) (fun a ha => ?_)
    · rw [paD_z z, dB_f (fun y => y z), Bool.and_false, Bool.false_xor]
      symm
      refine XS_none (fun e _ => ?_)
      show (dB _ && (Wz a _ ^^ Wz a _)) = false
      unfold Wz; rw [dB_f (show ¬ nz a from fun y => y z)]; simp
    · unfold paD
      rw [dB_t ha.1, Bool.true_and, Bool.and_true, pa_wedge GU hD X ha.1]
      congr 1
      refine XS_congr (fun e _ => ?_)
      unfold Wz; rw [dB_t ha.1]; dsimp only; rw [Bool.true_and, Bool.true_and]
  rw [e, hs_xor]
  have z : hs T D X (fun a => rf U D X && dB (nz a)) = false := by
    have : hs T D X (fun a => rf U D X && dB (nz a)) = (rf U D X && hs T D X (fun a => dB (nz a))) := by
      cases rf U D X with
      | false => exact XS_none (fun e _ => by simp)
      | true => rfl
    rw [this, hs_even GT, Bool.and_false]
  rw [z, Bool.false_xor]
/-- half-ways of both along one another -/
noncomputable def dd (T U : Sy) (D : Int) (X : V2) : Bool := hs T D X (fun a => al U D X a)
/-! the crossings of two closed rows at a point, counted either way -/
set_option maxHeartbeats 200000 in
theorem inter {T U : Sy} (GT : GD T) (GU : GD U) {D : Int} (hD : 0 < D) (X : V2) : (hs T D X (paD U D X) ^^ hs U D X (paD T D X)) = dd T U D X := by
  rw [hs_paD GT GU hD X, hs_paD GU GT hD X, hs_comm U T D X (fun b a => Wz b a)]
  rw [← hs_xor]
  unfold dd al
  have key : ∀ a, HW T D X a → (hs U D X (fun b => Wz a b) ^^ hs U D X (fun b => Wz b a)) = hs U D X (fun b => dB (dir a b)) := by
    intro a ha
    rw [← hs_xor]
    have e : hs U D X (fun b => Wz a b ^^ Wz b a) = hs U D X (fun b => dB (dir a b) ^^ dB (nz b)) := by
      refine hs_congr (fun b z => ?_) (fun b hb => ?_)
      · unfold Wz; rw [W_z z, dB_f (show ¬ nz b from fun y => y z), dB_f (dir_z z)]; simp
      · unfold Wz
        rw [dB_t ha.1, dB_t hb.1, Bool.true_and, Bool.true_and]
        by_cases d : dir a b
        · rw [dB_t d, W_dir ha.1 hb.1 d, W_dir hb.1 ha.1 (dir_sym d)]
        · rw [dB_f d, W_sw ha.1 hb.1 d]; rfl
    rw [e, hs_xor, hs_even GU, Bool.xor_false]
  refine hs_congr (fun a z => ?_) key
  have z1 : hs U D X (fun b => Wz a b) = false := XS_none (fun e _ => by show (dB _ && (Wz a _ ^^ Wz a _)) = false; unfold Wz; rw [dB_f (show ¬ nz a from fun y => y z)]; simp)
  have z2 : hs U D X (fun b => Wz b a) = false := XS_none (fun e _ => by show (dB _ && (Wz _ a ^^ Wz _ a)) = false; unfold Wz; rw [W_z z, W_z z]; simp)
  have z3 : hs U D X (fun b => dB (dir a b)) = false := XS_none (fun e _ => by
    have : ∀ b, dB (dir a b) = false := fun b => dB_f (fun d => (dir_nz d).1 z)
    dsimp only; rw [this, this]; simp)
  rw [z1, z2, z3]; rfl
/-! just ahead of a part -/
def lefA : Bool := s012.all fun sx => s012.all fun sy => (sx == 1 && sy == 1) || s012.all fun hx => s012.all fun hy => (hx == 1 && hy == 1) || s012.all fun sh => !okD2 (mulS sx hy) (mulS sy hx) sh || s012.all fun dsh => !okA2 (mulS sx hx) (mulS sy hy) dsh ||
  ((((wS hx hy sx sy (ngS sh) ^^ wS hx hy (ngS sx) (ngS sy) sh) ^^ (sh == 1 && dsh == 0)) ^^ (sh == 2)) == !(wS sx sy (ngS sx) (ngS sy) 1))
set_option maxHeartbeats 200000 in
theorem lefA_t : lefA = true := by decide +kernel
set_option maxHeartbeats 200000 in
theorem W_left {s h : V2} (hs' : nz s) (hh : nz h) : (((Wd s h ^^ Wd (ng s) h) ^^ dB (dir (ng s) h)) ^^ decide (0 < crs s h)) = !(Wd (ng s) s) := by
  have h0 := lefA_t
  unfold lefA at h0
  have t1 := or_r (s012_all (s012_all h0 (sg_lt s.1)) (sg_lt s.2)) (nz_sg hs')
  have t2 := s012_all (or_r (s012_all (s012_all t1 (sg_lt h.1)) (sg_lt h.2)) (nz_sg hh)) (sg_lt (crs s h))
  have e1 : okD2 (mulS (sg s.1) (sg h.2)) (mulS (sg s.2) (sg h.1)) (sg (crs s h)) = true := by rw [← sg_mul, ← sg_mul]; exact okD2_of _ _
  have t3 := s012_all (or_r t2 (by rw [e1]; rfl)) (sg_lt (dt s h))
  have e2 : okA2 (mulS (sg s.1) (sg h.1)) (mulS (sg s.2) (sg h.2)) (sg (dt s h)) = true := by rw [← sg_mul, ← sg_mul]; exact okA2_of _ _
  have t4 := or_r t3 (by rw [e2]; rfl)
  rw [beq_iff_eq] at t4
  have c1 : crs h s = -crs s h := crs_sw _ _
  have c2 : crs h (ng s) = crs s h := by unfold crs ng; grind
  have c3 : crs s (ng s) = 0 := by unfold crs ng; grind
  have d1 : dB (dir (ng s) h) = (sg (crs s h) == 1 && sg (dt s h) == 0) := by
    have e3 : crs (ng s) h = -crs s h := by unfold crs ng; grind
    have e4 : dt (ng s) h = -dt s h := by unfold dt ng; grind
    by_cases z : dir (ng s) h
    · have z1 := z.1
      have z2 := z.2
      rw [e3] at z1
      rw [e4] at z2
      rw [dB_t z, (sg_zero _).mpr (show crs s h = 0 by omega), (sg_neg _).mpr (show dt s h < 0 by omega)]; rfl
    · rw [dB_f z]
      symm
      rw [Bool.and_eq_false_iff]
      by_cases y : crs s h = 0
      · right
        have : sg (dt s h) ≠ 0 := fun t => z ⟨by rw [e3, y]; rfl, by rw [e4]; have := (sg_neg _).mp t; omega⟩
        simpa using this
      · left
        have : sg (crs s h) ≠ 1 := fun t => y ((sg_zero _).mp t)
        simpa using this
  rw [d1, ← sg2]
  unfold Wd
  rw [c1, c2, c3, sg_ng]
  show (((wS (sg h.1) (sg h.2) (sg s.1) (sg s.2) (ngS (sg (crs s h))) ^^ wS (sg h.1) (sg h.2) (sg (-s.1)) (sg (-s.2)) (sg (crs s h))) ^^ (sg (crs s h) == 1 && sg (dt s h) == 0)) ^^ (sg (crs s h) == 2)) = !(wS (sg s.1) (sg s.2) (sg (-s.1)) (sg (-s.2)) (sg 0))
  rw [sg_ng, sg_ng]
  exact t4
/-! the parity just ahead of a part, on the left: to the right of the way back -/
set_option maxHeartbeats 200000 in
theorem limL {T : Sy} (G : GD T) {D : Int} (hD : 0 < D) (X : V2) {s : V2} (hs' : nz s) {E : Int} (hE : 0 < E) (q : Int) : XS T (fun e => xT T D X s e && decide (q * dT T D X s e ≤ E * nT T D X s e)) = (pa T (E * D) (at2 X s E q) (ng s) ^^ al T (E * D) (at2 X s E q) (ng s)) := by
  have hED : 0 < E * D := Int.mul_pos hE hD
  -- what is passed just there
  have e1 : XS T (fun e => xT T D X s e && decide (q * dT T D X s e ≤ E * nT T D X s e)) = (pa T (E * D) (at2 X s E q) s ^^ hs T (E * D) (at2 X s E q) (fun a => decide (0 < crs s a))) := by
    rw [pa_line T D X s hE]
    unfold hs
    rw [← XS_xor]
    refine XS_congr (fun e he => ?_)
    rw [rl_at2, rl_at2]
    have kc : ∀ a : V2, crs s (pq s E q a) = E * crs s a := by intro a; unfold crs pq; grind
    have dc : ∀ a : V2, decide (0 < crs s (pq s E q a)) = decide (0 < crs s a) := by
      intro a
      rw [kc]
      exact decide_eq_decide.mpr (by rw [← sg_pos, ← sg_pos, sg_mulp hE])
    dsimp only
    rw [dc, dc]
    have hxor : (decide (0 < crs s (rl T D X e)) ^^ decide (0 < crs s (rl T D X (e + 1)))) = xT T D X s e := by
      unfold xT xg
      cases decide (0 < crs s (rl T D X e)) <;> cases decide (0 < crs s (rl T D X (e + 1))) <;> rfl
    rw [hxor]
    cases hx : xT T D X s e with
    | false => simp
    | true =>
      have hd := dT_pos hx
      rw [Bool.true_and, Bool.true_and, Bool.and_true]
      -- the point is on the way just if it is passed there
      have on_i : on0 (pq s E q (rl T D X e)) (pq s E q (rl T D X (e + 1))) ↔ q * dT T D X s e = E * nT T D X s e := by
        have k3 : ∀ a b : V2, crs (pq s E q a) (pq s E q b) = E * (E * crs a b - q * (crs s b - crs s a)) := by intro a b; unfold crs pq; grind
        have k4 : E * crs (rl T D X e) (rl T D X (e + 1)) - q * (crs s (rl T D X (e + 1)) - crs s (rl T D X e)) = 0 ↔ q * dT T D X s e = E * nT T D X s e := by
          unfold dT nT de nu
          by_cases y : 0 < crs s (rl T D X (e + 1))
          · rw [if_pos y, if_pos y]; omega
          · rw [if_neg y, if_neg y]
            have r1 : q * (crs s (rl T D X e) - crs s (rl T D X (e + 1))) = -(q * (crs s (rl T D X (e + 1)) - crs s (rl T D X e))) := by grind
            have r2 : E * -crs (rl T D X e) (rl T D X (e + 1)) = -(E * crs (rl T D X e) (rl T D X (e + 1))) := by grind
            omega
        have k5 : crs (pq s E q (rl T D X e)) (pq s E q (rl T D X (e + 1))) = 0 ↔ q * dT T D X s e = E * nT T D X s e := by
          rw [k3, ← k4]
          constructor
          · intro z
            rcases Int.mul_eq_zero.mp z with y | y
            · omega
            · exact y
          · intro z; rw [z, Int.mul_zero]
        constructor
        · intro h; exact k5.mp h.1
        · intro h
          refine ⟨k5.mpr h, ?_⟩
          -- opposite sides of the line: not on one side of the point
          have c0 := k5.mpr h
          have x1 := kc (rl T D X e)
          have x2 := kc (rl T D X (e + 1))
          have hx' := hx
          unfold xT xg at hx'
          generalize pq s E q (rl T D X e) = A at *
          generalize pq s E q (rl T D X (e + 1)) = B at *
          have i1 : crs s A * dt B B - crs s B * dt A B = -(crs A B * dt s B) := by unfold crs dt; grind
          have i2 : crs s B * dt A A - crs s A * dt A B = crs A B * dt s A := by unfold crs dt; grind
          rw [c0, Int.zero_mul] at i1 i2
          have n1 : 0 ≤ dt B B := by unfold dt; have := sq_nn B.1; have := sq_nn B.2; omega
          have n2 : 0 ≤ dt A A := by unfold dt; have := sq_nn A.1; have := sq_nn A.2; omega
          by_cases z : 0 < dt A B
          · exfalso
            by_cases y : 0 < crs s (rl T D X (e + 1))
            · have r : ¬ 0 < crs s (rl T D X e) := fun r => by simp [y, r] at hx'
              have p1 : 0 < crs s B := by rw [x2]; exact Int.mul_pos hE y
              have p2 : crs s A ≤ 0 := by rw [x1]; exact Int.mul_nonpos_of_nonneg_of_nonpos (by omega) (by omega)
              have z1 := Int.mul_pos p1 z
              have z2 : crs s A * dt B B ≤ 0 := Int.mul_nonpos_of_nonpos_of_nonneg p2 n1
              omega
            · have r : 0 < crs s (rl T D X e) := by by_cases r : 0 < crs s (rl T D X e); exact r; simp [y, r] at hx'
              have p1 : 0 < crs s A := by rw [x1]; exact Int.mul_pos hE r
              have p2 : crs s B ≤ 0 := by rw [x2]; exact Int.mul_nonpos_of_nonneg_of_nonpos (by omega) (by omega)
              have z1 := Int.mul_pos p1 z
              have z2 : crs s B * dt A A ≤ 0 := Int.mul_nonpos_of_nonpos_of_nonneg p2 n2
              omega
          · omega
      by_cases z : q * dT T D X s e = E * nT T D X s e
      · rw [dB_t (on_i.mpr z), decide_eq_true (show q * dT T D X s e ≤ E * nT T D X s e by omega), decide_eq_false (show ¬ q * dT T D X s e < E * nT T D X s e by omega)]; rfl
      · rw [dB_f (fun y => z (on_i.mp y)), Bool.xor_false]
        exact decide_eq_decide.mpr (by omega)
  rw [e1, pa_wedge G hED _ hs', pa_wedge G hED _ (ng_nz hs')]
  unfold al
  have e2 : ((hs T (E * D) (at2 X s E q) (Wd s) ^^ hs T (E * D) (at2 X s E q) (Wd (ng s))) ^^ (hs T (E * D) (at2 X s E q) (fun a => dB (dir (ng s) a)) ^^ hs T (E * D) (at2 X s E q) (fun a => decide (0 < crs s a)))) = false := by
    rw [← hs_xor, ← hs_xor, ← hs_xor]
    have : hs T (E * D) (at2 X s E q) (fun a => (Wd s a ^^ Wd (ng s) a) ^^ (dB (dir (ng s) a) ^^ decide (0 < crs s a))) = hs T (E * D) (at2 X s E q) (fun a => !(Wd (ng s) s) && dB (nz a)) := by
      refine hs_congr (fun a z => ?_) (fun a ha => ?_)
      · have c : crs s a = 0 := by unfold crs; rw [z.1, z.2]; simp
        rw [W_z z, W_z z, dB_f (dir_z z), dB_f (fun y => y z), c]; simp
      · rw [dB_t ha.1, Bool.and_true, ← W_left hs' ha.1]
        cases Wd s a <;> cases Wd (ng s) a <;> cases dB (dir (ng s) a) <;> cases decide (0 < crs s a) <;> rfl
    rw [this]
    cases Wd (ng s) s with
    | true => exact XS_none (fun e _ => by simp)
    | false => exact hs_even G _ _
  revert e2
  generalize hs T (E * D) (at2 X s E q) (Wd s) = x
  generalize hs T (E * D) (at2 X s E q) (Wd (ng s)) = y
  generalize hs T (E * D) (at2 X s E q) (fun a => dB (dir (ng s) a)) = z
  generalize hs T (E * D) (at2 X s E q) (fun a => decide (0 < crs s a)) = w
  generalize rf T (E * D) (at2 X s E q) = r
  cases x <;> cases y <;> cases z <;> cases w <;> cases r <;> simp

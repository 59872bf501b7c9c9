/-! the sides of a simple ring -/
def wwA : Bool := s012.all fun sx => s012.all fun sy => (sx == 1 && sy == 1) || s012.all fun ax => s012.all fun ay => (ax == 1 && ay == 1) || s012.all fun sa => !okD2 (mulS sx ay) (mulS sy ax) sa || s012.all fun dd => !okA2 (mulS sx ax) (mulS sy ay) dd || (sa == 1 && dd == 2) ||
  (wS ax ay sx sy (ngS sa) ^^ wS sx sy ax ay sa)
theorem wwA_t : wwA = true := by decide +kernel
/-- of two directions that are not the same just one is not above the other -/
theorem W_sw {s a : V2} (hs : nz s) (ha : nz a) (h : ¬ (crs s a = 0 ∧ 0 < dt s a)) : (Wd s a ^^ Wd a s) = true := by
  have h0 := wwA_t
  unfold wwA at h0
  have h1 := or_r (s012_all (s012_all h0 (sg_lt s.1)) (sg_lt s.2)) (nz_sg hs)
  have h2 := or_r (s012_all (s012_all h1 (sg_lt a.1)) (sg_lt a.2)) (nz_sg ha)
  have e1 : okD2 (mulS (sg s.1) (sg a.2)) (mulS (sg s.2) (sg a.1)) (sg (crs s a)) = true := by rw [← sg_mul, ← sg_mul]; exact okD2_of _ _
  have h3 := or_r (s012_all h2 (sg_lt (crs s a))) (by rw [e1]; rfl)
  have e2 : okA2 (mulS (sg s.1) (sg a.1)) (mulS (sg s.2) (sg a.2)) (sg (dt s a)) = true := by rw [← sg_mul, ← sg_mul]; exact okA2_of _ _
  have h4 := s012_all h3 (sg_lt (dt s a))
  rw [Bool.or_assoc] at h4
  have h5 := or_r h4 (by rw [e2]; rfl)
  have h6 := or_r h5 (by
    rw [Bool.and_eq_false_iff]
    by_cases q : crs s a = 0
    · right
      have : sg (dt s a) ≠ 2 := fun e => h ⟨q, (sg_pos _).mp e⟩
      simpa using this
    · left
      have : sg (crs s a) ≠ 1 := fun e => q ((sg_zero _).mp e)
      simpa using this)
  unfold Wd
  rw [crs_sw a s, sg_ng]
  exact h6
theorem W_self {s : V2} (hs : nz s) : Wd s s = true := by
  have e : crs s s = 0 := by unfold crs; grind
  unfold Wd wS
  rw [e, nz_sg hs]
  simp only [Bool.false_eq_true, if_false]
  have : sg 0 = 1 := rfl
  rw [this]
  cases upS (sg s.1) (sg s.2) <;> rfl
theorem ng_nz {s : V2} (h : nz s) : nz (ng s) := fun q => h ⟨by have := q.1; simp only [ng] at this; omega, by have := q.2; simp only [ng] at this; omega⟩
theorem W_ng {s : V2} (hs : nz s) : (Wd s (ng s) ^^ Wd (ng s) s) = true := by
  refine W_sw hs (ng_nz hs) (fun h => ?_)
  have h1 := dt_pos hs
  have h2 : dt s (ng s) = -dt s s := by unfold dt ng; grind
  omega
/-- a way with 0 on it, and what it begins with -/
theorem hb_no {s a b : V2} (h : ¬ on0 a b) : hb s a b = false := by
  unfold hb hbS
  have : (sg (crs a b) == 1 && sg (dt a b) != 2) = false := by
    rw [Bool.and_eq_false_iff]
    by_cases q : crs a b = 0
    · right
      have : sg (dt a b) = 2 := (sg_pos _).mpr (by
        by_cases r : dt a b ≤ 0
        · exact (h ⟨q, r⟩).elim
        · omega)
      rw [this]; rfl
    · left
      have : sg (crs a b) ≠ 1 := fun e => q ((sg_zero _).mp e)
      simpa using this
  rw [this]; rfl
theorem hb_on {s a b : V2} (h : on0 a b) : hb s a b = if isZ a == 1 then Wd s b else if isZ b == 1 then Wd s a else Wd s a != Wd s b := by
  unfold hb hbS
  have h1 : sg (crs a b) = 1 := (sg_zero _).mpr h.1
  have h2 : sg (dt a b) ≠ 2 := fun e => by have := (sg_pos _).mp e; have := h.2; omega
  have : (sg (crs a b) == 1 && sg (dt a b) != 2) = true := by rw [h1]; simpa using h2
  rw [this]; rfl
theorem hb_fst {s a b : V2} (ha : zro a) : hb s a b = Wd s b := by
  rw [hb_on ⟨by unfold crs; rw [ha.1, ha.2]; simp, by unfold dt; rw [ha.1, ha.2]; simp⟩, isZ_iff.mpr ha]; rfl
theorem isZ_n {a : V2} (h : nz a) : (isZ a == 1) = false := by
  have : isZ a ≠ 1 := fun e => h (isZ_iff.mp e)
  simpa using this
theorem hb_snd {s a b : V2} (ha : nz a) (hb' : zro b) : hb s a b = Wd s a := by
  rw [hb_on ⟨by unfold crs; rw [hb'.1, hb'.2]; simp, by unfold dt; rw [hb'.1, hb'.2]; simp⟩, isZ_iff.mpr hb', isZ_n ha]; rfl
theorem hb_mid {s a b : V2} (ha : nz a) (hb' : nz b) (h : on0 a b) : hb s a b = (Wd s a ^^ Wd s b) := by
  rw [hb_on h, isZ_n ha, isZ_n hb']; cases Wd s a <;> cases Wd s b <;> rfl
/-- directions count, lengths don't -/
theorem W_sc {s a : V2} {u : Int} (hu : 0 < u) : Wd s (u * a.1, u * a.2) = Wd s a := by
  have e : crs (u * a.1, u * a.2) s = u * crs a s := by unfold crs; grind
  unfold Wd
  rw [e]
  simp only
  rw [sg_mulp hu, sg_mulp hu, sg_mulp hu]
theorem nz_sc {a : V2} {u : Int} (hu : u ≠ 0) (ha : nz a) : nz (u * a.1, u * a.2) := fun h => hu (zro_sc ha h)
theorem rel_nz {V : Nat → V2} {lo m : Nat} (S : Smp V lo m) {D : Int} (hD : 0 < D) (X : V2) : ∀ i, lo ≤ i → i < lo + m → ¬ (isZ (rel V D X i) = 1 ∧ isZ (rel V D X (i + 1)) = 1) := by
  intro i h1 h2 h
  obtain ⟨⟨a1, a2⟩, ⟨b1, b2⟩⟩ := (show zro (rel V D X i) ∧ zro (rel V D X (i + 1)) from ⟨isZ_iff.mp h.1, isZ_iff.mp h.2⟩)
  refine S.2.2.1 i h1 h2 ⟨?_, ?_⟩
  · have : D * (dv V i).1 = 0 := by unfold dv; simp only [rel] at a1 b1; simp only; grind
    have := Int.mul_eq_zero.mp this; omega
  · have : D * (dv V i).2 = 0 := by unfold dv; simp only [rel] at a2 b2; simp only; grind
    have := Int.mul_eq_zero.mp this; omega
theorem rel_cl {V : Nat → V2} {lo m : Nat} (S : Smp V lo m) (D : Int) (X : V2) : rel V D X (lo + m) = rel V D X lo := by unfold rel; rw [S.2.1]
theorem fro_rel (V : Nat → V2) (P : V2) (i : Nat) : fro V P i = rel V 1 P i := by unfold fro rel; simp
/-- at the middle of a way the two sides differ -/
theorem Smp.mid {V : Nat → V2} {lo m : Nat} (S : Smp V lo m) {k : Nat} (h1 : lo ≤ k) (h2 : k < lo + m) {P s : V2} (hw : onW V k P s) : (par (fun i => pq s 2 1 (fro V P i)) s lo m ^^ par (fun i => pq s 2 1 (fro V P i)) (ng s) lo m) = true := by
  have hs := onW_nz hw (S.2.2.1 k h1 h2)
  have e : (fun i => pq s 2 1 (fro V P i)) = rel V 2 (2 * P.1 + 1 * s.1, 2 * P.2 + 1 * s.2) := funext (fun i => pq_rel i)
  rw [e]
  generalize hX : ((2 * P.1 + 1 * s.1, 2 * P.2 + 1 * s.2) : V2) = X
  rw [wedge hs (rel_nz S (by omega) X) (rel_cl S 2 X), wedge (ng_nz hs) (rel_nz S (by omega) X) (rel_cl S 2 X)]
  obtain ⟨u, v, huv, e1, e2⟩ := onW_al hw 2 1
  rw [pq_rel, hX] at e1 e2
  have hon : on0 (rel V 2 X k) (rel V 2 X (k + 1)) := by
    rw [e1, e2]; exact on0_sc (by rcases huv with ⟨rfl, rfl⟩ | ⟨rfl, rfl⟩ <;> omega)
  have z1 : nz (rel V 2 X k) := by rw [e1]; exact nz_sc (by omega) hs
  have z2 : nz (rel V 2 X (k + 1)) := by rw [e2]; exact nz_sc (by omega) hs
  have one : ∀ t, hfs (rel V 2 X) t lo m = hb t (rel V 2 X k) (rel V 2 X (k + 1)) := by
    intro t
    refine xs_one k h1 h2 (fun i a b c => hb_no (fun ho => ?_))
    rcases Nat.lt_or_ge i k with r | r
    · rcases S.2.2.2 2 X i k (by omega) a r h2 ho hon with ⟨q1, q2⟩ | ⟨q1, q2, q3⟩
      · exact z1 q2
      · refine z2 ?_
        rw [q2, rel_cl S]; exact q3
    · rcases S.2.2.2 2 X k i (by omega) h1 (by omega) b hon ho with ⟨q1, q2⟩ | ⟨q1, q2, q3⟩
      · exact z2 (q1 ▸ q2)
      · exact z1 (q1 ▸ q3)
  rw [one, one, hb_mid z1 z2 hon, hb_mid z1 z2 hon]
  have w := W_ng hs
  have w1 := W_self hs
  have w2 := W_self (ng_nz hs)
  have f : ∀ t, (Wd t (rel V 2 X k) ^^ Wd t (rel V 2 X (k + 1))) = (Wd t s ^^ Wd t (ng s)) := by
    intro t
    rw [e1, e2]
    have g1 : Wd t ((1 : Int) * s.1, (1 : Int) * s.2) = Wd t s := W_sc (by omega)
    have g2 : ((-1 : Int) * s.1, (-1 : Int) * s.2) = ng s := by unfold ng; refine Prod.ext ?_ ?_ <;> simp only <;> omega
    rcases huv with ⟨rfl, rfl⟩ | ⟨rfl, rfl⟩
    · show (Wd t ((-1 : Int) * s.1, (-1 : Int) * s.2) ^^ Wd t ((1 : Int) * s.1, (1 : Int) * s.2)) = _
      rw [g1, g2, Bool.xor_comm]
    · show (Wd t ((1 : Int) * s.1, (1 : Int) * s.2) ^^ Wd t ((-1 : Int) * s.1, (-1 : Int) * s.2)) = _
      rw [g1, g2]
  rw [f, f, w1, w2]
  revert w
  cases Wd s (ng s) <;> cases Wd (ng s) s <;> cases rfp (rel V 2 X) lo m <;> simp
theorem pq_rev {V : Nat → V2} {k i : Nat} : pq (dv V k) 2 1 (fro V (V k) i) = pq (ng (dv V k)) 2 1 (fro V (V (k + 1)) i) := by
  unfold pq fro ng dv; refine Prod.ext ?_ ?_ <;> simp only <;> grind
/-- left of a way, and left of it the other way round -/
theorem Smp.rev {V : Nat → V2} {lo m : Nat} (S : Smp V lo m) {k : Nat} (h1 : lo ≤ k) (h2 : k < lo + m) : (par (fro V (V k)) (dv V k) lo m ^^ par (fro V (V (k + 1))) (ng (dv V k)) lo m) = true := by
  have w := S.mid h1 h2 (Or.inl ⟨rfl, rfl⟩)
  rw [par_pq (by omega) (by omega) (S.free h1 h2 (Or.inl ⟨rfl, rfl⟩))] at w
  have e : (fun i => pq (dv V k) 2 1 (fro V (V k) i)) = (fun i => pq (ng (dv V k)) 2 1 (fro V (V (k + 1)) i)) := funext (fun i => pq_rev)
  rw [e, par_pq (by omega) (by omega) (S.free h1 h2 (Or.inr ⟨rfl, rfl⟩))] at w
  exact w
/-- two ways with a common end don't lie on each other -/
theorem Smp.turn {V : Nat → V2} {lo m : Nat} (S : Smp V lo m) {i j : Nat} (h1 : lo ≤ i) (h2 : i < j) (h3 : j < lo + m) {a b P : V2} (hP : (j = i + 1 ∧ P = V j ∧ a = ng (dv V i) ∧ b = dv V j) ∨ (i = lo ∧ j + 1 = lo + m ∧ P = V lo ∧ a = dv V i ∧ b = ng (dv V j))) : ¬ (crs a b = 0 ∧ 0 < dt a b) := by
  intro hab
  have na : nz a := by
    rcases hP with ⟨q1, q2, q3, q4⟩ | ⟨q1, q2, q3, q4, q5⟩
    · rw [q3]; exact ng_nz (S.2.2.1 i h1 (by omega))
    · rw [q4]; exact S.2.2.1 i h1 (by omega)
  have da := dt_pos na
  -- the point P + (dt / (aa + dt)) a is on both
  have key : ∀ (Y : V2), Y = ((dt a a + dt a b) * P.1 + dt a b * a.1, (dt a a + dt a b) * P.2 + dt a b * a.2) → False := by
    intro Y hY
    have hz : ∀ t, V t = P → rel V (dt a a + dt a b) Y t = (-(dt a b) * a.1, -(dt a b) * a.2) := by
      intro t ht; unfold rel; rw [ht, hY]; refine Prod.ext ?_ ?_ <;> simp only <;> grind
    have ha : ∀ t, V t = (P.1 + a.1, P.2 + a.2) → rel V (dt a a + dt a b) Y t = (dt a a * a.1, dt a a * a.2) := by
      intro t ht; unfold rel; rw [ht, hY]; refine Prod.ext ?_ ?_ <;> simp only <;> grind
    have hb' : ∀ t, V t = (P.1 + b.1, P.2 + b.2) → rel V (dt a a + dt a b) Y t = ((dt a a + dt a b) * b.1 - dt a b * a.1, (dt a a + dt a b) * b.2 - dt a b * a.2) := by
      intro t ht; unfold rel; rw [ht, hY]; refine Prod.ext ?_ ?_ <;> simp only <;> grind
    have n0 : ¬ zro (-(dt a b) * a.1, -(dt a b) * a.2) := nz_sc (by omega) na
    have oa : on0 (dt a a * a.1, dt a a * a.2) (-(dt a b) * a.1, -(dt a b) * a.2) := on0_sc (Int.mul_nonpos_of_nonneg_of_nonpos (by omega) (by omega))
    have oa' : on0 (-(dt a b) * a.1, -(dt a b) * a.2) (dt a a * a.1, dt a a * a.2) := on0_sc (Int.mul_nonpos_of_nonpos_of_nonneg (by omega) (by omega))
    have c1 : crs (-(dt a b) * a.1, -(dt a b) * a.2) ((dt a a + dt a b) * b.1 - dt a b * a.1, (dt a a + dt a b) * b.2 - dt a b * a.2) = -(dt a b * (dt a a + dt a b)) * crs a b := by
      generalize dt a a = E; generalize dt a b = F; unfold crs; grind
    have c2 : dt (-(dt a b) * a.1, -(dt a b) * a.2) ((dt a a + dt a b) * b.1 - dt a b * a.1, (dt a a + dt a b) * b.2 - dt a b * a.2) = -(dt a b * (dt a b * dt a b)) := by
      have : ∀ E F : Int, dt (-F * a.1, -F * a.2) ((E + F) * b.1 - F * a.1, (E + F) * b.2 - F * a.2) = -(F * (E + F) * dt a b) + F * F * dt a a := by intro E F; unfold dt; grind
      rw [this]
      generalize dt a a = E; generalize dt a b = F; grind
    have ob : on0 (-(dt a b) * a.1, -(dt a b) * a.2) ((dt a a + dt a b) * b.1 - dt a b * a.1, (dt a a + dt a b) * b.2 - dt a b * a.2) := by
      refine ⟨by rw [c1, hab.1, Int.mul_zero], ?_⟩
      rw [c2]
      have := Int.mul_pos hab.2 (Int.mul_pos hab.2 hab.2)
      omega
    have ob' : on0 ((dt a a + dt a b) * b.1 - dt a b * a.1, (dt a a + dt a b) * b.2 - dt a b * a.2) (-(dt a b) * a.1, -(dt a b) * a.2) := by
      refine ⟨by rw [crs_sw, ob.1]; rfl, ?_⟩
      have : ∀ x y : V2, dt x y = dt y x := by intro x y; unfold dt; grind
      rw [this]; exact ob.2
    rcases hP with ⟨q1, q2, q3, q4⟩ | ⟨q1, q2, q3, q4, q5⟩
    · have vi : V i = (P.1 + a.1, P.2 + a.2) := by rw [q2, q3, q1]; unfold ng dv; refine Prod.ext ?_ ?_ <;> simp only <;> omega
      have vj : V (j + 1) = (P.1 + b.1, P.2 + b.2) := by rw [q2, q4]; unfold dv; refine Prod.ext ?_ ?_ <;> simp only <;> omega
      rcases S.2.2.2 (dt a a + dt a b) Y i j (by omega) h1 h2 h3 (by rw [ha i vi, ← q1, hz j q2.symm]; exact oa) (by rw [hz j q2.symm, hb' (j + 1) vj]; exact ob) with ⟨r1, r2⟩ | ⟨r1, r2, r3⟩
      · rw [hz j q2.symm] at r2; exact n0 r2
      · have := S.1; omega
    · have vi : V (i + 1) = (P.1 + a.1, P.2 + a.2) := by rw [q3, q4, q1]; unfold dv; refine Prod.ext ?_ ?_ <;> simp only <;> omega
      have vj : V j = (P.1 + b.1, P.2 + b.2) := by rw [q3, q5, ← S.2.1, ← q2]; unfold ng dv; refine Prod.ext ?_ ?_ <;> simp only <;> omega
      have vl : V (j + 1) = P := by rw [q2, S.2.1, q3]
      rcases S.2.2.2 (dt a a + dt a b) Y i j (by omega) h1 h2 h3 (by rw [q1, hz lo q3.symm, ← q1, ha (i + 1) vi]; exact oa') (by rw [hb' j vj, hz (j + 1) vl]; exact ob') with ⟨r1, r2⟩ | ⟨r1, r2, r3⟩
      · have := S.1; omega
      · rw [hz lo q3.symm] at r3; exact n0 r3
  exact key _ rfl
/-- at a place of the ring: what begins there -/
theorem Smp.at_place {V : Nat → V2} {lo m : Nat} (S : Smp V lo m) {k : Nat} (h1 : lo ≤ k) (h2 : k + 1 < lo + m) (t : V2) : hfs (fro V (V (k + 1))) t lo m = (Wd t (ng (dv V k)) ^^ Wd t (dv V (k + 1))) := by
  have ef : fro V (V (k + 1)) = rel V 1 (V (k + 1)) := funext (fun i => fro_rel V _ i)
  have z : zro (fro V (V (k + 1)) (k + 1)) := by unfold fro zro; simp
  have a1 : fro V (V (k + 1)) k = ng (dv V k) := by unfold fro ng dv; refine Prod.ext ?_ ?_ <;> simp only <;> omega
  have a2 : fro V (V (k + 1)) (k + 1 + 1) = dv V (k + 1) := rfl
  have nk := ng_nz (S.2.2.1 k h1 (by omega))
  have o1 : on0 (fro V (V (k + 1)) k) (fro V (V (k + 1)) (k + 1)) := ⟨by unfold crs; rw [z.1, z.2]; simp, by unfold dt; rw [z.1, z.2]; simp⟩
  have o2 : on0 (fro V (V (k + 1)) (k + 1)) (fro V (V (k + 1)) (k + 1 + 1)) := ⟨by unfold crs; rw [z.1, z.2]; simp, by unfold dt; rw [z.1, z.2]; simp⟩
  unfold hfs
  rw [xs_two k (k + 1) h1 (by omega) h2 (fun i a b c d => hb_no (fun ho => ?_)), hb_fst z, a2, a1, hb_snd nk z]
  rw [ef] at ho o1 o2 z
  rcases Nat.lt_or_ge i k with r | r
  · rcases S.2.2.2 1 _ i (k + 1) (by omega) a (by omega) h2 ho o2 with ⟨q1, q2⟩ | ⟨q1, q2, q3⟩
    · omega
    · rcases S.2.2.2 1 _ i k (by omega) a r (by omega) ho o1 with ⟨p1, p2⟩ | ⟨p1, p2, p3⟩
      · refine S.2.2.1 k h1 (by omega) ⟨?_, ?_⟩
        · have x1 := p2.1; simp only [rel] at x1; unfold dv; simp only; omega
        · have x1 := p2.2; simp only [rel] at x1; unfold dv; simp only; omega
      · omega
  · rcases S.2.2.2 1 _ k i (by omega) h1 (by omega) b o1 ho with ⟨q1, q2⟩ | ⟨q1, q2, q3⟩
    · exact d q1
    · rcases S.2.2.2 1 _ (k + 1) i (by omega) (by omega) (by omega) b o2 ho with ⟨p1, p2⟩ | ⟨p1, p2, p3⟩
      · refine S.2.2.1 (k + 1) (by omega) h2 ⟨?_, ?_⟩
        · have x1 := p2.1; rw [p1] at x1; simp only [rel] at x1; unfold dv; simp only; omega
        · have x1 := p2.2; rw [p1] at x1; simp only [rel] at x1; unfold dv; simp only; omega
      · omega
theorem Smp.step {V : Nat → V2} {lo m : Nat} (S : Smp V lo m) {k : Nat} (h1 : lo ≤ k) (h2 : k + 1 < lo + m) : par (fro V (V (k + 1))) (dv V (k + 1)) lo m = par (fro V (V k)) (dv V k) lo m := by
  have n1 := S.2.2.1 k h1 (by omega)
  have n2 := S.2.2.1 (k + 1) (by omega) h2
  have ef : fro V (V (k + 1)) = rel V 1 (V (k + 1)) := funext (fun i => fro_rel V _ i)
  have r := S.rev h1 (by omega)
  have w1 := wedge (A := fro V (V (k + 1))) n2 (by rw [ef]; exact rel_nz S (by omega) _) (by rw [ef]; exact rel_cl S 1 _)
  have w2 := wedge (A := fro V (V (k + 1))) (ng_nz n1) (by rw [ef]; exact rel_nz S (by omega) _) (by rw [ef]; exact rel_cl S 1 _)
  rw [S.at_place h1 h2] at w1 w2
  have w := W_sw (ng_nz n1) n2 (S.turn h1 (Nat.lt_succ_self k) h2 (Or.inl ⟨rfl, rfl, rfl, rfl⟩))
  rw [W_self n2] at w1
  rw [W_self (ng_nz n1)] at w2
  rw [w2] at r
  rw [w1]
  revert w r
  cases Wd (ng (dv V k)) (dv V (k + 1)) <;> cases Wd (dv V (k + 1)) (ng (dv V k)) <;> cases rfp (fro V (V (k + 1))) lo m <;> cases par (fro V (V k)) (dv V k) lo m <;> simp
theorem Smp.const {V : Nat → V2} {lo m : Nat} (S : Smp V lo m) : ∀ d, d < m → par (fro V (V (lo + d))) (dv V (lo + d)) lo m = par (fro V (V lo)) (dv V lo) lo m := by
  intro d
  induction d with
  | zero => intro _; rfl
  | succ d ih =>
    intro h
    rw [← ih (by omega)]
    exact S.step (k := lo + d) (by omega) (by omega)
/-- the side of a ring -/
def sd (V : Nat → V2) (lo m : Nat) : Bool := par (fro V (V lo)) (dv V lo) lo m
theorem Smp.forth {V : Nat → V2} {lo m : Nat} (S : Smp V lo m) {k : Nat} (h1 : lo ≤ k) (h2 : k < lo + m) {D p : Int} (hp : 0 ≤ p) (hpD : p < D) : par (fun i => pq (dv V k) D p (fro V (V k) i)) (dv V k) lo m = sd V lo m := by
  rw [par_pq hp hpD (S.free h1 h2 (Or.inl ⟨rfl, rfl⟩))]
  have := S.const (k - lo) (by omega)
  rw [show lo + (k - lo) = k by omega] at this
  exact this
theorem Smp.back {V : Nat → V2} {lo m : Nat} (S : Smp V lo m) {k : Nat} (h1 : lo ≤ k) (h2 : k < lo + m) {D p : Int} (hp : 0 ≤ p) (hpD : p < D) : par (fun i => pq (ng (dv V k)) D p (fro V (V (k + 1)) i)) (ng (dv V k)) lo m = !sd V lo m := by
  rw [par_pq hp hpD (S.free h1 h2 (Or.inr ⟨rfl, rfl⟩))]
  have h := S.const (k - lo) (by omega)
  rw [show lo + (k - lo) = k by omega] at h
  have r := S.rev h1 h2
  rw [h] at r
  unfold sd
  revert r
  cases par (fro V (V lo)) (dv V lo) lo m <;> cases par (fro V (V (k + 1))) (ng (dv V k)) lo m <;> simp

/-! GEOMETRY of closed rows of ways -/
abbrev Sy : Type := (Nat → V2) × (Nat → Bool) × Nat × Nat
def sV (T : Sy) : Nat → V2 := T.1
def sW (T : Sy) : Nat → Bool := T.2.1
def sL (T : Sy) : Nat := T.2.2.1
def sM (T : Sy) : Nat := T.2.2.2
def XS (T : Sy) (f : Nat → Bool) : Bool := xs (fun e => sW T e && f e) (sL T) (sM T)
def inT (T : Sy) (e : Nat) : Prop := sL T ≤ e ∧ e < sL T + sM T ∧ sW T e = true
set_option maxHeartbeats 200000 in
theorem XS_congr {T : Sy} {f g : Nat → Bool} (h : ∀ e, inT T e → f e = g e) : XS T f = XS T g := by
  refine xs_congr (fun e a b => ?_)
  cases q : sW T e with
  | false => rfl
  | true => rw [h e ⟨a, b, q⟩]
set_option maxHeartbeats 200000 in
theorem XS_xor (T : Sy) (f g : Nat → Bool) : XS T (fun e => f e ^^ g e) = (XS T f ^^ XS T g) := by
  unfold XS
  rw [← xs_xor]
  refine xs_congr (fun e a b => ?_)
  cases sW T e <;> rfl
set_option maxHeartbeats 200000 in
theorem XS_none {T : Sy} {f : Nat → Bool} (h : ∀ e, inT T e → f e = false) : XS T f = false := by
  refine xs_none (fun e a b => ?_)
  cases q : sW T e with
  | false => rfl
  | true => rw [h e ⟨a, b, q⟩]; rfl
set_option maxHeartbeats 200000 in
theorem XS_and (T : Sy) (k : Bool) (f : Nat → Bool) : XS T (fun e => k && f e) = (k && XS T f) := by
  cases k with
  | false => exact XS_none (fun e _ => rfl)
  | true => rw [Bool.true_and]; exact XS_congr (fun e _ => Bool.true_and _)
set_option maxHeartbeats 200000 in
theorem XS_ex {T : Sy} {f : Nat → Bool} (h : XS T f = true) : ∃ e, inT T e ∧ f e = true := by
  by_cases q : ∃ e, inT T e ∧ f e = true
  · exact q
  · rw [XS_none (fun e he => by
      cases z : f e with
      | false => rfl
      | true => exact (q ⟨e, he, z⟩).elim)] at h
    cases h
/-- what goes round comes round -/
def Cyc (T : Sy) : Prop := ∀ w : V2 → Bool, XS T (fun e => w (sV T e) ^^ w (sV T (e + 1))) = false
def GD (T : Sy) : Prop := Cyc T ∧ ∀ e, inT T e → sV T e ≠ sV T (e + 1)
def rl (T : Sy) (D : Int) (X : V2) (e : Nat) : V2 := rel (sV T) D X e
def pa (T : Sy) (D : Int) (X s : V2) : Bool := XS T (fun e => cc s (rl T D X e) (rl T D X (e + 1)))
def rf (T : Sy) (D : Int) (X : V2) : Bool := XS T (fun e => cr (rl T D X e) (rl T D X (e + 1)))
/-- the sum over all half-ways that begin at the point -/
noncomputable def hs (T : Sy) (D : Int) (X : V2) (φ : V2 → Bool) : Bool := XS T (fun e => dB (on0 (rl T D X e) (rl T D X (e + 1))) && (φ (rl T D X e) ^^ φ (rl T D X (e + 1))))
set_option maxHeartbeats 200000 in
theorem W_z {s a : V2} (h : zro a) : Wd s a = false := by
  unfold Wd wS
  rw [(sg_zero _).mpr h.1, (sg_zero _).mpr h.2]; rfl
set_option maxHeartbeats 200000 in
theorem on0_z1 {a b : V2} (h : zro a) : on0 a b := ⟨by unfold crs; rw [h.1, h.2]; simp, by unfold dt; rw [h.1, h.2]; simp⟩
set_option maxHeartbeats 200000 in
theorem on0_z2 {a b : V2} (h : zro b) : on0 a b := ⟨by unfold crs; rw [h.1, h.2]; simp, by unfold dt; rw [h.1, h.2]; simp⟩
set_option maxHeartbeats 200000 in
theorem hb_eq {s a b : V2} (h : ¬ (zro a ∧ zro b)) : hb s a b = (dB (on0 a b) && (Wd s a ^^ Wd s b)) := by
  by_cases q : on0 a b
  · rw [dB_t q, Bool.true_and]
    by_cases za : zro a
    · rw [hb_fst za, W_z za, Bool.false_xor]
    · by_cases zb : zro b
      · rw [hb_snd za zb, W_z zb, Bool.xor_false]
      · exact hb_mid za zb q
  · rw [dB_f q, hb_no q]; rfl
set_option maxHeartbeats 200000 in
theorem rl_nz {T : Sy} (G : GD T) {D : Int} (hD : 0 < D) {X : V2} {e : Nat} (he : inT T e) : ¬ (zro (rl T D X e) ∧ zro (rl T D X (e + 1))) := by
  rintro ⟨⟨a1, a2⟩, ⟨b1, b2⟩⟩
  simp only [rl, rel] at a1 a2 b1 b2
  refine G.2 e he (V2_eq.mpr ⟨?_, ?_⟩)
  · have : D * ((sV T e).1 - (sV T (e + 1)).1) = 0 := by grind
    have := Int.mul_eq_zero.mp this; omega
  · have : D * ((sV T e).2 - (sV T (e + 1)).2) = 0 := by grind
    have := Int.mul_eq_zero.mp this; omega
set_option maxHeartbeats 200000 in
theorem cyc_rl {T : Sy} (G : GD T) {D : Int} {X : V2} (w : V2 → Bool) : XS T (fun e => w (rl T D X e) ^^ w (rl T D X (e + 1))) = false := G.1 (fun v => w (D * v.1 - X.1, D * v.2 - X.2))
set_option maxHeartbeats 200000 in
theorem pa_wedge {T : Sy} (G : GD T) {D : Int} (hD : 0 < D) (X : V2) {s : V2} (hs' : nz s) : pa T D X s = (rf T D X ^^ hs T D X (Wd s)) := by
  unfold pa
  rw [XS_congr (g := fun e => ((cr (rl T D X e) (rl T D X (e + 1)) ^^ (Wd s (rl T D X e) ^^ Wd s (rl T D X (e + 1)))) ^^ (dB (on0 (rl T D X e) (rl T D X (e + 1))) && (Wd s (rl T D X e) ^^ Wd s (rl T D X (e + 1)))))) (fun e he => by
    have z := rl_nz G hD (X := X) he
    rw [← hb_eq z]
    exact wed hs' (fun q => z ⟨isZ_iff.mp q.1, isZ_iff.mp q.2⟩))]
  rw [XS_xor, XS_xor, cyc_rl G (Wd s), Bool.xor_false]
  rfl
/-! half-ways come in pairs -/
set_option maxHeartbeats 200000 in
theorem hs_even {T : Sy} (G : GD T) (D : Int) (X : V2) : hs T D X (fun a => dB (nz a)) = false := by
  unfold hs
  rw [← cyc_rl G (D := D) (X := X) (fun a => dB (nz a))]
  refine XS_congr (fun e he => ?_)
  by_cases q : on0 (rl T D X e) (rl T D X (e + 1))
  · rw [dB_t q, Bool.true_and]
  · have h1 : nz (rl T D X e) := fun z => q (on0_z1 z)
    have h2 : nz (rl T D X (e + 1)) := fun z => q (on0_z2 z)
    rw [dB_f q, dB_t h1, dB_t h2]; rfl
/-- g is a half-way that begins at the point -/
def HW (T : Sy) (D : Int) (X g : V2) : Prop := nz g ∧ ∃ e, inT T e ∧ on0 (rl T D X e) (rl T D X (e + 1)) ∧ (g = rl T D X e ∨ g = rl T D X (e + 1))
set_option maxHeartbeats 200000 in
theorem hs_congr {T : Sy} {D : Int} {X : V2} {φ χ : V2 → Bool} (hz : ∀ a, zro a → φ a = χ a) (h : ∀ g, HW T D X g → φ g = χ g) : hs T D X φ = hs T D X χ := by
  refine XS_congr (fun e he => ?_)
  by_cases q : on0 (rl T D X e) (rl T D X (e + 1))
  · have k : ∀ a, (a = rl T D X e ∨ a = rl T D X (e + 1)) → φ a = χ a := by
      intro a ha
      by_cases z : zro a
      · exact hz a z
      · exact h a ⟨z, e, he, q, ha⟩
    rw [k _ (Or.inl rfl), k _ (Or.inr rfl)]
  · rw [dB_f q]; rfl
set_option maxHeartbeats 200000 in
theorem hs_xor (T : Sy) (D : Int) (X : V2) (φ χ : V2 → Bool) : hs T D X (fun a => φ a ^^ χ a) = (hs T D X φ ^^ hs T D X χ) := by
  unfold hs
  rw [← XS_xor]
  refine XS_congr (fun e _ => ?_)
  show (dB (on0 (rl T D X e) (rl T D X (e + 1))) && ((φ (rl T D X e) ^^ χ (rl T D X e)) ^^ (φ (rl T D X (e + 1)) ^^ χ (rl T D X (e + 1))))) = _
  generalize dB (on0 (rl T D X e) (rl T D X (e + 1))) = o
  generalize φ (rl T D X e) = a
  generalize φ (rl T D X (e + 1)) = b
  generalize χ (rl T D X e) = c
  generalize χ (rl T D X (e + 1)) = d
  cases o <;> cases a <;> cases b <;> cases c <;> cases d <;> rfl
set_option maxHeartbeats 200000 in
theorem hs_none {T : Sy} {D : Int} {X : V2} {φ : V2 → Bool} (hz : ∀ a, zro a → φ a = false) (h : ∀ g, HW T D X g → φ g = false) : hs T D X φ = false := by
  rw [hs_congr (χ := fun _ => false) hz h]
  exact XS_none (fun e _ => by rw [Bool.xor_false, Bool.and_false])
/-! two directions with the same half-ways ahead of them, or all between them -/
set_option maxHeartbeats 200000 in
theorem pa_sector {T : Sy} (G : GD T) {D : Int} (hD : 0 < D) {X s g : V2} (hs' : nz s) (hg : nz g) {κ : Bool} (h : ∀ a, HW T D X a → (Wd s a ^^ Wd g a) = κ) : pa T D X s = pa T D X g := by
  rw [pa_wedge G hD X hs', pa_wedge G hD X hg]
  have e : (hs T D X (Wd s) ^^ hs T D X (Wd g)) = false := by
    rw [← hs_xor, hs_congr (χ := fun a => κ && dB (nz a)) (fun a z => by rw [W_z z, W_z z, dB_f (fun q => q z)]; cases κ <;> rfl) (fun a ha => by rw [h a ha, dB_t ha.1, Bool.and_true])]
    have : hs T D X (fun a => κ && dB (nz a)) = (κ && hs T D X (fun a => dB (nz a))) := by
      cases κ with
      | false => exact XS_none (fun e _ => by simp)
      | true => rfl
    rw [this, hs_even G, Bool.and_false]
  revert e
  cases rf T D X <;> cases hs T D X (Wd s) <;> cases hs T D X (Wd g) <;> simp
/-! three directions, by signs -/
def halS (sg : Nat) : Nat := if sg == 0 then 0 else if sg == 1 then 1 else 2
def neaA : Bool := s012.all fun sx => s012.all fun sy => (sx == 1 && sy == 1) || s012.all fun gx => s012.all fun gy => (gx == 1 && gy == 1) || s012.all fun sgs => !okD2 (mulS sx gy) (mulS sy gx) sgs || s012.all fun dsg => !okA2 (mulS sx gx) (mulS sy gy) dsg || (sgs == 1 && dsg == 2) || s012.all fun hx => s012.all fun hy => (hx == 1 && hy == 1) || s012.all fun sh => !okD2 (mulS sx hy) (mulS sy hx) sh || s012.all fun dsh => !okA2 (mulS sx hx) (mulS sy hy) dsh || (sh == 1 && dsh == 2) || s012.all fun gh => !(okD2 (mulS gx hy) (mulS gy hx) gh && ok3 (mulS sgs hy) (mulS gh sy) (ngS (mulS sh gy)) && ok3 (mulS sgs hx) (mulS gh sx) (ngS (mulS sh gx))) || !(halS sgs < halS sh || (halS sgs == halS sh && gh != 2)) ||
  ((wS hx hy sx sy (ngS sh) ^^ wS hx hy gx gy (ngS gh)) == !(wS gx gy sx sy (ngS sgs)))
set_option maxHeartbeats 200000 in
theorem neaA_t : neaA = true := by decide +kernel
def traA : Bool := s012.all fun sx => s012.all fun sy => (sx == 1 && sy == 1) || s012.all fun gx => s012.all fun gy => (gx == 1 && gy == 1) || s012.all fun sgs => !okD2 (mulS sx gy) (mulS sy gx) sgs || s012.all fun hx => s012.all fun hy => (hx == 1 && hy == 1) || s012.all fun sh => !okD2 (mulS sx hy) (mulS sy hx) sh || s012.all fun gh => !(okD2 (mulS gx hy) (mulS gy hx) gh && ok3 (mulS sgs hy) (mulS gh sy) (ngS (mulS sh gy)) && ok3 (mulS sgs hx) (mulS gh sx) (ngS (mulS sh gx))) ||
  !(wS gx gy sx sy (ngS sgs) && wS hx hy gx gy (ngS gh)) || wS hx hy sx sy (ngS sh)
set_option maxHeartbeats 200000 in
theorem traA_t : traA = true := by decide +kernel
set_option maxHeartbeats 200000 in
theorem W_tr {s g h : V2} (hs' : nz s) (hg : nz g) (hh : nz h) (h1 : Wd s g = true) (h2 : Wd g h = true) : Wd s h = true := by
  have h0 := traA_t
  unfold traA at h0
  have t1 := or_r (s012_all (s012_all h0 (sg_lt s.1)) (sg_lt s.2)) (nz_sg hs')
  have t2 := s012_all (or_r (s012_all (s012_all t1 (sg_lt g.1)) (sg_lt g.2)) (nz_sg hg)) (sg_lt (crs s g))
  have e1 : okD2 (mulS (sg s.1) (sg g.2)) (mulS (sg s.2) (sg g.1)) (sg (crs s g)) = true := by rw [← sg_mul, ← sg_mul]; exact okD2_of _ _
  have t3 := or_r t2 (by rw [e1]; rfl)
  have t4 := s012_all (or_r (s012_all (s012_all t3 (sg_lt h.1)) (sg_lt h.2)) (nz_sg hh)) (sg_lt (crs s h))
  have e2 : okD2 (mulS (sg s.1) (sg h.2)) (mulS (sg s.2) (sg h.1)) (sg (crs s h)) = true := by rw [← sg_mul, ← sg_mul]; exact okD2_of _ _
  have t5 := s012_all (or_r t4 (by rw [e2]; rfl)) (sg_lt (crs g h))
  have e3 : okD2 (mulS (sg g.1) (sg h.2)) (mulS (sg g.2) (sg h.1)) (sg (crs g h)) = true := by rw [← sg_mul, ← sg_mul]; exact okD2_of _ _
  have e4 : ok3 (mulS (sg (crs s g)) (sg h.2)) (mulS (sg (crs g h)) (sg s.2)) (ngS (mulS (sg (crs s h)) (sg g.2))) = true := by rw [← sg_mul, ← sg_mul, ← sg_mul, ← sg_ng]; exact ok3_of (crs_gp2 s g h)
  have e5 : ok3 (mulS (sg (crs s g)) (sg h.1)) (mulS (sg (crs g h)) (sg s.1)) (ngS (mulS (sg (crs s h)) (sg g.1))) = true := by rw [← sg_mul, ← sg_mul, ← sg_mul, ← sg_ng]; exact ok3_of (crs_gp1 s g h)
  unfold Wd at h1 h2 ⊢
  rw [crs_sw g s, sg_ng] at h1
  rw [crs_sw h g, sg_ng] at h2
  rw [crs_sw h s, sg_ng]
  rw [e3, e4, e5, h1, h2] at t5
  simpa using t5
/-- the nearest half-way to the right of s: it is met first when s is turned to the right -/
def hal (s g : V2) : Nat := if crs g s > 0 then 0 else if crs g s = 0 then 1 else 2
def dir (g a : V2) : Prop := crs g a = 0 ∧ 0 < dt g a
set_option maxHeartbeats 200000 in
theorem hal_S (s g : V2) : hal s g = halS (sg (crs s g)) := by
  unfold hal halS
  have e : crs g s = -crs s g := crs_sw g s
  rcases sg_cases (crs s g) with ⟨h1, e1⟩ | ⟨h1, e1⟩ | ⟨h1, e1⟩ <;> rw [e1]
  · rw [if_pos (by omega)]; rfl
  · rw [if_neg (by omega), if_pos (by omega)]; rfl
  · rw [if_neg (by omega), if_neg (by omega)]; rfl
set_option maxHeartbeats 200000 in
theorem dir_f {s a : V2} (h : ¬ dir s a) : (sg (crs s a) == 1 && sg (dt s a) == 2) = false := by
  rw [Bool.and_eq_false_iff]
  by_cases q : crs s a = 0
  · right
    have : sg (dt s a) ≠ 2 := fun e => h ⟨q, (sg_pos _).mp e⟩
    simpa using this
  · left
    have : sg (crs s a) ≠ 1 := fun e => q ((sg_zero _).mp e)
    simpa using this
set_option maxHeartbeats 200000 in
theorem W_near {s g h : V2} (hs' : nz s) (hg : nz g) (hh : nz h) (a1 : ¬ dir s g) (a2 : ¬ dir s h) (hn : hal s g < hal s h ∨ (hal s g = hal s h ∧ crs g h ≤ 0)) : (Wd s h ^^ Wd g h) = !(Wd s g) := by
  have h0 := neaA_t
  unfold neaA at h0
  have t1 := or_r (s012_all (s012_all h0 (sg_lt s.1)) (sg_lt s.2)) (nz_sg hs')
  have t2 := s012_all (or_r (s012_all (s012_all t1 (sg_lt g.1)) (sg_lt g.2)) (nz_sg hg)) (sg_lt (crs s g))
  have e1 : okD2 (mulS (sg s.1) (sg g.2)) (mulS (sg s.2) (sg g.1)) (sg (crs s g)) = true := by rw [← sg_mul, ← sg_mul]; exact okD2_of _ _
  have t3 := s012_all (or_r t2 (by rw [e1]; rfl)) (sg_lt (dt s g))
  have e2 : okA2 (mulS (sg s.1) (sg g.1)) (mulS (sg s.2) (sg g.2)) (sg (dt s g)) = true := by rw [← sg_mul, ← sg_mul]; exact okA2_of _ _
  rw [e2, dir_f a1, Bool.not_true, Bool.false_or, Bool.false_or] at t3
  have t4 := s012_all (or_r (s012_all (s012_all t3 (sg_lt h.1)) (sg_lt h.2)) (nz_sg hh)) (sg_lt (crs s h))
  have e3 : okD2 (mulS (sg s.1) (sg h.2)) (mulS (sg s.2) (sg h.1)) (sg (crs s h)) = true := by rw [← sg_mul, ← sg_mul]; exact okD2_of _ _
  have t5 := s012_all (or_r t4 (by rw [e3]; rfl)) (sg_lt (dt s h))
  have e4 : okA2 (mulS (sg s.1) (sg h.1)) (mulS (sg s.2) (sg h.2)) (sg (dt s h)) = true := by rw [← sg_mul, ← sg_mul]; exact okA2_of _ _
  rw [e4, dir_f a2, Bool.not_true, Bool.false_or, Bool.false_or] at t5
  have t6 := s012_all t5 (sg_lt (crs g h))
  have e5 : okD2 (mulS (sg g.1) (sg h.2)) (mulS (sg g.2) (sg h.1)) (sg (crs g h)) = true := by rw [← sg_mul, ← sg_mul]; exact okD2_of _ _
  have e6 : ok3 (mulS (sg (crs s g)) (sg h.2)) (mulS (sg (crs g h)) (sg s.2)) (ngS (mulS (sg (crs s h)) (sg g.2))) = true := by rw [← sg_mul, ← sg_mul, ← sg_mul, ← sg_ng]; exact ok3_of (crs_gp2 s g h)
  have e7 : ok3 (mulS (sg (crs s g)) (sg h.1)) (mulS (sg (crs g h)) (sg s.1)) (ngS (mulS (sg (crs s h)) (sg g.1))) = true := by rw [← sg_mul, ← sg_mul, ← sg_mul, ← sg_ng]; exact ok3_of (crs_gp1 s g h)
  have e8 : (decide (halS (sg (crs s g)) < halS (sg (crs s h))) || (halS (sg (crs s g)) == halS (sg (crs s h)) && sg (crs g h) != 2)) = true := by
    rw [← hal_S, ← hal_S]
    rcases hn with hn | ⟨hn, hm⟩
    · rw [decide_eq_true hn]; rfl
    · have : sg (crs g h) ≠ 2 := fun e => by have := (sg_pos _).mp e; omega
      rw [hn]
      simp [this]
  rw [e5, e6, e7, e8] at t6
  have t7 : ((wS (sg h.1) (sg h.2) (sg s.1) (sg s.2) (ngS (sg (crs s h))) ^^ wS (sg h.1) (sg h.2) (sg g.1) (sg g.2) (ngS (sg (crs g h)))) == !(wS (sg g.1) (sg g.2) (sg s.1) (sg s.2) (ngS (sg (crs s g))))) = true := by simpa using t6
  rw [beq_iff_eq] at t7
  unfold Wd
  rw [crs_sw h s, sg_ng, crs_sw h g, sg_ng, crs_sw g s, sg_ng]
  exact t7
set_option maxHeartbeats 200000 in
theorem W_dir {s a : V2} (hs' : nz s) (ha : nz a) (h : dir s a) : Wd s a = true := by
  have key : ∀ b : V2, nz b → Wd s b = Wd a b → True := fun _ _ _ => trivial
  -- dt s s • a = dt s a • s
  have e1 : ((dt s a) * s.1, (dt s a) * s.2) = ((dt s s) * a.1, (dt s s) * a.2) := by
    have hc := h.1
    refine Prod.ext ?_ ?_
    · show dt s a * s.1 = dt s s * a.1
      have : dt s a * s.1 - dt s s * a.1 = crs s a * s.2 := by clear hc h; unfold dt crs; grind
      rw [hc, Int.zero_mul] at this; omega
    · show dt s a * s.2 = dt s s * a.2
      have : dt s a * s.2 - dt s s * a.2 = -(crs s a * s.1) := by clear hc h; unfold dt crs; grind
      rw [hc, Int.zero_mul] at this; omega
  have w1 : Wd s ((dt s a) * s.1, (dt s a) * s.2) = Wd s s := W_sc h.2
  have w2 : Wd s ((dt s s) * a.1, (dt s s) * a.2) = Wd s a := W_sc (dt_pos hs')
  rw [← w2, ← e1, w1, W_self hs']
set_option maxHeartbeats 200000 in
theorem dir_sym {s a : V2} (h : dir s a) : dir a s := ⟨by rw [crs_sw, h.1]; rfl, by have := h.2; unfold dt at *; rw [Int.mul_comm a.1, Int.mul_comm a.2]; exact this⟩

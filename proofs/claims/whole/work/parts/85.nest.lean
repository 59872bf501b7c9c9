/-! GEOMETRY: rows that meet nowhere -/
set_option maxHeartbeats 200000 in
theorem ex0_nz : nz ex0 := fun z => absurd z.1 (by decide)
set_option maxHeartbeats 200000 in
theorem pa_free {T : Sy} (G : GD T) {D : Int} (hD : 0 < D) {X : V2} (h : ∀ g, ¬ HW T D X g) {s t : V2} (hs' : nz s) (ht : nz t) : pa T D X s = pa T D X t := by
  rw [pa_wedge G hD X hs', pa_wedge G hD X ht, hs_none (fun a z => W_z z) (fun g hg => (h g hg).elim), hs_none (fun a z => W_z z) (fun g hg => (h g hg).elim)]
set_option maxHeartbeats 200000 in
theorem al_free {T : Sy} {D : Int} {X : V2} (h : ∀ g, ¬ HW T D X g) (s : V2) : al T D X s = false := hs_none (fun a z => dB_f (dir_z z)) (fun g hg => (h g hg).elim)
set_option maxHeartbeats 200000 in
theorem way_still {T : Sy} (G : GD T) {P Q : V2} (hPQ : P ≠ Q) (h : ∀ p D, 0 ≤ p → p ≤ D → 0 < D → ∀ g, ¬ HW T (D * 1) (pX P Q p D) g) : ∀ p D, 0 ≤ p → p ≤ D → 0 < D → ∀ s, nz s → pa T (D * 1) (pX P Q p D) s = pa T 1 P ex0 := by
  have nd := nz_sub hPQ
  have still : ∀ p D, 0 < p → p < D → (Lv T P Q p D ^^ Av T P Q p D) = false := by
    intro p D hp hD
    unfold Lv Av paT
    rw [al_free (h p D (by omega) (by omega) (by omega)), Bool.xor_false, pa_free G (by omega) (h p D (by omega) (by omega) (by omega)) (ng_nz nd) nd, Bool.xor_self]
  have all : ∀ p D, 0 ≤ p → p < D → Lv T P Q p D = Av T P Q 1 1 := by
    intro p D hp hD
    have := jw G hPQ (L := []) (by simp) (fun p D a b y => by rw [still p D a b] at y; cases y) _ p D hp hD rfl
    rw [xl] at this
    revert this
    cases Lv T P Q p D <;> cases Av T P Q 1 1 <;> simp
  have f0 : pa T 1 P ex0 = Av T P Q 1 1 := by
    have e := all 0 1 (by omega) (by omega)
    have hf := h 0 1 (by omega) (by omega) (by omega)
    unfold Lv paT at e
    rw [pX_0] at e hf
    rw [← e]
    exact pa_free G (by omega) hf ex0_nz nd
  intro p D hp hD h0 s hs'
  rw [f0, pa_free G (by omega) (h p D hp hD h0) hs' (ng_nz nd)]
  by_cases z : p < D
  · rw [← all p D hp z, pa_free G (by omega) (h p D hp hD h0) (ng_nz nd) nd]; rfl
  · have : p = D := by omega
    subst this
    have one : pX P Q p p = scV p (pX P Q 1 1) := by unfold pX at2 scV sub2; refine Prod.ext ?_ ?_ <;> simp only <;> grind
    rw [one, pa_sc T h0]
    unfold Av
    rw [al_free (h 1 1 (by omega) (by omega) (by omega)), Bool.xor_false]
    rfl
set_option maxHeartbeats 200000 in
theorem row_still {T : Sy} (G : GD T) {V : Nat → V2} {lo m : Nat} (hne : ∀ e, lo ≤ e → e < lo + m → V e ≠ V (e + 1)) (h : ∀ e, lo ≤ e → e < lo + m → ∀ p D, 0 ≤ p → p ≤ D → 0 < D → ∀ g, ¬ HW T (D * 1) (pX (V e) (V (e + 1)) p D) g) : ∀ e, lo ≤ e → e < lo + m → ∀ p D, 0 ≤ p → p ≤ D → 0 < D → ∀ s, nz s → pa T (D * 1) (pX (V e) (V (e + 1)) p D) s = pa T 1 (V lo) ex0 := by
  have st : ∀ k, k < m → pa T 1 (V (lo + k)) ex0 = pa T 1 (V lo) ex0 := by
    intro k
    induction k with
    | zero => intro _; rfl
    | succ k ih =>
      intro hk
      rw [← ih (by omega)]
      have w := way_still G (hne (lo + k) (by omega) (by omega)) (h (lo + k) (by omega) (by omega)) 1 1 (by omega) (by omega) (by omega) ex0 ex0_nz
      have ep : pX (V (lo + k)) (V (lo + k + 1)) 1 1 = V (lo + k + 1) := by unfold pX at2 sub2; refine Prod.ext ?_ ?_ <;> simp only <;> omega
      rw [ep] at w
      exact w
  intro e h1 h2 p D hp hD h0 s hs'
  rw [way_still G (hne e h1 h2) (h e h1 h2) p D hp hD h0 s hs']
  have := st (e - lo) (by omega)
  rw [show lo + (e - lo) = e by omega] at this
  exact this
/-! two shapes with no common point of ways -/
def cmW (c d : Ct) : Prop := ∃ i j, wy c i ∧ wy d j ∧ cmn (cV c i) (cV c (i + 1)) (cV d j) (cV d (j + 1))
set_option maxHeartbeats 200000 in
theorem cmW_sym {c d : Ct} (h : cmW c d) : cmW d c := by
  obtain ⟨i, j, h1, h2, h3⟩ := h
  exact ⟨j, i, h2, h1, cmn_sym h3⟩
set_option maxHeartbeats 200000 in
theorem no_HW {c d : Ct} (h : ¬ cmW c d) {i : Nat} (hi : wy c i) {p D : Int} (hp : 0 ≤ p) (hD : p ≤ D) (h0 : 0 < D) : ∀ g, ¬ HW (TC d) (D * 1) (pX (cV c i) (cV c (i + 1)) p D) g := by
  rintro g ⟨_, e, he, ho, _⟩
  refine h ⟨i, e, hi, inTC.mp he, D, pX (cV c i) (cV c (i + 1)) p D, h0, on_way _ _ hp hD, ?_⟩
  rw [D1] at ho
  exact ho
set_option maxHeartbeats 200000 in
theorem TG_TC {d : Ct} (G : WF d) (hk : cK d ≠ 0) {q : Nat} (hq : q < cR d) {D : Int} {X g : V2} (h : HW (TG d q) D X g) : HW (TC d) D X g := (HW_TC G hk).mpr ⟨q, hq, h⟩
set_option maxHeartbeats 200000 in
theorem ring_val {c d : Ct} (hc : Good c) (h : ¬ cmW c d) {r : Nat} (hr : r < cR c) {T : Sy} (G : GD T) (hT : ∀ D X g, HW T D X g → HW (TC d) D X g) : ∀ D X g, 0 < D → HW (TG c r) D X g → al T D X g = false ∧ pa T D X g = pa T 1 (cV c (sr c r)) ex0 := by
  intro D X g hD hg
  have hS := hc.2.2.1 r hr
  obtain ⟨e, N, p, e1, e2, n1, n2, n3, n4, n5⟩ := HW_par hS hD hg
  have hND : 0 < N * D := Int.mul_pos n1 hD
  have fr : ∀ e, sr c r ≤ e → e < sr c r + ml c r → ∀ p D, 0 ≤ p → p ≤ D → 0 < D → ∀ g, ¬ HW T (D * 1) (pX (cV c e) (cV c (e + 1)) p D) g :=
    fun e a b p D hp hD h0 g hg => no_HW h (wy_ring' hc.1 hc.k hr a b) hp hD h0 g (hT _ _ _ hg)
  have k := row_still (V := cV c) G (fun e a b => ND_r hS ⟨a, b⟩) fr e e1 e2 p (N * D) n2 n3 hND g hg.1
  have f := fr e e1 e2 p (N * D) n2 n3 hND
  rw [D1, ← n4] at k f
  rw [pa_sc T n1] at k
  refine ⟨?_, k⟩
  have := al_free f g
  rw [al_sc T n1] at this
  exact this
def RSd (R S : Sy) (v : Bool) : Prop := ∀ D X g, 0 < D → HW R D X g → al S D X g = false ∧ pa S D X g = v
set_option maxHeartbeats 200000 in
theorem RSd_sub {R S : Sy} (GR : GD R) (GS : GD S) (h : RSd R S true) (k : RSd S R false) {D : Int} (hD : 0 < D) (X : V2) {s : V2} (hs' : nz s) (hx : pa R D X s = true) : pa S D X s = true := by
  have := Psi (ψ := fun x y _ => x && !y) (T := (R, S, S)) ⟨GR, GS, GS⟩ (fun D X hD g hg => ?_) hD X hs'
  · have t : (pa R D X s && !pa S D X s) = false := this
    rw [hx] at t
    revert t
    cases pa S D X s <;> simp
  · show (pa R D X g && !pa S D X g) = ((pa R D X g ^^ al R D X g) && !(pa S D X g ^^ al S D X g))
    rcases hg with hg | hg | hg
    · obtain ⟨a, b⟩ := h D X g hD hg
      rw [a, b]; simp
    · obtain ⟨a, b⟩ := k D X g hD hg
      rw [a, b]; rfl
    · obtain ⟨a, b⟩ := k D X g hD hg
      rw [a, b]; rfl
set_option maxHeartbeats 200000 in
theorem RSd_apart {R S : Sy} (GR : GD R) (GS : GD S) (h : RSd R S false) (k : RSd S R false) {D : Int} (hD : 0 < D) (X : V2) {s : V2} (hs' : nz s) (hx : pa R D X s = true) : pa S D X s = false := by
  have := Psi (ψ := fun x y _ => x && y) (T := (R, S, S)) ⟨GR, GS, GS⟩ (fun D X hD g hg => ?_) hD X hs'
  · have t : (pa R D X s && pa S D X s) = false := this
    rw [hx] at t
    exact t
  · show (pa R D X g && pa S D X g) = ((pa R D X g ^^ al R D X g) && (pa S D X g ^^ al S D X g))
    rcases hg with hg | hg | hg
    · obtain ⟨a, b⟩ := h D X g hD hg
      rw [a, b]; simp
    · obtain ⟨a, b⟩ := k D X g hD hg
      rw [a, b]; rfl
    · obtain ⟨a, b⟩ := k D X g hD hg
      rw [a, b]; rfl
/-! a hole in the other, and neither outline in the other, is impossible -/
set_option maxHeartbeats 200000 in
theorem nest {c d : Ct} (hc : Good c) (hd : Good d) (h : ¬ cmW c d) (k1 : pa (TC d) 1 (cV c 0) ex0 = false) (k2 : pa (TC c) 1 (cV d 0) ex0 = false) {r : Nat} (hr : r < cR c) : pa (TC d) 1 (cV c (sr c r)) ex0 = false := by
  have h' : ¬ cmW d c := fun y => h (cmW_sym y)
  have c0 : 0 < cR c := by omega
  have d0 : 0 < cR d := by have := hd.1.r; omega
  have Sc := hc.2.2.1
  have Sd := hd.2.2.1
  have sr0 : ∀ x : Ct, sr x 0 = 0 := fun x => by unfold sr; rw [if_pos rfl]
  -- rings of the one against rings of the other
  have cd : ∀ r q, r < cR c → q < cR d → RSd (TG c r) (TG d q) (pa (TG d q) 1 (cV c (sr c r)) ex0) := fun r q hr hq => ring_val hc h hr (GD_TG (Sd q hq)) (fun D X g => TG_TC hd.1 hd.k hq)
  have dc : ∀ q r, q < cR d → r < cR c → RSd (TG d q) (TG c r) (pa (TG c r) 1 (cV d (sr d q)) ex0) := fun q r hq hr => ring_val hd h' hq (GD_TG (Sc r hr)) (fun D X g => TG_TC hc.1 hc.k hr)
  have na : ∀ r q, r < cR c → q < cR d → NA (TG c r) (TG d q) := by
    intro r q hr hq D X a b hD ha hb dab
    have z := (cd r q hr hq D X a hD ha).1
    rw [al_dir dab, al_ring (Sd q hq) hD hb] at z
    cases z
  cases val : pa (TC d) 1 (cV c (sr c r)) ex0 with
  | false => rfl
  | true =>
    exfalso
    have r0 : r ≠ 0 := fun z => by rw [z, sr0, k1] at val; cases val
    -- a half-way of that ring
    have hm := (Sc r hr).1
    obtain ⟨g, hg, _⟩ := HW_forth (p := 0) (D := 1) (Sc r hr) (Nat.le_refl _) (show sr c r < sr c r + ml c r by omega) (by omega) (by omega)
    have hX : (0 : Int) < 1 * 1 := by omega
    have vg := (ring_val hc h hr hd.gd (fun D X g h => h) _ _ g hX hg).2
    rw [val] at vg
    obtain ⟨b0, bq⟩ := (pa_in hd.1 hd.k Sd hd.2.2.2 hX _ hg.1).mp vg
    have a0 := (hc.2.2.2 r 0 hr c0 r0).2 _ _ g hX hg
    rw [decide_eq_true rfl] at a0
    -- where the outline of d lies
    have hb : pa (TG c 0) 1 (cV d 0) ex0 = false ∨ ∃ p, p < cR c ∧ p ≠ 0 ∧ pa (TG c p) 1 (cV d 0) ex0 = true := by
      refine Classical.byContradiction (fun n => ?_)
      have t : pa (TC c) 1 (cV d 0) ex0 = true := (pa_in hc.1 hc.k Sc hc.2.2.2 (by omega) _ ex0_nz).mpr ⟨by
        cases z : pa (TG c 0) 1 (cV d 0) ex0 with
        | true => rfl
        | false => exact (n (Or.inl z)).elim, fun q q1 q2 => by
        cases z : pa (TG c q) 1 (cV d 0) ex0 with
        | false => rfl
        | true => exact (n (Or.inr ⟨q, q1, q2, z⟩)).elim⟩
      rw [k2] at t; cases t
    have ha : pa (TG d 0) 1 (cV c 0) ex0 = false ∨ ∃ q, q < cR d ∧ q ≠ 0 ∧ pa (TG d q) 1 (cV c 0) ex0 = true := by
      refine Classical.byContradiction (fun n => ?_)
      have t : pa (TC d) 1 (cV c 0) ex0 = true := (pa_in hd.1 hd.k Sd hd.2.2.2 (by omega) _ ex0_nz).mpr ⟨by
        cases z : pa (TG d 0) 1 (cV c 0) ex0 with
        | true => rfl
        | false => exact (n (Or.inl z)).elim, fun q q1 q2 => by
        cases z : pa (TG d q) 1 (cV c 0) ex0 with
        | false => rfl
        | true => exact (n (Or.inr ⟨q, q1, q2, z⟩)).elim⟩
      rw [k1] at t; cases t
    have rb : RSd (TG c r) (TG d 0) true := by
      have t := cd r 0 hr d0
      have e := (t _ _ g hX hg).2
      rw [b0] at e
      rw [← e] at t
      exact t
    rcases hb with hb | ⟨p, p1, p2, hb⟩
    · have s1 : RSd (TG d 0) (TG c 0) false := by have t := dc 0 0 d0 c0; rw [sr0, hb] at t; exact t
      rcases ha with ha | ⟨q, q1, q2, ha⟩
      · have s2 : RSd (TG c 0) (TG d 0) false := by have t := cd 0 0 c0 d0; rw [sr0, ha] at t; exact t
        have := RSd_apart (GD_TG (Sc 0 c0)) (GD_TG (Sd 0 d0)) s2 s1 hX _ hg.1 a0
        rw [b0] at this; cases this
      · have s2 : RSd (TG c 0) (TG d q) true := by have t := cd 0 q c0 q1; rw [sr0, ha] at t; exact t
        have s3 : RSd (TG d q) (TG c 0) false := fun D X g' hD hg' => ⟨(dc q 0 q1 c0 D X g' hD hg').1, ring_in (Sd q q1) (Sc 0 c0) (na 0 q c0 q1).sym (fun D X g hD hg => (s2 D X g hD hg).2) D X g' hD hg'⟩
        have := RSd_sub (GD_TG (Sc 0 c0)) (GD_TG (Sd q q1)) s2 s3 hX _ hg.1 a0
        rw [bq q q1 q2] at this; cases this
    · have s1 : RSd (TG d 0) (TG c p) true := by have t := dc 0 p d0 p1; rw [sr0, hb] at t; exact t
      have s2 : RSd (TG c p) (TG d 0) false := fun D X g' hD hg' => ⟨(cd p 0 p1 d0 D X g' hD hg').1, ring_in (Sc p p1) (Sd 0 d0) (na p 0 p1 d0) (fun D X g hD hg => (s1 D X g hD hg).2) D X g' hD hg'⟩
      by_cases z : p = r
      · subst z
        have e := (s2 _ _ g hX hg).2
        rw [b0] at e; cases e
      · have := RSd_sub (GD_TG (Sd 0 d0)) (GD_TG (Sc p p1)) s1 s2 hX _ hg.1 b0
        rw [(hc.2.2.2 r p hr p1 (fun y => z y.symm)).2 _ _ g hX hg, decide_eq_false p2] at this
        cases this

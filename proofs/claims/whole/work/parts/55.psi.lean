/-! along a line, and round a point -/
def at2 (X s : V2) (E q : Int) : V2 := (E * X.1 + q * s.1, E * X.2 + q * s.2)
set_option maxHeartbeats 200000 in
theorem rl_at2 (T : Sy) (D : Int) (X s : V2) (E q : Int) (e : Nat) : rl T (E * D) (at2 X s E q) e = pq s E q (rl T D X e) := by
  unfold rl rel at2 pq; refine Prod.ext ?_ ?_ <;> simp only <;> grind
def xT (T : Sy) (D : Int) (X s : V2) (e : Nat) : Bool := xg s (rl T D X e) (rl T D X (e + 1))
def nT (T : Sy) (D : Int) (X s : V2) (e : Nat) : Int := nu s (rl T D X e) (rl T D X (e + 1))
def dT (T : Sy) (D : Int) (X s : V2) (e : Nat) : Int := de s (rl T D X e) (rl T D X (e + 1))
set_option maxHeartbeats 200000 in
theorem dT_pos {T : Sy} {D : Int} {X s : V2} {e : Nat} (h : xT T D X s e = true) : 0 < dT T D X s e := de_pos h
set_option maxHeartbeats 200000 in
theorem pa_line (T : Sy) (D : Int) (X s : V2) {E : Int} (hE : 0 < E) (q : Int) : pa T (E * D) (at2 X s E q) s = XS T (fun e => xT T D X s e && decide (q * dT T D X s e < E * nT T D X s e)) := by
  unfold pa
  refine XS_congr (fun e _ => ?_)
  rw [rl_at2, rl_at2, cc_pq hE]
  rfl
set_option maxHeartbeats 200000 in
theorem at2_ng (X s : V2) (E q : Int) : at2 X s E q = at2 X (ng s) E (-q) := by
  unfold at2 ng; refine Prod.ext ?_ ?_ <;> simp only <;> grind
set_option maxHeartbeats 200000 in
theorem fin_bd (f : Nat → Int) (lo m : Nat) : ∃ B : Int, 0 < B ∧ ∀ e, lo ≤ e → e < lo + m → f e < B := by
  induction m with
  | zero => exact ⟨1, by omega, fun e a b => by omega⟩
  | succ m ih =>
    obtain ⟨B, h1, h2⟩ := ih
    refine ⟨max B (f (lo + m) + 1), by omega, fun e a b => ?_⟩
    by_cases q : e = lo + m
    · subst q; omega
    · have := h2 e a (by omega); omega
/-! just ahead of the part q / E -/
set_option maxHeartbeats 200000 in
theorem lim_R (T : Sy) (D : Int) (X s : V2) : ∃ B : Int, 0 < B ∧ ∀ E q K, 0 < E → B ≤ K → pa T (E * K * D) (at2 X s (E * K) (q * K - 1)) (ng s) = pa T (E * D) (at2 X s E q) (ng s) ∧ pa T (E * K * D) (at2 X s (E * K) (q * K - 1)) s = XS T (fun e => xT T D X s e && decide (q * dT T D X s e ≤ E * nT T D X s e)) := by
  obtain ⟨B1, p1, h1⟩ := fin_bd (fun e => dT T D X s e) (sL T) (sM T)
  obtain ⟨B2, p2, h2⟩ := fin_bd (fun e => dT T D X (ng s) e) (sL T) (sM T)
  refine ⟨max B1 B2, by omega, fun E q K hE hK => ⟨?_, ?_⟩⟩
  · rw [at2_ng, at2_ng X s E q, pa_line T D X (ng s) (Int.mul_pos hE (by omega)), pa_line T D X (ng s) hE]
    refine XS_congr (fun e he => ?_)
    cases hx : xT T D X (ng s) e with
    | false => rfl
    | true =>
      have hd := dT_pos hx
      have hb := h2 e he.1 he.2.1
      rw [Bool.true_and, Bool.true_and]
      apply decide_eq_decide.mpr
      generalize dT T D X (ng s) e = d at *
      generalize nT T D X (ng s) e = v at *
      have e1 : -(q * K - 1) * d < E * K * v ↔ d < K * (E * v + q * d) := by
        have : K * (E * v + q * d) = E * K * v + q * K * d := by grind
        have : -(q * K - 1) * d = d - q * K * d := by grind
        omega
      have e2 : -q * d < E * v ↔ 0 < E * v + q * d := by
        have : -q * d = -(q * d) := by grind
        omega
      rw [e1, e2]
      generalize E * v + q * d = t
      constructor
      · intro h
        by_cases z : 0 < t
        · exact z
        · have : K * t ≤ 0 := Int.mul_nonpos_of_nonneg_of_nonpos (by omega) (by omega)
          omega
      · intro h
        have : K * 1 ≤ K * t := Int.mul_le_mul_of_nonneg_left (by omega) (by omega)
        omega
  · rw [pa_line T D X s (Int.mul_pos hE (by omega))]
    refine XS_congr (fun e he => ?_)
    cases hx : xT T D X s e with
    | false => rfl
    | true =>
      have hd := dT_pos hx
      have hb := h1 e he.1 he.2.1
      rw [Bool.true_and, Bool.true_and]
      apply decide_eq_decide.mpr
      generalize dT T D X s e = d at *
      generalize nT T D X s e = v at *
      have e1 : (q * K - 1) * d < E * K * v ↔ K * (q * d - E * v) < d := by
        have : K * (q * d - E * v) = q * K * d - E * K * v := by grind
        have : (q * K - 1) * d = q * K * d - d := by grind
        omega
      rw [e1]
      have e2 : q * d ≤ E * v ↔ q * d - E * v ≤ 0 := by omega
      rw [e2]
      generalize q * d - E * v = t
      constructor
      · intro h
        by_cases z : t ≤ 0
        · exact z
        · have : K * 1 ≤ K * t := Int.mul_le_mul_of_nonneg_left (by omega) (by omega)
          omega
      · intro h
        have : K * t ≤ 0 := Int.mul_nonpos_of_nonneg_of_nonpos (by omega) (by omega)
        omega
/-! round a point -/
noncomputable def al (T : Sy) (D : Int) (X g : V2) : Bool := hs T D X (fun a => dB (dir g a))
set_option maxHeartbeats 200000 in
theorem dir_z {g a : V2} (h : zro a) : ¬ dir g a := fun q => by have := q.2; unfold dt at this; rw [h.1, h.2] at this; omega
abbrev S3 : Type := Sy × Sy × Sy
def HA (T : S3) (D : Int) (X g : V2) : Prop := HW T.1 D X g ∨ HW T.2.1 D X g ∨ HW T.2.2 D X g
def GD3 (T : S3) : Prop := GD T.1 ∧ GD T.2.1 ∧ GD T.2.2
def pa3 (ψ : Bool → Bool → Bool → Bool) (T : S3) (D : Int) (X s : V2) : Bool := ψ (pa T.1 D X s) (pa T.2.1 D X s) (pa T.2.2 D X s)
def rf3 (ψ : Bool → Bool → Bool → Bool) (T : S3) (D : Int) (X : V2) : Bool := ψ (rf T.1 D X) (rf T.2.1 D X) (rf T.2.2 D X)
/-- nothing is told apart by a half-way -/
def NoC (ψ : Bool → Bool → Bool → Bool) (T : S3) (D : Int) (X : V2) : Prop := ∀ g, HA T D X g → pa3 ψ T D X g = ψ (pa T.1 D X g ^^ al T.1 D X g) (pa T.2.1 D X g ^^ al T.2.1 D X g) (pa T.2.2 D X g ^^ al T.2.2 D X g)
def vl (T : Sy) (D : Int) (X : V2) : List V2 := (List.range (sL T + sM T + 1)).map (rl T D X)
set_option maxHeartbeats 200000 in
theorem HW_vl {T : Sy} {D : Int} {X g : V2} (h : HW T D X g) : g ∈ vl T D X := by
  obtain ⟨-, e, he, -, h⟩ := h
  unfold vl
  rw [List.mem_map]
  have := he.2.1
  rcases h with h | h
  · exact ⟨e, List.mem_range.mpr (by omega), h.symm⟩
  · exact ⟨e + 1, List.mem_range.mpr (by omega), h.symm⟩
/-! the last of some directions -/
set_option maxHeartbeats 200000 in
theorem W_max (L : List V2) (p : V2 → Prop) (hp : ∀ g, p g → nz g) : (∃ g, g ∈ L ∧ p g) → ∃ g, p g ∧ ∀ h, h ∈ L → p h → Wd g h = true := by
  induction L with
  | nil => rintro ⟨g, h, _⟩; exact absurd h (by simp)
  | cons x L ih =>
    rintro ⟨g, hg, pg⟩
    by_cases q : ∃ g, g ∈ L ∧ p g
    · obtain ⟨m, pm, hm⟩ := ih q
      by_cases px : p x
      · by_cases w : Wd m x = true
        · refine ⟨m, pm, fun h hh ph => ?_⟩
          rcases List.mem_cons.mp hh with rfl | hh
          · exact w
          · exact hm h hh ph
        · have wx : Wd x m = true := by
            by_cases d : dir m x
            · exact (w (W_dir (hp m pm) (hp x px) d)).elim
            · have := W_sw (hp m pm) (hp x px) d
              cases z : Wd m x with
              | true => exact (w z).elim
              | false => rw [z] at this; simpa using this
          refine ⟨x, px, fun h hh ph => ?_⟩
          rcases List.mem_cons.mp hh with rfl | hh
          · exact W_self (hp h px)
          · exact W_tr (hp x px) (hp m pm) (hp h ph) wx (hm h hh ph)
      · refine ⟨m, pm, fun h hh ph => ?_⟩
        rcases List.mem_cons.mp hh with rfl | hh
        · exact (px ph).elim
        · exact hm h hh ph
    · rcases List.mem_cons.mp hg with rfl | hg
      · refine ⟨g, pg, fun h hh ph => ?_⟩
        rcases List.mem_cons.mp hh with rfl | hh
        · exact W_self (hp h pg)
        · exact (q ⟨h, hh, ph⟩).elim
      · exact (q ⟨g, hg, pg⟩).elim
set_option maxHeartbeats 200000 in
theorem cnt_lt {α : Type} (L : List α) (p q : α → Bool) (h : ∀ x, x ∈ L → p x = true → q x = true) (hx : ∃ x, x ∈ L ∧ q x = true ∧ p x = false) : L.countP p < L.countP q := by
  induction L with
  | nil => obtain ⟨x, a, _⟩ := hx; exact absurd a (by simp)
  | cons y L ih =>
    have hle : L.countP p ≤ L.countP q := List.countP_mono_left (fun x hx => h x (List.mem_cons_of_mem _ hx))
    rw [List.countP_cons, List.countP_cons]
    by_cases z : ∃ x, x ∈ L ∧ q x = true ∧ p x = false
    · have := ih (fun x hx => h x (List.mem_cons_of_mem _ hx)) z
      by_cases w : p y = true
      · rw [if_pos w, if_pos (h y (List.mem_cons_self ..) w)]; omega
      · rw [if_neg w]; split <;> omega
    · obtain ⟨x, a, b, c⟩ := hx
      rcases List.mem_cons.mp a with rfl | a
      · rw [if_neg (by rw [c]; decide), if_pos b]; omega
      · exact (z ⟨x, a, b, c⟩).elim
set_option maxHeartbeats 200000 in
theorem HA_nz {T : S3} {D : Int} {X g : V2} (h : HA T D X g) : nz g := by rcases h with h | h | h <;> exact h.1
/-! turned round a point nothing changes -/
set_option maxHeartbeats 200000 in
theorem rot {ψ : Bool → Bool → Bool → Bool} {T : S3} (G : GD3 T) {D : Int} (hD : 0 < D) {X : V2} (hN : NoC ψ T D X) : ∀ s, nz s → pa3 ψ T D X s = rf3 ψ T D X := by
  have main : ∀ k s, nz s → (vl T.1 D X ++ (vl T.2.1 D X ++ vl T.2.2 D X)).countP (fun h => dB (HA T D X h ∧ Wd s h = true)) = k → pa3 ψ T D X s = rf3 ψ T D X := by
    intro k
    induction k using Nat.strongRecOn with
    | ind k ih =>
      intro s hs' hk
      have inL : ∀ h, HA T D X h → h ∈ vl T.1 D X ++ (vl T.2.1 D X ++ vl T.2.2 D X) := by
        intro h hh
        rw [List.mem_append, List.mem_append]
        rcases hh with hh | hh | hh
        · exact Or.inl (HW_vl hh)
        · exact Or.inr (Or.inl (HW_vl hh))
        · exact Or.inr (Or.inr (HW_vl hh))
      by_cases q : ∃ h, HA T D X h ∧ Wd s h = true
      · obtain ⟨h0, hh0, w0⟩ := q
        obtain ⟨g, ⟨pg1, pg2⟩, hg⟩ := W_max _ (fun h => HA T D X h ∧ Wd s h = true) (fun g h => HA_nz h.1) ⟨h0, inL h0 hh0, hh0, w0⟩
        have ng' := HA_nz pg1
        have same : ∀ h, HA T D X h → (Wd s h ^^ Wd g h) = false := by
          intro h hh
          cases z1 : Wd s h with
          | true => rw [hg h (inL h hh) ⟨hh, z1⟩]; rfl
          | false =>
            cases z2 : Wd g h with
            | false => rfl
            | true => rw [W_tr hs' ng' (HA_nz hh) pg2 z2] at z1; cases z1
        have e1 : pa3 ψ T D X s = pa3 ψ T D X g := by
          unfold pa3
          rw [pa_sector G.1 hD hs' ng' (fun a h => same a (Or.inl h)), pa_sector G.2.1 hD hs' ng' (fun a h => same a (Or.inr (Or.inl h))), pa_sector G.2.2 hD hs' ng' (fun a h => same a (Or.inr (Or.inr h)))]
        rw [e1, hN g pg1]
        have low : ∀ t, GD t → (pa t D X g ^^ al t D X g) = (rf t D X ^^ hs t D X (fun a => Wd g a ^^ dB (dir g a))) := by
          intro t Gt
          rw [pa_wedge Gt hD X ng', hs_xor]
          unfold al
          rw [Bool.xor_assoc]
        rw [low _ G.1, low _ G.2.1, low _ G.2.2]
        by_cases r : ∃ h, HA T D X h ∧ Wd g h = true ∧ ¬ dir g h
        · obtain ⟨h1, a1, a2, a3⟩ := r
          obtain ⟨g', ⟨pg'1, pg'2, pg'3⟩, hg'⟩ := W_max _ (fun h => HA T D X h ∧ Wd g h = true ∧ ¬ dir g h) (fun g h => HA_nz h.1) ⟨h1, inL h1 a1, a1, a2, a3⟩
          have ng'' := HA_nz pg'1
          have nback : Wd g' g = false := by
            have := W_sw ng' ng'' pg'3
            rw [pg'2] at this
            cases z : Wd g' g with
            | false => rfl
            | true => rw [z] at this; cases this
          have eqq : ∀ t, GD t → (∀ h, HW t D X h → HA T D X h) → (rf t D X ^^ hs t D X (fun a => Wd g a ^^ dB (dir g a))) = pa t D X g' := by
            intro t Gt ht
            rw [pa_wedge Gt hD X ng'']
            congr 1
            refine hs_congr (fun a z => by rw [W_z z, W_z z, dB_f (dir_z z)]; rfl) (fun h hh => ?_)
            have hh' := ht h hh
            have nh := HA_nz hh'
            by_cases d : dir g h
            · rw [dB_t d, W_dir ng' nh d]
              have : Wd h g = true := W_dir nh ng' (dir_sym d)
              cases z : Wd g' h with
              | false => rfl
              | true => rw [W_tr ng'' nh ng' z this] at nback; cases nback
            · rw [dB_f d, Bool.xor_false]
              cases z : Wd g h with
              | true => exact (hg' h (inL h hh') ⟨hh', z, d⟩).symm
              | false =>
                cases z2 : Wd g' h with
                | false => rfl
                | true => rw [W_tr ng' ng'' nh pg'2 z2] at z; cases z
          rw [eqq _ G.1 (fun h hh => Or.inl hh), eqq _ G.2.1 (fun h hh => Or.inr (Or.inl hh)), eqq _ G.2.2 (fun h hh => Or.inr (Or.inr hh))]
          refine ih _ ?_ g' ng'' rfl
          rw [← hk]
          refine cnt_lt _ _ _ (fun x hx hp => ?_) ⟨g, inL g pg1, dB_t ⟨pg1, pg2⟩, dB_f (fun z => by rw [nback] at z; cases z.2)⟩
          have hp' := dB_i.mp hp
          exact dB_t ⟨hp'.1, W_tr hs' ng' (HA_nz hp'.1) pg2 (W_tr ng' ng'' (HA_nz hp'.1) pg'2 hp'.2)⟩
        · have no : ∀ t, GD t → (∀ h, HW t D X h → HA T D X h) → (rf t D X ^^ hs t D X (fun a => Wd g a ^^ dB (dir g a))) = rf t D X := by
            intro t Gt ht
            rw [hs_none (fun a z => by rw [W_z z, dB_f (dir_z z)]; rfl) (fun h hh => ?_), Bool.xor_false]
            have hh' := ht h hh
            by_cases d : dir g h
            · rw [dB_t d, W_dir ng' (HA_nz hh') d]; rfl
            · rw [dB_f d, Bool.xor_false]
              cases z : Wd g h with
              | false => rfl
              | true => exact (r ⟨h, hh', z, d⟩).elim
          rw [no _ G.1 (fun h hh => Or.inl hh), no _ G.2.1 (fun h hh => Or.inr (Or.inl hh)), no _ G.2.2 (fun h hh => Or.inr (Or.inr hh))]
          rfl
      · have no : ∀ t, GD t → (∀ h, HW t D X h → HA T D X h) → pa t D X s = rf t D X := by
          intro t Gt ht
          rw [pa_wedge Gt hD X hs', hs_none (fun a z => W_z z) (fun h hh => ?_), Bool.xor_false]
          cases z : Wd s h with
          | false => rfl
          | true => exact (q ⟨h, ht h hh, z⟩).elim
        unfold pa3 rf3
        rw [no _ G.1 (fun h hh => Or.inl hh), no _ G.2.1 (fun h hh => Or.inr (Or.inl hh)), no _ G.2.2 (fun h hh => Or.inr (Or.inr hh))]
  intro s hs'
  exact main _ s hs' rfl
/-! out to where nothing is -/
def evl (T : Sy) (D : Int) (X s : V2) : List Nat := (List.range (sL T + sM T)).filter (fun e => decide (sL T ≤ e) && (sW T e && cc s (rl T D X e) (rl T D X (e + 1))))
set_option maxHeartbeats 200000 in
theorem mem_evl {T : Sy} {D : Int} {X s : V2} {e : Nat} : e ∈ evl T D X s ↔ inT T e ∧ cc s (rl T D X e) (rl T D X (e + 1)) = true := by
  unfold evl inT
  rw [List.mem_filter, List.mem_range, Bool.and_eq_true, Bool.and_eq_true, decide_eq_true_iff]
  exact ⟨fun h => ⟨⟨h.2.1, h.1, h.2.2.1⟩, h.2.2.2⟩, fun h => ⟨h.1.2.1, h.1.1, h.1.2.2, h.2⟩⟩
/-! the least of some fractions -/
set_option maxHeartbeats 200000 in
theorem fr_min (L : List (Int × Int)) (hL : ∀ x, x ∈ L → 0 < x.2) : L ≠ [] → ∃ m, m ∈ L ∧ ∀ x, x ∈ L → m.1 * x.2 ≤ x.1 * m.2 := by
  induction L with
  | nil => intro h; exact (h rfl).elim
  | cons y L ih =>
    intro _
    by_cases q : L = []
    · subst q
      exact ⟨y, List.mem_cons_self .., fun x hx => by rcases List.mem_cons.mp hx with rfl | hx; exact Int.le_refl _; exact absurd hx (by simp)⟩
    · obtain ⟨m, hm, h⟩ := ih (fun x hx => hL x (List.mem_cons_of_mem _ hx)) q
      have p1 := hL m (List.mem_cons_of_mem _ hm)
      have p2 := hL y (List.mem_cons_self ..)
      by_cases w : m.1 * y.2 ≤ y.1 * m.2
      · refine ⟨m, List.mem_cons_of_mem _ hm, fun x hx => ?_⟩
        rcases List.mem_cons.mp hx with rfl | hx
        · exact w
        · exact h x hx
      · refine ⟨y, List.mem_cons_self .., fun x hx => ?_⟩
        rcases List.mem_cons.mp hx with rfl | hx
        · exact Int.le_refl _
        · have p3 := hL x (List.mem_cons_of_mem _ hx)
          exact cLe_t (c := (y.1, y.2, 0)) (d := (m.1, m.2, 0)) (e := (x.1, x.2, 0)) p1 p2 p3 (by show y.1 * m.2 ≤ m.1 * y.2; omega) (h x hx)
set_option maxHeartbeats 200000 in
theorem psi {ψ : Bool → Bool → Bool → Bool} {T : S3} (G : GD3 T) (hN : ∀ D X, 0 < D → NoC ψ T D X) {s : V2} (hs' : nz s) : ∀ k D X, 0 < D → (evl T.1 D X s).length + ((evl T.2.1 D X s).length + (evl T.2.2 D X s).length) = k → pa3 ψ T D X s = ψ false false false := by
  intro k
  induction k using Nat.strongRecOn with
  | ind k ih =>
    intro D X hD hk
    have emp : ∀ t : Sy, evl t D X s = [] → pa t D X s = false := by
      intro t ht
      refine XS_none (fun e he => ?_)
      cases z : cc s (rl t D X e) (rl t D X (e + 1)) with
      | false => rfl
      | true =>
        have := mem_evl.mpr ⟨he, z⟩
        rw [ht] at this; exact absurd this (by simp)
    let M : List (Int × Int) := (evl T.1 D X s).map (fun e => (nT T.1 D X s e, dT T.1 D X s e)) ++ ((evl T.2.1 D X s).map (fun e => (nT T.2.1 D X s e, dT T.2.1 D X s e)) ++ (evl T.2.2 D X s).map (fun e => (nT T.2.2 D X s e, dT T.2.2 D X s e)))
    by_cases q : M = []
    · have q1 := (List.append_eq_nil_iff.mp q)
      have q2 := (List.append_eq_nil_iff.mp q1.2)
      unfold pa3
      rw [emp _ (List.map_eq_nil_iff.mp q1.1), emp _ (List.map_eq_nil_iff.mp q2.1), emp _ (List.map_eq_nil_iff.mp q2.2)]
    · have ev : ∀ (t : Sy) (e : Nat), e ∈ evl t D X s → xT t D X s e = true ∧ 0 < nT t D X s e := by
        intro t e he
        have := (mem_evl.mp he).2
        rw [cc_0, Bool.and_eq_true, decide_eq_true_iff] at this
        exact this
      have hM : ∀ x, x ∈ M → 0 < x.2 ∧ 0 < x.1 := by
        intro x hx
        rcases List.mem_append.mp hx with hx | hx
        · obtain ⟨e, he, rfl⟩ := List.mem_map.mp hx
          exact ⟨dT_pos (ev _ e he).1, (ev _ e he).2⟩
        · rcases List.mem_append.mp hx with hx | hx
          · obtain ⟨e, he, rfl⟩ := List.mem_map.mp hx
            exact ⟨dT_pos (ev _ e he).1, (ev _ e he).2⟩
          · obtain ⟨e, he, rfl⟩ := List.mem_map.mp hx
            exact ⟨dT_pos (ev _ e he).1, (ev _ e he).2⟩
      obtain ⟨m, hm, hmin⟩ := fr_min M (fun x hx => (hM x hx).1) q
      obtain ⟨hE, hq⟩ := hM m hm
      -- just ahead of the first meeting
      obtain ⟨B1, b1, l1⟩ := lim_R T.1 D X s
      obtain ⟨B2, b2, l2⟩ := lim_R T.2.1 D X s
      obtain ⟨B3, b3, l3⟩ := lim_R T.2.2 D X s
      obtain ⟨r1, f1⟩ := l1 m.2 m.1 (max B1 (max B2 B3)) hE (by omega)
      obtain ⟨r2, f2⟩ := l2 m.2 m.1 (max B1 (max B2 B3)) hE (by omega)
      obtain ⟨r3, f3⟩ := l3 m.2 m.1 (max B1 (max B2 B3)) hE (by omega)
      have hK : 0 < max B1 (max B2 B3) := by omega
      generalize max B1 (max B2 B3) = K at *
      have first : ∀ t : Sy, (∀ e, e ∈ evl t D X s → (nT t D X s e, dT t D X s e) ∈ M) → XS t (fun e => xT t D X s e && decide (m.1 * dT t D X s e ≤ m.2 * nT t D X s e)) = pa t D X s := by
        intro t ht
        unfold pa
        refine XS_congr (fun e he => ?_)
        rw [cc_0]
        show _ = (xT t D X s e && decide (0 < nT t D X s e))
        cases hx : xT t D X s e with
        | false => rfl
        | true =>
          rw [Bool.true_and, Bool.true_and]
          apply decide_eq_decide.mpr
          have hd := dT_pos hx
          constructor
          · intro h
            have := Int.mul_pos hq hd
            by_cases z : 0 < nT t D X s e
            · exact z
            · have : m.2 * nT t D X s e ≤ 0 := Int.mul_nonpos_of_nonneg_of_nonpos (by omega) (by omega)
              omega
          · intro h
            have := hmin _ (ht e (mem_evl.mpr ⟨he, by rw [cc_0, Bool.and_eq_true, decide_eq_true_iff]; exact ⟨hx, h⟩⟩))
            have c : m.2 * nT t D X s e = nT t D X s e * m.2 := Int.mul_comm _ _
            rw [c]; exact this
      have M1 : ∀ e, e ∈ evl T.1 D X s → (nT T.1 D X s e, dT T.1 D X s e) ∈ M := fun e he => List.mem_append.mpr (Or.inl (List.mem_map.mpr ⟨e, he, rfl⟩))
      have M2 : ∀ e, e ∈ evl T.2.1 D X s → (nT T.2.1 D X s e, dT T.2.1 D X s e) ∈ M := fun e he => List.mem_append.mpr (Or.inr (List.mem_append.mpr (Or.inl (List.mem_map.mpr ⟨e, he, rfl⟩))))
      have M3 : ∀ e, e ∈ evl T.2.2 D X s → (nT T.2.2 D X s e, dT T.2.2 D X s e) ∈ M := fun e he => List.mem_append.mpr (Or.inr (List.mem_append.mpr (Or.inr (List.mem_map.mpr ⟨e, he, rfl⟩))))
      have s1 : pa3 ψ T D X s = pa3 ψ T (m.2 * K * D) (at2 X s (m.2 * K) (m.1 * K - 1)) s := by
        unfold pa3
        rw [f1, f2, f3, first _ M1, first _ M2, first _ M3]
      have hD1 : 0 < m.2 * K * D := Int.mul_pos (Int.mul_pos hE hK) hD
      have hD2 : 0 < m.2 * D := Int.mul_pos hE hD
      have s2 : pa3 ψ T (m.2 * K * D) (at2 X s (m.2 * K) (m.1 * K - 1)) s = pa3 ψ T (m.2 * K * D) (at2 X s (m.2 * K) (m.1 * K - 1)) (ng s) := by
        rw [rot G hD1 (hN _ _ hD1) s hs', rot G hD1 (hN _ _ hD1) (ng s) (ng_nz hs')]
      have s3 : pa3 ψ T (m.2 * K * D) (at2 X s (m.2 * K) (m.1 * K - 1)) (ng s) = pa3 ψ T (m.2 * D) (at2 X s m.2 m.1) (ng s) := by
        unfold pa3
        rw [r1, r2, r3]
      have s4 : pa3 ψ T (m.2 * D) (at2 X s m.2 m.1) (ng s) = pa3 ψ T (m.2 * D) (at2 X s m.2 m.1) s := by
        rw [rot G hD2 (hN _ _ hD2) s hs', rot G hD2 (hN _ _ hD2) (ng s) (ng_nz hs')]
      rw [s1, s2, s3, s4]
      have ahead : ∀ (t : Sy) (e : Nat), cc s (rl t (m.2 * D) (at2 X s m.2 m.1) e) (rl t (m.2 * D) (at2 X s m.2 m.1) (e + 1)) = (xT t D X s e && decide (m.1 * dT t D X s e < m.2 * nT t D X s e)) := by
        intro t e
        rw [rl_at2, rl_at2, cc_pq hE]; rfl
      have sub : ∀ (t : Sy) (e : Nat), e ∈ evl t (m.2 * D) (at2 X s m.2 m.1) s → e ∈ evl t D X s ∧ m.1 * dT t D X s e < m.2 * nT t D X s e := by
        intro t e he
        obtain ⟨a1, a2⟩ := mem_evl.mp he
        rw [ahead, Bool.and_eq_true, decide_eq_true_iff] at a2
        have hd := dT_pos a2.1
        refine ⟨mem_evl.mpr ⟨a1, ?_⟩, a2.2⟩
        rw [cc_0, Bool.and_eq_true, decide_eq_true_iff]
        refine ⟨a2.1, ?_⟩
        show 0 < nT t D X s e
        have := Int.mul_pos hq hd
        by_cases z : 0 < nT t D X s e
        · exact z
        · have : m.2 * nT t D X s e ≤ 0 := Int.mul_nonpos_of_nonneg_of_nonpos (by omega) (by omega)
          have := a2.2
          omega
      have le : ∀ t : Sy, (evl t (m.2 * D) (at2 X s m.2 m.1) s).length ≤ (evl t D X s).length := by
        intro t
        unfold evl
        rw [← List.countP_eq_length_filter, ← List.countP_eq_length_filter]
        refine List.countP_mono_left (fun e he hp => ?_)
        have : e ∈ evl t (m.2 * D) (at2 X s m.2 m.1) s := List.mem_filter.mpr ⟨he, hp⟩
        exact (List.mem_filter.mp (sub t e this).1).2
      have lt : ∀ (t : Sy) (e : Nat), e ∈ evl t D X s → (nT t D X s e, dT t D X s e) = m → (evl t (m.2 * D) (at2 X s m.2 m.1) s).length < (evl t D X s).length := by
        intro t e he hem
        unfold evl
        rw [← List.countP_eq_length_filter, ← List.countP_eq_length_filter]
        refine cnt_lt _ _ _ (fun e he hp => ?_) ⟨e, (List.mem_filter.mp he).1, (List.mem_filter.mp he).2, ?_⟩
        · have : e ∈ evl t (m.2 * D) (at2 X s m.2 m.1) s := List.mem_filter.mpr ⟨he, hp⟩
          exact (List.mem_filter.mp (sub t e this).1).2
        · cases z : (decide (sL t ≤ e) && (sW t e && cc s (rl t (m.2 * D) (at2 X s m.2 m.1) e) (rl t (m.2 * D) (at2 X s m.2 m.1) (e + 1)))) with
          | false => rfl
          | true =>
            have h1 := (sub t e (List.mem_filter.mpr ⟨(List.mem_filter.mp he).1, z⟩)).2
            rw [← hem] at h1
            simp only at h1
            rw [Int.mul_comm] at h1
            omega
      have e1 := le T.1
      have e2 := le T.2.1
      have e3 := le T.2.2
      refine ih _ ?_ _ _ hD2 rfl
      rcases List.mem_append.mp hm with hm | hm
      · obtain ⟨e, he, hem⟩ := List.mem_map.mp hm
        have := lt _ e he hem; omega
      · rcases List.mem_append.mp hm with hm | hm
        · obtain ⟨e, he, hem⟩ := List.mem_map.mp hm
          have := lt _ e he hem; omega
        · obtain ⟨e, he, hem⟩ := List.mem_map.mp hm
          have := lt _ e he hem; omega
/-! a truth about parities that no way changes is the same everywhere -/
set_option maxHeartbeats 200000 in
theorem Psi {ψ : Bool → Bool → Bool → Bool} {T : S3} (G : GD3 T) (hN : ∀ D X, 0 < D → NoC ψ T D X) {D : Int} (hD : 0 < D) (X : V2) {s : V2} (hs' : nz s) : pa3 ψ T D X s = ψ false false false := psi G hN hs' _ D X hD rfl

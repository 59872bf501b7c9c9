/-! how a way lies: what goAlong sees, by parities -/
def cov (T : Sy) (D : Int) (X s : V2) : Prop := ∃ g, HW T D X g ∧ dir s g
/-- just behind the part p / D of the way from P to Q -/
def pX (P Q : V2) (p D : Int) : V2 := at2 P (sub2 Q P) D p
def cvT (T : Sy) (P Q : V2) (p D : Int) : Prop := cov T (D * 1) (pX P Q p D) (sub2 Q P)
def paT (T : Sy) (P Q : V2) (p D : Int) : Bool := pa T (D * 1) (pX P Q p D) (sub2 Q P)
set_option maxHeartbeats 200000 in
theorem rl_sn (d : Ct) (P Q : V2) (p D : Int) (e : Nat) : rl (TC d) (D * 1) (pX P Q p D) e = sn P Q (cV d e) p D := by
  unfold pX; rw [rl_at2, rl_1]; rfl
set_option maxHeartbeats 200000 in
theorem sn_dif (P Q A B : V2) (p D : Int) : sn P Q B p D = ((sn P Q A p D).1 + D * (sub2 B A).1, (sn P Q A p D).2 + D * (sub2 B A).2) := by
  unfold sn pq sub2; refine Prod.ext ?_ ?_ <;> simp only <;> grind
set_option maxHeartbeats 200000 in
theorem HH_HW {d : Ct} {lf : Nat → Bool} {P Q : V2} {p D : Int} (hD : 0 < D) {g : V2} {l : Bool} (h : HH d lf P Q p D g l) : ∃ k, HW (TC d) (D * 1) (pX P Q p D) k ∧ dir g k := by
  obtain ⟨e, he, h⟩ := h
  have df := sn_dif P Q (cV d e) (cV d (e + 1)) p D
  rcases h with ⟨⟨h1, h2⟩, h3, _⟩ | ⟨⟨h1, h2⟩, h3, _⟩
  · refine ⟨sn P Q (cV d (e + 1)) p D, ⟨h2, e, inTC.mpr he, by rw [rl_sn, rl_sn]; exact h1, Or.inr (rl_sn d P Q p D (e + 1)).symm⟩, ?_⟩
    rw [h3]; exact (dir_fv hD df h1).1 h2
  · refine ⟨sn P Q (cV d e) p D, ⟨h2, e, inTC.mpr he, by rw [rl_sn, rl_sn]; exact h1, Or.inl (rl_sn d P Q p D e).symm⟩, ?_⟩
    rw [h3]; exact (dir_fv hD df h1).2 h2
set_option maxHeartbeats 200000 in
theorem HW_HH {d : Ct} (lf : Nat → Bool) {P Q : V2} {p D : Int} (hD : 0 < D) {k : V2} (h : HW (TC d) (D * 1) (pX P Q p D) k) : ∃ g l, HH d lf P Q p D g l ∧ dir g k := by
  obtain ⟨hk, e, he, ho, h⟩ := h
  rw [rl_sn, rl_sn] at ho h
  have df := sn_dif P Q (cV d e) (cV d (e + 1)) p D
  rcases h with h | h
  · exact ⟨_, _, ⟨e, inTC.mp he, Or.inr ⟨⟨ho, h ▸ hk⟩, rfl, rfl⟩⟩, by rw [h]; exact (dir_fv hD df ho).2 (h ▸ hk)⟩
  · exact ⟨_, _, ⟨e, inTC.mp he, Or.inl ⟨⟨ho, h ▸ hk⟩, rfl, rfl⟩⟩, by rw [h]; exact (dir_fv hD df ho).1 (h ▸ hk)⟩
set_option maxHeartbeats 200000 in
theorem thP_i {d : Ct} {P Q : V2} {p D : Int} (hD : 0 < D) : thP d P Q p D ↔ ∃ k, HW (TC d) (D * 1) (pX P Q p D) k := by
  constructor
  · rintro ⟨g, l, h⟩
    obtain ⟨k, hk, _⟩ := HH_HW hD h
    exact ⟨k, hk⟩
  · rintro ⟨k, h⟩
    obtain ⟨g, l, hg, _⟩ := HW_HH (iL d) hD h
    exact ⟨g, l, hg⟩
set_option maxHeartbeats 200000 in
theorem alP_i {d : Ct} {P Q : V2} {p D : Int} (hD : 0 < D) : alP d P Q p D ↔ cvT (TC d) P Q p D := by
  constructor
  · rintro ⟨g, l, h, hd⟩
    obtain ⟨k, hk, hg⟩ := HH_HW hD h
    exact ⟨k, hk, dir_tr (dir_sym hd) hg⟩
  · rintro ⟨k, h, hd⟩
    obtain ⟨g, l, hg, hh⟩ := HW_HH (iL d) hD h
    exact ⟨g, l, hg, dir_tr hh (dir_sym hd)⟩
/-- just to the left of each ring is what the reference says -/
def LPd (d : Ct) : Prop := ∀ r e, r < cR d → sr d r ≤ e → e < sr d r + ml d r → ∀ D X, 0 < D → on0 (rl (TC d) D X e) (rl (TC d) D X (e + 1)) → (nz (rl (TC d) D X (e + 1)) → pa (TC d) D X (dv (cV d) e) = iL d r) ∧ (nz (rl (TC d) D X e) → pa (TC d) D X (ng (dv (cV d) e)) = !iL d r)
set_option maxHeartbeats 200000 in
theorem rO_e {d : Ct} (G : WF d) {r e : Nat} (hr : r < cR d) (h1 : sr d r ≤ e) (h2 : e < sr d r + ml d r) : rO d e = r := by
  have he := G.e hr
  have hN := G.n
  -- by the reference's own search
  have key : ∀ k q, q + k = 8 → q < cR d → sr d q ≤ e → rOf d e k q < cR d ∧ sr d (rOf d e k q) ≤ e ∧ e < cE d (rOf d e k q) := by
    intro k
    induction k with
    | zero => intro q hq h3; have := G.r; omega
    | succ k ih =>
      intro q hq h3 h4
      rw [rOf]
      by_cases z : e < cE d q
      · rw [if_pos z]; exact ⟨h3, h4, z⟩
      · rw [if_neg z]
        have : q + 1 < cR d := by
          by_cases y : q + 1 < cR d
          · exact y
          · have hl := G.el
            rw [show cR d - 1 = q by omega] at hl
            unfold ml at h2; omega
        exact ih (q + 1) (by omega) this (by unfold sr; rw [if_neg (by omega), Nat.add_sub_cancel]; omega)
  obtain ⟨k1, k2, k3⟩ := key 8 0 (by omega) (by omega) (by unfold sr; rw [if_pos rfl]; omega)
  exact rO_u G hr h1 (by unfold ml at h2; omega) k1 k2 k3
set_option maxHeartbeats 200000 in
theorem LP_pa {d : Ct} (G : WF d) (hk : cK d = 2) (hL : LPd d) {P Q : V2} {p D : Int} (hD : 0 < D) {g : V2} {l : Bool} (h : HH d (iL d) P Q p D g l) : l = pa (TC d) (D * 1) (pX P Q p D) g := by
  obtain ⟨e, he, h⟩ := h
  obtain ⟨r, r1, r2, r3⟩ := wy_r G he
  have el : lft d (iL d) e = iL d r := by unfold lft; rw [if_pos hk, rO_e G r1 r2 r3]
  have key := hL r e r1 r2 r3 (D * 1) (pX P Q p D) (by omega)
  rw [rl_sn, rl_sn] at key
  rcases h with ⟨⟨h1, h2⟩, h3, h4⟩ | ⟨⟨h1, h2⟩, h3, h4⟩
  · rw [h4, h3, el]; exact ((key h1).1 h2).symm
  · rw [h4, h3, el]; exact ((key h1).2 h2).symm
set_option maxHeartbeats 200000 in
theorem LPq_of {d : Ct} (G : WF d) (hL : cK d = 2 → LPd d) (hG : cK d = 2 → GD (TC d)) {P Q : V2} (hPQ : P ≠ Q) {p D : Int} (hD : 0 < D) : LPq d P Q p D (paT (TC d) P Q p D) := by
  intro hk g l hg
  have hs := nz_sub hPQ
  have gd := hG hk
  have el := LP_pa G hk (hL hk) hD hg
  obtain ⟨kg, hkg, dkg⟩ := HH_HW hD hg
  obtain ⟨ng', _⟩ := dir_nz dkg
  refine ⟨fun nd na hm => ?_, fun hd => ?_⟩
  · rw [el]
    unfold paT
    symm
    refine pa_sector gd (by omega) hs ng' (κ := !(Wd (sub2 Q P) g)) (fun h hh => ?_)
    obtain ⟨g', l', hg', dg'⟩ := HW_HH (iL d) hD hh
    obtain ⟨n1, n2⟩ := dir_nz dg'
    have nd' : ¬ dir g' (sub2 Q P) := fun z => na ⟨g', l', hg', z⟩
    rw [← W_e1 n1 n2 dg', ← W_e1 n1 n2 dg']
    exact W_near hs ng' n1 (fun z => nd (dir_sym z)) (fun z => nd' (dir_sym z)) (hm g' l' hg' nd')
  · rw [el]; exact pa_dir gd (by omega) hd
/-! the parts at which goAlong looks are all that there is to see -/
set_option maxHeartbeats 200000 in
theorem cut_on {d : Ct} {P Q : V2} (hPQ : P ≠ Q) {j : Nat} {x : Int × Int} (h : ctJ d P Q j x) (hx : x.1 < x.2) : on0 (sn P Q (cV d j) x.1 x.2) (sn P Q (cV d (j + 1)) x.1 x.2) := by
  obtain ⟨h1, h2, h3, h4⟩ := h
  rcases h4 with ⟨h5, h6⟩ | ⟨h5, h6⟩
  · rw [(look_in hPQ h5).1, ← h3]
    rcases h6 with h6 | h6
    · rw [← h6]
      have : x.2 * x.1 - x.1 * x.2 = 0 := by rw [Int.mul_comm]; omega
      rw [this]; simp
    · rw [← h6]
      have : x.2 * x.1 - x.1 * x.2 = 0 := by rw [Int.mul_comm]; omega
      rw [this]; simp
  · exact (look_met h1 hx h5.1).1.mpr ⟨h5, by rw [← h6, ← h3, Int.mul_comm]⟩
set_option maxHeartbeats 200000 in
theorem pX_0 (P Q : V2) : pX P Q 0 1 = P := by unfold pX at2; refine Prod.ext ?_ ?_ <;> simp only <;> omega
set_option maxHeartbeats 200000 in
theorem oddP_pa (d : Ct) (P : V2) : oddP d P = pa (TC d) 1 P ex0 := by
  unfold oddP pa
  show xs (oddF d P) 0 (cN d - 1) = xs (fun e => dB (wy d e) && cc ex0 (rl (TC d) 1 P e) (rl (TC d) 1 P (e + 1))) 0 (cN d - 1)
  refine xs_congr (fun e _ _ => ?_)
  rw [rl_1, rl_1]; rfl
set_option maxHeartbeats 200000 in
theorem on_sid {a b P : V2} : onS a b P ↔ on0 (sub2 a P) (sub2 b P) := by
  unfold onS on0
  rw [crs_sid]
  unfold inBx dt sub2 sid
  simp only
  constructor
  · rintro ⟨⟨h1, h2, h3, h4⟩, h5⟩
    refine ⟨h5, ?_⟩
    have t1 : (a.1 - P.1) * (b.1 - P.1) ≤ 0 := by
      rcases Int.le_total a.1 b.1 with z | z
      · exact Int.mul_nonpos_of_nonpos_of_nonneg (by omega) (by omega)
      · exact Int.mul_nonpos_of_nonneg_of_nonpos (by omega) (by omega)
    have t2 : (a.2 - P.2) * (b.2 - P.2) ≤ 0 := by
      rcases Int.le_total a.2 b.2 with z | z
      · exact Int.mul_nonpos_of_nonpos_of_nonneg (by omega) (by omega)
      · exact Int.mul_nonpos_of_nonneg_of_nonpos (by omega) (by omega)
    omega
  · rintro ⟨h5, h6⟩
    have key : ∀ x y u v : Int, x * v - y * u = 0 → x * u + y * v ≤ 0 → x * u ≤ 0 := by
      intro x y u v e1 e2
      by_cases z : 0 < x * u
      · have := same_no z e1; omega
      · omega
    have e : (a.1 - P.1) * (b.2 - P.2) - (a.2 - P.2) * (b.1 - P.1) = 0 := by
      have : (a.1 - P.1) * (b.2 - P.2) - (a.2 - P.2) * (b.1 - P.1) = (b.1 - a.1) * (P.2 - a.2) - (b.2 - a.2) * (P.1 - a.1) := by grind
      rw [this]; exact h5
    have t1 := key _ _ _ _ e h6
    have t2 := key (a.2 - P.2) (a.1 - P.1) (b.2 - P.2) (b.1 - P.1) (by omega) (by omega)
    have bet : ∀ x y p : Int, (x - p) * (y - p) ≤ 0 → min x y ≤ p ∧ p ≤ max x y := by
      intro x y p h
      constructor
      · by_cases z : min x y ≤ p
        · exact z
        · have := Int.mul_pos (show 0 < x - p by omega) (show 0 < y - p by omega); omega
      · by_cases z : p ≤ max x y
        · exact z
        · have := Int.mul_pos_of_neg_of_neg (show x - p < 0 by omega) (show y - p < 0 by omega); omega
    have b1 := bet _ _ _ t1
    have b2 := bet _ _ _ t2
    exact ⟨⟨b1.1, b1.2, b2.1, b2.2⟩, h5⟩
/-! where nothing begins the point is off all ways -/
set_option maxHeartbeats 200000 in
theorem off_A {d : Ct} {P Q : V2} (hd : ∀ e, wy d e → cV d e ≠ cV d (e + 1)) (h : ¬ thP d P Q 0 1) : ¬ onA d P := by
  rintro ⟨e, he, ho⟩
  apply h
  rw [thP_i (by omega), pX_0]
  have ho' := on_sid.mp ho
  by_cases z : zro (sub2 (cV d e) P)
  · refine ⟨sub2 (cV d (e + 1)) P, fun y => hd e he ?_, e, inTC.mpr he, by rw [show (1 : Int) * 1 = 1 from rfl, rl_1, rl_1]; exact ho', Or.inr (by rw [show (1 : Int) * 1 = 1 from rfl, rl_1]; rfl)⟩
    unfold zro sub2 at z y
    exact V2_eq.mpr ⟨by have := z.1; have := y.1; simp only at *; omega, by have := z.2; have := y.2; simp only at *; omega⟩
  · exact ⟨sub2 (cV d e) P, z, e, inTC.mpr he, by rw [show (1 : Int) * 1 = 1 from rfl, rl_1, rl_1]; exact ho', Or.inl (by rw [show (1 : Int) * 1 = 1 from rfl, rl_1]; rfl)⟩
set_option maxHeartbeats 200000 in
theorem noth {d : Ct} {P Q : V2} (hPQ : P ≠ Q) (hd : ∀ e, wy d e → cV d e ≠ cV d (e + 1)) {x : Int × Int} (hc : ctS d P Q x) (hx : x.1 < x.2) (h : ¬ thP d P Q x.1 x.2) : x = (0, 1) := by
  rcases hc with hc | ⟨j, hj, hc⟩
  · exact hc
  · exfalso
    apply h
    have hD : 0 < x.2 := by have := hc.1; omega
    rw [thP_i hD]
    have ho := cut_on hPQ hc hx
    by_cases z : zro (sn P Q (cV d j) x.1 x.2)
    · refine ⟨sn P Q (cV d (j + 1)) x.1 x.2, fun y => hd j hj ?_, j, inTC.mpr hj, by rw [rl_sn, rl_sn]; exact ho, Or.inr (rl_sn d P Q x.1 x.2 (j + 1)).symm⟩
      have df := sn_dif P Q (cV d j) (cV d (j + 1)) x.1 x.2
      rw [df] at y
      unfold zro at z
      simp only at y
      rw [z.1, z.2] at y
      have e1 : x.2 * (sub2 (cV d (j + 1)) (cV d j)).1 = 0 := by omega
      have e2 : x.2 * (sub2 (cV d (j + 1)) (cV d j)).2 = 0 := by omega
      have f1 := Int.mul_eq_zero.mp e1
      have f2 := Int.mul_eq_zero.mp e2
      unfold sub2 at f1 f2
      simp only at f1 f2
      exact V2_eq.mpr ⟨by omega, by omega⟩
    · exact ⟨sn P Q (cV d j) x.1 x.2, z, j, inTC.mpr hj, by rw [rl_sn, rl_sn]; exact ho, Or.inl (rl_sn d P Q x.1 x.2 j).symm⟩
set_option maxHeartbeats 200000 in
theorem loc_2 {d : Ct} {P : V2} (hk : cK d = 2) (h : ¬ onA d P) : (0 ≤ loc d P ↔ oddP d P = true) := by
  unfold loc
  rw [if_neg (by omega), if_neg (by omega), ifP_f h]
  cases oddP d P <;> simp
set_option maxHeartbeats 200000 in
theorem loc_1 {d : Ct} {P : V2} (hk : cK d = 1) (h : ¬ onA d P) : loc d P < 0 := by
  unfold loc
  rw [if_neg (by omega), if_pos hk, ifP_f h]; decide
set_option maxHeartbeats 200000 in
theorem pi_2 {d : Ct} {P Q : V2} (hk : cK d = 2) (hG : GD (TC d)) (hPQ : P ≠ Q) (hd : ∀ e, wy d e → cV d e ≠ cV d (e + 1)) {x : Int × Int} (hc : ctS d P Q x) (hx : x.1 < x.2) (h0 : 0 ≤ x.1) : (piI d P Q x.1 x.2 (paT (TC d) P Q x.1 x.2) ↔ (¬ cvT (TC d) P Q x.1 x.2 ∧ paT (TC d) P Q x.1 x.2 = true)) ∧ (piO d P Q x.1 x.2 (paT (TC d) P Q x.1 x.2) ↔ (¬ cvT (TC d) P Q x.1 x.2 ∧ paT (TC d) P Q x.1 x.2 = false)) := by
  have hD : 0 < x.2 := by omega
  have na : ¬ thP d P Q x.1 x.2 → ¬ alP d P Q x.1 x.2 := fun h ⟨g, l, k, _⟩ => h ⟨g, l, k⟩
  have lo : ¬ thP d P Q x.1 x.2 → (0 ≤ loc d P ↔ paT (TC d) P Q x.1 x.2 = true) := by
    intro h
    have e := noth hPQ hd hc hx h
    rw [e] at h ⊢
    simp only at h ⊢
    rw [loc_2 hk (off_A hd h), oddP_pa]
    unfold paT
    rw [pX_0, show (1 : Int) * 1 = 1 from rfl]
    have no : ∀ k, ¬ HW (TC d) 1 P k := by
      intro k hk'
      apply h
      rw [thP_i (by omega), pX_0, show (1 : Int) * 1 = 1 from rfl]
      exact ⟨k, hk'⟩
    have e1 : pa (TC d) 1 P ex0 = pa (TC d) 1 P (sub2 Q P) := pa_sector hG (by omega) (by intro z; have := z.1; simp [ex0] at this) (nz_sub hPQ) (κ := false) (fun a ha => (no a ha).elim)
    rw [e1]
  unfold piI piO
  rw [propext (alP_i (d := d) (P := P) (Q := Q) (p := x.1) hD)] at *
  constructor
  · constructor
    · rintro (⟨h1, h2⟩ | ⟨h1, h2⟩ | ⟨h1, h2, h3, h4⟩)
      · exact ⟨na h1, (lo h1).mp h2⟩
      · omega
      · exact ⟨h2, h4⟩
    · rintro ⟨h1, h2⟩
      by_cases z : thP d P Q x.1 x.2
      · exact Or.inr (Or.inr ⟨z, h1, hk, h2⟩)
      · exact Or.inl ⟨z, (lo z).mpr h2⟩
  · constructor
    · rintro (⟨h1, h2⟩ | ⟨h1, h2, h3⟩)
      · refine ⟨na h1, ?_⟩
        cases y : paT (TC d) P Q x.1 x.2 with
        | false => rfl
        | true => have := (lo h1).mpr y; omega
      · refine ⟨h2, ?_⟩
        cases y : paT (TC d) P Q x.1 x.2 with
        | false => rfl
        | true => exact (h3 ⟨hk, y⟩).elim
    · rintro ⟨h1, h2⟩
      by_cases z : thP d P Q x.1 x.2
      · exact Or.inr ⟨z, h1, fun y => by rw [h2] at y; cases y.2⟩
      · refine Or.inl ⟨z, ?_⟩
        by_cases y : 0 ≤ loc d P
        · rw [(lo z).mp y] at h2; cases h2
        · omega
set_option maxHeartbeats 200000 in
theorem pi_1 {d : Ct} {P Q : V2} (hk : cK d = 1) (hPQ : P ≠ Q) (hd : ∀ e, wy d e → cV d e ≠ cV d (e + 1)) {x : Int × Int} {q : Bool} (hc : ctS d P Q x) (hx : x.1 < x.2) (h0 : 0 ≤ x.1) : (piI d P Q x.1 x.2 q ↔ cvT (TC d) P Q x.1 x.2) ∧ (piO d P Q x.1 x.2 q ↔ ¬ cvT (TC d) P Q x.1 x.2) := by
  have hD : 0 < x.2 := by omega
  have na : ¬ thP d P Q x.1 x.2 → ¬ alP d P Q x.1 x.2 := fun h ⟨g, l, k, _⟩ => h ⟨g, l, k⟩
  have lo : ¬ thP d P Q x.1 x.2 → loc d P < 0 := by
    intro h
    have e := noth hPQ hd hc hx h
    rw [e] at h
    exact loc_1 hk (off_A hd h)
  unfold piI piO
  rw [propext (alP_i (d := d) (P := P) (Q := Q) (p := x.1) hD)] at *
  constructor
  · constructor
    · rintro (⟨h1, h2⟩ | ⟨h1, h2⟩ | ⟨h1, h2, h3, h4⟩)
      · have := lo h1; omega
      · exact h1
      · omega
    · intro h; exact Or.inr (Or.inl ⟨h, hk⟩)
  · constructor
    · rintro (⟨h1, h2⟩ | ⟨h1, h2, h3⟩)
      · exact na h1
      · exact h2
    · intro h
      by_cases z : thP d P Q x.1 x.2
      · exact Or.inr ⟨z, h, fun y => by omega⟩
      · exact Or.inl ⟨z, lo z⟩
/-! covered -/
set_option maxHeartbeats 200000 in
theorem sn_crs (P Q x : V2) (p D : Int) : crs (sub2 Q P) (sn P Q x p D) = D * sid P Q x := by
  unfold sn; rw [← crs_s2]
  generalize sub2 Q P = s
  generalize sub2 x P = u
  unfold crs pq; grind
set_option maxHeartbeats 200000 in
theorem sn_dt {P Q x : V2} {p D : Int} (hPQ : P ≠ Q) (hx : sid P Q x = 0) : whl P Q * dt (sub2 Q P) (sn P Q x p D) = (D * pos P Q x - p * whl P Q) * dt (sub2 Q P) (sub2 Q P) := by
  have e := sn_al (p := p) (D := D) hPQ hx
  have e1 := congrArg Prod.fst e
  have e2 := congrArg Prod.snd e
  simp only at e1 e2
  generalize sub2 Q P = s at *
  generalize sn P Q x p D = u at *
  generalize whl P Q = W at *
  generalize D * pos P Q x - p * W = k at *
  unfold dt; grind
set_option maxHeartbeats 200000 in
theorem cvE_i {P Q A B : V2} {p D : Int} (hPQ : P ≠ Q) (hD : 0 < D) : cvE P Q A B p D ↔ (on0 (sn P Q A p D) (sn P Q B p D) ∧ ((dir (sub2 Q P) (sn P Q A p D)) ∨ dir (sub2 Q P) (sn P Q B p D))) := by
  have hw := whl_pos hPQ
  have hs := nz_sub hPQ
  have hN := dt_pos hs
  have sgn' : ∀ x : V2, sid P Q x = 0 → (dir (sub2 Q P) (sn P Q x p D) ↔ p * whl P Q < pos P Q x * D) := by
    intro x hx
    have e := sn_dt (p := p) (D := D) hPQ hx
    unfold dir
    rw [sn_crs, hx, Int.mul_zero, Int.mul_comm (pos P Q x) D]
    constructor
    · rintro ⟨_, h⟩
      have := Int.mul_pos hw h
      rw [e] at this
      by_cases z : 0 < D * pos P Q x - p * whl P Q
      · omega
      · have := Int.mul_nonpos_of_nonpos_of_nonneg (show D * pos P Q x - p * whl P Q ≤ 0 by omega) (show 0 ≤ dt (sub2 Q P) (sub2 Q P) by omega); omega
    · intro h
      refine ⟨rfl, ?_⟩
      have := Int.mul_pos (show 0 < D * pos P Q x - p * whl P Q by omega) hN
      rw [← e] at this
      by_cases z : 0 < dt (sub2 Q P) (sn P Q x p D)
      · exact z
      · have := Int.mul_nonpos_of_nonneg_of_nonpos (show 0 ≤ whl P Q by omega) (show dt (sub2 Q P) (sn P Q x p D) ≤ 0 by omega); omega
  constructor
  · intro h
    have h' := h
    obtain ⟨h1, h2, h3, h4⟩ := h
    refine ⟨cvE_al h' hPQ, ?_⟩
    rw [sgn' A h1, sgn' B h2]
    rcases Int.le_total (pos P Q A) (pos P Q B) with z | z
    · rw [Int.max_eq_right z] at h4; exact Or.inr h4
    · rw [Int.max_eq_left z] at h4; exact Or.inl h4
  · rintro ⟨ho, hd⟩
    -- both are on the line
    have col : sid P Q A = 0 ∧ sid P Q B = 0 := by
      have line : ∀ u v : V2, crs u v = 0 → dir (sub2 Q P) u → crs (sub2 Q P) v = 0 := by
        intro u v h1 h2
        obtain ⟨_, hu⟩ := dir_nz h2
        have e : crs (sub2 Q P) v * dt u u = crs (sub2 Q P) u * dt v u + dt (sub2 Q P) u * crs u v := by
          generalize sub2 Q P = s
          unfold crs dt; grind
        rw [h1, h2.1] at e
        have : crs (sub2 Q P) v * dt u u = 0 := by rw [e]; simp
        rcases Int.mul_eq_zero.mp this with z | z
        · exact z
        · have := dt_pos hu; omega
      have s0 : ∀ x : V2, crs (sub2 Q P) (sn P Q x p D) = 0 → sid P Q x = 0 := by
        intro x h
        rw [sn_crs] at h
        rcases Int.mul_eq_zero.mp h with z | z
        · omega
        · exact z
      rcases hd with hd | hd
      · exact ⟨s0 A hd.1, s0 B (line _ _ ho.1 hd)⟩
      · exact ⟨s0 A (line _ _ (by rw [crs_sw, ho.1]; rfl) hd), s0 B hd.1⟩
    refine ⟨col.1, col.2, ?_⟩
    rw [sgn' A col.1, sgn' B col.2] at hd
    have pr := (look_in (p := p) (D := D) hPQ (A := A) (B := B) ⟨by
      unfold kM
      have : crs (sub2 Q P) (sub2 B A) = sid P Q B - sid P Q A := by unfold crs sub2 sid; grind
      rw [this, col.1, col.2]; rfl, by rw [crs_s2]; exact col.1⟩).1.mp ho
    have k0 : kM P Q A B = 0 := by
      unfold kM
      have : crs (sub2 Q P) (sub2 B A) = sid P Q B - sid P Q A := by unfold crs sub2 sid; grind
      rw [this, col.1, col.2]; rfl
    have e1 : mP P Q A B = pos P Q A := by unfold mP; rw [if_pos k0]
    have e2 : mO P Q A B = pos P Q B := by unfold mO; rw [if_pos k0]
    have e3 : mW P Q A B = whl P Q := by unfold mW; rw [if_pos k0]
    rw [e1, e2, e3] at pr
    rw [Int.mul_comm (pos P Q A) D, Int.mul_comm (pos P Q B) D] at hd
    rw [Int.mul_comm _ D, Int.mul_comm (max (pos P Q A) (pos P Q B)) D]
    rcases hd with hd | hd
    · have : D * pos P Q B - p * whl P Q ≤ 0 := by
        by_cases z : D * pos P Q B - p * whl P Q ≤ 0
        · exact z
        · have := Int.mul_pos (show 0 < D * pos P Q A - p * whl P Q by omega) (show 0 < D * pos P Q B - p * whl P Q by omega); omega
      have lt : pos P Q B ≤ pos P Q A := by
        by_cases z : pos P Q B ≤ pos P Q A
        · exact z
        · have := Int.mul_lt_mul_of_pos_left (show pos P Q A < pos P Q B by omega) hD; omega
      rw [Int.min_eq_right lt, Int.max_eq_left lt]; omega
    · have : D * pos P Q A - p * whl P Q ≤ 0 := by
        by_cases z : D * pos P Q A - p * whl P Q ≤ 0
        · exact z
        · have := Int.mul_pos (show 0 < D * pos P Q A - p * whl P Q by omega) (show 0 < D * pos P Q B - p * whl P Q by omega); omega
      have lt : pos P Q A ≤ pos P Q B := by
        by_cases z : pos P Q A ≤ pos P Q B
        · exact z
        · have := Int.mul_lt_mul_of_pos_left (show pos P Q B < pos P Q A by omega) hD; omega
      rw [Int.min_eq_left lt, Int.max_eq_right lt]; omega
/-! for any row of ways of these places -/
set_option maxHeartbeats 200000 in
theorem cvT_i {T : Sy} {P Q : V2} {p D : Int} (hPQ : P ≠ Q) (hD : 0 < D) : cvT T P Q p D ↔ ∃ e, inT T e ∧ cvE P Q (sV T e) (sV T (e + 1)) p D := by
  have er : ∀ e, rl T (D * 1) (pX P Q p D) e = sn P Q (sV T e) p D := fun e => by unfold pX; rw [rl_at2, rl_1]; rfl
  constructor
  · rintro ⟨g, ⟨_, e, he, ho, hg⟩, hd⟩
    rw [er, er] at ho hg
    refine ⟨e, he, (cvE_i hPQ hD).mpr ⟨ho, ?_⟩⟩
    rcases hg with hg | hg
    · rw [hg] at hd; exact Or.inl hd
    · rw [hg] at hd; exact Or.inr hd
  · rintro ⟨e, he, hc⟩
    obtain ⟨ho, hd⟩ := (cvE_i hPQ hD).mp hc
    rcases hd with hd | hd
    · exact ⟨_, ⟨(dir_nz hd).2, e, he, by rw [er, er]; exact ho, Or.inl (er e).symm⟩, hd⟩
    · exact ⟨_, ⟨(dir_nz hd).2, e, he, by rw [er, er]; exact ho, Or.inr (er (e + 1)).symm⟩, hd⟩

/-! what a statement reads as -/
def sgq (T : Tp) (q : Nat) (c : Int) : Prop := kd T q = 3 ∧ byt T (fs T q) = c
noncomputable def exS (T : Tp) (c : Int) (r : Bool × Nat) : Bool × Nat := if r.1 = true then ifP (sgq T r.2 c) (true, nx T r.2) (false, r.2) else r
noncomputable def rdN (T : Tp) : Nat → Nat → Bool × Nat
  | 0, q => (true, q)
  | k + 1, q => ifP (kd T q = 2) (rdN T k (nx T q)) (false, q)
noncomputable def psN (T : Tp) : Nat → Nat → Nat
  | 0, q => q
  | k + 1, q => psN T k (nx T q)
noncomputable def rgP (T : Tp) : Nat → Nat → Sh → Bool × Nat × Sh
  | 0, q, s => (false, q, s)
  | g + 1, q, s => ifP (kd T q = 2) (ifP (kd T (nx T q) = 2) (ifP (sgq T (nx T (nx T q)) 44) (rgP T g (nx T (nx T (nx T q))) (adP s (nmb T q, nmb T (nx T q)))) (true, nx T (nx T q), adP s (nmb T q, nmb T (nx T q)))) (false, nx T q, s)) (false, q, s)
noncomputable def rngE (T : Tp) (r : Bool × Nat × Sh) : Bool × Nat × Sh := if r.1 = true then ifP (sgq T r.2.1 41) (true, nx T r.2.1, clR r.2.2) (false, r.2.1, clR r.2.2) else r
noncomputable def rg1 (T : Tp) (q : Nat) (s : Sh) : Bool × Nat × Sh := ifP (sgq T q 40) (rngE T (rgP T 4001 (nx T q) s)) (false, q, s)
noncomputable def rgs (T : Tp) : Nat → Nat → Sh → Bool × Nat × Sh
  | 0, q, s => (false, q, s)
  | g + 1, q, s => if (rg1 T q s).1 = true then ifP (sgq T (rg1 T q s).2.1 44) (rgs T g (nx T (rg1 T q s).2.1) (rg1 T q s).2.2) (rg1 T q s) else rg1 T q s
noncomputable def plE (T : Tp) (r : Bool × Nat × Sh) : Bool × Nat × Sh := if r.1 = true then ifP (sgq T r.2.1 41) (true, nx T r.2.1, r.2.2) (false, r.2.1, r.2.2) else r
noncomputable def pol (T : Tp) (q : Nat) (s : Sh) : Bool × Nat × Sh := ifP (sgq T q 40) (plE T (rgs T 4001 (nx T q) s)) (false, q, s)
noncomputable def pnt (T : Tp) (q : Nat) (s : Sh) : Bool × Nat × Sh := ifP (sgq T q 40) (ifP (kd T (nx T q) = 2) (ifP (kd T (nx T (nx T q)) = 2) (rngE T (true, nx T (nx T (nx T q)), adP s (nmb T (nx T q), nmb T (nx T (nx T q))))) (false, nx T (nx T q), s)) (false, nx T q, s)) (false, q, s)
noncomputable def ixW (T : Tp) (q : Nat) : List Nat → Nat → Nat
  | [], _ => 99
  | w :: ws, x => ifP (wq T q w) x (ixW T q ws (x + 1))
noncomputable def knd (T : Tp) (q : Nat) : Nat := ixW T q W1 0
noncomputable def shq (T : Tp) (q : Nat) : Bool × Nat × Sh := if knd T q = 99 then (false, q, sh0) else if knd T q = 0 then pnt T (nx T q) sh0 else if knd T q = 1 then rg1 T (nx T q) sh0 else pol T (nx T q) sh0
set_option maxHeartbeats 200000 in
theorem ixW_no {T : Tp} {q : Nat} : ∀ (W : List Nat) (x : Nat), noW T q W → ixW T q W x = 99 := by
  intro W
  induction W with
  | nil => intro x _; rfl
  | cons w ws ih =>
    intro x h
    rw [ixW, ifP_f (h w (List.mem_cons_self ..)), ih (x + 1) (fun j hj => h j (List.mem_cons_of_mem _ hj))]
set_option maxHeartbeats 200000 in
theorem ixW_is {T : Tp} {q w : Nat} (hw : w < 28) (k : wq T q w) : ∀ (W : List Nat) (x y : Nat), W.Nodup → (∀ j, j ∈ W → j < 28) → W[y]? = some w → ixW T q W x = x + y := by
  intro W
  induction W with
  | nil => intro x y _ _ h; cases h
  | cons u us ih =>
    intro x y nd hl h
    rw [ixW]
    cases y with
    | zero =>
      have e : u = w := by simpa using h
      subst e
      rw [ifP_t k]; rfl
    | succ y =>
      have h' : us[y]? = some w := by simpa using h
      have nd' := List.nodup_cons.mp nd
      have hm : w ∈ us := List.mem_of_getElem? h'
      rw [ifP_f (fun z => nd'.1 (by rw [wq_u (hl u (List.mem_cons_self ..)) hw z k]; exact hm)), ih (x + 1) y nd'.2 (fun j hj => hl j (List.mem_cons_of_mem _ hj)) h']
      omega
/-! the system: words and signs -/
set_option maxHeartbeats 200000 in
theorem e_skip {n : Nat} {σ : xσ} {T : Tp} {q j : Nat} {W : List Nat} (hd : TS σ T q) (nd : W.Nodup) (hl : ∀ j, j ∈ W → j < 28) (hL : W.length < 99) (h : SkR n σ T q j W) : ∃ σ', f_X9_skipWord n j σ = some (iI (if ixW T q W 0 = 99 then -1 else (ixW T q W 0 : Int)), σ') ∧ Fk PT σ σ' ∧ TS σ' T (if ixW T q W 0 = 99 then q else nx T q) ∧ (ixW T q W 0 = 99 ∨ (ixW T q W 0 < W.length ∧ ∃ w, W[ixW T q W 0]? = some w ∧ wq T q w)) := by
  rcases h with ⟨x, w, σ', h1, h2, h3, h4, h5⟩ | ⟨h1, h2⟩
  · have hx : x < W.length := by
      refine Classical.byContradiction (fun y => ?_)
      rw [List.getElem?_eq_none (by omega)] at h1; cases h1
    have e := ixW_is (hl w (List.mem_of_getElem? h1)) h2 W 0 x nd hl h1
    rw [Nat.zero_add] at e
    rw [e, if_neg (by omega), if_neg (by omega)]
    exact ⟨σ', by rw [h3, nI_i], h4, h5, Or.inr ⟨hx, w, h1, h2⟩⟩
  · rw [ixW_no W 0 h1, if_pos rfl, if_pos rfl]
    exact ⟨σ, h2, Fk.refl, hd, Or.inl rfl⟩
set_option maxHeartbeats 200000 in
theorem e_skipSign {n : Nat} {σ : xσ} {T : Tp} (hT : TpS σ T) (ok : okTp T) {q : Nat} (hq : q ≤ T.1) (h : TS σ T q) {c : Int} (hc : 0 ≤ c ∧ c < 128) : ∃ σ', f_X9_skipSign n (iI c) σ = some (tf (sgq T q c), σ') ∧ Fk PT σ σ' ∧ TS σ' T (ifP (sgq T q c) (nx T q) q) := by
  have h4 := ok.1
  have k4 := kd_le T q
  have hn := nx_b hq
  rw [f_X9_skipSign, h.1, h.2.1]
  simp only [nIq3 (show kd T q < 2147483648 by omega)]
  by_cases k : kd T q = 3
  · have l := kd_lt (T := T) (q := q) (by omega)
    have hz := ok.2 _ l
    have hf := sB_f hz
    have e : (iI (sB (T.2 (fs T q))) = iI c) ↔ byt T (fs T q) = c := by
      rw [iI_eq (sB_r hz) ⟨by omega, by omega⟩, bt_in l]
      constructor
      · intro y
        rcases Int.lt_or_le (T.2 (fs T q)) 128 with z | z
        · rw [← hf.1 z]; exact y
        · have := hf.2.1 z; omega
      · intro y; rw [hf.1 (by omega)]; exact y
    rw [if_pos k, gd_in (by omega) (by omega), nI_k (by omega), hT.2 _ l]
    by_cases s : byt T (fs T q) = c
    · obtain ⟨σ', t1, t2, t3⟩ := e_advance (n := n) hT ok hn.2.1 h.2.2.1
      rw [if_pos (e.mpr s), t1, bd, tf_t ⟨k, s⟩, ifP_t ⟨k, s⟩]
      exact ⟨σ', rfl, t2, t3⟩
    · rw [if_neg (fun y => s (e.mp y)), tf_f (fun y => s y.2), ifP_f (fun y => s y.2)]
      exact ⟨σ, rfl, Fk.refl, h⟩
  · rw [if_neg k, tf_f (fun y => k y.1), ifP_f (fun y => k y.1)]
    exact ⟨σ, rfl, Fk.refl, h⟩
/-! positions -/
set_option maxHeartbeats 200000 in
theorem sgq_nx {T : Tp} {q : Nat} (hq : q ≤ T.1) {c : Int} (h : sgq T q c) : q < nx T q ∧ nx T q ≤ T.1 := nx_gt hq (by rw [h.1]; omega)
set_option maxHeartbeats 200000 in
theorem num_nx {T : Tp} {q : Nat} (hq : q ≤ T.1) (h : kd T q = 2) : q < nx T q ∧ nx T q ≤ T.1 := nx_gt hq (by omega)
def gVs (s : Sh) : Prop := ∀ i, i < shP s → bV (shV s i)
set_option maxHeartbeats 200000 in
theorem gV_ad {s : Sh} (h : gVs s) {v : V2} (hv : bV v) : gVs (adP s v) := fun i hi => by
  show bV (if i = shP s then v else shV s i)
  by_cases e : i = shP s
  · rw [if_pos e]; exact hv
  · have : i < shP s + 1 := hi
    rw [if_neg e]; exact h i (by omega)
set_option maxHeartbeats 200000 in
theorem gV_cl {s : Sh} (h : gVs s) : gVs (clR s) := h
set_option maxHeartbeats 200000 in
theorem bV_nb {T : Tp} {q : Nat} (h1 : kd T q = 2) (h2 : kd T (nx T q) = 2) : bV (nmb T q, nmb T (nx T q)) := ⟨nb_b h1, nb_b h2⟩
/-! what reading the places of a ring gives -/
set_option maxHeartbeats 200000 in
theorem rgP_b {T : Tp} : ∀ g q s, q ≤ T.1 → gVs s → (rgP T g q s).2.1 ≤ T.1 ∧ q ≤ (rgP T g q s).2.1 ∧ gVs (rgP T g q s).2.2 ∧ shR (rgP T g q s).2.2 = shR s ∧ shE (rgP T g q s).2.2 = shE s ∧ shP s ≤ shP (rgP T g q s).2.2 ∧ ((rgP T g q s).1 = true → shP s < shP (rgP T g q s).2.2 ∧ q < (rgP T g q s).2.1) := by
  intro g
  induction g with
  | zero => intro q s hq hs; exact ⟨hq, Nat.le_refl _, hs, rfl, rfl, Nat.le_refl _, fun y => nomatch y⟩
  | succ g ih =>
    intro q s hq hs
    rw [rgP]
    by_cases k1 : kd T q = 2
    · rw [ifP_t k1]
      have n1 := num_nx hq k1
      by_cases k2 : kd T (nx T q) = 2
      · rw [ifP_t k2]
        have n2 := num_nx n1.2 k2
        have g1 := gV_ad hs (bV_nb k1 k2)
        by_cases c : sgq T (nx T (nx T q)) 44
        · rw [ifP_t c]
          have n3 := sgq_nx n2.2 c
          obtain ⟨a1, a2, a3, a4, a5, a6, a7⟩ := ih (nx T (nx T (nx T q))) _ n3.2 g1
          have a6' : shP s + 1 ≤ _ := a6
          exact ⟨a1, by omega, a3, a4, a5, by omega, fun y => ⟨by omega, by omega⟩⟩
        · rw [ifP_f c]
          refine ⟨n2.2, show q ≤ nx T (nx T q) by omega, g1, rfl, rfl, ?_, fun _ => ⟨?_, show q < nx T (nx T q) by omega⟩⟩
          · show shP s ≤ shP s + 1; omega
          · show shP s < shP s + 1; omega
      · rw [ifP_f k2]
        exact ⟨n1.2, show q ≤ nx T q by omega, hs, rfl, rfl, Nat.le_refl _, fun y => nomatch y⟩
    · rw [ifP_f k1]
      exact ⟨hq, Nat.le_refl _, hs, rfl, rfl, Nat.le_refl _, fun y => nomatch y⟩
/-- all places are in closed rings -/
def Cld (s : Sh) : Prop := gVs s ∧ (∀ r, r < shR s → 1 ≤ shE s r ∧ shE s r ≤ min (shP s) 40) ∧ (shP s ≤ 40 → ∀ r, r + 1 < shR s → shE s r < shE s (r + 1)) ∧ ((shR s = 0 ∧ shP s = 0) ∨ (1 ≤ shR s ∧ 1 ≤ shP s ∧ shE s (shR s - 1) = min (shP s) 40))
set_option maxHeartbeats 200000 in
theorem Cl_0 : Cld sh0 := ⟨fun i (h : i < 0) => absurd h (Nat.not_lt_zero i), fun r (h : r < 0) => absurd h (Nat.not_lt_zero r), fun _ r (h : r + 1 < 0) => absurd h (Nat.not_lt_zero _), Or.inl ⟨rfl, rfl⟩⟩
set_option maxHeartbeats 200000 in
theorem Cl_cl {s s' : Sh} (h : Cld s) (hg : gVs s') (e1 : shR s' = shR s) (e2 : shE s' = shE s) (e3 : shP s < shP s') : Cld (clR s') := by
  obtain ⟨h1, h2, h3, h4⟩ := h
  have pc : shP (clR s') = shP s' := rfl
  have rc : shR (clR s') = shR s + 1 := by rw [← e1]; rfl
  have ec : ∀ r, shE (clR s') r = if r = shR s then min (shP s') 40 else shE s r := fun r => by rw [← e1, ← e2]; rfl
  refine ⟨gV_cl hg, fun r hr => ?_, fun h40 r hr => ?_, Or.inr ⟨by omega, by omega, ?_⟩⟩
  · rw [rc] at hr
    rw [ec, pc]
    by_cases z : r = shR s
    · rw [if_pos z]; omega
    · rw [if_neg z]
      have := h2 r (by omega)
      omega
  · rw [rc] at hr
    rw [pc] at h40
    rw [ec, ec, if_neg (by omega)]
    by_cases z : r + 1 = shR s
    · rw [if_pos z]
      have := h2 r (by omega)
      omega
    · rw [if_neg z]; exact h3 (by omega) r (by omega)
  · rw [ec, rc, pc, if_pos (by omega)]
set_option maxHeartbeats 200000 in
theorem rg1_b {T : Tp} {q : Nat} {s : Sh} (hq : q ≤ T.1) (hs : Cld s) : (rg1 T q s).2.1 ≤ T.1 ∧ q ≤ (rg1 T q s).2.1 ∧ gVs (rg1 T q s).2.2 ∧ ((rg1 T q s).1 = true → Cld (rg1 T q s).2.2 ∧ shR (rg1 T q s).2.2 = shR s + 1 ∧ q < (rg1 T q s).2.1) := by
  unfold rg1
  by_cases c : sgq T q 40
  · have n1 := sgq_nx hq c
    obtain ⟨a1, a2, a3, a4, a5, a6, a7⟩ := rgP_b 4001 (nx T q) s n1.2 hs.1
    rw [ifP_t c]
    unfold rngE
    by_cases k : (rgP T 4001 (nx T q) s).1 = true
    · rw [if_pos k]
      have cl := Cl_cl hs a3 a4 a5 (a7 k).1
      by_cases d : sgq T (rgP T 4001 (nx T q) s).2.1 41
      · rw [ifP_t d]
        have n2 := sgq_nx a1 d
        refine ⟨n2.2, by show q ≤ nx T _; omega, gV_cl a3, fun _ => ⟨cl, ?_, by show q < nx T _; omega⟩⟩
        show shR (rgP T 4001 (nx T q) s).2.2 + 1 = _
        rw [a4]
      · rw [ifP_f d]
        exact ⟨a1, by show q ≤ (rgP T 4001 (nx T q) s).2.1; omega, gV_cl a3, fun y => nomatch y⟩
    · rw [if_neg k]
      exact ⟨a1, by omega, a3, fun y => (k y).elim⟩
  · rw [ifP_f c]
    exact ⟨hq, Nat.le_refl _, hs.1, fun y => nomatch y⟩
set_option maxHeartbeats 200000 in
theorem rgs_b {T : Tp} : ∀ g q s, q ≤ T.1 → Cld s → (rgs T g q s).2.1 ≤ T.1 ∧ gVs (rgs T g q s).2.2 ∧ ((rgs T g q s).1 = true → Cld (rgs T g q s).2.2 ∧ 1 ≤ shR (rgs T g q s).2.2) := by
  intro g
  induction g with
  | zero => intro q s hq hs; exact ⟨hq, hs.1, fun y => nomatch y⟩
  | succ g ih =>
    intro q s hq hs
    rw [rgs]
    obtain ⟨a1, a2, a3, a4⟩ := rg1_b hq hs
    by_cases k : (rg1 T q s).1 = true
    · rw [if_pos k]
      by_cases c : sgq T (rg1 T q s).2.1 44
      · rw [ifP_t c]
        exact ih _ _ (sgq_nx a1 c).2 (a4 k).1
      · rw [ifP_f c]
        exact ⟨a1, a3, fun y => ⟨(a4 y).1, by have := (a4 y).2.1; omega⟩⟩
    · rw [if_neg k]
      exact ⟨a1, a3, fun y => (k y).elim⟩
set_option maxHeartbeats 200000 in
theorem pol_b {T : Tp} {q : Nat} {s : Sh} (hq : q ≤ T.1) (hs : Cld s) : (pol T q s).2.1 ≤ T.1 ∧ gVs (pol T q s).2.2 ∧ ((pol T q s).1 = true → Cld (pol T q s).2.2 ∧ 1 ≤ shR (pol T q s).2.2) := by
  unfold pol
  by_cases c : sgq T q 40
  · rw [ifP_t c]
    obtain ⟨a1, a2, a3⟩ := rgs_b 4001 (nx T q) s (sgq_nx hq c).2 hs
    unfold plE
    by_cases k : (rgs T 4001 (nx T q) s).1 = true
    · rw [if_pos k]
      by_cases d : sgq T (rgs T 4001 (nx T q) s).2.1 41
      · rw [ifP_t d]; exact ⟨(sgq_nx a1 d).2, a2, fun _ => a3 k⟩
      · rw [ifP_f d]; exact ⟨a1, a2, fun y => nomatch y⟩
    · rw [if_neg k]; exact ⟨a1, a2, fun y => (k y).elim⟩
  · rw [ifP_f c]; exact ⟨hq, hs.1, fun y => nomatch y⟩
set_option maxHeartbeats 200000 in
theorem pnt_b {T : Tp} {q : Nat} {s : Sh} (hq : q ≤ T.1) (hs : Cld s) : (pnt T q s).2.1 ≤ T.1 ∧ gVs (pnt T q s).2.2 ∧ ((pnt T q s).1 = true → Cld (pnt T q s).2.2 ∧ shR (pnt T q s).2.2 = shR s + 1 ∧ shP (pnt T q s).2.2 = shP s + 1) := by
  unfold pnt
  by_cases c : sgq T q 40
  · rw [ifP_t c]
    have n1 := sgq_nx hq c
    by_cases k1 : kd T (nx T q) = 2
    · rw [ifP_t k1]
      have n2 := num_nx n1.2 k1
      by_cases k2 : kd T (nx T (nx T q)) = 2
      · rw [ifP_t k2]
        have n3 := num_nx n2.2 k2
        have g1 := gV_ad hs.1 (bV_nb k1 k2)
        unfold rngE
        rw [if_pos rfl]
        by_cases d : sgq T (nx T (nx T (nx T q))) 41
        · rw [ifP_t d]
          exact ⟨(sgq_nx n3.2 d).2, gV_cl g1, fun _ => ⟨Cl_cl hs g1 rfl rfl (by show shP s < shP s + 1; omega), rfl, rfl⟩⟩
        · rw [ifP_f d]; exact ⟨n3.2, gV_cl g1, fun y => nomatch y⟩
      · rw [ifP_f k2]; exact ⟨n2.2, hs.1, fun y => nomatch y⟩
    · rw [ifP_f k1]; exact ⟨n1.2, hs.1, fun y => nomatch y⟩
  · rw [ifP_f c]; exact ⟨hq, hs.1, fun y => nomatch y⟩
set_option maxHeartbeats 200000 in
theorem knd_v (T : Tp) (q : Nat) : knd T q = 99 ∨ knd T q < 3 := by
  unfold knd W1 ixW
  by_cases h1 : wq T q 5
  · rw [ifP_t h1]; omega
  · rw [ifP_f h1, ixW]
    by_cases h2 : wq T q 6
    · rw [ifP_t h2]; omega
    · rw [ifP_f h2, ixW]
      by_cases h3 : wq T q 7
      · rw [ifP_t h3]; omega
      · rw [ifP_f h3]; exact Or.inl rfl
set_option maxHeartbeats 200000 in
theorem ixW_k {T : Tp} {q : Nat} : ∀ (W : List Nat) (x : Nat), ixW T q W x ≠ 99 → kd T q = 1 := by
  intro W
  induction W with
  | nil => intro x h; exact (h rfl).elim
  | cons w ws ih =>
    intro x h
    rw [ixW] at h
    by_cases k : wq T q w
    · exact k.1
    · rw [ifP_f k] at h; exact ih (x + 1) h
set_option maxHeartbeats 200000 in
theorem ix_nx {T : Tp} {q : Nat} (hq : q ≤ T.1) {W : List Nat} {x : Nat} (h : ixW T q W x ≠ 99) : q < nx T q ∧ nx T q ≤ T.1 := nx_gt hq (by rw [ixW_k W x h]; omega)
set_option maxHeartbeats 200000 in
theorem shq_b {T : Tp} {q : Nat} (hq : q ≤ T.1) : (shq T q).2.1 ≤ T.1 ∧ gVs (shq T q).2.2 ∧ ((shq T q).1 = true → knd T q < 3 ∧ Cld (shq T q).2.2 ∧ 1 ≤ shR (shq T q).2.2 ∧ (knd T q ≠ 2 → shR (shq T q).2.2 = 1) ∧ (knd T q = 0 → shP (shq T q).2.2 = 1)) := by
  unfold shq
  by_cases k : knd T q = 99
  · rw [if_pos k]; exact ⟨hq, Cl_0.1, fun y => nomatch y⟩
  · have kv : knd T q < 3 := by rcases knd_v T q with y | y; exact (k y).elim; exact y
    have n1 := (ix_nx (W := W1) (x := 0) hq k).2
    rw [if_neg k]
    by_cases k0 : knd T q = 0
    · rw [if_pos k0]
      obtain ⟨a1, a2, a3⟩ := pnt_b n1 Cl_0
      exact ⟨a1, a2, fun y => ⟨kv, (a3 y).1, by have := (a3 y).2.1; omega, fun _ => (a3 y).2.1, fun _ => (a3 y).2.2⟩⟩
    · rw [if_neg k0]
      by_cases k1 : knd T q = 1
      · rw [if_pos k1]
        obtain ⟨a1, a2, a3, a4⟩ := rg1_b n1 Cl_0
        exact ⟨a1, a3, fun y => ⟨kv, (a4 y).1, by have := (a4 y).2.1; omega, fun _ => (a4 y).2.1, fun z => (k0 z).elim⟩⟩
      · rw [if_neg k1]
        obtain ⟨a1, a2, a3⟩ := pol_b n1 Cl_0
        exact ⟨a1, a2, fun y => ⟨kv, (a3 y).1, (a3 y).2, fun z => by omega, fun z => (k0 z).elim⟩⟩
/-! a shape that was read and is not too large is well formed -/
set_option maxHeartbeats 200000 in
theorem WF_shq {T : Tp} {q : Nat} (hq : q ≤ T.1) (h : (shq T q).1 = true) (h40 : shP (shq T q).2.2 ≤ 40) (h8 : shR (shq T q).2.2 ≤ 8) : WF ((knd T q, (shq T q).2.2) : Ct) := by
  obtain ⟨_, _, a3⟩ := shq_b hq
  obtain ⟨b1, ⟨c1, c2, c3, c4⟩, b3, b4, b5⟩ := a3 h
  have c4' : 1 ≤ shP (shq T q).2.2 ∧ shE (shq T q).2.2 (shR (shq T q).2.2 - 1) = min (shP (shq T q).2.2) 40 := by
    rcases c4 with y | y
    · omega
    · exact y.2
  refine ⟨⟨?_, c4'.1, h40, b3, h8⟩, fun r hr => ?_, fun r hr => c3 h40 r hr, ?_, fun i hi => c1 i hi, b4, b5⟩
  · show knd T q ≤ 2; omega
  · have := c2 r hr
    exact ⟨this.1, Nat.le_trans this.2 (Nat.min_le_left _ _)⟩
  · show shE (shq T q).2.2 (shR (shq T q).2.2 - 1) = shP (shq T q).2.2
    rw [c4'.2]; omega

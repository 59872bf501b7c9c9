/-! THE REFERENCE: goAlong -/
def RC (σ : xσ) (L : List (Int × Int)) : Prop := sI σ 233 13 = nI L.length ∧ ∀ i (h : i < L.length), sJ σ 238 i = jJ L[i].1 ∧ sJ σ 239 i = jJ L[i].2
def FrK (σ σ' : xσ) : Prop := Fr (fun b => b = 233 ∨ b = 238 ∨ b = 239) σ σ' ∧ (∀ k, k ≠ 13 → sI σ' 233 k = sI σ 233 k) ∧ (∀ k, sJ σ' 233 k = sJ σ 233 k)
set_option maxHeartbeats 200000 in
theorem FrK.refl {σ : xσ} : FrK σ σ := ⟨Fr.refl, fun _ _ => rfl, fun _ => rfl⟩
set_option maxHeartbeats 200000 in
theorem FrK.trans {σ1 σ2 σ3 : xσ} (h : FrK σ1 σ2) (k : FrK σ2 σ3) : FrK σ1 σ3 := ⟨h.1.trans k.1, fun j a => (k.2.1 j a).trans (h.2.1 j a), fun j => (k.2.2 j).trans (h.2.2 j)⟩
set_option maxHeartbeats 200000 in
theorem m_cut {n : Nat} {σ : xσ} {L : List (Int × Int)} {x W : Int} (h : RC σ L) (hL : L.length < 82) (hW : sJ σ 233 10 = jJ W) (rx : R64 x) (rW : R64 W) : ∃ σ', f_X14_cut n (jJ x) σ = some ((), σ') ∧ FrK σ σ' ∧ RC σ' (L ++ if 0 ≤ x ∧ x ≤ W then [(x, W)] else []) := by
  obtain ⟨h1, h2⟩ := h
  rw [f_X14_cut, hW]
  simp only [lz_lt rx, lc_le rx rW]
  by_cases q1 : x < 0
  · rw [if_pos q1, if_neg (by omega), List.append_nil]; exact ⟨σ, rfl, FrK.refl, h1, h2⟩
  · rw [if_neg q1]
    by_cases q2 : x ≤ W
    · rw [if_pos q2, if_pos ⟨by omega, q2⟩, h1]
      simp (disch := omega) only [gd_in, nI_k, st]
      have e1 : sI (wJ σ 238 L.length (jJ x)) 233 13 = nI L.length := h1
      rw [e1]
      simp (disch := omega) only [gd_in, nI_k]
      have e2 : sI (wJ (wJ σ 238 L.length (jJ x)) 239 L.length (sJ (wJ σ 238 L.length (jJ x)) 233 10)) 233 13 = nI L.length := h1
      have e3 : sJ (wJ σ 238 L.length (jJ x)) 233 10 = jJ W := hW
      rw [e2, e3, nI_s]
      refine ⟨_, rfl, ⟨((Fr.wJ (by omega)).trans (Fr.wJ (by omega))).trans (Fr.wI (by omega)), fun k hk => ?_, fun k => ?_⟩, ?_, fun i hi => ?_⟩
      · rw [sI_wI, if_neg (by omega)]; rfl
      · rw [sJ_wI, sJ_wJ, if_neg (by omega), sJ_wJ, if_neg (by omega)]
      · rw [sI_wI, if_pos ⟨rfl, rfl⟩, List.length_append]; rfl
      · rw [List.length_append] at hi
        have hi' : i < L.length + 1 := hi
        by_cases z : i = L.length
        · subst z
          refine ⟨?_, ?_⟩
          · rw [sJ_wI, sJ_wJ, if_neg (by omega), sJ_wJ, if_pos ⟨rfl, rfl⟩]; simp
          · rw [sJ_wI, sJ_wJ, if_pos ⟨rfl, rfl⟩]; simp
        · have hl : i < L.length := by omega
          rw [List.getElem_append_left hl]
          refine ⟨?_, ?_⟩
          · rw [sJ_wI, sJ_wJ, if_neg (by omega), sJ_wJ, if_neg (by omega)]; exact (h2 i hl).1
          · rw [sJ_wI, sJ_wJ, if_neg (by omega), sJ_wJ, if_neg (by omega)]; exact (h2 i hl).2
    · rw [if_neg q2, if_neg (by omega), List.append_nil]; exact ⟨σ, rfl, FrK.refl, h1, h2⟩
/-- all but what goAlong notes -/
def AZ (b : Nat) : Prop := b = 233 ∨ A47 b ∨ b = 238 ∨ b = 239 ∨ b = 240
def FrZ (σ σ' : xσ) : Prop := Fr AZ σ σ' ∧ (∀ k, 23 ≤ k → sI σ' 233 k = sI σ 233 k)
set_option maxHeartbeats 200000 in
theorem FrZ.refl {σ : xσ} : FrZ σ σ := ⟨Fr.refl, fun _ _ => rfl⟩
set_option maxHeartbeats 200000 in
theorem FrZ.trans {σ1 σ2 σ3 : xσ} (h : FrZ σ1 σ2) (k : FrZ σ2 σ3) : FrZ σ1 σ3 := ⟨h.1.trans k.1, fun j a => (k.2 j a).trans (h.2 j a)⟩
set_option maxHeartbeats 200000 in
theorem FrG.Z {σ σ' : xσ} (f : FrG σ σ') : FrZ σ σ' := ⟨f.1.mono (fun b hb => hb.elim Or.inl (fun z => Or.inr (Or.inl z))), fun k a => f.2 k (Or.inr a)⟩
set_option maxHeartbeats 200000 in
theorem FrK.Z {σ σ' : xσ} (f : FrK σ σ') : FrZ σ σ' := ⟨f.1.mono (fun b hb => by unfold AZ; omega), fun k a => f.2.1 k (by omega)⟩
set_option maxHeartbeats 200000 in
theorem FrW.Z {σ σ' : xσ} (f : FrW σ σ') : FrZ σ σ' := f.L.G.Z
set_option maxHeartbeats 200000 in
theorem MH.z {σ σ' : xσ} {a : Nat} {c : Ct} (S : MH σ a c) (f : FrZ σ σ') : MH σ' a c := S.fr f.1 (by
  have := S.1
  unfold okM at this
  intro j hj h
  unfold AZ A47 at h
  omega)
set_option maxHeartbeats 200000 in
theorem LF.k {σ σ' : xσ} {d : Ct} {lf : Nat → Bool} (h : LF σ d lf) (f : FrK σ σ') : LF σ' d lf := fun hk r hr => ((f.1 240 (by omega) r).1).trans (h hk r hr)
set_option maxHeartbeats 200000 in
theorem SAW.w {σ σ' : xσ} {I O A S : Prop} (h : SAW σ I O A S) (f : FrW σ σ') : SAW σ' I O A S := ⟨(f.2.1 4 (by omega) (by omega)).trans h.1, (f.2.1 5 (by omega) (by omega)).trans h.2.1, (f.2.1 6 (by omega) (by omega)).trans h.2.2.1, (f.2.1 7 (by omega) (by omega)).trans h.2.2.2⟩
set_option maxHeartbeats 200000 in
theorem SAW.k {σ σ' : xσ} {I O A S : Prop} (h : SAW σ I O A S) (f : FrK σ σ') : SAW σ' I O A S := ⟨(f.2.1 4 (by omega)).trans h.1, (f.2.1 5 (by omega)).trans h.2.1, (f.2.1 6 (by omega)).trans h.2.2.1, (f.2.1 7 (by omega)).trans h.2.2.2⟩
set_option maxHeartbeats 200000 in
theorem RC.w {σ σ' : xσ} {L : List (Int × Int)} (h : RC σ L) (f : FrW σ σ') : RC σ' L := ⟨(f.2.1 13 (by omega) (by omega)).trans h.1, fun i hi => ⟨((f.1 238 (by omega) i).2.1).trans (h.2 i hi).1, ((f.1 239 (by omega) i).2.1).trans (h.2 i hi).2⟩⟩
set_option maxHeartbeats 200000 in
theorem RC.g {σ σ' : xσ} {L : List (Int × Int)} (h : RC σ L) (f : FrG σ σ') : RC σ' L := ⟨(f.2 13 (Or.inl rfl)).trans h.1, fun i hi => ⟨((f.1 238 (by unfold A47; omega) i).2.1).trans (h.2 i hi).1, ((f.1 239 (by unfold A47; omega) i).2.1).trans (h.2 i hi).2⟩⟩
/-- the parts at which the ways of d meet the way from P to Q -/
def ctJ (d : Ct) (P Q : V2) (j : Nat) (x : Int × Int) : Prop := 0 ≤ x.1 ∧ x.1 ≤ x.2 ∧ x.2 = mW P Q (cV d j) (cV d (j + 1)) ∧ ((inL P Q (cV d j) (cV d (j + 1)) ∧ (x.1 = mP P Q (cV d j) (cV d (j + 1)) ∨ x.1 = mO P Q (cV d j) (cV d (j + 1)))) ∨ (mM P Q (cV d j) (cV d (j + 1)) ∧ x.1 = mP P Q (cV d j) (cV d (j + 1))))
def ctS (d : Ct) (P Q : V2) (x : Int × Int) : Prop := x = (0, 1) ∨ ∃ j, wy d j ∧ ctJ d P Q j x
set_option maxHeartbeats 200000 in
theorem l_cuts {n : Nat} {a b : Nat} {c d : Ct} (F : WF c) (G : WF d) {i : Nat} (hi : i + 1 < cN c) (hPQ : cV c i ≠ cV c (i + 1)) {lf : Nat → Bool} {I O A SS : Prop} (K : Nat → Nat → Int32 → xσ → Option (Unit × xσ)) : ∀ (fu j : Nat) (σ : xσ) (L : List (Int × Int)), cN d - j < fu → j ≤ 40 → MH σ a c → MH σ b d → LF σ d lf → SAW σ I O A SS → RC σ L → L.length ≤ 1 + 2 * j → j ≤ cN d → (∀ x, x ∈ L ↔ (x = (0, 1) ∨ ∃ e, e < j ∧ wy d e ∧ ctJ d (cV c i) (cV c (i + 1)) e x)) →
    ∃ σ' L', l_X14_goAlong_96 n K fu a b (nI i) (nI j) σ = l_X14_goAlong_178 n K xFU a b (nI i) 0 σ' ∧ FrZ σ σ' ∧ LF σ' d lf ∧ SAW σ' I O A SS ∧ RC σ' L' ∧ L'.length ≤ 82 ∧ (∀ x, x ∈ L' ↔ ctS d (cV c i) (cV c (i + 1)) x) := by
  have hN := F.n
  have hM := G.n
  have bP := F.b (show i < cN c by omega)
  have bQ := F.b hi
  intro fu
  induction fu with
  | zero => intro j σ L h; omega
  | succ fu ih =>
    intro j σ L hf hj S T hl hw hR hlen hjN hmem
    rw [l_X14_goAlong_96, T.N, nI_s]
    by_cases q0 : cN d ≤ j + 1
    · rw [if_pos ((nI_e' (by omega) (by omega)).mpr q0)]
      refine ⟨σ, L, rfl, FrZ.refl, hl, hw, hR, by omega, fun x => ?_⟩
      rw [hmem]
      exact ⟨fun h => h.imp id (fun ⟨e, _, e2⟩ => ⟨e, e2⟩), fun h => h.imp id (fun ⟨e, e2⟩ => ⟨e, by have := e2.1.2.1; omega, e2⟩)⟩
    · rw [if_neg (fun z => q0 ((nI_e' (by omega) (by omega)).mp z)), m_isWay T G (show j < 40 by omega), bd]
      by_cases q1 : wy d j
      · rw [if_neg (tn q1)]
        have hj' : j + 1 < cN d := by omega
        obtain ⟨σ1, a1, a2, a3⟩ := m_meetWays (n := n) S F T G hi hj'
        rw [a1, bd]
        obtain ⟨m1, m2, m3, m4, m5⟩ := a3
        rw [m4, m5]
        obtain ⟨kW, kP, kO⟩ := m_b bP bQ (G.b (show j < cN d by omega)) (G.b hj') hPQ
        have rW : R64 (mW (cV c i) (cV c (i + 1)) (cV d j) (cV d (j + 1))) := by constructor <;> omega
        have fin : ∀ (σ2 : xσ) (M : List (Int × Int)), FrZ σ σ2 → LF σ2 d lf → SAW σ2 I O A SS → RC σ2 (L ++ M) → M.length ≤ 2 → (∀ x, x ∈ M ↔ ctJ d (cV c i) (cV c (i + 1)) j x) →
            ∃ σ' L', l_X14_goAlong_96 n K fu a b (nI i) (nI (j + 1)) σ2 = l_X14_goAlong_178 n K xFU a b (nI i) 0 σ' ∧ FrZ σ σ' ∧ LF σ' d lf ∧ SAW σ' I O A SS ∧ RC σ' L' ∧ L'.length ≤ 82 ∧ (∀ x, x ∈ L' ↔ ctS d (cV c i) (cV c (i + 1)) x) := by
          intro σ2 M f2 hl2 hw2 hR2 hM2 hmm
          obtain ⟨σ', L', b1, b2, b3⟩ := ih (j + 1) σ2 (L ++ M) (by omega) (by omega) (S.z f2) (T.z f2) hl2 hw2 hR2 (by rw [List.length_append]; omega) (by omega) (fun x => by
            rw [List.mem_append, hmem, hmm]
            constructor
            · rintro ((h | ⟨e, e1, e2, e3⟩) | h)
              · exact Or.inl h
              · exact Or.inr ⟨e, by omega, e2, e3⟩
              · exact Or.inr ⟨j, by omega, q1, h⟩
            · rintro (h | ⟨e, e1, e2, e3⟩)
              · exact Or.inl (Or.inl h)
              · by_cases z : e = j
                · subst z; exact Or.inr e3
                · exact Or.inl (Or.inr ⟨e, by omega, e2, e3⟩))
          exact ⟨σ', L', b1, f2.trans b2, b3⟩
        have one : ∀ x W : Int, (if 0 ≤ x ∧ x ≤ W then [(x, W)] else []).length ≤ 1 := by intro x W; split <;> simp
        have memone : ∀ (x W : Int) (y : Int × Int), (y ∈ if 0 ≤ x ∧ x ≤ W then [(x, W)] else []) ↔ (0 ≤ y.1 ∧ y.1 ≤ y.2 ∧ y.2 = W ∧ y.1 = x) := by
          intro x W y
          by_cases z : 0 ≤ x ∧ x ≤ W
          · rw [if_pos z, List.mem_singleton]
            constructor
            · intro h; subst h; exact ⟨z.1, z.2, rfl, rfl⟩
            · rintro ⟨_, _, h1, h2⟩; exact Prod.ext h2 h1
          · rw [if_neg z]
            constructor
            · intro h; exact absurd h (by simp)
            · rintro ⟨h1, h2, h3, h4⟩; omega
        by_cases q2 : inL (cV c i) (cV c (i + 1)) (cV d j) (cV d (j + 1))
        · rw [if_neg (tn q2), m2]
          obtain ⟨σ2, c1, c2, c3⟩ := m_cut (n := n) (hR.w a2) (by omega) m1 kP rW
          have m3' : sJ σ2 233 12 = jJ (mO (cV c i) (cV c (i + 1)) (cV d j) (cV d (j + 1))) := (c2.2.2 12).trans m3
          obtain ⟨σ3, d1, d2, d3⟩ := m_cut (n := n) (x := mO (cV c i) (cV c (i + 1)) (cV d j) (cV d (j + 1))) c3 (by rw [List.length_append]; have := one (mP (cV c i) (cV c (i + 1)) (cV d j) (cV d (j + 1))) (mW (cV c i) (cV c (i + 1)) (cV d j) (cV d (j + 1))); omega) ((c2.2.2 10).trans m1) kO rW
          rw [c1, bd, m3', d1, bd, b_X14_goAlong_169, nI_s]
          rw [List.append_assoc] at d3
          refine fin σ3 _ ((a2.Z.trans c2.Z).trans d2.Z) (((hl.l a2.L).k c2).k d2) (((hw.w a2).k c2).k d2) d3 (by
            rw [List.length_append]
            have := one (mP (cV c i) (cV c (i + 1)) (cV d j) (cV d (j + 1))) (mW (cV c i) (cV c (i + 1)) (cV d j) (cV d (j + 1)))
            have := one (mO (cV c i) (cV c (i + 1)) (cV d j) (cV d (j + 1))) (mW (cV c i) (cV c (i + 1)) (cV d j) (cV d (j + 1)))
            omega) (fun x => ?_)
          rw [List.mem_append, memone, memone]
          unfold ctJ
          constructor
          · rintro (⟨h1, h2, h3, h4⟩ | ⟨h1, h2, h3, h4⟩)
            · exact ⟨h1, h2, h3, Or.inl ⟨q2, Or.inl h4⟩⟩
            · exact ⟨h1, h2, h3, Or.inl ⟨q2, Or.inr h4⟩⟩
          · rintro ⟨h1, h2, h3, (⟨_, h4 | h4⟩ | ⟨h5, _⟩)⟩
            · exact Or.inl ⟨h1, h2, h3, h4⟩
            · exact Or.inr ⟨h1, h2, h3, h4⟩
            · exact (h5.1 q2.1).elim
        · rw [if_pos (tf_f q2)]
          by_cases q3 : mM (cV c i) (cV c (i + 1)) (cV d j) (cV d (j + 1))
          · rw [if_neg (tn q3), m2]
            obtain ⟨σ2, c1, c2, c3⟩ := m_cut (n := n) (hR.w a2) (by omega) m1 kP rW
            rw [c1, bd, b_X14_goAlong_169, nI_s]
            refine fin σ2 _ (a2.Z.trans c2.Z) ((hl.l a2.L).k c2) ((hw.w a2).k c2) c3 (by have := one (mP (cV c i) (cV c (i + 1)) (cV d j) (cV d (j + 1))) (mW (cV c i) (cV c (i + 1)) (cV d j) (cV d (j + 1))); omega) (fun x => ?_)
            rw [memone]
            unfold ctJ
            constructor
            · rintro ⟨h1, h2, h3, h4⟩; exact ⟨h1, h2, h3, Or.inr ⟨q3, h4⟩⟩
            · rintro ⟨h1, h2, h3, (⟨h4, _⟩ | ⟨_, h5⟩)⟩
              · exact (q2 h4).elim
              · exact ⟨h1, h2, h3, h5⟩
          · rw [if_pos (tf_f q3)]
            have hR1 := hR.w a2
            rw [← List.append_nil L] at hR1
            refine fin σ1 [] a2.Z (hl.l a2.L) (hw.w a2) hR1 (by simp) (fun x => ?_)
            constructor
            · intro h; exact absurd h (by simp)
            · rintro ⟨h1, h2, h3, (⟨h4, _⟩ | ⟨h5, _⟩)⟩
              · exact (q2 h4).elim
              · exact (q3 h5).elim
      · rw [if_pos (tf_f q1), b_X14_goAlong_169, nI_s]
        refine ih (j + 1) σ L (by omega) (by omega) S T hl hw hR (by omega) (by omega) (fun x => ?_)
        rw [hmem]
        exact ⟨fun h => h.imp id (fun ⟨e, e1, e2⟩ => ⟨e, by omega, e2⟩), fun h => h.imp id (fun ⟨e, e1, e2⟩ => ⟨e, by
          have : e ≠ j := fun z => q1 (z ▸ e2.1)
          omega, e2⟩)⟩
/-! what a piece of the way i of c is, against d -/
def thP (d : Ct) (P Q : V2) (p D : Int) : Prop := ∃ g l, HH d (iL d) P Q p D g l
def alP (d : Ct) (P Q : V2) (p D : Int) : Prop := ∃ g l, HH d (iL d) P Q p D g l ∧ dir g (sub2 Q P)
def piI (d : Ct) (P Q : V2) (p D : Int) (q : Bool) : Prop := (¬ thP d P Q p D ∧ 0 ≤ loc d P) ∨ (alP d P Q p D ∧ cK d = 1) ∨ (thP d P Q p D ∧ ¬ alP d P Q p D ∧ cK d = 2 ∧ q = true)
def piO (d : Ct) (P Q : V2) (p D : Int) (q : Bool) : Prop := (¬ thP d P Q p D ∧ loc d P < 0) ∨ (thP d P Q p D ∧ ¬ alP d P Q p D ∧ ¬ (cK d = 2 ∧ q = true))
def piS (c d : Ct) (i : Nat) (p D : Int) (q : Bool) : Prop := alP d (cV c i) (cV c (i + 1)) p D ∧ cK c = 2 ∧ cK d = 2 ∧ q = iL c (rO c i)
/-- the parity that is told at a piece is q -/
def LPq (d : Ct) (P Q : V2) (p D : Int) (q : Bool) : Prop := cK d = 2 → ∀ g l, HH d (iL d) P Q p D g l → (¬ dir g (sub2 Q P) → ¬ alP d P Q p D → (∀ h l', HH d (iL d) P Q p D h l' → ¬ dir h (sub2 Q P) → hal (sub2 Q P) g < hal (sub2 Q P) h ∨ (hal (sub2 Q P) g = hal (sub2 Q P) h ∧ crs g h ≤ 0)) → l = q) ∧ (dir g (sub2 Q P) → l = q)
set_option maxHeartbeats 200000 in
theorem l_pieces {n : Nat} {a b : Nat} {c d : Ct} (F : WF c) (G : WF d) {i : Nat} (hi : i + 1 < cN c) (hPQ : cV c i ≠ cV c (i + 1)) (hd : ∀ e, wy d e → cV d e ≠ cV d (e + 1)) (hc : cK c = 2 → ∀ r, r < cR c → SmR c r) (q : Int → Int → Bool) (hq : ∀ p D, 0 ≤ p → p < D → LPq d (cV c i) (cV c (i + 1)) p D (q p D)) {L : List (Int × Int)} (hL : L.length ≤ 82) (hLx : ∀ x, x ∈ L → 0 ≤ x.1 ∧ x.1 ≤ x.2 ∧ x.2 < 9223372036854775808) (K : Nat → Nat → Int32 → xσ → Option (Unit × xσ)) : ∀ (fu k : Nat) (σ : xσ) (I O A SS : Prop), L.length - k < fu → k ≤ L.length → MH σ a c → MH σ b d → LF σ d (iL d) → SAW σ I O A SS → RC σ L →
    ∃ σ', l_X14_goAlong_178 n K fu a b (nI i) (nI k) σ = K a b (nI (i + 1)) σ' ∧ FrZ σ σ' ∧ LF σ' d (iL d) ∧
      SAW σ' (I ∨ ∃ x, x ∈ L.drop k ∧ x.1 < x.2 ∧ piI d (cV c i) (cV c (i + 1)) x.1 x.2 (q x.1 x.2)) (O ∨ ∃ x, x ∈ L.drop k ∧ x.1 < x.2 ∧ piO d (cV c i) (cV c (i + 1)) x.1 x.2 (q x.1 x.2)) (A ∨ ∃ x, x ∈ L.drop k ∧ x.1 < x.2 ∧ alP d (cV c i) (cV c (i + 1)) x.1 x.2) (SS ∨ ∃ x, x ∈ L.drop k ∧ x.1 < x.2 ∧ piS c d i x.1 x.2 (q x.1 x.2)) := by
  have hN := F.n
  intro fu
  induction fu with
  | zero => intro k σ I O A SS h; omega
  | succ fu ih =>
    intro k σ I O A SS hf hk S T hl hw hR
    rw [l_X14_goAlong_178, hR.1]
    by_cases q0 : L.length ≤ k
    · rw [if_pos ((nI_e' (by omega) (by omega)).mpr q0), nI_s, List.drop_of_length_le q0]
      have no : ∀ (X : Prop) (f : Int × Int → Prop), X ↔ (X ∨ ∃ x, x ∈ ([] : List (Int × Int)) ∧ f x) := fun X f => ⟨Or.inl, fun z => z.elim id (fun ⟨x, h, _⟩ => absurd h (by simp))⟩
      exact ⟨σ, rfl, FrZ.refl, hl, hw.cg (no _ _) (no _ _) (no _ _) (no _ _)⟩
    · have hk' : k < L.length := by omega
      have hx := hLx L[k] (List.getElem_mem hk')
      have r1 : R64 L[k].1 := by constructor <;> omega
      have r2 : R64 L[k].2 := by constructor <;> omega
      rw [if_neg (fun z => q0 ((nI_e' (by omega) (by omega)).mp z))]
      simp (disch := omega) only [gd_in, nI_k, nI_s]
      rw [(hR.2 k hk').1, (hR.2 k hk').2]
      simp only [lc_ge r1 r2]
      rw [List.drop_eq_getElem_cons hk']
      by_cases q1 : L[k].2 ≤ L[k].1
      · rw [if_pos q1]
        obtain ⟨σ', a1, a2, a3, a4⟩ := ih (k + 1) σ I O A SS (by omega) (by omega) S T hl hw hR
        refine ⟨σ', a1, a2, a3, a4.cg ?_ ?_ ?_ ?_⟩
        all_goals
          constructor
          · exact fun z => z.imp id (fun ⟨x, h1, h2⟩ => ⟨x, List.mem_cons_of_mem _ h1, h2⟩)
          · exact fun z => z.imp id (fun ⟨x, h1, h2⟩ => ⟨x, by
              rcases List.mem_cons.mp h1 with h1 | h1
              · rw [h1] at h2; have := h2.1; omega
              · exact h1, h2⟩)
      · rw [if_neg q1]
        obtain ⟨σ1, a1, a2, a3⟩ := m_goPiece (n := n) S F T G hi hPQ hd hc hl (p := L[k].1) (D := L[k].2) ⟨hx.1, by omega⟩ hx.2.2 (Q := q L[k].1 L[k].2) (fun h2 g l hg => ((hq _ _ hx.1 (by omega)) h2 g l hg).1) (fun h2 g l hg => ((hq _ _ hx.1 (by omega)) h2 g l hg).2) hw
        rw [a1, bd, b_X14_goAlong_226, nI_s]
        obtain ⟨σ', b1, b2, b3, b4⟩ := ih (k + 1) σ1 _ _ _ _ (by omega) (by omega) (S.g a2) (T.g a2) (hl.g a2) a3 (hR.g a2)
        refine ⟨σ', b1, a2.Z.trans b2, b3, b4.cg ?_ ?_ ?_ ?_⟩
        all_goals
          constructor
          · rintro ((z | z) | ⟨x, h1, h2⟩)
            · exact Or.inl z
            · exact Or.inr ⟨L[k], List.mem_cons_self .., by omega, z⟩
            · exact Or.inr ⟨x, List.mem_cons_of_mem _ h1, h2⟩
          · rintro (z | ⟨x, h1, h2, h3⟩)
            · exact Or.inl (Or.inl z)
            · rcases List.mem_cons.mp h1 with h1 | h1
              · subst h1; exact Or.inl (Or.inr h3)
              · exact Or.inr ⟨x, h1, h2, h3⟩
/-- a part of the way i of c at which goAlong looks -/
def lkP (c d : Ct) (i : Nat) (x : Int × Int) : Prop := wy c i ∧ ctS d (cV c i) (cV c (i + 1)) x ∧ x.1 < x.2
set_option maxHeartbeats 200000 in
theorem ctS_b {d : Ct} {P Q : V2} (G : WF d) (hP : bV P) (hQ : bV Q) (hPQ : P ≠ Q) {x : Int × Int} (h : ctS d P Q x) : 0 ≤ x.1 ∧ x.1 ≤ x.2 ∧ x.2 < 9223372036854775808 := by
  rcases h with rfl | ⟨j, h1, h2⟩
  · exact ⟨by decide, by decide, by decide⟩
  · have hj := h1.2.1
    obtain ⟨kW, _, _⟩ := m_b hP hQ (G.b (show j < cN d by omega)) (G.b hj) hPQ
    exact ⟨h2.1, h2.2.1, by rw [h2.2.2.1]; exact kW.2⟩
set_option maxHeartbeats 200000 in
theorem l_ways {n : Nat} {a b : Nat} {c d : Ct} (F : WF c) (G : WF d) (hcw : ∀ e, wy c e → cV c e ≠ cV c (e + 1)) (hd : ∀ e, wy d e → cV d e ≠ cV d (e + 1)) (hc : cK c = 2 → ∀ r, r < cR c → SmR c r) (q : Nat → Int → Int → Bool) (hq : ∀ i p D, wy c i → 0 ≤ p → p < D → LPq d (cV c i) (cV c (i + 1)) p D (q i p D)) : ∀ (fu i : Nat) (σ : xσ) (I O A SS : Prop), cN c - i < fu → i ≤ 40 → MH σ a c → MH σ b d → LF σ d (iL d) → SAW σ I O A SS →
    ∃ σ', l_X14_goAlong_57 n fu a b (nI i) σ = some ((), σ') ∧ FrZ σ σ' ∧
      SAW σ' (I ∨ ∃ e x, i ≤ e ∧ lkP c d e x ∧ piI d (cV c e) (cV c (e + 1)) x.1 x.2 (q e x.1 x.2)) (O ∨ ∃ e x, i ≤ e ∧ lkP c d e x ∧ piO d (cV c e) (cV c (e + 1)) x.1 x.2 (q e x.1 x.2)) (A ∨ ∃ e x, i ≤ e ∧ lkP c d e x ∧ alP d (cV c e) (cV c (e + 1)) x.1 x.2) (SS ∨ ∃ e x, i ≤ e ∧ lkP c d e x ∧ piS c d e x.1 x.2 (q e x.1 x.2)) := by
  have hN := F.n
  intro fu
  induction fu with
  | zero => intro i σ I O A SS h; omega
  | succ fu ih =>
    intro i σ I O A SS hf hi S T hl hw
    rw [l_X14_goAlong_57, S.N, nI_s]
    by_cases q0 : cN c ≤ i + 1
    · rw [if_pos ((nI_e' (by omega) (by omega)).mpr q0)]
      have no : ∀ (X : Prop) (f : Nat → Int × Int → Prop), X ↔ (X ∨ ∃ e x, i ≤ e ∧ lkP c d e x ∧ f e x) := fun X f => ⟨Or.inl, fun z => z.elim id (fun ⟨e, x, h1, h2, _⟩ => by have := h2.1.2.1; omega)⟩
      exact ⟨σ, rfl, FrZ.refl, hw.cg (no _ _) (no _ _) (no _ _) (no _ _)⟩
    · rw [if_neg (fun z => q0 ((nI_e' (by omega) (by omega)).mp z)), m_isWay S F (show i < 40 by omega), bd]
      by_cases q1 : wy c i
      · rw [if_neg (tn q1)]
        simp only [st]
        have hPQ := hcw i q1
        have hi' : i + 1 < cN c := by omega
        have f1 : FrZ σ (wJ (wI σ 233 13 0) 233 10 1) := ⟨(Fr.wI (Or.inl rfl)).trans (Fr.wJ (Or.inl rfl)), fun k hk => by rw [sI_wJ, sI_wI, if_neg (by omega)]⟩
        have w1 : SAW (wJ (wI σ 233 13 0) 233 10 1) I O A SS := by
          refine ⟨?_, ?_, ?_, ?_⟩
          · rw [sI_wJ, sI_wI, if_neg (by omega)]; exact hw.1
          · rw [sI_wJ, sI_wI, if_neg (by omega)]; exact hw.2.1
          · rw [sI_wJ, sI_wI, if_neg (by omega)]; exact hw.2.2.1
          · rw [sI_wJ, sI_wI, if_neg (by omega)]; exact hw.2.2.2
        have l1 : LF (wJ (wI σ 233 13 0) 233 10 1) d (iL d) := fun hk r hr => by rw [sI_wJ, sI_wI, if_neg (by omega)]; exact hl hk r hr
        have rc0 : RC (wJ (wI σ 233 13 0) 233 10 1) [] := ⟨by rw [sI_wJ, sI_wI, if_pos ⟨rfl, rfl⟩]; rfl, fun k hk => absurd hk (by simp)⟩
        have h10 : sJ (wJ (wI σ 233 13 0) 233 10 1) 233 10 = jJ 1 := by rw [sJ_wJ, if_pos ⟨rfl, rfl⟩]; rfl
        generalize wJ (wI σ 233 13 0) 233 10 1 = σ1 at *
        obtain ⟨σ2, c1, c2, c3⟩ := m_cut (n := n) (x := 0) rc0 (by decide) h10 (by decide) (by decide)
        rw [show f_X14_cut n 0 σ1 = _ from c1, bd]
        have e0 : ([] ++ if (0 : Int) ≤ 0 ∧ (0 : Int) ≤ 1 then [((0 : Int), (1 : Int))] else []) = [((0 : Int), (1 : Int))] := by rw [if_pos (by decide)]; rfl
        rw [e0] at c3
        have f2 := f1.trans c2.Z
        obtain ⟨σ3, L', d1, d2, d3, d4, d5, d6, d7⟩ := l_cuts (n := n) (a := a) (b := b) F G hi' hPQ (l_X14_goAlong_57 n fu) xFU 0 σ2 [(0, 1)] (xFU_lt (by have := G.n; omega)) (by omega) (S.z f2) (T.z f2) (l1.k c2) (w1.k c2) c3 (by simp) (by omega) (fun x => by
          rw [List.mem_singleton]
          exact ⟨Or.inl, fun h => h.elim id (fun ⟨e, e1, _⟩ => by omega)⟩)
        rw [show l_X14_goAlong_96 n (l_X14_goAlong_57 n fu) xFU a b (nI i) 0 σ2 = _ from d1]
        have f3 := f2.trans d2
        obtain ⟨σ4, g1, g2, g3, g4⟩ := l_pieces (n := n) (a := a) (b := b) F G hi' hPQ hd hc (q i) (fun p D h1 h2 => hq i p D q1 h1 h2) d6 (fun x hx => ctS_b G (F.b (by omega)) (F.b hi') hPQ ((d7 x).mp hx)) (l_X14_goAlong_57 n fu) xFU 0 σ3 I O A SS (xFU_lt (by omega)) (by omega) (S.z f3) (T.z f3) d3 d4 d5
        rw [show l_X14_goAlong_178 n (l_X14_goAlong_57 n fu) xFU a b (nI i) 0 σ3 = _ from g1]
        have f4 := f3.trans g2
        obtain ⟨σ5, u1, u2, u3⟩ := ih (i + 1) σ4 _ _ _ _ (by omega) (by omega) (S.z f4) (T.z f4) g3 g4
        refine ⟨σ5, u1, f4.trans u2, u3.cg ?_ ?_ ?_ ?_⟩
        all_goals
          rw [List.drop_zero]
          constructor
          · rintro ((z | ⟨x, h1, h2, h3⟩) | ⟨e, x, h1, h2⟩)
            · exact Or.inl z
            · exact Or.inr ⟨i, x, Nat.le_refl i, ⟨q1, (d7 x).mp h1, h2⟩, h3⟩
            · exact Or.inr ⟨e, x, by omega, h2⟩
          · rintro (z | ⟨e, x, h1, h2, h3⟩)
            · exact Or.inl (Or.inl z)
            · by_cases y : e = i
              · subst y; exact Or.inl (Or.inr ⟨x, (d7 x).mpr h2.2.1, h2.2.2, h3⟩)
              · exact Or.inr ⟨e, x, by omega, h2, h3⟩
      · rw [if_pos (tf_f q1), b_X14_goAlong_232, nI_s]
        obtain ⟨σ5, u1, u2, u3⟩ := ih (i + 1) σ I O A SS (by omega) (by omega) S T hl hw
        refine ⟨σ5, u1, u2, u3.cg ?_ ?_ ?_ ?_⟩
        all_goals
          constructor
          · exact fun z => z.imp id (fun ⟨e, x, h1, h2⟩ => ⟨e, x, by omega, h2⟩)
          · exact fun z => z.imp id (fun ⟨e, x, h1, h2⟩ => ⟨e, x, by
              have : e ≠ i := fun y => q1 (y ▸ h2.1.1)
              omega, h2⟩)
set_option maxHeartbeats 200000 in
theorem nar_b (b : Bool) : vp_nar .boolean (bI b) = bI b := by cases b <;> rfl
set_option maxHeartbeats 200000 in
theorem l_lefts {n : Nat} {a b : Nat} {c d : Ct} (F : WF c) (G : WF d) (hd : cK d = 2 → ∀ r, r < cR d → SmR d r) : ∀ (fu r : Nat) (σ : xσ) (I O A SS : Prop), cR d - r < fu → r ≤ cR d → MH σ a c → MH σ b d → SAW σ I O A SS → (cK d = 2 → ∀ k, k < r → sI σ 240 k = bI (iL d k)) →
    ∃ σ', l_X14_goAlong_22 n fu a b (nI r) σ = l_X14_goAlong_57 n xFU a b 0 σ' ∧ FrZ σ σ' ∧ LF σ' d (iL d) ∧ SAW σ' I O A SS := by
  have hR := G.r
  have hK := G.k
  intro fu
  induction fu with
  | zero => intro r σ I O A SS h; omega
  | succ fu ih =>
    intro r σ I O A SS hf hr S T hw hl
    rw [l_X14_goAlong_22, T.R, T.K]
    by_cases q0 : cR d ≤ r
    · rw [if_pos ((nI_e' (by omega) (by omega)).mpr q0)]
      exact ⟨σ, rfl, FrZ.refl, fun hk k hk' => hl hk k (by omega), hw⟩
    · rw [if_neg (fun z => q0 ((nI_e' (by omega) (by omega)).mp z))]
      by_cases q1 : cK d = 2
      · rw [if_pos (show nI (cK d) = 2 by rw [q1]; rfl), m_isInteriorLeft T G (show r < cR d by omega) (hd q1 r (by omega)), bd]
        simp (disch := omega) only [gd_in, nI_k, st, nI_s, nar_b]
        have fw : FrZ σ (wI σ 240 r (bI (iL d r))) := ⟨Fr.wI (by unfold AZ; omega), fun k hk => by rw [sI_wI, if_neg (by omega)]⟩
        obtain ⟨σ', a1, a2, a3, a4⟩ := ih (r + 1) (wI σ 240 r (bI (iL d r))) I O A SS (by omega) (by omega) (S.z fw) (T.z fw) ⟨by rw [sI_wI, if_neg (by omega)]; exact hw.1, by rw [sI_wI, if_neg (by omega)]; exact hw.2.1, by rw [sI_wI, if_neg (by omega)]; exact hw.2.2.1, by rw [sI_wI, if_neg (by omega)]; exact hw.2.2.2⟩ (fun hk k hk' => by
          rw [sI_wI]
          by_cases z : k = r
          · rw [if_pos ⟨rfl, z⟩, z]
          · rw [if_neg (fun y => z y.2)]; exact hl hk k (by omega))
        exact ⟨σ', a1, fw.trans a2, a3, a4⟩
      · rw [if_neg (fun z => q1 ((nIq2 (by omega)).mp z))]
        exact ⟨σ, rfl, FrZ.refl, fun hk => (q1 hk).elim, hw⟩
/-! what goAlong sees -/
set_option maxHeartbeats 200000 in
theorem m_goAlong {n : Nat} {σ : xσ} {a b : Nat} {c d : Ct} (S : MH σ a c) (F : WF c) (T : MH σ b d) (G : WF d) (hcw : ∀ e, wy c e → cV c e ≠ cV c (e + 1)) (hd : ∀ e, wy d e → cV d e ≠ cV d (e + 1)) (hc : cK c = 2 → ∀ r, r < cR c → SmR c r) (hds : cK d = 2 → ∀ r, r < cR d → SmR d r) (q : Nat → Int → Int → Bool) (hq : ∀ i p D, wy c i → 0 ≤ p → p < D → LPq d (cV c i) (cV c (i + 1)) p D (q i p D)) :
    ∃ σ', f_X14_goAlong n a b σ = some ((), σ') ∧ FrZ σ σ' ∧ SAW σ' (∃ e x, lkP c d e x ∧ piI d (cV c e) (cV c (e + 1)) x.1 x.2 (q e x.1 x.2)) (∃ e x, lkP c d e x ∧ piO d (cV c e) (cV c (e + 1)) x.1 x.2 (q e x.1 x.2)) (∃ e x, lkP c d e x ∧ alP d (cV c e) (cV c (e + 1)) x.1 x.2) (∃ e x, lkP c d e x ∧ piS c d e x.1 x.2 (q e x.1 x.2)) := by
  rw [f_X14_goAlong, gd_pos S.1, gd_pos T.1]
  simp only [st]
  have f1 : FrZ σ (wI (wI (wI (wI σ 233 4 0) 233 5 0) 233 6 0) 233 7 0) := (((FrG.w (by omega)).trans (FrG.w (by omega))).trans ((FrG.w (by omega)).trans (FrG.w (by omega)))).Z
  have w1 : SAW (wI (wI (wI (wI σ 233 4 0) 233 5 0) 233 6 0) 233 7 0) False False False False := by
    refine ⟨?_, ?_, ?_, ?_⟩
    · rw [sI_wI, if_neg (by omega), sI_wI, if_neg (by omega), sI_wI, if_neg (by omega), sI_wI, if_pos ⟨rfl, rfl⟩, tf_f id]
    · rw [sI_wI, if_neg (by omega), sI_wI, if_neg (by omega), sI_wI, if_pos ⟨rfl, rfl⟩, tf_f id]
    · rw [sI_wI, if_neg (by omega), sI_wI, if_pos ⟨rfl, rfl⟩, tf_f id]
    · rw [sI_wI, if_pos ⟨rfl, rfl⟩, tf_f id]
  generalize wI (wI (wI (wI σ 233 4 0) 233 5 0) 233 6 0) 233 7 0 = σ1 at *
  obtain ⟨σ2, a1, a2, a3, a4⟩ := l_lefts (n := n) (a := a) (b := b) F G hds xFU 0 σ1 False False False False (xFU_lt (by have := G.r; omega)) (by omega) (S.z f1) (T.z f1) w1 (fun _ k hk => by omega)
  rw [show l_X14_goAlong_22 n xFU a b 0 σ1 = _ from a1]
  have f2 := f1.trans a2
  obtain ⟨σ3, b1, b2, b3⟩ := l_ways (n := n) (a := a) (b := b) F G hcw hd hc q hq xFU 0 σ2 False False False False (xFU_lt (by have := F.n; omega)) (by omega) (S.z f2) (T.z f2) a3 a4
  refine ⟨σ3, b1, f2.trans b2, b3.cg ?_ ?_ ?_ ?_⟩
  all_goals exact ⟨fun z => z.elim (fun y => y.elim) (fun ⟨e, x, _, h⟩ => ⟨e, x, h⟩), fun ⟨e, x, h⟩ => Or.inr ⟨e, x, Nat.zero_le e, h⟩⟩

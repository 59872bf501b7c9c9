/-! THE CUTTER: what it gathers -/
abbrev Cut : Type := Int × Int × Int
def A4 (b : Nat) : Prop := b = 18 ∨ b = 24 ∨ b = 25 ∨ b = 26
/-- all but the cutter's rows and what it counts is left as it was -/
def FrC (σ σ' : xσ) : Prop := Fr A4 σ σ' ∧ (∀ k, k < 10 → sI σ' 18 k = sI σ 18 k) ∧ sR σ' 18 0 = sR σ 18 0
set_option maxHeartbeats 200000 in
theorem FrC.refl {σ : xσ} : FrC σ σ := ⟨Fr.refl, fun _ _ => rfl, rfl⟩
set_option maxHeartbeats 200000 in
theorem FrC.trans {σ1 σ2 σ3 : xσ} (h : FrC σ1 σ2) (k : FrC σ2 σ3) : FrC σ1 σ3 := ⟨h.1.trans k.1, fun j hj => (k.2.1 j hj).trans (h.2.1 j hj), k.2.2.trans h.2.2⟩
set_option maxHeartbeats 200000 in
theorem FrC.w18 {σ : xσ} {k : Nat} {v : Int32} (h : 10 ≤ k) : FrC σ (wI σ 18 k v) := ⟨Fr.wI (Or.inl rfl), fun j hj => by rw [sI_wI, if_neg (by omega)], rfl⟩
set_option maxHeartbeats 200000 in
theorem FrC.wJ {σ : xσ} {a k : Nat} {v : Int64} (h : a = 24 ∨ a = 25) : FrC σ (wJ σ a k v) := ⟨Fr.wJ (by unfold A4; omega), fun j hj => rfl, rfl⟩
set_option maxHeartbeats 200000 in
theorem FrC.w26 {σ : xσ} {k : Nat} {v : Int32} : FrC σ (wI σ 26 k v) := ⟨Fr.wI (by unfold A4; omega), fun j hj => by rw [sI_wI, if_neg (by omega)], rfl⟩
set_option maxHeartbeats 200000 in
theorem SH.c {n : Nat} {σ σ' : xσ} {a : Nat} {c : Ct} (S : SH n σ a c) (f : FrC σ σ') : SH n σ' a c := S.fr f.1 (by
  have := S.1.2
  intro j hj h
  unfold A4 at h
  omega)
def CU (σ : xσ) (L : List Cut) (o : Bool) (k : Int) (t : Prop) : Prop := sI σ 18 10 = nI L.length ∧ (∀ i (h : i < L.length), sJ σ 24 i = jJ L[i].1 ∧ sJ σ 25 i = jJ L[i].2.1 ∧ sI σ 26 i = iI L[i].2.2) ∧ sI σ 18 11 = bI o ∧ sI σ 18 12 = iI k ∧ sI σ 18 13 = tf t
set_option maxHeartbeats 200000 in
theorem e_noteCut {n : Nat} {σ : xσ} {L : List Cut} {o : Bool} {k : Int} {t : Prop} {p w q : Int} (C : CU σ L o k t) (hL : L.length < 80) : ∃ σ', f_X1_noteCut n (jJ p) (jJ w) (iI q) σ = some ((), σ') ∧ FrC σ σ' ∧ CU σ' (L ++ [(p, w, q)]) o k t := by
  obtain ⟨c1, c2, c3, c4, c5⟩ := C
  refine ⟨wI (wI (wJ (wJ σ 24 L.length (jJ p)) 25 L.length (jJ w)) 26 L.length (iI q)) 18 10 (nI (L.length + 1)), ?_, ?_, ?_⟩
  · rw [f_X1_noteCut, c1]
    simp (disch := omega) only [nIl0, nIe0, nIg0, nIh0, nIq0, nIl1, nIe1, nIg1, nIh1, nIq1, nIl2, nIe2, nIg2, nIh2, nIq2, nIl3, nIe3, nIg3, nIh3, nIq3, nIl4, nIe4, nIg4, nIh4, nIq4, nIl8, nIe8, nIg8, nIh8, nIq8, nIl40, nIe40, nIg40, nIh40, nIq40, nIl80, nIe80, nIg80, nIh80, nIq80, nIl200, nIe200, nIg200, nIh200, nIq200, nIm1, nIp2, gd_in, nI_k, st]
    rw [if_neg (by omega)]
    have e1 : sI (wJ σ 24 L.length (jJ p)) 18 10 = nI L.length := c1
    simp (disch := omega) only [e1, gd_in, nI_k]
    have e2 : sI (wJ (wJ σ 24 L.length (jJ p)) 25 L.length (jJ w)) 18 10 = nI L.length := c1
    simp (disch := omega) only [e2, gd_in, nI_k]
    have e3 : sI (wI (wJ (wJ σ 24 L.length (jJ p)) 25 L.length (jJ w)) 26 L.length (iI q)) 18 10 = nI L.length := by rw [sI_wI, if_neg (by omega)]; exact c1
    simp only [e3, nI_s]
  · exact ((FrC.wJ (Or.inl rfl)).trans (FrC.wJ (Or.inr rfl))).trans (FrC.w26.trans (FrC.w18 (by omega)))
  · refine ⟨?_, ?_, ?_, ?_, ?_⟩
    · rw [sI_wI, if_pos ⟨rfl, rfl⟩, List.length_append]; rfl
    · intro i hi
      rw [List.length_append] at hi
      have hi' : i < L.length + 1 := hi
      by_cases z : i = L.length
      · subst z
        refine ⟨?_, ?_, ?_⟩
        · rw [sJ_wI, sJ_wI, sJ_wJ, if_neg (by omega), sJ_wJ, if_pos ⟨rfl, rfl⟩]; simp
        · rw [sJ_wI, sJ_wI, sJ_wJ, if_pos ⟨rfl, rfl⟩]; simp
        · rw [sI_wI, if_neg (by omega), sI_wI, if_pos ⟨rfl, rfl⟩]; simp
      · have hl : i < L.length := by omega
        obtain ⟨d1, d2, d3⟩ := c2 i hl
        rw [List.getElem_append_left hl]
        refine ⟨?_, ?_, ?_⟩
        · rw [sJ_wI, sJ_wI, sJ_wJ, if_neg (by omega), sJ_wJ, if_neg (by omega)]; exact d1
        · rw [sJ_wI, sJ_wI, sJ_wJ, if_neg (by omega), sJ_wJ, if_neg (by omega)]; exact d2
        · rw [sI_wI, if_neg (by omega), sI_wI, if_neg (by omega)]; exact d3
    · rw [sI_wI, if_neg (by omega), sI_wI, if_neg (by omega)]; exact c3
    · rw [sI_wI, if_neg (by omega), sI_wI, if_neg (by omega)]; exact c4
    · rw [sI_wI, if_neg (by omega), sI_wI, if_neg (by omega)]; exact c5
set_option maxHeartbeats 200000 in
theorem CU.odd {σ : xσ} {L : List Cut} {o : Bool} {k : Int} {t : Prop} (C : CU σ L o k t) (o' : Bool) : CU (wI σ 18 11 (bI o')) L o' k t := by
  obtain ⟨c1, c2, c3, c4, c5⟩ := C
  refine ⟨?_, fun i hi => ?_, ?_, ?_, ?_⟩
  · rw [sI_wI, if_neg (by omega)]; exact c1
  · rw [sJ_wI, sJ_wI, sI_wI, if_neg (by omega)]; exact c2 i hi
  · rw [sI_wI, if_pos ⟨rfl, rfl⟩]
  · rw [sI_wI, if_neg (by omega)]; exact c4
  · rw [sI_wI, if_neg (by omega)]; exact c5
set_option maxHeartbeats 200000 in
theorem CU.cov {σ : xσ} {L : List Cut} {o : Bool} {k : Int} {t : Prop} (C : CU σ L o k t) (k' : Int) : CU (wI σ 18 12 (iI k')) L o k' t := by
  obtain ⟨c1, c2, c3, c4, c5⟩ := C
  refine ⟨?_, fun i hi => ?_, ?_, ?_, ?_⟩
  · rw [sI_wI, if_neg (by omega)]; exact c1
  · rw [sJ_wI, sJ_wI, sI_wI, if_neg (by omega)]; exact c2 i hi
  · rw [sI_wI, if_neg (by omega)]; exact c3
  · rw [sI_wI, if_pos ⟨rfl, rfl⟩]
  · rw [sI_wI, if_neg (by omega)]; exact c5
set_option maxHeartbeats 200000 in
theorem CU.tch {σ : xσ} {L : List Cut} {o : Bool} {k : Int} {t : Prop} (C : CU σ L o k t) {t' : Prop} (h : t') : CU (wI σ 18 13 1) L o k t' := by
  obtain ⟨c1, c2, c3, c4, c5⟩ := C
  refine ⟨?_, fun i hi => ?_, ?_, ?_, ?_⟩
  · rw [sI_wI, if_neg (by omega)]; exact c1
  · rw [sJ_wI, sJ_wI, sI_wI, if_neg (by omega)]; exact c2 i hi
  · rw [sI_wI, if_neg (by omega)]; exact c3
  · rw [sI_wI, if_neg (by omega)]; exact c4
  · rw [sI_wI, if_pos ⟨rfl, rfl⟩, tf_t h]
set_option maxHeartbeats 200000 in
theorem CU.tc {σ : xσ} {L : List Cut} {o : Bool} {k : Int} {t t' : Prop} (C : CU σ L o k t) (h : t ↔ t') : CU σ L o k t' := by rw [← propext h]; exact C
/-- a way of the region passes the line -/
def crL (v w : Int) : List Cut := if 0 < v ∧ v < w then [(v, w, 0)] else []
set_option maxHeartbeats 200000 in
theorem e_cross100 {n : Nat} {σ : xσ} {L : List Cut} {o : Bool} {k : Int} {t : Prop} {v w : Int} (C : CU σ L o k t) (hL : L.length < 80) (hv : R64 v) (hw : R64 w) : ∃ σ', b_X1_cross_100 n (jJ v) (jJ w) σ = some ((), σ') ∧ FrC σ σ' ∧ CU σ' (L ++ crL v w) (o ^^ decide (0 < v)) k (t ∨ (0 ≤ v ∧ v ≤ w)) := by
  have e143 : ∀ σ1 o1 t1, CU σ1 L o1 k t1 → ∃ σ', (if v ≤ 0 then some ((), σ1) else if w ≤ v then some ((), σ1) else bd (f_X1_noteCut n (jJ v) (jJ w) 0 σ1) (fun _ σ104 => some ((), σ104))) = some ((), σ') ∧ FrC σ1 σ' ∧ CU σ' (L ++ crL v w) o1 k t1 := by
    intro σ1 o1 t1 C1
    unfold crL
    by_cases h1 : v ≤ 0
    · rw [if_pos h1, if_neg (by omega), List.append_nil]; exact ⟨σ1, rfl, FrC.refl, C1⟩
    · by_cases h2 : w ≤ v
      · rw [if_neg h1, if_pos h2, if_neg (by omega), List.append_nil]; exact ⟨σ1, rfl, FrC.refl, C1⟩
      · rw [if_neg h1, if_neg h2, if_pos (by omega)]
        obtain ⟨σ', a1, a2, a3⟩ := e_noteCut (n := n) (p := v) (w := w) (q := 0) C1 hL
        rw [show f_X1_noteCut n (jJ v) (jJ w) 0 σ1 = _ from a1, bd]
        exact ⟨σ', rfl, a2, a3⟩
  have e120 : ∀ σ1 t1, CU σ1 L o k t1 → ∃ σ', b_X1_cross_120 n (jJ v) (jJ w) σ1 = some ((), σ') ∧ FrC σ1 σ' ∧ CU σ' (L ++ crL v w) (o ^^ decide (0 < v)) k t1 := by
    intro σ1 t1 C1
    rw [b_X1_cross_120]
    simp (disch := omega) only [lz_lt, lz_gt, lz_eq, lz_le, lz_ge, lc_ge, b_X1_cross_140, b_X1_cross_143, st]
    by_cases h1 : v ≤ 0
    · rw [if_pos h1]
      have : (o ^^ decide (0 < v)) = o := by rw [decide_eq_false (by omega)]; simp
      rw [this]
      exact e143 σ1 o t1 C1
    · rw [if_neg h1]
      have : (o ^^ decide (0 < v)) = !o := by rw [decide_eq_true (by omega)]; simp
      rw [this]
      have g0 : ∀ {α : Type} (x : Option α), gd ((0 : Int32) = 0 ∨ (0 : Int32) = 1) x = x := fun x => gd_pos (Or.inl rfl) x
      have g1 : ∀ {α : Type} (x : Option α), gd ((1 : Int32) = 0 ∨ (1 : Int32) = 1) x = x := fun x => gd_pos (Or.inr rfl) x
      have hc := C1.2.2.1
      cases o with
      | false =>
        rw [if_pos (show sI σ1 18 11 = 0 from hc), gd_pos (Or.inr trivial)]
        obtain ⟨σ', a1, a2, a3⟩ := e143 (wI σ1 18 11 1) true t1 (C1.odd true)
        exact ⟨σ', a1, (FrC.w18 (by omega)).trans a2, a3⟩
      | true =>
        rw [if_neg (by rw [hc]; decide), gd_pos (Or.inl trivial)]
        obtain ⟨σ', a1, a2, a3⟩ := e143 (wI σ1 18 11 0) false t1 (C1.odd false)
        exact ⟨σ', a1, (FrC.w18 (by omega)).trans a2, a3⟩
  have k120 := e120 σ t C
  have e : b_X1_cross_100 n (jJ v) (jJ w) σ = if v < 0 then b_X1_cross_120 n (jJ v) (jJ w) σ else if w < v then b_X1_cross_120 n (jJ v) (jJ w) σ else b_X1_cross_120 n (jJ v) (jJ w) (wI σ 18 13 1) := by
    rw [b_X1_cross_100, b_X1_cross_120]
    simp (disch := omega) only [lz_lt, lz_gt, lz_eq, lz_le, lz_ge, lc_gt, st]
  rw [e]
  by_cases h1 : v < 0
  · rw [if_pos h1]
    obtain ⟨σ', a1, a2, a3⟩ := k120
    exact ⟨σ', a1, a2, a3.tc ⟨Or.inl, fun h => h.elim id (fun z => by omega)⟩⟩
  · by_cases h2 : w < v
    · rw [if_neg h1, if_pos h2]
      obtain ⟨σ', a1, a2, a3⟩ := k120
      exact ⟨σ', a1, a2, a3.tc ⟨Or.inl, fun h => h.elim id (fun z => by omega)⟩⟩
    · rw [if_neg h1, if_neg h2]
      obtain ⟨σ', a1, a2, a3⟩ := e120 (wI σ 18 13 1) (t ∨ (0 ≤ v ∧ v ≤ w)) (C.tch (Or.inr (by omega)))
      exact ⟨σ', a1, (FrC.w18 (by omega)).trans a2, a3⟩

set_option maxHeartbeats 200000 in
theorem crs_r2 {a b p q : V2} {u v : V2} (ha : bV a) (hb : bV b) (hp : bV p) (hq : bV q) (hu : u = sub2 a b) (hv : v = sub2 p q) : R64 (crs u v) := by
  subst hu hv
  exact crs_r (b31.s ha.1 hb.1) (b31.s hp.2 hq.2) (b31.s ha.2 hb.2) (b31.s hp.1 hq.1)
set_option maxHeartbeats 200000 in
theorem crs_s2 (P Q X : V2) : crs (sub2 Q P) (sub2 X P) = sid P Q X := by unfold crs sub2 sid; simp only
set_option maxHeartbeats 200000 in
theorem e_cross {n : Nat} {σ : xσ} {a b : Nat} {c d : Ct} (S : SH n σ a c) (F : WF c) (T : SH n σ b d) (G : WF d) (hb : sR σ 18 0 = some b) {i j : Nat} (hi : i + 1 < cN c) (hj : j + 1 < cN d) {L : List Cut} {o : Bool} {k : Int} {t : Prop} (C : CU σ L o k t) (hL : L.length < 80) (hx : xg (sub2 (cV c (i + 1)) (cV c i)) (sub2 (cV d j) (cV c i)) (sub2 (cV d (j + 1)) (cV c i)) = true) :
    ∃ σ', f_X1_cross n a (nI i) (nI (j + 1)) (jJ (sid (cV c i) (cV c (i + 1)) (cV d (j + 1)) - sid (cV c i) (cV c (i + 1)) (cV d j))) σ = some ((), σ') ∧ FrC σ σ' ∧
      CU σ' (L ++ crL (nu (sub2 (cV c (i + 1)) (cV c i)) (sub2 (cV d j) (cV c i)) (sub2 (cV d (j + 1)) (cV c i))) (de (sub2 (cV c (i + 1)) (cV c i)) (sub2 (cV d j) (cV c i)) (sub2 (cV d (j + 1)) (cV c i))))
        (o ^^ decide (0 < nu (sub2 (cV c (i + 1)) (cV c i)) (sub2 (cV d j) (cV c i)) (sub2 (cV d (j + 1)) (cV c i)))) k
        (t ∨ (0 ≤ nu (sub2 (cV c (i + 1)) (cV c i)) (sub2 (cV d j) (cV c i)) (sub2 (cV d (j + 1)) (cV c i)) ∧ nu (sub2 (cV c (i + 1)) (cV c i)) (sub2 (cV d j) (cV c i)) (sub2 (cV d (j + 1)) (cV c i)) ≤ de (sub2 (cV c (i + 1)) (cV c i)) (sub2 (cV d j) (cV c i)) (sub2 (cV d (j + 1)) (cV c i)))) := by
  have hN := F.n
  have hM := G.n
  have b1 := F.b (show i < cN c by omega)
  have b2 := F.b hi
  have b3 := G.b (show j < cN d by omega)
  have b4 := G.b hj
  have x1 := b1.1.r
  have y1 := b1.2.r
  have x3 := b3.1.r
  have y3 := b3.2.r
  have x4 := b4.1.r
  have y4 := b4.2.r
  rw [f_X1_cross, gd_pos S.1]
  simp (disch := omega) only [hb, nn, gd_pos T.1, nIm1, Nat.add_sub_cancel, gd_in, nI_k, st, S.X, S.Y, T.X, T.Y]
  simp (disch := assumption) only [iI_64]
  simp only [jJ_sub, jJ_mul]
  have e0 : ((cV d j).1 - (cV c i).1) * ((cV d (j + 1)).2 - (cV d j).2) - ((cV d j).2 - (cV c i).2) * ((cV d (j + 1)).1 - (cV d j).1) = crs (sub2 (cV d j) (cV c i)) (sub2 (cV d (j + 1)) (cV c i)) := by unfold crs sub2; grind
  rw [e0]
  have eA : sid (cV c i) (cV c (i + 1)) (cV d j) = crs (sub2 (cV c (i + 1)) (cV c i)) (sub2 (cV d j) (cV c i)) := (crs_s2 _ _ _).symm
  have eB : sid (cV c i) (cV c (i + 1)) (cV d (j + 1)) = crs (sub2 (cV c (i + 1)) (cV c i)) (sub2 (cV d (j + 1)) (cV c i)) := (crs_s2 _ _ _).symm
  have r1 : R64 (crs (sub2 (cV d j) (cV c i)) (sub2 (cV d (j + 1)) (cV c i))) := crs_r2 b3 b1 b4 b1 rfl rfl
  have r2 : R64 (crs (sub2 (cV c (i + 1)) (cV c i)) (sub2 (cV d (j + 1)) (cV c i)) - crs (sub2 (cV c (i + 1)) (cV c i)) (sub2 (cV d j) (cV c i))) := by
    have : crs (sub2 (cV c (i + 1)) (cV c i)) (sub2 (cV d (j + 1)) (cV c i)) - crs (sub2 (cV c (i + 1)) (cV c i)) (sub2 (cV d j) (cV c i)) = crs (sub2 (cV c (i + 1)) (cV c i)) (sub2 (cV d (j + 1)) (cV d j)) := by unfold crs sub2; grind
    rw [this]; exact crs_r2 b2 b1 b4 b3 rfl rfl
  have r3 : R64 (-crs (sub2 (cV d j) (cV c i)) (sub2 (cV d (j + 1)) (cV c i))) := by
    have := crs_r2 b4 b1 b3 b1 rfl rfl
    rw [crs_sw] at this; exact this
  have r4 : R64 (-(crs (sub2 (cV c (i + 1)) (cV c i)) (sub2 (cV d (j + 1)) (cV c i)) - crs (sub2 (cV c (i + 1)) (cV c i)) (sub2 (cV d j) (cV c i)))) := by
    have : -(crs (sub2 (cV c (i + 1)) (cV c i)) (sub2 (cV d (j + 1)) (cV c i)) - crs (sub2 (cV c (i + 1)) (cV c i)) (sub2 (cV d j) (cV c i))) = crs (sub2 (cV c (i + 1)) (cV c i)) (sub2 (cV d j) (cV d (j + 1))) := by unfold crs sub2; grind
    rw [this]; exact crs_r2 b2 b1 b3 b4 rfl rfl
  rw [eA, eB]
  have hd := de_pos hx
  unfold xg at hx
  by_cases q : 0 < crs (sub2 (cV c (i + 1)) (cV c i)) (sub2 (cV d (j + 1)) (cV c i))
  · have hn : nu (sub2 (cV c (i + 1)) (cV c i)) (sub2 (cV d j) (cV c i)) (sub2 (cV d (j + 1)) (cV c i)) = crs (sub2 (cV d j) (cV c i)) (sub2 (cV d (j + 1)) (cV c i)) := by unfold nu; rw [if_pos q]
    have he : de (sub2 (cV c (i + 1)) (cV c i)) (sub2 (cV d j) (cV c i)) (sub2 (cV d (j + 1)) (cV c i)) = crs (sub2 (cV c (i + 1)) (cV c i)) (sub2 (cV d (j + 1)) (cV c i)) - crs (sub2 (cV c (i + 1)) (cV c i)) (sub2 (cV d j) (cV c i)) := by unfold de; rw [if_pos q]
    rw [hn, he]
    rw [he] at hd
    rw [if_pos ((lz_ge r2).mpr (by omega))]
    exact e_cross100 C hL r1 r2
  · have hn : nu (sub2 (cV c (i + 1)) (cV c i)) (sub2 (cV d j) (cV c i)) (sub2 (cV d (j + 1)) (cV c i)) = -crs (sub2 (cV d j) (cV c i)) (sub2 (cV d (j + 1)) (cV c i)) := by unfold nu; rw [if_neg q]
    have he : de (sub2 (cV c (i + 1)) (cV c i)) (sub2 (cV d j) (cV c i)) (sub2 (cV d (j + 1)) (cV c i)) = -(crs (sub2 (cV c (i + 1)) (cV c i)) (sub2 (cV d (j + 1)) (cV c i)) - crs (sub2 (cV c (i + 1)) (cV c i)) (sub2 (cV d j) (cV c i))) := by unfold de; rw [if_neg q]; omega
    rw [hn, he]
    rw [he] at hd
    rw [if_neg (fun z => by have := (lz_ge r2).mp z; omega), jJ_neg, jJ_neg]
    exact e_cross100 C hL r3 r4
/-- a way of the region lies on the line: by the coordinate in which the way goes -/
def fX (P Q X : V2) : Int := if P.1 = Q.1 then X.2 else X.1
set_option maxHeartbeats 200000 in
theorem fX_v {P Q X : V2} (h : P.1 = Q.1) : fX P Q X = X.2 := if_pos h
set_option maxHeartbeats 200000 in
theorem fX_h {P Q X : V2} (h : ¬ P.1 = Q.1) : fX P Q X = X.1 := if_neg h
def whl (P Q : V2) : Int := if 0 ≤ fX P Q Q - fX P Q P then fX P Q Q - fX P Q P else -(fX P Q Q - fX P Q P)
def pos (P Q X : V2) : Int := if 0 ≤ fX P Q Q - fX P Q P then fX P Q X - fX P Q P else -(fX P Q X - fX P Q P)
def alL (P Q a b : V2) : List Cut := if max (pos P Q a) (pos P Q b) ≤ 0 ∨ whl P Q ≤ min (pos P Q a) (pos P Q b) then [] else (if 0 < min (pos P Q a) (pos P Q b) then [(min (pos P Q a) (pos P Q b), whl P Q, 1)] else []) ++ (if max (pos P Q a) (pos P Q b) < whl P Q then [(max (pos P Q a) (pos P Q b), whl P Q, -1)] else [])
def alK (P Q a b : V2) : Int := if max (pos P Q a) (pos P Q b) ≤ 0 ∨ whl P Q ≤ min (pos P Q a) (pos P Q b) then 0 else if 0 < min (pos P Q a) (pos P Q b) then 0 else 1
set_option maxHeartbeats 200000 in
theorem e_goAlong131 {n : Nat} {σ : xσ} {L : List Cut} {o : Bool} {k : Int} {t : Prop} {w u v : Int} (C : CU σ L o k t) (hL : L.length + 1 < 80) (hw : R64 w) (hu : R64 u) (hv : R64 v) :
    ∃ σ', b_X1_goAlong_131 n (jJ w) (jJ u) (jJ v) σ = some ((), σ') ∧ FrC σ σ' ∧ CU σ' (L ++ (if max u v ≤ 0 ∨ w ≤ min u v then [] else (if 0 < min u v then [(min u v, w, 1)] else []) ++ (if max u v < w then [(max u v, w, -1)] else []))) o (k + (if max u v ≤ 0 ∨ w ≤ min u v then 0 else if 0 < min u v then 0 else 1)) t := by
  have r1 : R64 (min u v) := by omega
  have r2 : R64 (max u v) := by omega
  have e194 : ∀ σ1 L1 k1, L1.length < 80 → CU σ1 L1 o k1 t → ∃ σ', b_X1_goAlong_194 n (jJ w) (jJ (max u v)) σ1 = some ((), σ') ∧ FrC σ1 σ' ∧ CU σ' (L1 ++ (if max u v < w then [(max u v, w, -1)] else [])) o k1 t := by
    intro σ1 L1 k1 h1 C1
    rw [b_X1_goAlong_194]
    simp (disch := omega) only [lc_ge]
    by_cases z : w ≤ max u v
    · rw [if_pos z, if_neg (by omega), List.append_nil]; exact ⟨σ1, rfl, FrC.refl, C1⟩
    · rw [if_neg z, if_pos (by omega)]
      obtain ⟨σ', a1, a2, a3⟩ := e_noteCut (n := n) (p := max u v) (w := w) (q := -1) C1 h1
      rw [show f_X1_noteCut n (jJ (max u v)) (jJ w) (-1) σ1 = _ from a1, bd]
      exact ⟨σ', rfl, a2, a3⟩
  rw [b_X1_goAlong_131, lmin_j hu hv, lmax_j hu hv, st, st]
  simp (disch := omega) only [lz_lt, lz_gt, lz_eq, lz_le, lz_ge, lc_lt]
  by_cases h1 : max u v ≤ 0
  · rw [if_pos h1, if_pos (Or.inl h1), if_pos (Or.inl h1), List.append_nil, Int.add_zero]; exact ⟨σ, rfl, FrC.refl, C⟩
  · by_cases h2 : min u v < w
    · rw [if_neg h1, if_pos h2, if_neg (show ¬ (max u v ≤ 0 ∨ w ≤ min u v) by omega), if_neg (show ¬ (max u v ≤ 0 ∨ w ≤ min u v) by omega)]
      by_cases h3 : min u v ≤ 0
      · rw [if_pos h3, if_neg (show ¬ 0 < min u v by omega), if_neg (show ¬ 0 < min u v by omega), List.nil_append, st]
        have ec : sI σ 18 12 + 1 = iI (k + 1) := by rw [C.2.2.2.1, show (1 : Int32) = iI 1 from rfl, iI_add]
        rw [ec]
        obtain ⟨σ', a1, a2, a3⟩ := e194 (wI σ 18 12 (iI (k + 1))) L (k + 1) (by omega) (C.cov (k + 1))
        exact ⟨σ', a1, (FrC.w18 (by omega)).trans a2, a3⟩
      · rw [if_neg h3, if_pos (show 0 < min u v by omega), if_pos (show 0 < min u v by omega), Int.add_zero]
        obtain ⟨σ1, a1, a2, a3⟩ := e_noteCut (n := n) (p := min u v) (w := w) (q := 1) C (by omega)
        rw [show f_X1_noteCut n (jJ (min u v)) (jJ w) 1 σ = _ from a1, bd]
        obtain ⟨σ', d1, d2, d3⟩ := e194 σ1 _ k (by rw [List.length_append]; exact hL) a3
        rw [List.append_assoc] at d3
        exact ⟨σ', d1, a2.trans d2, d3⟩
    · rw [if_neg h1, if_neg h2, if_pos (show (max u v ≤ 0 ∨ w ≤ min u v) by omega), if_pos (show (max u v ≤ 0 ∨ w ≤ min u v) by omega), List.append_nil, Int.add_zero]; exact ⟨σ, rfl, FrC.refl, C⟩
set_option maxHeartbeats 200000 in
theorem e_goCore {n : Nat} {σ : xσ} {L : List Cut} {o : Bool} {k : Int} {t : Prop} (C : CU σ L o k t) (hL : L.length + 1 < 80) : ∀ (p q r s : Int), b30 p → b30 q → b30 r → b30 s → ∃ σ', (if 0 ≤ lg_cmp (jJ (q - p)) 0 then b_X1_goAlong_131 n (jJ (q - p)) (jJ (r - p)) (jJ (s - p)) σ else b_X1_goAlong_131 n (-jJ (q - p)) (-jJ (r - p)) (-jJ (s - p)) σ) = some ((), σ') ∧ FrC σ σ' ∧
      CU σ' (L ++ (if max (if 0 ≤ q - p then r - p else -(r - p)) (if 0 ≤ q - p then s - p else -(s - p)) ≤ 0 ∨ (if 0 ≤ q - p then q - p else -(q - p)) ≤ min (if 0 ≤ q - p then r - p else -(r - p)) (if 0 ≤ q - p then s - p else -(s - p)) then [] else (if 0 < min (if 0 ≤ q - p then r - p else -(r - p)) (if 0 ≤ q - p then s - p else -(s - p)) then [(min (if 0 ≤ q - p then r - p else -(r - p)) (if 0 ≤ q - p then s - p else -(s - p)), (if 0 ≤ q - p then q - p else -(q - p)), 1)] else []) ++ (if max (if 0 ≤ q - p then r - p else -(r - p)) (if 0 ≤ q - p then s - p else -(s - p)) < (if 0 ≤ q - p then q - p else -(q - p)) then [(max (if 0 ≤ q - p then r - p else -(r - p)) (if 0 ≤ q - p then s - p else -(s - p)), (if 0 ≤ q - p then q - p else -(q - p)), -1)] else []))) o (k + (if max (if 0 ≤ q - p then r - p else -(r - p)) (if 0 ≤ q - p then s - p else -(s - p)) ≤ 0 ∨ (if 0 ≤ q - p then q - p else -(q - p)) ≤ min (if 0 ≤ q - p then r - p else -(r - p)) (if 0 ≤ q - p then s - p else -(s - p)) then 0 else if 0 < min (if 0 ≤ q - p then r - p else -(r - p)) (if 0 ≤ q - p then s - p else -(s - p)) then 0 else 1)) t := by
  intro p q r s hp hq hr hs
  have h1 := b31.s hq hp
  have h2 := b31.s hr hp
  have h3 := b31.s hs hp
  unfold b31 at h1 h2 h3
  by_cases z : 0 ≤ q - p
  · rw [if_pos ((lz_ge (by omega)).mpr z)]
    simp only [z, if_true]
    exact e_goAlong131 C hL (by omega) (by omega) (by omega)
  · rw [if_neg (fun w => z ((lz_ge (by omega)).mp w)), jJ_neg, jJ_neg, jJ_neg]
    simp only [z, if_false]
    exact e_goAlong131 C hL (by omega) (by omega) (by omega)
set_option maxHeartbeats 200000 in
theorem e_goAlV {n : Nat} {σ : xσ} {a b : Nat} {c d : Ct} (S : SH n σ a c) (F : WF c) (T : SH n σ b d) (G : WF d) (hb : sR σ 18 0 = some b) {i j : Nat} (hi : i + 1 < cN c) (hj : j + 1 < cN d) (h : (cV c i).1 = (cV c (i + 1)).1) : f_X1_goAlong n a (nI i) (nI (j + 1)) σ = b_X1_goAlong_64 n (nI i) (nI (j + 1)) (a + 2) (b + 2) σ := by
  have hN := F.n
  have x1 := F.xr (show i < cN c by omega)
  have x2 := F.xr hi
  rw [f_X1_goAlong, gd_pos S.1]
  simp (disch := omega) only [gd_in, nI_k, nI_s, S.X]
  rw [if_pos ((iI_eq x1 x2).mpr h), b_X1_goAlong_22, if_pos rfl, b_X1_goAlong_40, if_pos rfl, hb, nn, gd_pos T.1]
set_option maxHeartbeats 200000 in
theorem e_goAmV {n : Nat} {σ : xσ} {a b : Nat} {c d : Ct} (S : SH n σ a c) (F : WF c) (T : SH n σ b d) (G : WF d) {i j : Nat} (hi : i + 1 < cN c) (hj : j + 1 < cN d) : b_X1_goAlong_64 n (nI i) (nI (j + 1)) (a + 2) (b + 2) σ = (if 0 ≤ lg_cmp (jJ ((cV c (i + 1)).2 - (cV c i).2)) 0 then b_X1_goAlong_131 n (jJ ((cV c (i + 1)).2 - (cV c i).2)) (jJ ((cV d j).2 - (cV c i).2)) (jJ ((cV d (j + 1)).2 - (cV c i).2)) σ else b_X1_goAlong_131 n (-jJ ((cV c (i + 1)).2 - (cV c i).2)) (-jJ ((cV d j).2 - (cV c i).2)) (-jJ ((cV d (j + 1)).2 - (cV c i).2)) σ) := by
  have hN := F.n
  have hM := G.n
  have x1 := F.yr (show i < cN c by omega)
  have x2 := F.yr hi
  have x3 := G.yr (show j < cN d by omega)
  have x4 := G.yr hj
  rw [b_X1_goAlong_64]
  have g1 : nI (j + 1) - 1 = nI j := by rw [nIm1 (by omega)]; rfl
  simp (disch := omega) only [g1, gd_in, nI_k, nI_s, S.Y, T.Y]
  simp only [iI_64 x1, iI_64 x2, iI_64 x3, iI_64 x4, jJ_sub, st, b_X1_goAlong_131]
set_option maxHeartbeats 200000 in
theorem e_goAlH {n : Nat} {σ : xσ} {a b : Nat} {c d : Ct} (S : SH n σ a c) (F : WF c) (T : SH n σ b d) (G : WF d) (hb : sR σ 18 0 = some b) {i j : Nat} (hi : i + 1 < cN c) (hj : j + 1 < cN d) (h : ¬ (cV c i).1 = (cV c (i + 1)).1) : f_X1_goAlong n a (nI i) (nI (j + 1)) σ = b_X1_goAlong_64 n (nI i) (nI (j + 1)) (a + 1) (b + 1) σ := by
  have hN := F.n
  have x1 := F.xr (show i < cN c by omega)
  have x2 := F.xr hi
  rw [f_X1_goAlong, gd_pos S.1]
  simp (disch := omega) only [gd_in, nI_k, nI_s, S.X]
  rw [if_neg (fun z => h ((iI_eq x1 x2).mp z)), b_X1_goAlong_22, if_neg (by decide), b_X1_goAlong_40, if_neg (by decide), hb, nn, gd_pos T.1]
set_option maxHeartbeats 200000 in
theorem e_goAmH {n : Nat} {σ : xσ} {a b : Nat} {c d : Ct} (S : SH n σ a c) (F : WF c) (T : SH n σ b d) (G : WF d) {i j : Nat} (hi : i + 1 < cN c) (hj : j + 1 < cN d) : b_X1_goAlong_64 n (nI i) (nI (j + 1)) (a + 1) (b + 1) σ = (if 0 ≤ lg_cmp (jJ ((cV c (i + 1)).1 - (cV c i).1)) 0 then b_X1_goAlong_131 n (jJ ((cV c (i + 1)).1 - (cV c i).1)) (jJ ((cV d j).1 - (cV c i).1)) (jJ ((cV d (j + 1)).1 - (cV c i).1)) σ else b_X1_goAlong_131 n (-jJ ((cV c (i + 1)).1 - (cV c i).1)) (-jJ ((cV d j).1 - (cV c i).1)) (-jJ ((cV d (j + 1)).1 - (cV c i).1)) σ) := by
  have hN := F.n
  have hM := G.n
  have x1 := F.xr (show i < cN c by omega)
  have x2 := F.xr hi
  have x3 := G.xr (show j < cN d by omega)
  have x4 := G.xr hj
  rw [b_X1_goAlong_64]
  have g1 : nI (j + 1) - 1 = nI j := by rw [nIm1 (by omega)]; rfl
  simp (disch := omega) only [g1, gd_in, nI_k, nI_s, S.X, T.X]
  simp only [iI_64 x1, iI_64 x2, iI_64 x3, iI_64 x4, jJ_sub, st, b_X1_goAlong_131]
set_option maxHeartbeats 200000 in
theorem e_goAlong {n : Nat} {σ : xσ} {a b : Nat} {c d : Ct} (S : SH n σ a c) (F : WF c) (T : SH n σ b d) (G : WF d) (hb : sR σ 18 0 = some b) {i j : Nat} (hi : i + 1 < cN c) (hj : j + 1 < cN d) {L : List Cut} {o : Bool} {k : Int} {t : Prop} (C : CU σ L o k t) (hL : L.length + 1 < 80) :
    ∃ σ', f_X1_goAlong n a (nI i) (nI (j + 1)) σ = some ((), σ') ∧ FrC σ σ' ∧ CU σ' (L ++ alL (cV c i) (cV c (i + 1)) (cV d j) (cV d (j + 1))) o (k + alK (cV c i) (cV c (i + 1)) (cV d j) (cV d (j + 1))) t := by
  have b1 := F.b (show i < cN c by omega)
  have b2 := F.b hi
  have b3 := G.b (show j < cN d by omega)
  have b4 := G.b hj
  by_cases h : (cV c i).1 = (cV c (i + 1)).1
  · rw [e_goAlV S F T G hb hi hj h, e_goAmV S F T G hi hj]
    unfold alL alK whl pos
    simp only [fX_v h]
    exact e_goCore C hL (cV c i).2 (cV c (i + 1)).2 (cV d j).2 (cV d (j + 1)).2 b1.2 b2.2 b3.2 b4.2
  · rw [e_goAlH S F T G hb hi hj h, e_goAmH S F T G hi hj]
    unfold alL alK whl pos
    simp only [fX_h h]
    exact e_goCore C hL (cV c i).1 (cV c (i + 1)).1 (cV d j).1 (cV d (j + 1)).1 b1.1 b2.1 b3.1 b4.1

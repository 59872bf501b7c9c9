/-! GEOMETRY: two lines that have inner points in common -/
set_option maxHeartbeats 200000 in
theorem hw_ovl {P Q A B : V2} (hPQ : P ≠ Q) {D : Int} (hD : 0 < D) {X : V2} (h1 : on0 (vw D X P) (vw D X Q)) (h2 : on0 (vw D X A) (vw D X B)) {b : V2} (hb : b = vw D X A ∨ b = vw D X B) (hd : dir (vw D X Q) b) : ovl P Q A B := by
  obtain ⟨N, p, n1, n2, n3, n4, n5, n6⟩ := par_of hPQ hD h1
  have hz := (dir_nz hd).1
  have hND : 0 < N * D := Int.mul_pos n1 hD
  have df : vw D X Q = ((vw D X P).1 + D * (sub2 Q P).1, (vw D X P).2 + D * (sub2 Q P).2) := by unfold vw sub2; refine Prod.ext ?_ ?_ <;> simp only <;> grind
  have d1 := (dir_fv hD df h1).1 hz
  have sc : ∀ x, sn P Q x p (N * D) = scV N (vw D X x) := by
    intro x
    rw [sn_vw]
    show vw (N * D) (pX P Q p (N * D)) x = _
    rw [← n4]
    unfold vw scV; refine Prod.ext ?_ ?_ <;> simp only <;> grind
  refine (ovl_i hPQ).mp ⟨p, N * D, n2, n5 hz, (cvE_i hPQ hND).mpr ⟨?_, ?_⟩⟩
  · rw [sc, sc]; exact (on0_mul n1).mpr h2
  · rw [sc, sc, dir_sc n1, dir_sc n1]
    rcases hb with rfl | rfl
    · exact Or.inl (dir_tr d1 hd)
    · exact Or.inr (dir_tr d1 hd)
/-! from one point of a way towards another one of its ends is ahead -/
set_option maxHeartbeats 200000 in
theorem to_end {P Q x y : V2} (hx : onS P Q x) (hy : onS P Q y) (hxy : x ≠ y) : dir (sub2 y x) (sub2 P x) ∨ dir (sub2 y x) (sub2 Q x) := by
  have ox := on_sid.mp hx
  have oy := on_sid.mp hy
  have hu := nz_sub hxy
  have hN := dt_pos hu
  have eP : sub2 P x = ((sub2 P y).1 + (sub2 y x).1, (sub2 P y).2 + (sub2 y x).2) := by unfold sub2; refine Prod.ext ?_ ?_ <;> simp only <;> omega
  have eQ : sub2 Q x = ((sub2 Q y).1 + (sub2 y x).1, (sub2 Q y).2 + (sub2 y x).2) := by unfold sub2; refine Prod.ext ?_ ?_ <;> simp only <;> omega
  by_cases zP : P = Q
  · -- then there is one point only
    exfalso
    subst zP
    have a := ox.2
    have b := oy.2
    have e1 : x = P := by
      refine Classical.byContradiction (fun n => ?_)
      have := dt_pos (nz_sub (fun t => n t : x ≠ P))
      omega
    have e2 : y = P := by
      refine Classical.byContradiction (fun n => ?_)
      have := dt_pos (nz_sub (fun t => n t : y ≠ P))
      omega
    exact hxy (e1.trans e2.symm)
  · have hs := nz_sub zP
    -- all on one line
    have cx : crs (sub2 Q P) (sub2 x P) = 0 := by rw [crs_s2]; exact hx.2
    have cy : crs (sub2 Q P) (sub2 y P) = 0 := by rw [crs_s2]; exact hy.2
    have ax := al_vec (a := sub2 x P) (v := sub2 Q P) (by rw [crs_sw, cx]; rfl)
    have ay := al_vec (a := sub2 y P) (v := sub2 Q P) (by rw [crs_sw, cy]; rfl)
    have n0 := dt_pos hs
    have tx := on_in zP (Z := x) (by rw [vw_1, vw_1]; exact ox)
    have ty := on_in zP (Z := y) (by rw [vw_1, vw_1]; exact oy)
    have px := on_par hx.2
    have py := on_par hy.2
    have ne : tW P Q x ≠ tW P Q y := by
      intro t
      rw [t, ← py] at px
      have g1 := congrArg Prod.fst px
      have g2 := congrArg Prod.snd px
      unfold scV at g1 g2
      simp only at g1 g2
      have hW : nW P Q ≠ 0 := by have := nW_pos zP; omega
      exact hxy (V2_eq.mpr ⟨Int.eq_of_mul_eq_mul_left hW g1, Int.eq_of_mul_eq_mul_left hW g2⟩)
    have W := nW_pos zP
    have p1 := congrArg Prod.fst px
    have p2 := congrArg Prod.snd px
    have q1 := congrArg Prod.fst py
    have q2 := congrArg Prod.snd py
    unfold scV pX at2 at p1 p2 q1 q2
    simp only at p1 p2 q1 q2
    have u1 : scV (nW P Q) (sub2 y x) = ((tW P Q y - tW P Q x) * (sub2 Q P).1, (tW P Q y - tW P Q x) * (sub2 Q P).2) := by
      unfold scV; refine Prod.ext ?_ ?_
      · show nW P Q * (y.1 - x.1) = (tW P Q y - tW P Q x) * (sub2 Q P).1; rw [Int.mul_sub, Int.sub_mul]; omega
      · show nW P Q * (y.2 - x.2) = (tW P Q y - tW P Q x) * (sub2 Q P).2; rw [Int.mul_sub, Int.sub_mul]; omega
    have uP : scV (nW P Q) (sub2 P x) = (-tW P Q x * (sub2 Q P).1, -tW P Q x * (sub2 Q P).2) := by
      unfold scV; refine Prod.ext ?_ ?_
      · show nW P Q * (P.1 - x.1) = -tW P Q x * (sub2 Q P).1; rw [Int.mul_sub, Int.neg_mul]; omega
      · show nW P Q * (P.2 - x.2) = -tW P Q x * (sub2 Q P).2; rw [Int.mul_sub, Int.neg_mul]; omega
    have uQ : scV (nW P Q) (sub2 Q x) = ((nW P Q - tW P Q x) * (sub2 Q P).1, (nW P Q - tW P Q x) * (sub2 Q P).2) := by
      have k1 : nW P Q * (Q.1 - P.1) = nW P Q * (sub2 Q P).1 := rfl
      have k2 : nW P Q * (Q.2 - P.2) = nW P Q * (sub2 Q P).2 := rfl
      rw [Int.mul_sub] at k1 k2
      unfold scV; refine Prod.ext ?_ ?_
      · show nW P Q * (Q.1 - x.1) = (nW P Q - tW P Q x) * (sub2 Q P).1; rw [Int.mul_sub, Int.sub_mul]; omega
      · show nW P Q * (Q.2 - x.2) = (nW P Q - tW P Q x) * (sub2 Q P).2; rw [Int.mul_sub, Int.sub_mul]; omega
    have tr : ∀ z, dir (scV (nW P Q) (sub2 y x)) (scV (nW P Q) z) → dir (sub2 y x) z := fun z h => dir_sym ((dir_sc W).mp (dir_sym ((dir_sc W).mp h)))
    by_cases o : tW P Q x < tW P Q y
    · right
      refine tr _ ?_
      rw [u1, uQ]
      have a1 := dir_pos (u := tW P Q y - tW P Q x) (by omega) hs
      have lt : tW P Q x < nW P Q := tx.2.2 (fun e => by
        have : tW P Q y ≤ nW P Q := by
          by_cases w : y = Q
          · rw [w, tW_Q]; omega
          · have := ty.2.2 w; omega
        rw [e, tW_Q] at o; omega)
      have a2 := dir_pos (u := nW P Q - tW P Q x) (by omega) hs
      exact dir_tr (dir_sym a1) a2
    · left
      refine tr _ ?_
      rw [u1, uP]
      have a1 := dir_neg (u := tW P Q y - tW P Q x) (by omega) hs
      have gt : 0 < tW P Q x := tx.2.1 (fun e => by
        have : 0 ≤ tW P Q y := by
          by_cases w : y = P
          · rw [w, tW_P]; omega
          · have := ty.2.1 w; omega
        rw [e, tW_P] at o ne; omega)
      have a2 := dir_neg (u := -tW P Q x) (by omega) hs
      exact dir_tr (dir_sym a1) a2
set_option maxHeartbeats 200000 in
theorem two_ovl {P Q A B x y : V2} (hPQ : P ≠ Q) (h1 : onS P Q x) (h2 : onS A B x) (h3 : onS P Q y) (h4 : onS A B y) (hxy : x ≠ y) : ovl P Q A B := by
  have o1 : on0 (vw 1 x P) (vw 1 x Q) := by rw [vw_1, vw_1]; exact on_sid.mp h1
  have o2 : on0 (vw 1 x A) (vw 1 x B) := by rw [vw_1, vw_1]; exact on_sid.mp h2
  have tb := to_end h2 h4 hxy
  obtain ⟨b, hb, db⟩ : ∃ b, (b = vw 1 x A ∨ b = vw 1 x B) ∧ dir (sub2 y x) b := by
    rcases tb with t | t
    · exact ⟨_, Or.inl rfl, by rw [vw_1]; exact t⟩
    · exact ⟨_, Or.inr rfl, by rw [vw_1]; exact t⟩
  rcases to_end h1 h3 hxy with t | t
  · exact ovl_rev (hw_ovl (fun e => hPQ e.symm) (by omega) (on0_sym o1) o2 hb (by rw [vw_1]; exact dir_tr (dir_sym t) db))
  · exact hw_ovl hPQ (by omega) o1 o2 hb (by rw [vw_1]; exact dir_tr (dir_sym t) db)
set_option maxHeartbeats 200000 in
theorem cnt_2 {P Q A B : V2} (hPQ : P ≠ Q) (hAB : A ≠ B) : cnt P Q A B = 2 ↔ ovl P Q A B := by
  constructor
  · intro h
    unfold cnt at h
    by_cases a : apt P Q A B
    · rw [if_pos a] at h; omega
    · rw [if_neg a] at h
      by_cases s : sid P Q A = 0 ∧ sid P Q B = 0
      · rw [if_pos s] at h; exact ⟨s.1, s.2, h⟩
      · rw [if_neg s] at h
        split at h <;> omega
  · intro h
    have c := ovl_cmn hPQ h
    have n0 : cnt P Q A B ≠ 0 := fun z => (cnt_0 hPQ hAB).mp z c
    unfold cnt at n0 ⊢
    by_cases a : apt P Q A B
    · rw [if_pos a] at n0; exact (n0 rfl).elim
    · rw [if_neg a, if_pos ⟨h.1, h.2.1⟩]; exact h.2.2
/-- the tip of a line on both ways -/
def atT (x : Ct) (P Q A B : V2) : Prop := opn x ∧ ((onS P Q (cV x 0) ∧ onS A B (cV x 0)) ∨ (onS P Q (cV x (cN x - 1)) ∧ onS A B (cV x (cN x - 1))))
def LI (c d : Ct) : Prop := ∃ i j, wy c i ∧ wy d j ∧ (cnt (cV c i) (cV c (i + 1)) (cV d j) (cV d (j + 1)) = 2 ∨ (cnt (cV c i) (cV c (i + 1)) (cV d j) (cV d (j + 1)) = 1 ∧ ¬ atT c (cV c i) (cV c (i + 1)) (cV d j) (cV d (j + 1)) ∧ ¬ atT d (cV c i) (cV c (i + 1)) (cV d j) (cV d (j + 1))))
def inn (c d : Ct) (p : V2) : Prop := loc c p = 1 ∧ loc d p = 1
def XIp (c d : Ct) (i j : Nat) : Prop := mt (cV c i) (cV c (i + 1)) (cV d j) (cV d (j + 1)) ∧ ((mM (cV c i) (cV c (i + 1)) (cV d j) (cV d (j + 1)) ∧ ¬ atT c (cV c i) (cV c (i + 1)) (cV d j) (cV d (j + 1)) ∧ ¬ atT d (cV c i) (cV c (i + 1)) (cV d j) (cV d (j + 1))) ∨ (inL (cV c i) (cV c (i + 1)) (cV d j) (cV d (j + 1)) ∧ (inn c d (cV c i) ∨ inn c d (cV c (i + 1)) ∨ inn c d (cV d j) ∨ inn c d (cV d (j + 1)))))
def XI (c d : Ct) : Prop := ∃ i j, i + 1 < cN c ∧ j + 1 < cN d ∧ XIp c d i j
set_option maxHeartbeats 200000 in
theorem in_1 {c : Ct} (hk : cK c = 1) (p : V2) : loc c p = 1 ↔ (onA c p ∧ ¬ tip c p) := by
  unfold loc
  rw [if_neg (by omega), if_pos hk]
  by_cases z : onA c p
  · rw [ifP_t z]
    by_cases y : tip c p
    · rw [ifP_t y]; exact ⟨fun h => by omega, fun h => (h.2 y).elim⟩
    · rw [ifP_f y]; exact ⟨fun _ => ⟨z, y⟩, fun _ => rfl⟩
  · rw [ifP_f z]; exact ⟨fun h => by omega, fun h => (z h.1).elim⟩
set_option maxHeartbeats 200000 in
theorem lines_in {c d : Ct} (F : WF c) (vc : Val c) (G : WF d) (vd : Val d) (hk : cK c = 1) (hl : cK d = 1) : LI c d ↔ (AlW (wy c) (cV c) (TC d) ∨ XI c d) := by
  have al : AlW (wy c) (cV c) (TC d) ↔ ∃ i j, wy c i ∧ wy d j ∧ cnt (cV c i) (cV c (i + 1)) (cV d j) (cV d (j + 1)) = 2 := by
    unfold AlW
    constructor
    · rintro ⟨i, w, h⟩
      obtain ⟨e, he, ho⟩ := (AlP_i (way_ne F vc w)).mp h
      exact ⟨i, e, w, inTC.mp he, (cnt_2 (way_ne F vc w) (way_ne G vd (inTC.mp he))).mpr ho⟩
    · rintro ⟨i, j, w, v, h⟩
      exact ⟨i, w, (AlP_i (way_ne F vc w)).mpr ⟨j, inTC.mpr v, (cnt_2 (way_ne F vc w) (way_ne G vd v)).mp h⟩⟩
  -- a point of both that is inner in both
  have pt : ∀ p, inn c d p → LI c d := by
    rintro p ⟨h1, h2⟩
    obtain ⟨⟨i, w, o1⟩, t1⟩ := (in_1 hk p).mp h1
    obtain ⟨⟨j, v, o2⟩, t2⟩ := (in_1 hl p).mp h2
    have cm : cmn (cV c i) (cV c (i + 1)) (cV d j) (cV d (j + 1)) := ⟨1, p, by omega, by rw [vw_1, vw_1]; exact on_sid.mp o1, by rw [vw_1, vw_1]; exact on_sid.mp o2⟩
    have hc := cnt_le (cV c i) (cV c (i + 1)) (cV d j) (cV d (j + 1))
    have n0 : cnt (cV c i) (cV c (i + 1)) (cV d j) (cV d (j + 1)) ≠ 0 := fun z => (cnt_0 (way_ne F vc w) (way_ne G vd v)).mp z cm
    refine ⟨i, j, w, v, ?_⟩
    by_cases z : cnt (cV c i) (cV c (i + 1)) (cV d j) (cV d (j + 1)) = 2
    · exact Or.inl z
    · right
      have uq : ∀ y, onS (cV c i) (cV c (i + 1)) y → onS (cV d j) (cV d (j + 1)) y → y = p := by
        intro y y1 y2
        refine Classical.byContradiction (fun ne => z ((cnt_2 (way_ne F vc w) (way_ne G vd v)).mpr (two_ovl (way_ne F vc w) y1 y2 o1 o2 ne)))
      refine ⟨by omega, ?_, ?_⟩
      · rintro ⟨ho, ⟨y1, y2⟩ | ⟨y1, y2⟩⟩
        · exact t1 ⟨ho, Or.inl (uq _ y1 y2)⟩
        · exact t1 ⟨ho, Or.inr (uq _ y1 y2)⟩
      · rintro ⟨ho, ⟨y1, y2⟩ | ⟨y1, y2⟩⟩
        · exact t2 ⟨ho, Or.inl (uq _ y1 y2)⟩
        · exact t2 ⟨ho, Or.inr (uq _ y1 y2)⟩
  constructor
  · rintro ⟨i, j, w, v, h | ⟨h, n1, n2⟩⟩
    · exact Or.inl (al.mpr ⟨i, j, w, v, h⟩)
    · right
      have hab := way_ne F vc w
      have hpq := way_ne G vd v
      have cm : cmn (cV c i) (cV c (i + 1)) (cV d j) (cV d (j + 1)) := Classical.byContradiction (fun n => by
        have := (cnt_0 hab hpq).mpr n
        omega)
      have m := cmn_mt cm
      refine ⟨i, j, w.2.1, v.2.1, m, ?_⟩
      obtain ⟨k1, k2⟩ := kM_s (cV c i) (cV c (i + 1)) (cV d j) (cV d (j + 1))
      unfold cnt at h
      by_cases a : apt (cV c i) (cV c (i + 1)) (cV d j) (cV d (j + 1))
      · rw [if_pos a] at h; omega
      · rw [if_neg a] at h
        by_cases s : sid (cV c i) (cV c (i + 1)) (cV d j) = 0 ∧ sid (cV c i) (cV c (i + 1)) (cV d (j + 1)) = 0
        · right
          have il : inL (cV c i) (cV c (i + 1)) (cV d j) (cV d (j + 1)) := ⟨by rw [k1]; omega, by rw [crs_s2]; exact s.1⟩
          refine ⟨il, ?_⟩
          have inner : ∀ p, onS (cV c i) (cV c (i + 1)) p → onS (cV d j) (cV d (j + 1)) p → inn c d p := by
            intro p p1 p2
            refine ⟨(in_1 hk p).mpr ⟨⟨i, w, p1⟩, ?_⟩, (in_1 hl p).mpr ⟨⟨j, v, p2⟩, ?_⟩⟩
            · rintro ⟨ho, e | e⟩
              · exact n1 ⟨ho, Or.inl ⟨by rw [e]; exact p1, by rw [e]; exact p2⟩⟩
              · exact n1 ⟨ho, Or.inr ⟨by rw [e]; exact p1, by rw [e]; exact p2⟩⟩
            · rintro ⟨ho, e | e⟩
              · exact n2 ⟨ho, Or.inl ⟨by rw [e]; exact p1, by rw [e]; exact p2⟩⟩
              · exact n2 ⟨ho, Or.inr ⟨by rw [e]; exact p1, by rw [e]; exact p2⟩⟩
          rcases m with ⟨u, _⟩ | u | u | u | u
          · unfold opp at u; omega
          · exact Or.inr (Or.inr (Or.inl (inner _ u (onS_l _ _))))
          · exact Or.inr (Or.inr (Or.inr (inner _ u (onS_r _ _))))
          · exact Or.inl (inner _ (onS_l _ _) u)
          · exact Or.inr (Or.inl (inner _ (onS_r _ _) u))
        · left
          rw [if_neg s] at h
          refine ⟨(mM_s _ _ _ _).mpr ?_, n1, n2⟩
          split at h
          · omega
          · rename_i y
            refine ⟨?_, by omega, by omega, by omega, by omega⟩
            rw [k1]
            omega
  · rintro (h | ⟨i, j, hi, hj, m, h⟩)
    · obtain ⟨i, j, w, v, h⟩ := al.mp h
      exact ⟨i, j, w, v, Or.inl h⟩
    · have w := (wy_line F hk).mpr hi
      have v := (wy_line G hl).mpr hj
      rcases h with ⟨_, n1, n2⟩ | ⟨_, h | h | h | h⟩
      · have n0 : cnt (cV c i) (cV c (i + 1)) (cV d j) (cV d (j + 1)) ≠ 0 := fun z => (cnt_0 (way_ne F vc w) (way_ne G vd v)).mp z (mt_cmn m)
        have hc := cnt_le (cV c i) (cV c (i + 1)) (cV d j) (cV d (j + 1))
        refine ⟨i, j, w, v, ?_⟩
        by_cases z : cnt (cV c i) (cV c (i + 1)) (cV d j) (cV d (j + 1)) = 2
        · exact Or.inl z
        · exact Or.inr ⟨by omega, n1, n2⟩
      · exact pt _ h
      · exact pt _ h
      · exact pt _ h
      · exact pt _ h

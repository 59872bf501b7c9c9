/-! the system: ADD, DROP, MOVE -/
def room (k : Kp) (m : Nat) : Prop := kO k = false ∨ kB k + m ≤ 14112
set_option maxHeartbeats 200000 in
theorem e_room {n : Nat} {σ : xσ} {k : Kp} (h : KS n σ k) (o : okK k) {m : Nat} (hm : m ≤ 1000) : f_X3_hasRoom n (nI m) σ = some (tf (room k m), σ) := e_hasRoom h o hm
noncomputable def addK (k : Kp) (z : Int) (big : Prop) (c : Ct) : Int × Kp := ifP (z < 1 ∨ 9999 < z) (5, k) (ifP (0 ≤ fdT (kL k) z) (1, k) (ifP big (4, k) (ifP (¬ Val c) (3, k) (ifP (200 ≤ tC (kL k) ∨ ¬ room k (16 + 4 * cR c + 8 * cN c)) (4, k) (stK (withL k (insT (kL k) z c)) (16 + 4 * cR c + 8 * cN c))))))
noncomputable def dropK (k : Kp) (z : Int) : Int × Kp := ifP (fdT (kL k) z < 0) (2, k) (ifP (¬ room k 8) (4, k) (stK (withL k (remT (kL k) (fdT (kL k) z).toNat)) 8))
def inPl (c : Ct) (dx dy : Int) : Prop := ∀ i, i < cN c → bV (cV (mvC c dx dy) i)
noncomputable def moveK (k : Kp) (z dx dy : Int) : Int × Kp := ifP (fdT (kL k) z < 0) (2, k) (ifP (¬ inPl (tS (kL k) (fdT (kL k) z).toNat) dx dy) (5, k) (ifP (¬ room k 16) (4, k) (stK (withL k (repT (kL k) (fdT (kL k) z).toNat (mvC (tS (kL k) (fdT (kL k) z).toNat) dx dy))) 16)))
def PEx (b k : Nat) : Prop := PKk b k ∨ (18 ≤ b ∧ b ≤ 28)
set_option maxHeartbeats 200000 in
theorem PK_x {b k : Nat} (h : PKk b k) : PEx b k := Or.inl h
set_option maxHeartbeats 200000 in
theorem A5_x {b : Nat} (h : A5 b) : 18 ≤ b ∧ b ≤ 28 := by unfold A5 A4 at h; omega
set_option maxHeartbeats 200000 in
theorem KS.ids {n : Nat} {σ : xσ} {k : Kp} (h : KS n σ k) : IdS σ 11 (kL k) := by obtain ⟨⟨K, lg, pl, pc, P⟩, _⟩ := h; exact P.2.2.1.1
set_option maxHeartbeats 200000 in
theorem PIn_k {x b k : Nat} (h : PIn 11 x b k) : PKk b k := by
  unfold PIn at h
  have := ad_ge x
  rcases h with h | h | h | h
  · exact Or.inl (by omega)
  · exact Or.inl (by omega)
  · exact Or.inl (by omega)
  · exact Or.inr (Or.inl (by omega))
set_option maxHeartbeats 200000 in
theorem PRe_k {b k : Nat} (h : PRe 11 b k) : PKk b k := by
  rcases h with h | h | h | h
  · exact Or.inl (by omega)
  · exact Or.inl (by omega)
  · exact Or.inl (by omega)
  · exact PHd_k h
set_option maxHeartbeats 200000 in
theorem PFr_k {n b k : Nat} (hn : 2476 ≤ n) (h : PFr n b k) : PKk b k := by
  unfold PFr at h
  rcases h with h | h | h
  · exact Or.inr (Or.inr ⟨h.1, by omega⟩)
  · exact Or.inl (by omega)
  · exact Or.inr (Or.inl (by omega))
set_option maxHeartbeats 200000 in
theorem PShad_k {x b k : Nat} (h : PSh (ad x) b k) : PKk b k := by
  have := ad_ge x
  unfold PSh at h
  exact Or.inr (Or.inl (by omega))
set_option maxHeartbeats 200000 in
theorem KS.n {n : Nat} {σ : xσ} {k : Kp} (h : KS n σ k) : 2476 ≤ n ∧ n ≤ 4481 := by
  obtain ⟨⟨K, lg, pl, pc, P⟩, _⟩ := h
  have := P.1.1
  have := P.1.2.1
  unfold ad at *
  omega
set_option maxHeartbeats 200000 in
theorem fd_lt {t : Tb} {z : Int} (h : ¬ fdT t z < 0) : (fdT t z).toNat < tC t ∧ fdT t z = ((fdT t z).toNat : Int) ∧ tI t (fdT t z).toNat = z := by
  rcases fdT_v t z with ⟨a, _⟩ | ⟨j, a, b, c⟩
  · omega
  · rw [a]; exact ⟨by omega, by omega, c⟩
set_option maxHeartbeats 200000 in
theorem fd_R {t : Tb} (h : okTb t) (z : Int) : R32 (fdT t z) := by
  have := h.1
  rcases fdT_v t z with ⟨a, _⟩ | ⟨j, a, b, c⟩
  · rw [a]; exact ⟨by omega, by omega⟩
  · rw [a]; exact ⟨by omega, by omega⟩
/-! a new live table, and what follows -/
set_option maxHeartbeats 200000 in
theorem e_put {n : Nat} {σ : xσ} {k : Kp} (o : okK k) (hD : kD k = false) {L : Tb} (oL : okTb L) (hK : KS n σ (withL k L)) {m : Nat} (hm : m ≤ 1000) (hr : room k m) : ∃ σ', f_X3_settle n (nI m) σ = some (iI (stK (withL k L) m).1, σ') ∧ Fk PKk σ σ' ∧ KS n σ' (stK (withL k L) m).2 := by
  obtain ⟨o1, ⟨o2, o3⟩, o4, o5, o6, o7⟩ := o
  refine e_settle hK ⟨oL, o1.2⟩ hD o4 o3 (fun y => (o5 y).2) hm (fun y => ?_)
  rcases hr with r | r
  · have : kO k = true := y
    rw [r] at this; cases this
  · exact r
set_option maxHeartbeats 200000 in
theorem b5 {n : Nat} {σ : xσ} {kn : Nat} {s : Sh} (h : ShB n σ 5 kn s) (h1 : 1 ≤ shP s) (h40 : shP s ≤ 40) (h8 : shR s ≤ 8) : SH n σ 5 ((kn, s) : Ct) := SH_of h.1 h1 h40 h8 (h.2 h1)
set_option maxHeartbeats 200000 in
theorem e_add {n : Nat} {σ : xσ} {k : Kp} (h : KS n σ k) (o : okK k) (hD : kD k = false) {z : Int} (hz : b30 z) (h4 : sI σ 4 0 = iI z) {kn : Nat} {s : Sh} (hs : ShB n σ 5 kn s) (hW : ¬ (40 < shP s ∨ 8 < shR s) → WF ((kn, s) : Ct)) : ∃ n' σ', f_X10_add n σ = some (iI (addK k z (40 < shP s ∨ 8 < shR s) (kn, s)).1, n', σ') ∧ Fk PEx σ σ' ∧ KS n' σ' (addK k z (40 < shP s ∨ 8 < shR s) (kn, s)).2 := by
  have hn := h.n
  have rz : R32 z := hz.r
  have L := o.1.1
  have l2 := L.1
  have z0 : (0 : Int32).toNatClampNeg = 0 := rfl
  rw [f_X10_add, gd_pos (by decide), st, z0, h4]
  simp only [iIl1 rz, iIe9999 rz]
  unfold addK
  by_cases q1 : z < 1
  · rw [if_pos q1, ifP_t (Or.inl q1)]; exact ⟨n, σ, rfl, Fk.refl, h⟩
  rw [if_neg q1]
  by_cases q2 : 9999 < z
  · rw [if_neg (by omega), ifP_t (Or.inr q2)]; exact ⟨n, σ, rfl, Fk.refl, h⟩
  rw [if_pos (by omega), ifP_f (by omega), e_indexOf (Or.inl rfl) L h.ids rz, bd]
  simp only [iIl0 (fd_R L z)]
  by_cases q3 : 0 ≤ fdT (kL k) z
  · rw [if_neg (by omega), ifP_t q3]; exact ⟨n, σ, rfl, Fk.refl, h⟩
  rw [if_pos (by omega), ifP_f q3, hs.1.2.1.2.2.2]
  by_cases q4 : 40 < shP s ∨ 8 < shR s
  · rw [if_neg (fun y => (tf_0.mp y) q4), ifP_t q4]; exact ⟨n, σ, rfl, Fk.refl, h⟩
  have W := hW q4
  have S : SH n σ 5 ((kn, s) : Ct) := b5 hs W.n.1 (by omega) (by omega)
  obtain ⟨σ1, f1, t1⟩ := e_isValid (n := n) S W
  have g1 : Fk PEx σ σ1 := (Fk.of f1).mono (fun b k y => Or.inr (A5_x y))
  have h1 : KS n σ1 k := h.fk (Fk.of f1) (fun b k y => by have := A5_x y; unfold outK; omega)
  have S1 : SH n σ1 5 ((kn, s) : Ct) := S.fr f1 (fun j hj y => by have := A5_x y; omega)
  rw [if_pos (tf_f q4), ifP_f q4, t1, bd]
  by_cases q5 : Val ((kn, s) : Ct)
  · rw [if_neg (fun y => (tf_0.mp y) q5), ifP_f (fun y => y q5), S1.R, S1.N]
    have hN := W.n
    have hR := W.r
    have eB : (16 + 4 * nI (cR ((kn, s) : Ct))) + 8 * nI (cN ((kn, s) : Ct)) = nI (16 + 4 * cR ((kn, s) : Ct) + 8 * cN ((kn, s) : Ct)) := by
      rw [nI_i, nI_i, nI_i, show (16 : Int32) = iI 16 from rfl, show (4 : Int32) = iI 4 from rfl, show (8 : Int32) = iI 8 from rfl, iI_mul, iI_mul, iI_add, iI_add]
      rfl
    rw [eB, st, h1.ids.1]
    simp only [nIg200 (show tC (kL k) < 2147483648 by omega)]
    by_cases q6 : 200 ≤ tC (kL k)
    · rw [if_pos q6, ifP_t (Or.inl q6)]; exact ⟨n, σ1, rfl, g1, h1⟩
    rw [if_neg q6, e_room h1 o (by omega), bd]
    by_cases q7 : room k (16 + 4 * cR ((kn, s) : Ct) + 8 * cN ((kn, s) : Ct))
    · rw [if_neg (fun y => (tf_0.mp y) q7), ifP_f (fun y => by rcases y with y | y; exact q6 y; exact y q7)]
      obtain ⟨⟨K, lg, pl, pc, P⟩, _⟩ := id h1
      obtain ⟨x, n', σ2, K', lg', u1, u2, u3, u4, u5⟩ := e_fresh L o.1.2 (by have := o.1.2.1; omega) P
      have okx := okS_ad u4.1.1 u5.1
      have S2 : SH n' σ2 5 ((kn, s) : Ct) := (S1.fk u2 (fun j k hj y => by unfold PFr at y; omega)).up u3
      have gx := ad_ge x
      have hmv : ∀ i, i < cN ((kn, s) : Ct) → bV (cV (mvC ((kn, s) : Ct) 0 0) i) := fun i hi => by rw [mvC_0]; exact W.b hi
      obtain ⟨σ3, v1, v2, v3⟩ := e_copyMoved (n := n') (a := ad x) okx S2 W (dx := 0) (dy := 0) (Or.inr (by omega)) hmv
      rw [mvC_0] at v3
      have P3 := u4.sh u5 v2
      have nid : ∀ j, j < tC (kL k) → tI (kL k) j ≠ z := by
        rcases fdT_v (kL k) z with ⟨_, b⟩ | ⟨j, a, _⟩
        · exact b
        · omega
      obtain ⟨σ4, pl', w1, w2, w3⟩ := KP_ins P3 L o.1.2 (by omega) rz u5 v3
      have z4 : ∀ j, 5 ≤ j → sI σ4 10 j = sI σ1 10 j := fun j hj => by
        rw [(w2 10 j (fun y => by unfold PIn at y; omega)).1, (v2 10 j (fun y => by unfold PSh at y; omega)).1, (u2 10 j (fun y => by unfold PFr at y; omega)).1]
      have K4 : KS n' σ4 (withL k (insT (kL k) z ((kn, s) : Ct))) := h1.L ⟨K', lg', pl', pc, w3⟩ z4
      obtain ⟨σ5, x1, x2, x3⟩ := e_put (n := n') (k := k) (σ := σ4) o hD (okTb_ins L ⟨by omega, by omega⟩ nid (by omega) ⟨W, q5⟩) K4 (m := 16 + 4 * cR ((kn, s) : Ct) + 8 * cN ((kn, s) : Ct)) (by omega) q7
      rw [show iI 0 = 0 from rfl] at v1
      rw [u1, bn, gd_pos okx, v1, bd, w1, bd, x1, bd]
      exact ⟨n', σ5, rfl, (((g1.trans (u2.mono (fun b k y => PK_x (PFr_k hn.1 y)))).trans (v2.mono (fun b k y => PK_x (PShad_k y)))).trans (w2.mono (fun b k y => PK_x (PIn_k y)))).trans (x2.mono (fun _ _ => PK_x)), x3⟩
    · rw [if_pos (tf_f q7), ifP_t (Or.inr q7)]; exact ⟨n, σ1, rfl, g1, h1⟩
  · rw [if_pos (tf_f q5), ifP_t q5]; exact ⟨n, σ1, rfl, g1, h1⟩
set_option maxHeartbeats 200000 in
theorem e_drop {n : Nat} {σ : xσ} {k : Kp} (h : KS n σ k) (o : okK k) (hD : kD k = false) {z : Int} (hz : b30 z) (h4 : sI σ 4 0 = iI z) : ∃ σ', f_X10_drop n σ = some (iI (dropK k z).1, σ') ∧ Fk PEx σ σ' ∧ KS n σ' (dropK k z).2 := by
  have rz : R32 z := hz.r
  have L := o.1.1
  have z0 : (0 : Int32).toNatClampNeg = 0 := rfl
  rw [f_X10_drop, gd_pos (by decide), z0, h4, e_indexOf (Or.inl rfl) L h.ids rz, bd]
  simp only [iIg0 (fd_R L z)]
  unfold dropK
  by_cases q1 : fdT (kL k) z < 0
  · rw [if_neg (by omega), ifP_t q1]; exact ⟨σ, rfl, Fk.refl, h⟩
  obtain ⟨i1, i2, i3⟩ := fd_lt q1
  rw [if_pos (by omega), ifP_f q1, show (8 : Int32) = nI 8 from rfl, e_room h o (by omega), bd]
  by_cases q2 : room k 8
  · rw [if_neg (fun y => (tf_0.mp y) q2), ifP_f (fun y => y q2)]
    obtain ⟨⟨K, lg, pl, pc, P⟩, _⟩ := id h
    obtain ⟨σ1, pl', t1, t2, t3⟩ := KP_rem P L o.1.2 i1
    have K1 : KS n σ1 (withL k (remT (kL k) (fdT (kL k) z).toNat)) := h.L ⟨K, lg, pl', pc, t3⟩ (fun j hj => (t2 10 j (fun y => by unfold PRe PHd at y; omega)).1)
    obtain ⟨σ2, u1, u2, u3⟩ := e_put o hD (okTb_rem L i1) K1 (m := 8) (by omega) q2
    have ei : iI (fdT (kL k) z) = nI (fdT (kL k) z).toNat := by rw [nI_i, ← i2]
    rw [ei, t1, bd, u1, bd]
    exact ⟨σ2, rfl, (t2.mono (fun b k y => PK_x (PRe_k y))).trans (u2.mono (fun _ _ => PK_x)), u3⟩
  · rw [if_pos (tf_f q2), ifP_t q2]; exact ⟨σ, rfl, Fk.refl, h⟩
set_option maxHeartbeats 200000 in
theorem e_isInPlane {n : Nat} {σ : xσ} {x : Int} (h : R64 x) : f_X10_isInPlane n (jJ x) σ = some (tf (b30 x), σ) := by
  have en : (-1073741823 : Int64) = jJ (-1073741823) := by rw [← jJ_neg]; rfl
  have l1 : (lg_cmp (jJ x) (-1073741823 : Int64) < 0) ↔ x < -1073741823 := by rw [en]; exact lc_lt h ⟨by decide, by decide⟩
  have l2 : (0 < lg_cmp (jJ x) (1073741823 : Int64)) ↔ 1073741823 < x := lc_gt (b := 1073741823) h ⟨by decide, by decide⟩
  rw [f_X10_isInPlane]
  simp only [l1, l2]
  unfold b30
  by_cases q1 : x < -1073741823
  · rw [if_pos q1, tf_f (by omega)]
  · rw [if_neg q1]
    by_cases q2 : 1073741823 < x
    · rw [if_pos q2, tf_f (by omega)]
    · rw [if_neg q2, tf_t (by omega)]
set_option maxHeartbeats 200000 in
theorem e_canMove {n : Nat} {σ : xσ} {a : Nat} {c : Ct} (S : SH n σ a c) (F : WF c) {dx dy : Int} (hx : b30 dx) (hy : b30 dy) : f_X7_canMove n a (jJ dx) (jJ dy) σ = some (tf (inPl c dx dy), σ) := by
  obtain ⟨b1, b2, b3, b4⟩ := F.bx
  have hN := F.n
  have r : ∀ u v : Int, b30 u → b30 v → R64 (u + v) := fun u v hu hv => by unfold b30 at *; exact ⟨by omega, by omega⟩
  have lem : inPl c dx dy ↔ (b30 (x0 c + dx) ∧ b30 (x1 c + dx) ∧ b30 (y0 c + dy) ∧ b30 (y1 c + dy)) := by
    obtain ⟨i1, k1, e1⟩ := mn_ex (fun i => (cV c i).1) (cN c - 1)
    obtain ⟨i2, k2, e2⟩ := mx_ex (fun i => (cV c i).1) (cN c - 1)
    obtain ⟨i3, k3, e3⟩ := mn_ex (fun i => (cV c i).2) (cN c - 1)
    obtain ⟨i4, k4, e4⟩ := mx_ex (fun i => (cV c i).2) (cN c - 1)
    have f1 : x0 c = (cV c i1).1 := e1
    have f2 : x1 c = (cV c i2).1 := e2
    have f3 : y0 c = (cV c i3).2 := e3
    have f4 : y1 c = (cV c i4).2 := e4
    constructor
    · intro h
      rw [f1, f2, f3, f4]
      exact ⟨(h i1 (by omega)).1, (h i2 (by omega)).1, (h i3 (by omega)).2, (h i4 (by omega)).2⟩
    · rintro ⟨h1, h2, h3, h4⟩ i hi
      have xi := x_in hi
      unfold b30 at h1 h2 h3 h4
      refine ⟨?_, ?_⟩
      · show b30 ((cV c i).1 + dx); unfold b30; omega
      · show b30 ((cV c i).2 + dy); unfold b30; omega
  rw [f_X7_canMove, gd_pos S.1, S.x0, iI_64 b1.r, jJ_add, e_isInPlane (r _ _ b1 hx), bd]
  by_cases q1 : b30 (x0 c + dx)
  · rw [if_neg (fun y => (tf_0.mp y) q1), S.x1, iI_64 b3.r, jJ_add, e_isInPlane (r _ _ b3 hx), bd]
    by_cases q2 : b30 (x1 c + dx)
    · rw [if_neg (fun y => (tf_0.mp y) q2), S.y0, iI_64 b2.r, jJ_add, e_isInPlane (r _ _ b2 hy), bd]
      by_cases q3 : b30 (y0 c + dy)
      · rw [if_neg (fun y => (tf_0.mp y) q3), S.y1, iI_64 b4.r, jJ_add, e_isInPlane (r _ _ b4 hy), bd]
        by_cases q4 : b30 (y1 c + dy)
        · rw [if_neg (fun y => (tf_0.mp y) q4), tf_t (lem.mpr ⟨q1, q2, q3, q4⟩)]
        · rw [if_pos (tf_f q4), tf_f (fun y => q4 (lem.mp y).2.2.2)]
      · rw [if_pos (tf_f q3), tf_f (fun y => q3 (lem.mp y).2.2.1)]
    · rw [if_pos (tf_f q2), tf_f (fun y => q2 (lem.mp y).2.1)]
  · rw [if_pos (tf_f q1), tf_f (fun y => q1 (lem.mp y).1)]
set_option maxHeartbeats 200000 in
theorem e_move {n : Nat} {σ : xσ} {k : Kp} (h : KS n σ k) (o : okK k) (hD : kD k = false) {z dx dy : Int} (hz : b30 z) (hx : b30 dx) (hy : b30 dy) (h4 : sI σ 4 0 = iI z) (h5 : sI σ 4 1 = iI dx) (h6 : sI σ 4 2 = iI dy) : ∃ n' σ', f_X10_move n σ = some (iI (moveK k z dx dy).1, n', σ') ∧ Fk PEx σ σ' ∧ KS n' σ' (moveK k z dx dy).2 := by
  have hn := h.n
  have rz : R32 z := hz.r
  have L := o.1.1
  have l2 := L.1
  rw [f_X10_move, gd_pos (by decide), z8.1, h4, e_indexOf (Or.inl rfl) L h.ids rz, bd, gd_pos (by decide), z8.2.1, h5, st, gd_pos (by decide), z8.2.2.1, h6, st]
  simp only [iIg0 (fd_R L z)]
  unfold moveK
  by_cases q1 : fdT (kL k) z < 0
  · rw [if_neg (by omega), ifP_t q1]; exact ⟨n, σ, rfl, Fk.refl, h⟩
  obtain ⟨i1, i2, i3⟩ := fd_lt q1
  obtain ⟨⟨K, lg, pl, pc, P⟩, _⟩ := id h
  obtain ⟨p1, p2, p3⟩ := P.2.2.1.2 _ i1
  obtain ⟨W, V⟩ := L.2.2.2 _ i1
  have ei : iI (fdT (kL k) z) = nI (fdT (kL k) z).toNat := by rw [nI_i, ← i2]
  have p2' : sR σ 13 (fdT (kL k) z).toNat = some (ad (pl (fdT (kL k) z).toNat)) := p2
  rw [if_pos (by omega), ifP_f q1, ei, gd_in (by omega) (by omega), nI_k (by omega), p2', nn, gd_pos p3.1, iI_64 hx.r, iI_64 hy.r, e_canMove p3 W hx hy, bd]
  by_cases q2 : inPl (tS (kL k) (fdT (kL k) z).toNat) dx dy
  · rw [if_neg (fun y => (tf_0.mp y) q2), ifP_f (fun y => y q2), show (16 : Int32) = nI 16 from rfl, e_room h o (by omega), bd]
    by_cases q3 : room k 16
    · rw [if_neg (fun y => (tf_0.mp y) q3), ifP_f (fun y => y q3)]
      obtain ⟨x, n', σ2, K', lg', u1, u2, u3, u4, u5⟩ := e_fresh L o.1.2 (by have := o.1.2.1; omega) P
      have okx := okS_ad u4.1.1 u5.1
      obtain ⟨r1, r2, r3⟩ := u4.2.2.1.2 _ i1
      have dj := u5.2.1 _ i1
      obtain ⟨σ3, v1, v2, v3⟩ := e_copyMoved (n := n') (a := ad x) okx r3 W (dx := dx) (dy := dy) (by unfold ad; omega) q2
      have P3 := u4.sh u5 v2
      obtain ⟨σ4, pl', w1, w2, w3⟩ := KP_rep P3 L o.1.2 i1 u5 v3
      have K4 : KS n' σ4 (withL k (repT (kL k) (fdT (kL k) z).toNat (mvC (tS (kL k) (fdT (kL k) z).toNat) dx dy))) := h.L ⟨K', lg', pl', pc, w3⟩ (fun j hj => by
        rw [(w2 10 j (fun y => by unfold PRe PHd at y; omega)).1, (v2 10 j (fun y => by have := ad_ge x; unfold PSh at y; omega)).1, (u2 10 j (fun y => by unfold PFr at y; omega)).1])
      obtain ⟨σ5, x1, x2, x3⟩ := e_put (n := n') (σ := σ4) o hD (okTb_rep L ⟨WF_mv W q2, Val_mv V dx dy⟩) K4 (m := 16) (by omega) q3
      rw [u1, bn, gd_pos r3.1, gd_pos okx, v1, bd, w1, bd, x1, bd]
      exact ⟨n', σ5, rfl, ((((u2.mono (fun b k y => PK_x (PFr_k hn.1 y)))).trans (v2.mono (fun b k y => PK_x (PShad_k y)))).trans (w2.mono (fun b k y => PK_x (PRe_k y)))).trans (x2.mono (fun _ _ => PK_x)), x3⟩
    · rw [if_pos (tf_f q3), ifP_t q3]; exact ⟨n, σ, rfl, Fk.refl, h⟩
  · rw [if_pos (tf_f q2), ifP_t q2]; exact ⟨n, σ, rfl, Fk.refl, h⟩

/-! the least of some fractions -/
def fle (x y : Nat × Nat) : Prop := x.1 * y.2 ≤ y.1 * x.2
set_option maxHeartbeats 200000 in
theorem fle_rf (x : Nat × Nat) : fle x x := Nat.le_refl _
set_option maxHeartbeats 200000 in
theorem fle_tr {x y z : Nat × Nat} (hy : 0 < y.2) (h1 : fle x y) (h2 : fle y z) : fle x z := by
  unfold fle at *
  have a : x.1 * y.2 * z.2 ≤ y.1 * x.2 * z.2 := Nat.mul_le_mul_right _ h1
  have b : y.1 * z.2 * x.2 ≤ z.1 * y.2 * x.2 := Nat.mul_le_mul_right _ h2
  have e1 : x.1 * y.2 * z.2 = x.1 * z.2 * y.2 := by grind
  have e2 : y.1 * x.2 * z.2 = y.1 * z.2 * x.2 := by grind
  have e3 : z.1 * y.2 * x.2 = z.1 * x.2 * y.2 := by grind
  exact Nat.le_of_mul_le_mul_right (by omega) hy
def Mn (C : Nat × Nat → Prop) (x : Nat × Nat) : Prop := C x ∧ ∀ y, C y → fle x y
def Stq (K : Nat × Nat → Prop) (x x' : Nat × Nat) : Prop := (x' = x ∨ K x') ∧ fle x' x ∧ ∀ y, K y → fle x' y
set_option maxHeartbeats 200000 in
theorem Mn_stq {C K : Nat × Nat → Prop} {x x' : Nat × Nat} (hx : 0 < x.2) (h : Mn C x) (s : Stq K x x') : Mn (fun y => C y ∨ K y) x' := by
  obtain ⟨h1, h2⟩ := h
  obtain ⟨s1, s2, s3⟩ := s
  refine ⟨?_, fun y hy => ?_⟩
  · rcases s1 with rfl | k
    · exact Or.inl h1
    · exact Or.inr k
  · rcases hy with c | k
    · exact fle_tr hx s2 (h2 y c)
    · exact s3 y k
set_option maxHeartbeats 200000 in
theorem Mn_c {C K : Nat × Nat → Prop} (h : ∀ y, C y ↔ K y) {x : Nat × Nat} (m : Mn C x) : Mn K x := ⟨(h x).mp m.1, fun y hy => m.2 y ((h y).mpr hy)⟩
/-! distances of the system -/
def DV (σ : xσ) (a : Nat) (x : Nat × Nat) : Prop := ∃ u w v, DD σ a u w v ∧ u < 18446744073709551616 ∧ w < 18446744073709551616 ∧ v < 18446744073709551616 ∧ 0 < v ∧ x = (u * 18446744073709551616 + w, v)
set_option maxHeartbeats 200000 in
theorem DV.pos {σ : xσ} {a : Nat} {x : Nat × Nat} (h : DV σ a x) : 0 < x.2 := by obtain ⟨u, w, v, _, _, _, _, h5, rfl⟩ := h; exact h5
set_option maxHeartbeats 200000 in
theorem e_keep {n : Nat} {σ : xσ} {a U W V : Nat} (ok : okD a) (hU : U < 18446744073709551616) (hW : W < 18446744073709551616) (hV : V < 18446744073709551616) (h0 : 0 < V) : ∃ σ', f_X2_keep n a (lN U) (lN W) (lN V) σ = some ((), σ') ∧ Fr (· = a) σ σ' ∧ DV σ' a (U * 18446744073709551616 + W, V) := by
  rw [f_X2_keep, gd_pos ok, st, st, st]
  have fr : ∀ {s : xσ} {k : Nat} {v : Int64}, Fr (· = a) s (wJ s a k v) := Fr.wJ rfl
  refine ⟨_, rfl, (fr.trans fr).trans fr, U, W, V, ⟨?_, ?_, ?_⟩, hU, hW, hV, h0, rfl⟩
  · rw [sJ_wJ, if_neg (by omega), sJ_wJ, if_neg (by omega), sJ_wJ, if_pos ⟨rfl, rfl⟩]
  · rw [sJ_wJ, if_neg (by omega), sJ_wJ, if_pos ⟨rfl, rfl⟩]
  · rw [sJ_wJ, if_pos ⟨rfl, rfl⟩]
/-! keeps the new one if it is less -/
set_option maxHeartbeats 200000 in
theorem e_less {n : Nat} {σ : xσ} {a U W V : Nat} {x : Nat × Nat} (ok : okD a) (h : DV σ a x) (hU : U < 18446744073709551616) (hW : W < 18446744073709551616) (hV : V < 18446744073709551616) (h0 : 0 < V) {α : Type} (K1 K2 : xσ → Option α) : ∃ σ' x', Fr (· = a) σ σ' ∧ DV σ' a x' ∧ Stq (fun y => y = (U * 18446744073709551616 + W, V)) x x' ∧ (bd (f_X2_compareParts n a (lN U) (lN W) (lN V) σ) (fun v106 σ107 => if v106 ≤ 0 then K1 σ107 else bd (f_X2_keep n a (lN U) (lN W) (lN V) σ107) (fun _ σ113 => K2 σ113)) = K1 σ' ∨ bd (f_X2_compareParts n a (lN U) (lN W) (lN V) σ) (fun v106 σ107 => if v106 ≤ 0 then K1 σ107 else bd (f_X2_keep n a (lN U) (lN W) (lN V) σ107) (fun _ σ113 => K2 σ113)) = K2 σ') := by
  obtain ⟨u, w, v, hd, hu, hw, hv, hv0, rfl⟩ := id h
  rw [e_compareParts ok hd hu hw hv hU hW hV, bd]
  by_cases z : (u * 18446744073709551616 + w) * V ≤ (U * 18446744073709551616 + W) * v
  · rw [if_pos ((cmN_le _ _).mpr z)]
    refine ⟨σ, _, Fr.refl, h, ⟨Or.inl rfl, fle_rf _, fun y hy => ?_⟩, Or.inl rfl⟩
    rw [hy]; exact z
  · rw [if_neg (fun y => z ((cmN_le _ _).mp y))]
    obtain ⟨σ', k1, k2, k3⟩ := e_keep (n := n) (σ := σ) ok hU hW hV h0
    rw [k1, bd]
    refine ⟨σ', _, k2, k3, ⟨Or.inr rfl, ?_, fun y hy => by rw [hy]; exact fle_rf _⟩, Or.inr rfl⟩
    show (U * 18446744073709551616 + W) * v ≤ (u * 18446744073709551616 + w) * V
    omega
/-! the foot on a way -/
def sqN (p A : V2) : Nat := (dt (sub2 p A) (sub2 p A)).toNat
def ftC (p A B : V2) (y : Nat × Nat) : Prop := 0 < dt (sub2 p A) (sub2 B A) ∧ dt (sub2 p A) (sub2 B A) < dt (sub2 B A) (sub2 B A) ∧ y = ((crs (sub2 B A) (sub2 p A)).natAbs * (crs (sub2 B A) (sub2 p A)).natAbs, (dt (sub2 B A) (sub2 B A)).toNat)
set_option maxHeartbeats 200000 in
theorem dt_rg {a b : V2} (h1 : b31 a.1) (h2 : b31 a.2) (h3 : b31 b.1) (h4 : b31 b.2) : -9223372036854775807 ≤ dt a b ∧ dt a b ≤ 9223372036854775807 ∧ -9223372036854775807 ≤ crs a b ∧ crs a b ≤ 9223372036854775807 := by
  have m1 := b31.mul h1 h3
  have m2 := b31.mul h2 h4
  have m3 := b31.mul h1 h4
  have m4 := b31.mul h2 h3
  unfold dt crs
  omega
set_option maxHeartbeats 200000 in
theorem sub_b {p A : V2} (hp : bV p) (hA : bV A) : b31 (sub2 p A).1 ∧ b31 (sub2 p A).2 := ⟨b31.s hp.1 hA.1, b31.s hp.2 hA.2⟩
set_option maxHeartbeats 200000 in
theorem dt_nn (a : V2) : 0 ≤ dt a a := by
  by_cases z : zro a
  · unfold dt; rw [z.1, z.2]; simp
  · have := dt_pos z; omega
set_option maxHeartbeats 200000 in
theorem SH.d {n : Nat} {σ σ' : xσ} {a b : Nat} {c : Ct} (S : SH n σ b c) (ok : okD a) (f : Fr (· = a) σ σ') : SH n σ' b c := S.fr f (by
  have := S.1.2
  intro j hj h
  omega)
set_option maxHeartbeats 200000 in
theorem e_measureFoot {n : Nat} {σ : xσ} {a b : Nat} {c : Ct} {x : Nat × Nat} (ok : okD a) (h : DV σ a x) (S : SH n σ b c) (F : WF c) {p : V2} (hp : bV p) {i : Nat} (hi : i + 1 < cN c) : ∃ σ' x', f_X2_measureFoot n a b (nI i) (jJ (sub2 p (cV c i)).1) (jJ (sub2 p (cV c i)).2) σ = some ((), σ') ∧ Fr (· = a) σ σ' ∧ DV σ' a x' ∧ Stq (ftC p (cV c i) (cV c (i + 1))) x x' := by
  have hN := F.n
  have b1 := F.b (show i < cN c by omega)
  have b2 := F.b hi
  obtain ⟨d1, d2⟩ := sub_b hp b1
  obtain ⟨e1, e2⟩ := sub_b b2 b1
  have i1 : ∀ {α : Type} (y : Option α), gd (inb (nI i) 40) y = y := fun y => gd_in (by omega) (by omega)
  have i2 : ∀ {α : Type} (y : Option α), gd (inb (nI (i + 1)) 40) y = y := fun y => gd_in (by omega) (by omega)
  have x1 : (sI σ (b + 1) (nI i).toNatClampNeg).toInt64 = jJ (cV c i).1 := by rw [nI_k (by omega), S.X (by omega), iI_64 b1.1.r]
  have y1 : (sI σ (b + 2) (nI i).toNatClampNeg).toInt64 = jJ (cV c i).2 := by rw [nI_k (by omega), S.Y (by omega), iI_64 b1.2.r]
  have x2 : (sI σ (b + 1) (nI (i + 1)).toNatClampNeg).toInt64 = jJ (cV c (i + 1)).1 := by rw [nI_k (by omega), S.X hi, iI_64 b2.1.r]
  have y2 : (sI σ (b + 2) (nI (i + 1)).toNatClampNeg).toInt64 = jJ (cV c (i + 1)).2 := by rw [nI_k (by omega), S.Y hi, iI_64 b2.2.r]
  have rr := dt_rg d1 d2 e1 e2
  have re := dt_rg e1 e2 e1 e2
  have rc := dt_rg e1 e2 d1 d2
  have ne := dt_nn (sub2 (cV c (i + 1)) (cV c i))
  have sx : (cV c (i + 1)).1 - (cV c i).1 = (sub2 (cV c (i + 1)) (cV c i)).1 := rfl
  have sy : (cV c (i + 1)).2 - (cV c i).2 = (sub2 (cV c (i + 1)) (cV c i)).2 := rfl
  rw [f_X2_measureFoot, gd_pos ok, gd_pos S.1, nI_s, i2, i1, st, i2, i1, st, x1, y1, x2, y2, st, st]
  simp only [jJ_sub, jJ_mul, jJ_add, sx, sy, st]
  have Ld : (sub2 (cV c (i + 1)) (cV c i)).1 * (sub2 (cV c (i + 1)) (cV c i)).1 + (sub2 (cV c (i + 1)) (cV c i)).2 * (sub2 (cV c (i + 1)) (cV c i)).2 = dt (sub2 (cV c (i + 1)) (cV c i)) (sub2 (cV c (i + 1)) (cV c i)) := rfl
  have Ad : (sub2 p (cV c i)).1 * (sub2 (cV c (i + 1)) (cV c i)).1 + (sub2 p (cV c i)).2 * (sub2 (cV c (i + 1)) (cV c i)).2 = dt (sub2 p (cV c i)) (sub2 (cV c (i + 1)) (cV c i)) := rfl
  have Cd : (sub2 (cV c (i + 1)) (cV c i)).1 * (sub2 p (cV c i)).2 - (sub2 (cV c (i + 1)) (cV c i)).2 * (sub2 p (cV c i)).1 = crs (sub2 (cV c (i + 1)) (cV c i)) (sub2 p (cV c i)) := rfl
  rw [Ld, Ad, Cd]
  have rA : R64 (dt (sub2 p (cV c i)) (sub2 (cV c (i + 1)) (cV c i))) := ⟨by omega, by omega⟩
  have rL : R64 (dt (sub2 (cV c (i + 1)) (cV c i)) (sub2 (cV c (i + 1)) (cV c i))) := ⟨by omega, by omega⟩
  have rC : R64 (crs (sub2 (cV c (i + 1)) (cV c i)) (sub2 p (cV c i))) := ⟨by omega, by omega⟩
  have none' : ∀ {q : Prop}, q → (q → ∀ y, ¬ ftC p (cV c i) (cV c (i + 1)) y) → ∃ σ' x', (some ((), σ) : Option (Unit × xσ)) = some ((), σ') ∧ Fr (· = a) σ σ' ∧ DV σ' a x' ∧ Stq (ftC p (cV c i) (cV c (i + 1))) x x' :=
    fun hq hn => ⟨σ, x, rfl, Fr.refl, h, Or.inl rfl, fle_rf x, fun y hy => (hn hq y hy).elim⟩
  by_cases u : dt (sub2 p (cV c i)) (sub2 (cV c (i + 1)) (cV c i)) ≤ 0
  · rw [if_pos ((lz_le rA).mpr u)]
    exact none' u (fun hu y hy => by have := hy.1; omega)
  · rw [if_neg (fun z => u ((lz_le rA).mp z))]
    by_cases w : dt (sub2 p (cV c i)) (sub2 (cV c (i + 1)) (cV c i)) < dt (sub2 (cV c (i + 1)) (cV c i)) (sub2 (cV c (i + 1)) (cV c i))
    · rw [if_pos ((lc_lt rA rL).mpr w)]
      generalize hC : crs (sub2 (cV c (i + 1)) (cV c i)) (sub2 p (cV c i)) = C at *
      generalize hLn : dt (sub2 (cV c (i + 1)) (cV c i)) (sub2 (cV c (i + 1)) (cV c i)) = L at *
      have core : ∀ z : Int, 0 ≤ z → z ≤ 9223372036854775807 → z.toNat = C.natAbs → ∃ σ' x', (bd (f_X4_upperProduct n (jJ z) (jJ z) σ) (fun v101 σ102 => bd (f_X2_compareParts n a v101 (jJ (z * z)) (jJ L) σ102) (fun v106 σ107 => if v106 ≤ 0 then some ((), σ107) else bd (f_X2_keep n a v101 (jJ (z * z)) (jJ L) σ107) (fun v112 σ113 => some ((), σ113))))) = some ((), σ') ∧ Fr (· = a) σ σ' ∧ DV σ' a x' ∧ Stq (ftC p (cV c i) (cV c (i + 1))) x x' := by
        intro z z0 z1 zn
        have hz : z.toNat < 18446744073709551616 := by omega
        have e1 : jJ (z * z) = lN (z.toNat * z.toNat % 18446744073709551616) := by
          rw [← w_mod, ← lN_mul, ← lN_j z0, jJ_mul]
        have e2 : jJ L = lN L.toNat := lN_j (by omega)
        have mm : z.toNat * z.toNat ≤ 9223372036854775807 * 9223372036854775807 := Nat.mul_le_mul (by omega) (by omega)
        rw [lN_j z0, e_upperProduct hz hz, bd, e1, e2]
        obtain ⟨σ', x', f1, f2, f3, f4⟩ := e_less (n := n) (U := z.toNat * z.toNat / 18446744073709551616) (W := z.toNat * z.toNat % 18446744073709551616) (V := L.toNat) ok h (by omega) (Nat.mod_lt _ (by omega)) (by omega) (by omega) (fun s => some ((), s)) (fun s => some ((), s))
        have eq' : z.toNat * z.toNat / 18446744073709551616 * 18446744073709551616 + z.toNat * z.toNat % 18446744073709551616 = C.natAbs * C.natAbs := by rw [zn]; omega
        rw [eq'] at f3
        have ft : ∀ y, y = (C.natAbs * C.natAbs, L.toNat) ↔ ftC p (cV c i) (cV c (i + 1)) y := by
          intro y
          unfold ftC
          rw [hC, hLn]
          exact ⟨fun e => ⟨by omega, w, e⟩, fun e => e.2.2⟩
        refine ⟨σ', x', ?_, f1, f2, ?_⟩
        · rcases f4 with f4 | f4 <;> exact f4
        · obtain ⟨s1, s2, s3⟩ := f3
          exact ⟨s1.imp id (fun e => (ft _).mp e), s2, fun y hy => s3 y ((ft y).mpr hy)⟩
      by_cases s : 0 ≤ C
      · rw [if_pos ((lz_ge rC).mpr s)]
        exact core C s (by omega) (by omega)
      · rw [if_neg (fun z => s ((lz_ge rC).mp z)), jJ_neg]
        unfold b_X2_measureFoot_103
        rw [jJ_mul]
        exact core (-C) (by omega) (by omega) (by omega)
    · rw [if_neg (fun z => w ((lc_lt rA rL).mp z))]
      exact none' w (fun hw y hy => hw hy.2.1)

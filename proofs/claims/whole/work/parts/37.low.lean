/-! the side of a ring is seen at its lowest place -/
theorem Smp.at_close {V : Nat → V2} {lo m : Nat} (S : Smp V lo m) (t : V2) : hfs (fro V (V lo)) t lo m = (Wd t (dv V lo) ^^ Wd t (ng (dv V (lo + m - 1)))) := by
  have hm := S.1
  have ef : fro V (V lo) = rel V 1 (V lo) := funext (fun i => fro_rel V _ i)
  have z : zro (fro V (V lo) lo) := by unfold fro zro; simp
  have em : lo + m - 1 + 1 = lo + m := by omega
  have z2 : zro (fro V (V lo) (lo + m - 1 + 1)) := by rw [em]; unfold fro zro; rw [S.2.1]; simp
  have a1 : fro V (V lo) (lo + m - 1) = ng (dv V (lo + m - 1)) := by
    unfold fro ng dv; rw [em, S.2.1]; refine Prod.ext ?_ ?_ <;> simp only <;> omega
  have a2 : fro V (V lo) (lo + 1) = dv V lo := rfl
  have nk := ng_nz (S.2.2.1 (lo + m - 1) (by omega) (by omega))
  have o1 : on0 (fro V (V lo) lo) (fro V (V lo) (lo + 1)) := ⟨by unfold crs; rw [z.1, z.2]; simp, by unfold dt; rw [z.1, z.2]; simp⟩
  have o2 : on0 (fro V (V lo) (lo + m - 1)) (fro V (V lo) (lo + m - 1 + 1)) := ⟨by unfold crs; rw [z2.1, z2.2]; simp, by unfold dt; rw [z2.1, z2.2]; simp⟩
  unfold hfs
  rw [xs_two lo (lo + m - 1) (Nat.le_refl lo) (by omega) (by omega) (fun i a b c d => hb_no (fun ho => ?_)), hb_fst z, a2, a1, hb_snd nk z2]
  rw [ef] at ho o1 o2 z
  rcases S.2.2.2 1 _ lo i (by omega) (Nat.le_refl lo) (by omega) b o1 ho with ⟨q1, q2⟩ | ⟨q1, q2, q3⟩
  · refine S.2.2.1 lo (Nat.le_refl lo) (by omega) ⟨?_, ?_⟩
    · have x1 := q2.1; rw [q1] at x1; simp only [rel] at x1; unfold dv; simp only; omega
    · have x1 := q2.2; rw [q1] at x1; simp only [rel] at x1; unfold dv; simp only; omega
  · omega
def loW (a b : V2) : Prop := a.2 < b.2 ∨ (a.2 = b.2 ∧ a.1 ≤ b.1)
theorem cr_no {a b : V2} (ha : 0 ≤ a.2) (hb' : 0 ≤ b.2) : cr a b = false := by
  unfold cr rS
  have h1 : sg a.2 ≠ 0 := fun e => by have := (sg_neg _).mp e; omega
  have h2 : sg b.2 ≠ 0 := fun e => by have := (sg_neg _).mp e; omega
  have e1 : (sg a.2 != 0) = true := by simpa using h1
  have e2 : (sg b.2 != 0) = true := by simpa using h2
  rw [e1, e2]; rfl
theorem up_of {a : V2} (h : nz a) (h2 : 0 < a.2 ∨ (a.2 = 0 ∧ 0 ≤ a.1)) : upS (sg a.1) (sg a.2) = true := by
  unfold upS
  rcases h2 with h2 | ⟨h2, h3⟩
  · rw [(sg_pos _).mpr h2]; rfl
  · have : 0 < a.1 := by
      rcases Int.lt_or_eq_of_le h3 with q | q
      · exact q
      · exact (h ⟨q.symm, h2⟩).elim
    rw [(sg_pos _).mpr this, (sg_zero _).mpr h2]; rfl
theorem W_up {s a : V2} (hs : upS (sg s.1) (sg s.2) = true) (hz : nz a) (ha : upS (sg a.1) (sg a.2) = true) : Wd s a = !decide (crs a s < 0) := by
  unfold Wd wS
  rw [nz_sg hz, ha, hs]
  simp only [Bool.false_eq_true, if_false, if_true]
  have : (sg (crs a s) != 0) = !(sg (crs a s) == 0) := rfl
  rw [this, sg0]
def prv (lo m j : Nat) : Nat := if j = lo then lo + m - 1 else j - 1
theorem Smp.low {V : Nat → V2} {lo m : Nat} (S : Smp V lo m) {j : Nat} (h1 : lo ≤ j) (h2 : j < lo + m) (hl : ∀ i, lo ≤ i → i < lo + m → loW (V j) (V i)) : sd V lo m = decide (0 < crs (dv V (prv lo m j)) (dv V j)) := by
  have hm := S.1
  have nj := S.2.2.1 j h1 h2
  have hpr : lo ≤ prv lo m j ∧ prv lo m j < lo + m := by unfold prv; split <;> omega
  have np := S.2.2.1 (prv lo m j) hpr.1 hpr.2
  have hV : ∀ i, lo ≤ i → i ≤ lo + m → loW (V j) (V i) := by
    intro i a b
    by_cases q : i = lo + m
    · rw [q, S.2.1]; exact hl lo (Nat.le_refl lo) (by omega)
    · exact hl i a (by omega)
  have ef : fro V (V j) = rel V 1 (V j) := funext (fun i => fro_rel V _ i)
  have hr : rfp (fro V (V j)) lo m = false := xs_none (fun i a b => cr_no (by
    have := hV i a (by omega); unfold loW at this; unfold fro; simp only; omega) (by
    have := hV (i + 1) (by omega) (by omega); unfold loW at this; unfold fro; simp only; omega))
  have hh : hfs (fro V (V j)) (dv V j) lo m = (Wd (dv V j) (ng (dv V (prv lo m j))) ^^ Wd (dv V j) (dv V j)) := by
    by_cases q : j = lo
    · have : prv lo m j = lo + m - 1 := by unfold prv; rw [if_pos q]
      rw [this, q, S.at_close, Bool.xor_comm]
    · have : prv lo m j = j - 1 := by unfold prv; rw [if_neg q]
      have e : j - 1 + 1 = j := by omega
      have := S.at_place (k := j - 1) (by omega) (by omega) (dv V j)
      rw [e] at this
      rw [this]
      have : prv lo m j = j - 1 := by unfold prv; rw [if_neg q]
      rw [this]
  have w := wedge (A := fro V (V j)) nj (by rw [ef]; exact rel_nz S (by omega) _) (by rw [ef]; exact rel_cl S 1 _)
  rw [hr, hh, W_self nj] at w
  have c := S.const (j - lo) (by omega)
  rw [show lo + (j - lo) = j by omega] at c
  unfold sd
  rw [← c, w]
  have ep : V (prv lo m j + 1) = V j := by
    unfold prv
    by_cases q : j = lo
    · rw [if_pos q, show lo + m - 1 + 1 = lo + m by omega, S.2.1, q]
    · rw [if_neg q, show j - 1 + 1 = j by omega]
  have u1 : upS (sg (dv V j).1) (sg (dv V j).2) = true := up_of nj (by
    have := hV (j + 1) (by omega) (by omega); unfold loW at this; unfold dv; simp only; omega)
  have u2 : upS (sg (ng (dv V (prv lo m j))).1) (sg (ng (dv V (prv lo m j))).2) = true := up_of (ng_nz np) (by
    have := hV (prv lo m j) hpr.1 (by omega); unfold loW at this; unfold ng dv; rw [ep]; simp only; omega)
  rw [W_up u1 (ng_nz np) u2]
  have e : crs (ng (dv V (prv lo m j))) (dv V j) = -crs (dv V (prv lo m j)) (dv V j) := by
    generalize dv V (prv lo m j) = a; generalize dv V j = b; unfold crs ng; grind
  rw [e]
  have : decide (-crs (dv V (prv lo m j)) (dv V j) < 0) = decide (0 < crs (dv V (prv lo m j)) (dv V j)) := decide_eq_decide.mpr (by omega)
  rw [this]
  cases decide (0 < crs (dv V (prv lo m j)) (dv V j)) <;> rfl

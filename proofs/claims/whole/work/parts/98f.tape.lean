/-! the tape and its tokens: what a token is -/
def Fk (P : Nat → Nat → Prop) (σ σ' : xσ) : Prop := ∀ b k, ¬ P b k → sI σ' b k = sI σ b k ∧ sJ σ' b k = sJ σ b k ∧ sR σ' b k = sR σ b k
set_option maxHeartbeats 200000 in
theorem Fk.refl {P : Nat → Nat → Prop} {σ : xσ} : Fk P σ σ := fun _ _ _ => ⟨rfl, rfl, rfl⟩
set_option maxHeartbeats 200000 in
theorem Fk.trans {P : Nat → Nat → Prop} {σ1 σ2 σ3 : xσ} (h : Fk P σ1 σ2) (k : Fk P σ2 σ3) : Fk P σ1 σ3 := fun b j hb => ⟨(k b j hb).1.trans (h b j hb).1, (k b j hb).2.1.trans (h b j hb).2.1, (k b j hb).2.2.trans (h b j hb).2.2⟩
set_option maxHeartbeats 200000 in
theorem Fk.mono {P Q : Nat → Nat → Prop} {σ1 σ2 : xσ} (h : Fk P σ1 σ2) (k : ∀ b j, P b j → Q b j) : Fk Q σ1 σ2 := fun b j hb => h b j (fun q => hb (k b j q))
set_option maxHeartbeats 200000 in
theorem Fk.wI {P : Nat → Nat → Prop} {σ : xσ} {a k : Nat} {v : Int32} (h : P a k) : Fk P σ (wI σ a k v) := fun b j hb => by
  refine ⟨?_, rfl, rfl⟩
  rw [sI_wI, if_neg]
  rintro ⟨rfl, rfl⟩
  exact hb h
set_option maxHeartbeats 200000 in
theorem Fk.wR {P : Nat → Nat → Prop} {σ : xσ} {a k : Nat} {v : Option Nat} (h : P a k) : Fk P σ (wR σ a k v) := fun b j hb => by
  refine ⟨rfl, rfl, ?_⟩
  rw [sR_wR, if_neg]
  rintro ⟨rfl, rfl⟩
  exact hb h
set_option maxHeartbeats 200000 in
theorem Fk.of {A : Nat → Prop} {σ σ' : xσ} (h : Fr A σ σ') : Fk (fun b _ => A b) σ σ' := fun b j hb => h b hb j
set_option maxHeartbeats 200000 in
theorem Fk.fr {A : Nat → Prop} {P : Nat → Nat → Prop} {σ σ' : xσ} (h : Fk P σ σ') (k : ∀ b j, P b j → A b) : Fr A σ σ' := fun b hb j => h b j (fun q => hb (k b j q))
abbrev Tp := Nat × (Nat → Int)
def okTp (T : Tp) : Prop := T.1 ≤ 4000 ∧ ∀ i, i < T.1 → 0 ≤ T.2 i ∧ T.2 i ≤ 255
def byt (T : Tp) (i : Nat) : Int := if i < T.1 then T.2 i else -1
def spc (z : Int) : Bool := z == 32 || z == 10
def gr (z : Int) : Bool := decide (65 ≤ z) && decide (z ≤ 90)
def dg (z : Int) : Bool := decide (48 ≤ z) && decide (z ≤ 57)
def sgn4 (z : Int) : Bool := z == 40 || z == 41 || z == 44 || z == 59
set_option maxHeartbeats 200000 in
theorem spc_i (z : Int) : spc z = true ↔ (z = 32 ∨ z = 10) := by unfold spc; simp
set_option maxHeartbeats 200000 in
theorem gr_i (z : Int) : gr z = true ↔ (65 ≤ z ∧ z ≤ 90) := by unfold gr; simp
set_option maxHeartbeats 200000 in
theorem dg_i (z : Int) : dg z = true ↔ (48 ≤ z ∧ z ≤ 57) := by unfold dg; simp
set_option maxHeartbeats 200000 in
theorem sgn4_i (z : Int) : sgn4 z = true ↔ (z = 40 ∨ z = 41 ∨ z = 44 ∨ z = 59) := by unfold sgn4; simp [or_assoc]
set_option maxHeartbeats 200000 in
theorem bt_in {T : Tp} {i : Nat} (h : i < T.1) : byt T i = T.2 i := if_pos h
set_option maxHeartbeats 200000 in
theorem bt_out {T : Tp} {i : Nat} (h : T.1 ≤ i) : byt T i = -1 := if_neg (by omega)
set_option maxHeartbeats 200000 in
theorem bt_r {T : Tp} (ok : okTp T) (i : Nat) : -1 ≤ byt T i ∧ byt T i ≤ 255 := by
  by_cases h : i < T.1
  · rw [bt_in h]; have := ok.2 i h; omega
  · rw [bt_out (by omega)]; omega
/-! the end of a run of bytes -/
def rnG (T : Tp) (p : Int → Bool) : Nat → Nat → Nat
  | 0, i => i
  | f + 1, i => if p (byt T i) = true then rnG T p f (i + 1) else i
def rn (T : Tp) (p : Int → Bool) (i : Nat) : Nat := rnG T p (T.1 - i) i
set_option maxHeartbeats 200000 in
theorem rn_out {T : Tp} {p : Int → Bool} {i : Nat} (h : T.1 ≤ i) : rn T p i = i := by
  unfold rn; rw [show T.1 - i = 0 by omega]; rfl
set_option maxHeartbeats 200000 in
theorem rn_t {T : Tp} {p : Int → Bool} {i : Nat} (h : i < T.1) (hp : p (byt T i) = true) : rn T p i = rn T p (i + 1) := by
  unfold rn
  rw [show T.1 - i = (T.1 - (i + 1)) + 1 by omega, rnG, if_pos hp]
set_option maxHeartbeats 200000 in
theorem rn_f {T : Tp} {p : Int → Bool} {i : Nat} (hp : ¬ p (byt T i) = true) : rn T p i = i := by
  by_cases h : i < T.1
  · unfold rn
    rw [show T.1 - i = (T.1 - (i + 1)) + 1 by omega, rnG, if_neg hp]
  · exact rn_out (by omega)
set_option maxHeartbeats 200000 in
theorem rn_ind {T : Tp} {p : Int → Bool} {Q : Nat → Nat → Prop} (h0 : ∀ i, T.1 ≤ i → Q i i) (h1 : ∀ i, i < T.1 → ¬ p (byt T i) = true → Q i i) (h2 : ∀ i j, i < T.1 → p (byt T i) = true → Q (i + 1) j → Q i j) : ∀ k i, T.1 - i ≤ k → Q i (rn T p i) := by
  intro k
  induction k with
  | zero => intro i h; rw [rn_out (by omega)]; exact h0 i (by omega)
  | succ k ih =>
    intro i h
    by_cases q : i < T.1
    · by_cases hp : p (byt T i) = true
      · rw [rn_t q hp]; exact h2 i _ q hp (ih (i + 1) (by omega))
      · rw [rn_f hp]; exact h1 i q hp
    · rw [rn_out (by omega)]; exact h0 i (by omega)
set_option maxHeartbeats 200000 in
theorem rn_ge (T : Tp) (p : Int → Bool) (i : Nat) : i ≤ rn T p i := rn_ind (Q := fun i j => i ≤ j) (fun i _ => Nat.le_refl i) (fun i _ _ => Nat.le_refl i) (fun i j _ _ h => by omega) _ i (Nat.le_refl _)
set_option maxHeartbeats 200000 in
theorem rn_le {T : Tp} (p : Int → Bool) {i : Nat} (h : i ≤ T.1) : rn T p i ≤ T.1 := rn_ind (T := T) (p := p) (Q := fun i j => i ≤ T.1 → j ≤ T.1) (fun i _ h => h) (fun i _ _ h => h) (fun i j a _ h _ => h (by omega)) _ i (Nat.le_refl _) h
set_option maxHeartbeats 200000 in
theorem rn_all (T : Tp) (p : Int → Bool) (i : Nat) : ∀ k, i ≤ k → k < rn T p i → p (byt T k) = true := rn_ind (T := T) (p := p) (Q := fun i j => ∀ k, i ≤ k → k < j → p (byt T k) = true) (fun i _ k a b => by omega) (fun i _ _ k a b => by omega) (fun i j _ hp h k a b => by
  by_cases e : k = i
  · rw [e]; exact hp
  · exact h k (by omega) b) _ i (Nat.le_refl _)
set_option maxHeartbeats 200000 in
theorem rn_stop {T : Tp} {p : Int → Bool} (hp : p (-1) = false) (i : Nat) : p (byt T (rn T p i)) = false := rn_ind (T := T) (p := p) (Q := fun _ j => p (byt T j) = false) (fun i h => by rw [bt_out h]; exact hp) (fun i _ h => by
  cases e : p (byt T i) with
  | true => exact (h e).elim
  | false => rfl) (fun i j _ _ h => h) _ i (Nat.le_refl _)
def fs (T : Tp) (q : Nat) : Nat := rn T spc q
def we (T : Tp) (i : Nat) : Nat := rn T gr i
def dgE (T : Tp) (i : Nat) : Nat := rn T dg i
/-! numbers -/
def vlu (T : Tp) (s : Nat) : Nat → Int
  | 0 => 0
  | k + 1 => 10 * vlu T s k + (byt T (s + k) - 48)
def sgst (T : Tp) (i : Nat) : Nat := if byt T i = 45 then i + 1 else i
def MX : Int := 1073741823
def gdn (T : Tp) (s : Nat) : Prop := 1 ≤ dgE T s - s ∧ dgE T s - s ≤ 10 ∧ vlu T s (dgE T s - s) ≤ 1073741823
noncomputable def kdi (T : Tp) (i : Nat) : Nat := ifP (T.1 ≤ i) 0 (ifP (gr (byt T i) = true) 1 (ifP (dg (byt T i) = true ∨ byt T i = 45) (ifP (gdn T (sgst T i)) 2 4) (ifP (sgn4 (byt T i) = true) 3 4)))
noncomputable def nxi (T : Tp) (i : Nat) : Nat := ifP (T.1 ≤ i) i (ifP (gr (byt T i) = true) (we T i) (ifP (dg (byt T i) = true ∨ byt T i = 45) (dgE T (sgst T i)) (i + 1)))
def nbi (T : Tp) (i : Nat) : Int := if byt T i = 45 then -vlu T (sgst T i) (dgE T (sgst T i) - sgst T i) else vlu T (sgst T i) (dgE T (sgst T i) - sgst T i)
noncomputable def kd (T : Tp) (q : Nat) : Nat := kdi T (fs T q)
noncomputable def nx (T : Tp) (q : Nat) : Nat := nxi T (fs T q)
def nmb (T : Tp) (q : Nat) : Int := nbi T (fs T q)
set_option maxHeartbeats 200000 in
theorem vl_b {T : Tp} {s : Nat} : ∀ k, (∀ j, j < k → dg (byt T (s + j)) = true) → 0 ≤ vlu T s k ∧ vlu T s k < 10 ^ k := by
  intro k
  induction k with
  | zero => intro _; exact ⟨Int.le_refl _, by show (0 : Int) < 1; decide⟩
  | succ k ih =>
    intro h
    have i1 := ih (fun j hj => h j (by omega))
    have i2 := (dg_i _).mp (h k (by omega))
    rw [vlu, show (10 : Int) ^ (k + 1) = 10 ^ k * 10 from rfl]
    omega
set_option maxHeartbeats 200000 in
theorem vl_mono {T : Tp} {s k : Nat} (h : ∀ j, j < k + 1 → dg (byt T (s + j)) = true) : vlu T s k ≤ vlu T s (k + 1) := by
  have i1 := vl_b (T := T) (s := s) k (fun j hj => h j (by omega))
  have i2 := (dg_i _).mp (h k (by omega))
  rw [vlu]; omega
set_option maxHeartbeats 200000 in
theorem de_dg {T : Tp} {s j : Nat} (h : j < dgE T s - s) : dg (byt T (s + j)) = true := rn_all T dg s (s + j) (by omega) (by unfold dgE at h; omega)
set_option maxHeartbeats 200000 in
theorem p10 {k : Nat} (h : k ≤ 10) : (10 : Int) ^ k ≤ 10000000000 := by
  rcases (show k = 0 ∨ k = 1 ∨ k = 2 ∨ k = 3 ∨ k = 4 ∨ k = 5 ∨ k = 6 ∨ k = 7 ∨ k = 8 ∨ k = 9 ∨ k = 10 by omega) with rfl | rfl | rfl | rfl | rfl | rfl | rfl | rfl | rfl | rfl | rfl <;> decide
/-! where the next token may begin -/
set_option maxHeartbeats 200000 in
theorem fs_ge (T : Tp) (q : Nat) : q ≤ fs T q := rn_ge T spc q
set_option maxHeartbeats 200000 in
theorem fs_le {T : Tp} {q : Nat} (h : q ≤ T.1) : fs T q ≤ T.1 := rn_le spc h
set_option maxHeartbeats 200000 in
theorem sg0_b (T : Tp) (i : Nat) : i ≤ sgst T i ∧ sgst T i ≤ i + 1 := by unfold sgst; split <;> omega
set_option maxHeartbeats 200000 in
theorem nxi_b {T : Tp} {i : Nat} (h : i ≤ T.1) : i ≤ nxi T i ∧ nxi T i ≤ T.1 ∧ (i < T.1 → i < nxi T i) := by
  unfold nxi
  by_cases q : T.1 ≤ i
  · rw [ifP_t q]; omega
  · rw [ifP_f q]
    by_cases g : gr (byt T i) = true
    · rw [ifP_t g]
      have a := rn_t (T := T) (p := gr) (by omega) g
      have b := rn_ge T gr (i + 1)
      have c := rn_le (T := T) gr (i := i) h
      unfold we
      omega
    · rw [ifP_f g]
      by_cases d : dg (byt T i) = true ∨ byt T i = 45
      · rw [ifP_t d]
        have c := rn_le (T := T) dg (i := sgst T i) (by have := sg0_b T i; omega)
        have b := rn_ge T dg (sgst T i)
        by_cases m : byt T i = 45
        · have : sgst T i = i + 1 := if_pos m
          unfold dgE; omega
        · have e : sgst T i = i := if_neg m
          have a := rn_t (T := T) (p := dg) (i := i) (by omega) (by rcases d with d | d; exact d; exact (m d).elim)
          have b2 := rn_ge T dg (i + 1)
          rw [e] at b c ⊢
          unfold dgE; omega
      · rw [ifP_f d]; omega
set_option maxHeartbeats 200000 in
theorem nx_b {T : Tp} {q : Nat} (h : q ≤ T.1) : q ≤ nx T q ∧ nx T q ≤ T.1 ∧ (fs T q < T.1 → fs T q < nx T q) ∧ fs T q ≤ nx T q := by
  have a := fs_ge T q
  have b := nxi_b (fs_le h)
  unfold nx
  omega
set_option maxHeartbeats 200000 in
theorem kd_0 {T : Tp} {q : Nat} : kd T q = 0 ↔ T.1 ≤ fs T q := by
  unfold kd kdi
  by_cases h : T.1 ≤ fs T q
  · rw [ifP_t h]; exact ⟨fun _ => h, fun _ => rfl⟩
  · rw [ifP_f h]
    refine ⟨fun y => ?_, fun y => (h y).elim⟩
    unfold ifP at y
    repeat' split at y
    all_goals omega
set_option maxHeartbeats 200000 in
theorem kd_lt {T : Tp} {q : Nat} (h : kd T q ≠ 0) : fs T q < T.1 := by
  by_cases l : fs T q < T.1
  · exact l
  · exact (h (kd_0.mpr (by omega))).elim
set_option maxHeartbeats 200000 in
theorem kd_le (T : Tp) (q : Nat) : kd T q ≤ 4 := by
  unfold kd kdi ifP
  repeat' split
  all_goals omega
set_option maxHeartbeats 200000 in
theorem nx_gt {T : Tp} {q : Nat} (h : q ≤ T.1) (k : kd T q ≠ 0) : q < nx T q ∧ nx T q ≤ T.1 := by
  have a := nx_b h
  have b := kd_lt k
  have c := fs_ge T q
  omega
set_option maxHeartbeats 200000 in
theorem kd_1 {T : Tp} {q : Nat} (h : kd T q = 1) : fs T q < T.1 ∧ gr (byt T (fs T q)) = true ∧ nx T q = we T (fs T q) := by
  have l := kd_lt (T := T) (q := q) (by omega)
  have g : gr (byt T (fs T q)) = true := by
    refine Classical.byContradiction (fun g => ?_)
    unfold kd kdi at h
    rw [ifP_f (show ¬ T.1 ≤ fs T q by omega), ifP_f g] at h
    unfold ifP at h
    repeat' split at h
    all_goals omega
  refine ⟨l, g, ?_⟩
  unfold nx nxi
  rw [ifP_f (show ¬ T.1 ≤ fs T q by omega), ifP_t g]
set_option maxHeartbeats 200000 in
theorem kd_2 {T : Tp} {q : Nat} (h : kd T q = 2) : gdn T (sgst T (fs T q)) := by
  refine Classical.byContradiction (fun g => ?_)
  unfold kd kdi at h
  unfold ifP at h
  repeat' split at h
  all_goals first | omega | exact (g (by assumption))
set_option maxHeartbeats 200000 in
theorem nb_b {T : Tp} {q : Nat} (h : kd T q = 2) : b30 (nmb T q) := by
  have g := kd_2 h
  have b := vl_b (T := T) (s := sgst T (fs T q)) (dgE T (sgst T (fs T q)) - sgst T (fs T q)) (fun j hj => de_dg hj)
  have g3 := g.2.2
  unfold nmb nbi b30
  split <;> omega

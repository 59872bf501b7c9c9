/-! the tape of the reference -/
def nxT (n : Nat) (σ : xσ) : Option (Unit × xσ) := st (wI σ 233 46 (sI σ 233 41)) (fun σ116 => bd (f_X14_byteAt n (sI σ116 233 41) σ116) (fun v119 σ120 => if 0 ≤ v119 then bd (f_X14_isGreat n v119 σ120) (fun v125 σ126 => if v125 = 0 then bd (f_X14_isDigit n v119 σ126) (fun v131 σ132 => if v131 = 0 then if v119 = 45 then bd (f_X14_byteAt n ((sI σ132 233 41) + 1) σ132) (fun v143 σ144 => bd (f_X14_isDigit n v143 σ144) (fun v148 σ149 => if v148 = 0 then if v119 = 40 then b_X14_next_184 n 3 σ149 else if v119 = 41 then b_X14_next_184 n 3 σ149 else if v119 = 44 then b_X14_next_184 n 3 σ149 else if v119 = 59 then b_X14_next_184 n 3 σ149 else b_X14_next_184 n 4 σ149 else if v119 = 45 then b_X14_next_148 n 1 σ149 else b_X14_next_148 n 0 σ149)) else if v119 = 40 then b_X14_next_184 n 3 σ132 else if v119 = 41 then b_X14_next_184 n 3 σ132 else if v119 = 44 then b_X14_next_184 n 3 σ132 else if v119 = 59 then b_X14_next_184 n 3 σ132 else b_X14_next_184 n 4 σ132 else if v119 = 45 then b_X14_next_148 n 1 σ132 else b_X14_next_148 n 0 σ132) else st (wI σ126 233 45 1) (fun σ159 => l_X14_next_80 n xFU σ159)) else st (wI σ120 233 45 0) (fun σ162 => some ((), σ162))))
set_option maxHeartbeats 200000 in
theorem nxt_u (n f : Nat) (σ : xσ) : l_X14_next_0 n (f + 1) σ = bd (f_X14_byteAt n (sI σ 233 41) σ) (fun v101 σ102 => if v101 = 32 then st (wI σ102 233 41 ((sI σ102 233 41) + 1)) (fun σ107 => (l_X14_next_0 n f) σ107) else bd (f_X14_byteAt n (sI σ102 233 41) σ102) (fun v110 σ111 => if v110 = 10 then st (wI σ111 233 41 ((sI σ111 233 41) + 1)) (fun σ165 => (l_X14_next_0 n f) σ165) else nxT n σ111)) := by rw [l_X14_next_0]; rfl
def TpM (σ : xσ) (T : Tp) : Prop := sI σ 233 40 = nI T.1 ∧ ∀ i, i < T.1 → sI σ 1863 i = iI (T.2 i)
def PU (b k : Nat) : Prop := b = 233 ∧ (k = 41 ∨ k = 45 ∨ k = 46 ∨ k = 47)
def P41 (b k : Nat) : Prop := b = 233 ∧ k = 41
set_option maxHeartbeats 200000 in
theorem P41U {b k : Nat} (h : P41 b k) : PU b k := ⟨h.1, Or.inl h.2⟩
set_option maxHeartbeats 200000 in
theorem TpM.f {σ σ' : xσ} {T : Tp} (h : TpM σ T) (f : Fk PU σ σ') : TpM σ' T := ⟨by rw [(f 233 40 (fun y => by have := y.2; omega)).1]; exact h.1, fun i hi => by rw [(f 1863 i (fun y => by have := y.1; omega)).1]; exact h.2 i hi⟩
set_option maxHeartbeats 200000 in
theorem m_byteAt {n : Nat} {σ : xσ} {T : Tp} (hT : TpM σ T) (ok : okTp T) {i : Nat} (hi : i < 2147483648) : f_X14_byteAt n (nI i) σ = some (iI (byt T i), σ) := by
  have h4 := ok.1
  rw [f_X14_byteAt, hT.1]
  by_cases q : T.1 ≤ i
  · rw [if_pos ((nI_e' (by omega) (by omega)).mpr q), bt_out q]; rfl
  · rw [if_neg (fun y => q ((nI_e' (by omega) (by omega)).mp y)), gd_in (by omega) (by omega), nI_k (by omega), bt_in (by omega), hT.2 i (by omega)]
set_option maxHeartbeats 200000 in
theorem m_isGreat {n : Nat} {σ : xσ} {z : Int} (hr : R32 z) : f_X14_isGreat n (iI z) σ = some (bI (gr z), σ) := by
  have gi := gr_i z
  rw [f_X14_isGreat]
  simp only [iIl65 hr, iIh90 hr]
  cases g : gr z with
  | true => have := gi.mp g; rw [if_neg (by omega), if_neg (by omega)]; rfl
  | false =>
    have : ¬ (65 ≤ z ∧ z ≤ 90) := fun y => by have := gi.mpr y; rw [g] at this; cases this
    by_cases a : z < 65
    · rw [if_pos a]; rfl
    · rw [if_neg a, if_pos (by omega)]; rfl
set_option maxHeartbeats 200000 in
theorem m_isDigit {n : Nat} {σ : xσ} {z : Int} (hr : R32 z) : f_X14_isDigit n (iI z) σ = some (bI (dg z), σ) := by
  have gi := dg_i z
  rw [f_X14_isDigit]
  simp only [iIl48 hr, iIh57 hr]
  cases g : dg z with
  | true => have := gi.mp g; rw [if_neg (by omega), if_neg (by omega)]; rfl
  | false =>
    have : ¬ (48 ≤ z ∧ z ≤ 57) := fun y => by have := gi.mpr y; rw [g] at this; cases this
    by_cases a : z < 48
    · rw [if_pos a]; rfl
    · rw [if_neg a, if_pos (by omega)]; rfl
set_option maxHeartbeats 200000 in
theorem bt_R {T : Tp} (ok : okTp T) (i : Nat) : R32 (byt T i) := by
  have := bt_r ok i
  exact ⟨by omega, by omega⟩
set_option maxHeartbeats 200000 in
theorem l_next80 {n : Nat} {T : Tp} (ok : okTp T) : ∀ f i σ, TpM σ T → sI σ 233 41 = nI i → T.1 - i < f → i ≤ T.1 → ∃ σ', l_X14_next_80 n f σ = some ((), σ') ∧ Fk P41 σ σ' ∧ sI σ' 233 41 = nI (we T i) := by
  have h4 := ok.1
  intro f
  induction f with
  | zero => intro i σ _ _ h; omega
  | succ f ih =>
    intro i σ hT h41 h hi
    rw [l_X14_next_80, h41, m_byteAt hT ok (by omega), bd, m_isGreat (bt_R ok i), bd]
    cases g : gr (byt T i) with
    | true =>
      have hi' : i < T.1 := by
        refine Classical.byContradiction (fun y => ?_)
        rw [bt_out (by omega)] at g; revert g; decide
      rw [if_neg (show ¬ bI true = 0 by decide), st, h41, nI_s]
      have fr : Fk P41 σ (wI σ 233 41 (nI (i + 1))) := Fk.wI ⟨rfl, rfl⟩
      obtain ⟨σ', t1, t2, t3⟩ := ih (i + 1) _ (hT.f (fr.mono (fun _ _ => P41U))) (by rw [sI_wI, if_pos ⟨rfl, rfl⟩]) (by omega) (by omega)
      exact ⟨σ', t1, fr.trans t2, by rw [t3, show we T i = we T (i + 1) from rn_t hi' g]⟩
    | false =>
      rw [if_pos (show bI false = 0 from rfl)]
      exact ⟨σ, rfl, Fk.refl, by rw [h41, show we T i = i from rn_f (by rw [g]; decide)]⟩
/-! numbers of the reference -/
def rv (T : Tp) (s : Nat) : Nat → Int
  | 0 => 0
  | k + 1 => if 1073741823 < rv T s k then rv T s k else 10 * rv T s k + (byt T (s + k) - 48)
set_option maxHeartbeats 200000 in
theorem rv_b {T : Tp} {s : Nat} : ∀ k, (∀ j, j < k → dg (byt T (s + j)) = true) → 0 ≤ rv T s k ∧ rv T s k < 10737418240 ∧ (vlu T s k ≤ 1073741823 → rv T s k = vlu T s k) ∧ (1073741823 < vlu T s k → 1073741823 < rv T s k) := by
  intro k
  induction k with
  | zero => intro _; unfold rv vlu; omega
  | succ k ih =>
    intro h
    have i1 := ih (fun j hj => h j (by omega))
    have i2 := (dg_i _).mp (h k (by omega))
    have i3 := vl_b (T := T) (s := s) k (fun j hj => h j (by omega))
    rw [rv, vlu]
    by_cases q : 1073741823 < rv T s k
    · rw [if_pos q]
      have : ¬ vlu T s k ≤ 1073741823 := fun y => by have := i1.2.2.1 y; omega
      omega
    · rw [if_neg q]
      have : vlu T s k ≤ 1073741823 := by
        refine Classical.byContradiction (fun y => q (i1.2.2.2 (by omega)))
      have := i1.2.2.1 this
      omega
def P45 (b k : Nat) : Prop := b = 233 ∧ (k = 41 ∨ k = 45 ∨ k = 47)
set_option maxHeartbeats 200000 in
theorem l_readNumber {n : Nat} {T : Tp} (ok : okTp T) (ng : Bool) {s : Nat} : ∀ f i σ, TpM σ T → sI σ 233 41 = nI i → T.1 - i < f → i ≤ T.1 → s ≤ i → (∀ j, j < i - s → dg (byt T (s + j)) = true) → ∃ σ', l_X14_readNumber_25 n f (bI ng) (nI s) (jJ (rv T s (i - s))) σ = some ((), σ') ∧ Fk P45 σ σ' ∧ sI σ' 233 41 = nI (dgE T i) ∧ sI σ' 233 45 = ifP (dgE T i - s ≤ 10 ∧ vlu T s (dgE T i - s) ≤ 1073741823) 2 4 ∧ sI σ' 233 47 = iI (if ng = true then -rv T s (dgE T i - s) else rv T s (dgE T i - s)) := by
  have h4 := ok.1
  intro f
  induction f with
  | zero => intro i σ _ _ h; omega
  | succ f ih =>
    intro i σ hT h41 h hi hs hd
    have rb := rv_b (T := T) (s := s) (i - s) hd
    have r1 : R64 (rv T s (i - s)) := ⟨by omega, by omega⟩
    have l1 : (lg_cmp (jJ (rv T s (i - s))) (1073741823 : Int64) ≤ 0) ↔ rv T s (i - s) ≤ 1073741823 := lc_le (b := 1073741823) r1 ⟨by decide, by decide⟩
    rw [l_X14_readNumber_25, h41, m_byteAt hT ok (by omega), bd, m_isDigit (bt_R ok i), bd, h41]
    simp only [l1]
    cases g : dg (byt T i) with
    | true =>
      have hi' : i < T.1 := by
        refine Classical.byContradiction (fun y => ?_)
        rw [bt_out (by omega)] at g; revert g; decide
      have d : dgE T i = dgE T (i + 1) := rn_t hi' g
      have hd' : ∀ j, j < i + 1 - s → dg (byt T (s + j)) = true := by
        intro j hj
        by_cases y : j < i - s
        · exact hd j y
        · rw [show s + j = i by omega]; exact g
      have fr : Fk P45 σ (wI σ 233 41 (nI (i + 1))) := Fk.wI ⟨rfl, Or.inl rfl⟩
      have fu : Fk PU σ (wI σ 233 41 (nI (i + 1))) := Fk.wI ⟨rfl, Or.inl rfl⟩
      obtain ⟨σ', t1, t2, t3⟩ := ih (i + 1) _ (hT.f fu) (by rw [sI_wI, if_pos ⟨rfl, rfl⟩]) (by omega) (by omega) (by omega) hd'
      rw [← d] at t3
      rw [show i + 1 - s = i - s + 1 by omega, rv, show s + (i - s) = i by omega] at t1
      rw [if_neg (show ¬ bI true = 0 by decide)]
      by_cases q : rv T s (i - s) ≤ 1073741823
      · rw [if_pos q, m_byteAt hT ok (by omega), bd, b_X14_readNumber_70, st, h41, nI_s]
        rw [if_neg (by omega)] at t1
        have r10 : (10 : Int64) = jJ 10 := rfl
        have r48 : (48 : Int64) = jJ 48 := rfl
        rw [r10, r48, iI_64 (bt_R ok i), jJ_mul, jJ_add, jJ_sub, show 10 * rv T s (i - s) + byt T i - 48 = 10 * rv T s (i - s) + (byt T i - 48) by omega]
        exact ⟨σ', t1, fr.trans t2, t3⟩
      · rw [if_neg q, b_X14_readNumber_70, st, h41, nI_s]
        rw [if_pos (by omega)] at t1
        exact ⟨σ', t1, fr.trans t2, t3⟩
    | false =>
      have e : dgE T i = i := rn_f (by rw [g]; decide)
      rw [if_pos (show bI false = 0 from rfl), e, nI_m hs]
      simp only [nIh10 (show i - s < 2147483648 by omega)]
      have fin : ∀ v : Int32, ∃ σ', b_X14_readNumber_109 n (bI ng) (jJ (rv T s (i - s))) v σ = some ((), σ') ∧ Fk P45 σ σ' ∧ sI σ' 233 41 = nI i ∧ sI σ' 233 45 = v ∧ sI σ' 233 47 = iI (if ng = true then -rv T s (i - s) else rv T s (i - s)) := by
        intro v
        have fr : ∀ {s : xσ} {k : Nat} {v : Int32}, (k = 41 ∨ k = 45 ∨ k = 47) → Fk P45 s (wI s 233 k v) := fun hk => Fk.wI ⟨rfl, hk⟩
        rw [b_X14_readNumber_109, st]
        cases ng
        · rw [if_pos (show bI false = 0 from rfl), b_X14_readNumber_125, st, jJ_32]
          refine ⟨_, rfl, (fr (by omega)).trans (fr (by omega)), ?_, ?_, ?_⟩
          · rw [sI_wI, if_neg (by omega), sI_wI, if_neg (by omega), h41]
          · rw [sI_wI, if_neg (by omega), sI_wI, if_pos ⟨rfl, rfl⟩]
          · rw [sI_wI, if_pos ⟨rfl, rfl⟩, if_neg (by decide)]
        · rw [if_neg (show ¬ bI true = 0 by decide), b_X14_readNumber_125, st, jJ_neg, jJ_32]
          refine ⟨_, rfl, (fr (by omega)).trans (fr (by omega)), ?_, ?_, ?_⟩
          · rw [sI_wI, if_neg (by omega), sI_wI, if_neg (by omega), h41]
          · rw [sI_wI, if_neg (by omega), sI_wI, if_pos ⟨rfl, rfl⟩]
          · rw [sI_wI, if_pos ⟨rfl, rfl⟩, if_pos rfl]
      by_cases q1 : 10 < i - s
      · rw [if_pos q1, ifP_f (by omega)]; exact fin 4
      · rw [if_neg q1]
        by_cases q2 : rv T s (i - s) ≤ 1073741823
        · rw [if_pos q2, ifP_t ⟨by omega, Classical.byContradiction (fun y => by have := rb.2.2.2 (by omega); omega)⟩]; exact fin 2
        · rw [if_neg q2, ifP_f (fun y => by have := rb.2.2.1 y.2; omega)]; exact fin 4
set_option maxHeartbeats 200000 in
theorem m_readNumber {n : Nat} {σ : xσ} {T : Tp} (hT : TpM σ T) (ok : okTp T) {i : Nat} (hi : i < T.1) (h41 : sI σ 233 41 = nI i) (ng : Bool) (hng : ng = decide (byt T i = 45)) (hd : dg (byt T (sgst T i)) = true) : ∃ σ', f_X14_readNumber n (bI ng) σ = some ((), σ') ∧ Fk P45 σ σ' ∧ sI σ' 233 41 = nI (dgE T (sgst T i)) ∧ sI σ' 233 45 = ifP (gdn T (sgst T i)) 2 4 ∧ (gdn T (sgst T i) → sI σ' 233 47 = iI (nbi T i)) := by
  have h4 := ok.1
  have sb := sg0_b T i
  have hs : sgst T i < T.1 := by
    refine Classical.byContradiction (fun y => ?_)
    rw [bt_out (by omega)] at hd; revert hd; decide
  have fr : Fk P45 σ (wI σ 233 41 (nI (sgst T i))) := Fk.wI ⟨rfl, Or.inl rfl⟩
  have fu : Fk PU σ (wI σ 233 41 (nI (sgst T i))) := Fk.wI ⟨rfl, Or.inl rfl⟩
  obtain ⟨σ', t1, t2, t3, t4, t5⟩ := l_readNumber (n := n) ok ng (s := sgst T i) xFU (sgst T i) _ (hT.f fu) (by rw [sI_wI, if_pos ⟨rfl, rfl⟩]) (xFU_lt (by omega)) (by omega) (Nat.le_refl _) (fun j hj => by omega)
  rw [show sgst T i - sgst T i = 0 by omega, show jJ (rv T (sgst T i) 0) = (0 : Int64) from rfl] at t1
  have k1 : 1 ≤ dgE T (sgst T i) - sgst T i := by
    have a : dgE T (sgst T i) = dgE T (sgst T i + 1) := rn_t hs hd
    have b := rn_ge T dg (sgst T i + 1)
    unfold dgE at a ⊢; omega
  have e : f_X14_readNumber n (bI ng) σ = some ((), σ') := by
    rw [f_X14_readNumber, h41]
    by_cases m : byt T i = 45
    · have : ng = true := by rw [hng]; simp [m]
      subst this
      have s1 : sgst T i = i + 1 := if_pos m
      rw [if_neg (show ¬ bI true = 0 by decide), b_X14_readNumber_14, st, nI_s, st, sI_wI, if_pos ⟨rfl, rfl⟩, ← s1]
      exact t1
    · have : ng = false := by rw [hng]; simp [m]
      subst this
      have s1 : sgst T i = i := if_neg m
      rw [if_pos (show bI false = 0 from rfl), b_X14_readNumber_14, st, show nI i + 0 = nI i from Int32.add_zero _, st, sI_wI, if_pos ⟨rfl, rfl⟩]
      rw [s1] at t1
      exact t1
  have rb := rv_b (T := T) (s := sgst T i) (dgE T (sgst T i) - sgst T i) (fun j hj => de_dg hj)
  refine ⟨σ', e, fr.trans t2, t3, ?_, fun G => ?_⟩
  · rw [t4]
    exact ifP_c ⟨fun y => ⟨k1, y.1, y.2⟩, fun y => ⟨y.2.1, y.2.2⟩⟩
  · rw [t5, rb.2.2.1 G.2.2, hng]
    unfold nbi
    by_cases m : byt T i = 45
    · rw [if_pos m, if_pos (by simp [m])]
    · rw [if_neg m, if_neg (by simp [m])]
def TM (σ : xσ) (T : Tp) (q : Nat) : Prop := sI σ 233 45 = nI (kd T q) ∧ sI σ 233 46 = nI (fs T q) ∧ sI σ 233 41 = nI (nx T q) ∧ (kd T q = 2 → sI σ 233 47 = iI (nmb T q))
def TMi (σ : xσ) (T : Tp) (i : Nat) : Prop := sI σ 233 45 = nI (kdi T i) ∧ sI σ 233 46 = nI i ∧ sI σ 233 41 = nI (nxi T i) ∧ (kdi T i = 2 → sI σ 233 47 = iI (nbi T i))
set_option maxHeartbeats 200000 in
theorem m_nxt184 {n : Nat} {σ : xσ} {i : Nat} (v : Nat) (h46 : sI σ 233 46 = nI i) (h41 : sI σ 233 41 = nI i) : ∃ σ', b_X14_next_184 n (nI v) σ = some ((), σ') ∧ Fk PU σ σ' ∧ sI σ' 233 45 = nI v ∧ sI σ' 233 46 = nI i ∧ sI σ' 233 41 = nI (i + 1) := by
  have fr : ∀ {s : xσ} {k : Nat} {v : Int32}, (k = 41 ∨ k = 45 ∨ k = 46 ∨ k = 47) → Fk PU s (wI s 233 k v) := fun hk => Fk.wI ⟨rfl, hk⟩
  rw [b_X14_next_184, st, st]
  have e : sI (wI σ 233 45 (nI v)) 233 41 = nI i := by rw [sI_wI, if_neg (by omega), h41]
  rw [e, nI_s]
  refine ⟨_, rfl, (fr (by omega)).trans (fr (by omega)), ?_, ?_, ?_⟩
  · rw [sI_wI, if_neg (by omega), sI_wI, if_pos ⟨rfl, rfl⟩]
  · rw [sI_wI, if_neg (by omega), sI_wI, if_neg (by omega), h46]
  · rw [sI_wI, if_pos ⟨rfl, rfl⟩]
set_option maxHeartbeats 200000 in
theorem m_nxT {n : Nat} {σ : xσ} {T : Tp} (hT : TpM σ T) (ok : okTp T) {i : Nat} (hi : i ≤ T.1) (h41 : sI σ 233 41 = nI i) : ∃ σ', nxT n σ = some ((), σ') ∧ Fk PU σ σ' ∧ TMi σ' T i := by
  have h4 := ok.1
  have fr : ∀ {s : xσ} {k : Nat} {v : Int32}, (k = 41 ∨ k = 45 ∨ k = 46 ∨ k = 47) → Fk PU s (wI s 233 k v) := fun hk => Fk.wI ⟨rfl, hk⟩
  have f0 : Fk PU σ (wI σ 233 46 (nI i)) := fr (by omega)
  have g41 : sI (wI σ 233 46 (nI i)) 233 41 = nI i := by rw [sI_wI, if_neg (by omega), h41]
  have g46 : sI (wI σ 233 46 (nI i)) 233 46 = nI i := by rw [sI_wI, if_pos ⟨rfl, rfl⟩]
  have hT' := hT.f f0
  unfold nxT
  rw [st, h41, g41, m_byteAt hT' ok (by omega), bd]
  have br := bt_R ok i
  have bb := bt_r ok i
  simp only [iIg0 br]
  unfold TMi kdi nxi
  by_cases q : T.1 ≤ i
  · have e := bt_out q
    rw [if_neg (by omega), st, ifP_t q, ifP_t q]
    refine ⟨_, rfl, f0.trans (fr (by omega)), ?_, ?_, ?_, fun y => by omega⟩
    · rw [sI_wI, if_pos ⟨rfl, rfl⟩]; rfl
    · rw [sI_wI, if_neg (by omega), g46]
    · rw [sI_wI, if_neg (by omega), g41]
  · have hi' : i < T.1 := by omega
    have b0 : 0 ≤ byt T i := by rw [bt_in hi']; exact (ok.2 i hi').1
    rw [if_pos b0, m_isGreat br, bd, ifP_f q, ifP_f q]
    cases g : gr (byt T i) with
    | true =>
      have fw : Fk PU (wI σ 233 46 (nI i)) (wI (wI σ 233 46 (nI i)) 233 45 1) := fr (by omega)
      obtain ⟨σ', t1, t2, t3⟩ := l_next80 (n := n) ok xFU i (wI (wI σ 233 46 (nI i)) 233 45 1) (hT'.f fw) (by rw [sI_wI, if_neg (by omega), g41]) (xFU_lt (by omega)) hi
      rw [if_neg (show ¬ bI true = 0 by decide), st, t1, ifP_t rfl, ifP_t rfl]
      refine ⟨σ', rfl, (f0.trans fw).trans (t2.mono (fun _ _ => P41U)), ?_, ?_, t3, fun y => by omega⟩
      · rw [(t2 233 45 (fun y => by have := y.2; omega)).1, sI_wI, if_pos ⟨rfl, rfl⟩]; rfl
      · rw [(t2 233 46 (fun y => by have := y.2; omega)).1, sI_wI, if_neg (by omega), g46]
    | false =>
      rw [if_pos (show bI false = 0 from rfl), m_isDigit br, bd, ifP_f (show ¬ false = true by decide), ifP_f (show ¬ false = true by decide)]
      -- a number
      have num : ∀ ng : Bool, ng = decide (byt T i = 45) → dg (byt T (sgst T i)) = true → (dg (byt T i) = true ∨ byt T i = 45) → ∃ σ', b_X14_next_148 n (bI ng) (wI σ 233 46 (nI i)) = some ((), σ') ∧ Fk PU σ σ' ∧ sI σ' 233 45 = nI (ifP (dg (byt T i) = true ∨ byt T i = 45) (ifP (gdn T (sgst T i)) 2 4) (ifP (sgn4 (byt T i) = true) 3 4)) ∧ sI σ' 233 46 = nI i ∧ sI σ' 233 41 = nI (ifP (dg (byt T i) = true ∨ byt T i = 45) (dgE T (sgst T i)) (i + 1)) ∧ ((ifP (dg (byt T i) = true ∨ byt T i = 45) (ifP (gdn T (sgst T i)) 2 4) (ifP (sgn4 (byt T i) = true) 3 4)) = 2 → sI σ' 233 47 = iI (nbi T i)) := by
        intro ng hng hd hN
        obtain ⟨σ', t1, t2, t3, t4, t5⟩ := m_readNumber (n := n) hT' ok hi' g41 ng hng hd
        rw [b_X14_next_148, t1, bd, ifP_t hN, ifP_t hN]
        refine ⟨σ', rfl, f0.trans (t2.mono (fun b k y => ⟨y.1, by have := y.2; omega⟩)), ?_, ?_, t3, fun y => t5 ?_⟩
        · rw [t4]
          by_cases G : gdn T (sgst T i)
          · rw [ifP_t G, ifP_t G]; rfl
          · rw [ifP_f G, ifP_f G]; rfl
        · rw [(t2 233 46 (fun y => by have := y.2; omega)).1, g46]
        · refine Classical.byContradiction (fun G => ?_)
          rw [ifP_f G] at y; omega
      -- a sign or nothing
      have oth : ∀ v : Nat, (ifP (dg (byt T i) = true ∨ byt T i = 45) (ifP (gdn T (sgst T i)) 2 4) (ifP (sgn4 (byt T i) = true) 3 4)) = v → v ≠ 2 → ifP (dg (byt T i) = true ∨ byt T i = 45) (dgE T (sgst T i)) (i + 1) = i + 1 → ∃ σ', b_X14_next_184 n (nI v) (wI σ 233 46 (nI i)) = some ((), σ') ∧ Fk PU σ σ' ∧ sI σ' 233 45 = nI (ifP (dg (byt T i) = true ∨ byt T i = 45) (ifP (gdn T (sgst T i)) 2 4) (ifP (sgn4 (byt T i) = true) 3 4)) ∧ sI σ' 233 46 = nI i ∧ sI σ' 233 41 = nI (ifP (dg (byt T i) = true ∨ byt T i = 45) (dgE T (sgst T i)) (i + 1)) ∧ ((ifP (dg (byt T i) = true ∨ byt T i = 45) (ifP (gdn T (sgst T i)) 2 4) (ifP (sgn4 (byt T i) = true) 3 4)) = 2 → sI σ' 233 47 = iI (nbi T i)) := by
        intro v hv h2 hn
        obtain ⟨σ', t1, t2, t3, t4, t5⟩ := m_nxt184 (n := n) v g46 g41
        rw [t1, hv, hn]
        exact ⟨σ', rfl, f0.trans t2, t3, t4, t5, fun y => (h2 y).elim⟩
      simp only [iIq45 br, iIq40 br, iIq41 br, iIq44 br, iIq59 br]
      cases d : dg (byt T i) with
      | true =>
        have d' := (dg_i _).mp d
        have hd : dg (byt T (sgst T i)) = true := by rw [show sgst T i = i from if_neg (by omega)]; exact d
        rw [if_neg (show ¬ bI true = 0 by decide), if_neg (show ¬ byt T i = 45 by omega)]
        have := num false (by simp; omega) hd (Or.inl d)
        rw [d] at this
        exact this
      | false =>
        rw [if_pos (show bI false = 0 from rfl)]
        rw [d] at num oth
        by_cases m : byt T i = 45
        · rw [if_pos m, g41, nI_s, m_byteAt hT' ok (by omega), bd, m_isDigit (bt_R ok _), bd]
          have s1 : sgst T i = i + 1 := if_pos m
          cases d2 : dg (byt T (i + 1)) with
          | true =>
            rw [if_neg (show ¬ bI true = 0 by decide), if_pos m]
            exact num true (by simp [m]) (by rw [s1]; exact d2) (Or.inr m)
          | false =>
            rw [if_pos (show bI false = 0 from rfl), if_neg (by omega), if_neg (by omega), if_neg (by omega), if_neg (by omega)]
            have e1 : dgE T (i + 1) = i + 1 := rn_f (by rw [d2]; decide)
            refine oth 4 ?_ (by omega) ?_
            · rw [ifP_t (Or.inr m), ifP_f]
              intro G
              have := G.1
              rw [s1, e1] at this
              omega
            · rw [ifP_t (Or.inr m), s1, e1]
        · have nN : ¬ (false = true ∨ byt T i = 45) := fun y => by rcases y with y | y; cases y; exact m y
          have sN := sgn4_i (byt T i)
          have yes : sgn4 (byt T i) = true → ∃ σ', b_X14_next_184 n 3 (wI σ 233 46 (nI i)) = some ((), σ') ∧ _ := fun s => oth 3 (by rw [ifP_f nN, ifP_t s]) (by omega) (by rw [ifP_f nN])
          rw [if_neg m]
          by_cases b1 : byt T i = 40
          · rw [if_pos b1]; exact yes (sN.mpr (by omega))
          rw [if_neg b1]
          by_cases b2 : byt T i = 41
          · rw [if_pos b2]; exact yes (sN.mpr (by omega))
          rw [if_neg b2]
          by_cases b3 : byt T i = 44
          · rw [if_pos b3]; exact yes (sN.mpr (by omega))
          rw [if_neg b3]
          by_cases b4 : byt T i = 59
          · rw [if_pos b4]; exact yes (sN.mpr (by omega))
          rw [if_neg b4]
          exact oth 4 (by rw [ifP_f nN, ifP_f (fun s => by have := sN.mp s; omega)]) (by omega) (by rw [ifP_f nN])
set_option maxHeartbeats 200000 in
theorem l_next {n : Nat} {T : Tp} (ok : okTp T) : ∀ f i σ, TpM σ T → sI σ 233 41 = nI i → T.1 - i < f → i ≤ T.1 → ∃ σ', l_X14_next_0 n f σ = some ((), σ') ∧ Fk PU σ σ' ∧ TMi σ' T (fs T i) := by
  have h4 := ok.1
  intro f
  induction f with
  | zero => intro i σ _ _ h; omega
  | succ f ih =>
    intro i σ hT h41 h hi
    have br := bt_R ok i
    have si := spc_i (byt T i)
    rw [nxt_u, h41, m_byteAt hT ok (by omega), bd, h41, m_byteAt hT ok (by omega), bd, h41, nI_s]
    simp only [iIq32 br, iIq10 br, st]
    cases g : spc (byt T i) with
    | true =>
      have g' := si.mp g
      have hi' : i < T.1 := by
        refine Classical.byContradiction (fun y => ?_)
        rw [bt_out (by omega)] at g; revert g; decide
      have fr : Fk PU σ (wI σ 233 41 (nI (i + 1))) := Fk.wI ⟨rfl, Or.inl rfl⟩
      obtain ⟨σ', t1, t2, t3⟩ := ih (i + 1) _ (hT.f fr) (by rw [sI_wI, if_pos ⟨rfl, rfl⟩]) (by omega) (by omega)
      rw [show fs T i = fs T (i + 1) from rn_t hi' g, t1]
      by_cases a : byt T i = 32
      · rw [if_pos a]; exact ⟨σ', rfl, fr.trans t2, t3⟩
      · rw [if_neg a, if_pos (by omega)]; exact ⟨σ', rfl, fr.trans t2, t3⟩
    | false =>
      have g' : ¬ (byt T i = 32 ∨ byt T i = 10) := fun y => by have := si.mpr y; rw [g] at this; cases this
      rw [if_neg (by omega), if_neg (by omega), show fs T i = i from rn_f (by rw [g]; decide)]
      exact m_nxT hT ok hi h41
set_option maxHeartbeats 200000 in
theorem m_next {n : Nat} {σ : xσ} {T : Tp} (hT : TpM σ T) (ok : okTp T) {q : Nat} (hq : q ≤ T.1) (h : sI σ 233 41 = nI q) : ∃ σ', f_X14_next n σ = some ((), σ') ∧ Fk PU σ σ' ∧ TM σ' T q := by
  have := ok.1
  rw [f_X14_next]
  exact l_next ok xFU q σ hT h (xFU_lt (by omega)) hq

/-! the tape of the system -/
def advT (n : Nat) (x1 : Int32) (σ : xσ) : Option (Unit × xσ) := st (wI σ 1 3 x1) (fun σ102 => st (wI σ102 1 4 x1) (fun σ105 => if x1 < (sI σ105 1 1) then gd (inb x1 4000) (if (sI σ105 2 x1.toNatClampNeg) < 65 then gd (inb x1 4000) (if (sI σ105 2 x1.toNatClampNeg) < 48 then gd (inb x1 4000) (if (sI σ105 2 x1.toNatClampNeg) = 45 then bd (f_X9_takeNumber n σ105) (fun v123 σ124 => some ((), σ124)) else gd (inb x1 4000) (if (sI σ105 2 x1.toNatClampNeg) = 40 then b_X9_advance_185 n x1 1 σ105 else gd (inb x1 4000) (if (sI σ105 2 x1.toNatClampNeg) = 41 then b_X9_advance_185 n x1 1 σ105 else gd (inb x1 4000) (if (sI σ105 2 x1.toNatClampNeg) = 44 then b_X9_advance_185 n x1 1 σ105 else gd (inb x1 4000) (if (sI σ105 2 x1.toNatClampNeg) = 59 then b_X9_advance_185 n x1 1 σ105 else b_X9_advance_185 n x1 0 σ105))))) else gd (inb x1 4000) (if (sI σ105 2 x1.toNatClampNeg) ≤ 57 then bd (f_X9_takeNumber n σ105) (fun v130 σ131 => some ((), σ131)) else gd (inb x1 4000) (if (sI σ105 2 x1.toNatClampNeg) = 45 then bd (f_X9_takeNumber n σ105) (fun v145 σ146 => some ((), σ146)) else gd (inb x1 4000) (if (sI σ105 2 x1.toNatClampNeg) = 40 then b_X9_advance_185 n x1 1 σ105 else gd (inb x1 4000) (if (sI σ105 2 x1.toNatClampNeg) = 41 then b_X9_advance_185 n x1 1 σ105 else gd (inb x1 4000) (if (sI σ105 2 x1.toNatClampNeg) = 44 then b_X9_advance_185 n x1 1 σ105 else gd (inb x1 4000) (if (sI σ105 2 x1.toNatClampNeg) = 59 then b_X9_advance_185 n x1 1 σ105 else b_X9_advance_185 n x1 0 σ105))))))) else gd (inb x1 4000) (if 90 < (sI σ105 2 x1.toNatClampNeg) then gd (inb x1 4000) (if (sI σ105 2 x1.toNatClampNeg) < 48 then gd (inb x1 4000) (if (sI σ105 2 x1.toNatClampNeg) = 45 then bd (f_X9_takeNumber n σ105) (fun v164 σ165 => some ((), σ165)) else gd (inb x1 4000) (if (sI σ105 2 x1.toNatClampNeg) = 40 then b_X9_advance_185 n x1 1 σ105 else gd (inb x1 4000) (if (sI σ105 2 x1.toNatClampNeg) = 41 then b_X9_advance_185 n x1 1 σ105 else gd (inb x1 4000) (if (sI σ105 2 x1.toNatClampNeg) = 44 then b_X9_advance_185 n x1 1 σ105 else gd (inb x1 4000) (if (sI σ105 2 x1.toNatClampNeg) = 59 then b_X9_advance_185 n x1 1 σ105 else b_X9_advance_185 n x1 0 σ105))))) else gd (inb x1 4000) (if (sI σ105 2 x1.toNatClampNeg) ≤ 57 then bd (f_X9_takeNumber n σ105) (fun v171 σ172 => some ((), σ172)) else gd (inb x1 4000) (if (sI σ105 2 x1.toNatClampNeg) = 45 then bd (f_X9_takeNumber n σ105) (fun v186 σ187 => some ((), σ187)) else gd (inb x1 4000) (if (sI σ105 2 x1.toNatClampNeg) = 40 then b_X9_advance_185 n x1 1 σ105 else gd (inb x1 4000) (if (sI σ105 2 x1.toNatClampNeg) = 41 then b_X9_advance_185 n x1 1 σ105 else gd (inb x1 4000) (if (sI σ105 2 x1.toNatClampNeg) = 44 then b_X9_advance_185 n x1 1 σ105 else gd (inb x1 4000) (if (sI σ105 2 x1.toNatClampNeg) = 59 then b_X9_advance_185 n x1 1 σ105 else b_X9_advance_185 n x1 0 σ105))))))) else bd (f_X9_takeWord n σ105) (fun v191 σ192 => some ((), σ192)))) else st (wI σ105 1 2 0) (fun σ196 => some ((), σ196))))
set_option maxHeartbeats 200000 in
theorem adv_u (n f : Nat) (x1 : Int32) (σ : xσ) : l_X9_advance_5 n (f + 1) x1 σ = if (sI σ 1 1) ≤ x1 then advT n x1 σ else gd (inb x1 4000) (if (sI σ 2 x1.toNatClampNeg) = 32 then (l_X9_advance_5 n f) (x1 + 1) σ else gd (inb x1 4000) (if (sI σ 2 x1.toNatClampNeg) = 10 then (l_X9_advance_5 n f) (x1 + 1) σ else advT n x1 σ)) := by rw [l_X9_advance_5]; rfl
def sB (z : Int) : Int := if z < 128 then z else z - 256
set_option maxHeartbeats 200000 in
theorem sB_f {z : Int} (h : 0 ≤ z ∧ z ≤ 255) : (z < 128 → sB z = z) ∧ (128 ≤ z → sB z < 0) ∧ -128 ≤ sB z ∧ sB z ≤ 127 := by
  unfold sB; split <;> omega
set_option maxHeartbeats 200000 in
theorem sB_r {z : Int} (h : 0 ≤ z ∧ z ≤ 255) : R32 (sB z) := by
  have := sB_f h
  exact ⟨by omega, by omega⟩
def TpS (σ : xσ) (T : Tp) : Prop := sI σ 1 1 = nI T.1 ∧ ∀ i, i < T.1 → sI σ 2 i = iI (sB (T.2 i))
def PT (b k : Nat) : Prop := b = 1 ∧ 2 ≤ k ∧ k ≤ 5
set_option maxHeartbeats 200000 in
theorem TpS.f {σ σ' : xσ} {T : Tp} (h : TpS σ T) (f : Fk PT σ σ') : TpS σ' T := ⟨by rw [(f 1 1 (fun y => by have := y.2; omega)).1]; exact h.1, fun i hi => by rw [(f 2 i (fun y => by have := y.1; omega)).1]; exact h.2 i hi⟩
set_option maxHeartbeats 200000 in
theorem l_takeWord {n : Nat} {σ : xσ} {T : Tp} (hT : TpS σ T) (ok : okTp T) : ∀ f i, T.1 - i < f → i ≤ T.1 → l_X9_takeWord_5 n f (nI i) σ = some ((), wI (wI σ 1 2 1) 1 4 (nI (we T i))) := by
  have h4 := ok.1
  intro f
  induction f with
  | zero => intro i h; omega
  | succ f ih =>
    intro i h hi
    rw [l_X9_takeWord_5, hT.1]
    by_cases q : T.1 ≤ i
    · rw [if_pos ((nI_e' (by omega) (by omega)).mpr q), st, st]
      unfold we; rw [rn_out q]
    · have hz := ok.2 i (by omega)
      have hb : sI σ 2 (nI i).toNatClampNeg = iI (sB (T.2 i)) := by rw [nI_k (by omega)]; exact hT.2 i (by omega)
      have hr := sB_r hz
      have hs := sB_f hz
      have e : byt T i = T.2 i := bt_in (by omega)
      have gi := gr_i (T.2 i)
      have i1 : ∀ {α : Type} (y : Option α), gd (inb (nI i) 4000) y = y := fun y => gd_in (by omega) (by omega)
      rw [if_neg (fun y => q ((nI_e' (by omega) (by omega)).mp y)), i1, i1, hb]
      simp only [iIl65 hr, iIh90 hr]
      by_cases g : gr (T.2 i) = true
      · have := gi.mp g
        rw [if_neg (by omega), if_neg (by omega), nI_s, ih (i + 1) (by omega) (by omega)]
        unfold we
        rw [rn_t (i := i) (by omega) (by rw [e]; exact g)]
      · have w : we T i = i := rn_f (by rw [e]; exact g)
        rw [w]
        by_cases g1 : sB (T.2 i) < 65
        · rw [if_pos g1, st, st]
        · rw [if_neg g1, if_pos (Classical.byContradiction (fun y => g (gi.mpr (by omega)))), st, st]
set_option maxHeartbeats 200000 in
theorem e_takeWord {n : Nat} {σ : xσ} {T : Tp} (hT : TpS σ T) (ok : okTp T) {i : Nat} (hi : i ≤ T.1) (h3 : sI σ 1 3 = nI i) : f_X9_takeWord n σ = some ((), wI (wI σ 1 2 1) 1 4 (nI (we T i))) := by
  have := ok.1
  rw [f_X9_takeWord, st, h3]
  exact l_takeWord hT ok _ _ (xFU_lt (by omega)) hi
/-! numbers of the system -/
noncomputable def goodN (k : Nat) (v : Int) : Prop := 1 ≤ k ∧ k ≤ 10 ∧ v ≤ 1073741823
set_option maxHeartbeats 200000 in
theorem e_endN {n : Nat} {σ : xσ} {s e : Nat} (hse : s ≤ e) (he : e ≤ 4000) {v : Int} (hv : 0 ≤ v ∧ v < 10000000000) (ng : Bool) : st (nI e - nI s) (fun x102 => if x102 < 1 then b_X9_takeNumber_141 n (bI ng) (jJ v) (nI e) 0 σ else if 10 < x102 then b_X9_takeNumber_141 n (bI ng) (jJ v) (nI e) 0 σ else if 0 < (lg_cmp (jJ v) ((1073741823 : Int64))) then b_X9_takeNumber_141 n (bI ng) (jJ v) (nI e) 0 σ else b_X9_takeNumber_141 n (bI ng) (jJ v) (nI e) 1 σ) = some ((), wI (wI (wI σ 1 2 (ifP (goodN (e - s) v) 2 4)) 1 5 (ifP (goodN (e - s) v) (iI (if ng = true then -v else v)) 0)) 1 4 (nI e)) := by
  have r1 : R64 v := ⟨by omega, by omega⟩
  have l1 : (0 < lg_cmp (jJ v) (1073741823 : Int64)) ↔ 1073741823 < v := lc_gt (b := 1073741823) r1 ⟨by decide, by decide⟩
  have z : b_X9_takeNumber_141 n (bI ng) (jJ v) (nI e) 0 σ = some ((), wI (wI (wI σ 1 2 4) 1 5 0) 1 4 (nI e)) := by
    rw [b_X9_takeNumber_141, if_pos rfl, b_X9_takeNumber_154, st, if_pos rfl, b_X9_takeNumber_178, st, st]
  have o : b_X9_takeNumber_141 n (bI ng) (jJ v) (nI e) 1 σ = some ((), wI (wI (wI σ 1 2 2) 1 5 (iI (if ng = true then -v else v))) 1 4 (nI e)) := by
    rw [b_X9_takeNumber_141, if_neg (by decide), b_X9_takeNumber_154, st, if_neg (by decide)]
    cases ng
    · rw [if_pos (show bI false = 0 from rfl), b_X9_takeNumber_173, b_X9_takeNumber_178, st, st, jJ_32, if_neg (by decide)]
    · rw [if_neg (show ¬ bI true = 0 by decide), b_X9_takeNumber_173, b_X9_takeNumber_178, st, st, jJ_neg, jJ_32, if_pos rfl]
  rw [z, o, st, nI_m hse]
  simp only [l1, nIl1 (show e - s < 2147483648 by omega), nIh10 (show e - s < 2147483648 by omega)]
  unfold goodN
  by_cases q1 : e - s < 1
  · rw [if_pos q1, ifP_f (by omega), ifP_f (by omega)]
  · rw [if_neg q1]
    by_cases q2 : 10 < e - s
    · rw [if_pos q2, ifP_f (by omega), ifP_f (by omega)]
    · rw [if_neg q2]
      by_cases q3 : 1073741823 < v
      · rw [if_pos q3, ifP_f (by omega), ifP_f (by omega)]
      · rw [if_neg q3, ifP_t (by omega), ifP_t (by omega)]
set_option maxHeartbeats 200000 in
theorem l_takeNumber {n : Nat} {σ : xσ} {T : Tp} (hT : TpS σ T) (ok : okTp T) (ng : Bool) {s : Nat} : ∀ f i, T.1 - i < f → i ≤ T.1 → s ≤ i → (∀ j, j < i - s → dg (byt T (s + j)) = true) → l_X9_takeNumber_43 n f (bI ng) (nI s) (jJ (vlu T s (min (i - s) 10))) (nI i) σ = some ((), wI (wI (wI σ 1 2 (ifP (goodN (dgE T i - s) (vlu T s (min (dgE T i - s) 10))) 2 4)) 1 5 (ifP (goodN (dgE T i - s) (vlu T s (min (dgE T i - s) 10))) (iI (if ng = true then -vlu T s (min (dgE T i - s) 10) else vlu T s (min (dgE T i - s) 10))) 0)) 1 4 (nI (dgE T i))) := by
  have h4 := ok.1
  intro f
  induction f with
  | zero => intro i h; omega
  | succ f ih =>
    intro i h hi hs hd
    have vb := vl_b (T := T) (s := s) (min (i - s) 10) (fun j hj => hd j (by omega))
    have pb := p10 (show min (i - s) 10 ≤ 10 by omega)
    have en := e_endN (n := n) (σ := σ) hs (show i ≤ 4000 by omega) (v := vlu T s (min (i - s) 10)) ⟨vb.1, by omega⟩ ng
    rw [l_X9_takeNumber_43, hT.1]
    by_cases q : T.1 ≤ i
    · have e : dgE T i = i := rn_out q
      rw [if_pos ((nI_e' (by omega) (by omega)).mpr q), e]
      exact en
    · have hz := ok.2 i (by omega)
      have hb : sI σ 2 (nI i).toNatClampNeg = iI (sB (T.2 i)) := by rw [nI_k (by omega)]; exact hT.2 i (by omega)
      have hr := sB_r hz
      have hf := sB_f hz
      have e : byt T i = T.2 i := bt_in (by omega)
      have gi := dg_i (T.2 i)
      have i1 : ∀ {α : Type} (y : Option α), gd (inb (nI i) 4000) y = y := fun y => gd_in (by omega) (by omega)
      rw [if_neg (fun y => q ((nI_e' (by omega) (by omega)).mp y)), i1, i1, i1, hb]
      simp only [iIl48 hr, iIh57 hr]
      by_cases g : dg (T.2 i) = true
      · have g' := gi.mp g
        have sz : sB (T.2 i) = T.2 i := hf.1 (by omega)
        have d : dgE T i = dgE T (i + 1) := rn_t (i := i) (by omega) (by rw [e]; exact g)
        have hd' : ∀ j, j < i + 1 - s → dg (byt T (s + j)) = true := by
          intro j hj
          by_cases y : j < i - s
          · exact hd j y
          · rw [show s + j = i by omega, e]; exact g
        have nxt := ih (i + 1) (by omega) (by omega) (by omega) hd'
        rw [if_neg (by omega), if_neg (by omega), nI_m hs]
        simp only [nIg10 (show i - s < 2147483648 by omega)]
        rw [d]
        by_cases t : 10 ≤ i - s
        · rw [if_pos t, nI_s, ← nxt, show min (i + 1 - s) 10 = min (i - s) 10 by omega]
        · rw [if_neg t, st, b_X9_takeNumber_103, nI_s, ← nxt, show min (i + 1 - s) 10 = min (i - s) 10 + 1 by omega, vlu, show s + min (i - s) 10 = i by omega, e, sz]
          congr 2
          have r48 : (48 : Int32) = iI 48 := rfl
          have r10 : (10 : Int64) = jJ 10 := rfl
          rw [r48, iI_sub, iI_64 ⟨by omega, by omega⟩, r10, jJ_mul, jJ_add, Int.mul_comm]
      · have w : dgE T i = i := rn_f (by rw [e]; exact g)
        rw [w]
        by_cases g1 : sB (T.2 i) < 48
        · rw [if_pos g1]; exact en
        · rw [if_neg g1, if_pos (Classical.byContradiction (fun y => g (gi.mpr (by omega))))]; exact en
set_option maxHeartbeats 200000 in
theorem e_takeNumber {n : Nat} {σ : xσ} {T : Tp} (hT : TpS σ T) (ok : okTp T) {i : Nat} (hi : i < T.1) (h3 : sI σ 1 3 = nI i) : ∃ σ', f_X9_takeNumber n σ = some ((), σ') ∧ Fk PT σ σ' ∧ sI σ' 1 2 = ifP (gdn T (sgst T i)) 2 4 ∧ sI σ' 1 3 = nI i ∧ sI σ' 1 4 = nI (dgE T (sgst T i)) ∧ (gdn T (sgst T i) → sI σ' 1 5 = iI (nbi T i)) := by
  have h4 := ok.1
  have hz := ok.2 i hi
  have hb : sI σ 2 (nI i).toNatClampNeg = iI (sB (T.2 i)) := by rw [nI_k (by omega)]; exact hT.2 i hi
  have hr := sB_r hz
  have hf := sB_f hz
  have e : byt T i = T.2 i := bt_in hi
  have l : ∀ ng : Bool, ng = decide (byt T i = 45) → ∃ σ', l_X9_takeNumber_43 n xFU (bI ng) (nI (sgst T i)) ((0 : Int64)) (nI (sgst T i)) σ = some ((), σ') ∧ Fk PT σ σ' ∧ sI σ' 1 2 = ifP (gdn T (sgst T i)) 2 4 ∧ sI σ' 1 3 = nI i ∧ sI σ' 1 4 = nI (dgE T (sgst T i)) ∧ (gdn T (sgst T i) → sI σ' 1 5 = iI (nbi T i)) := by
    intro ng hng
    have sb := sg0_b T i
    have t := l_takeNumber (n := n) hT ok ng (s := sgst T i) xFU (sgst T i) (xFU_lt (by omega)) (by omega) (Nat.le_refl _) (fun j hj => by omega)
    rw [show min (sgst T i - sgst T i) 10 = 0 by omega, show jJ (vlu T (sgst T i) 0) = (0 : Int64) from rfl] at t
    have gg : goodN (dgE T (sgst T i) - sgst T i) (vlu T (sgst T i) (min (dgE T (sgst T i) - sgst T i) 10)) ↔ gdn T (sgst T i) := by
      unfold goodN gdn
      constructor
      · intro h; rw [show min (dgE T (sgst T i) - sgst T i) 10 = dgE T (sgst T i) - sgst T i by omega] at h; exact h
      · intro h; rw [show min (dgE T (sgst T i) - sgst T i) 10 = dgE T (sgst T i) - sgst T i by omega]; exact h
    have fr : ∀ {s : xσ} {k : Nat} {v : Int32}, 2 ≤ k ∧ k ≤ 5 → Fk PT s (wI s 1 k v) := fun hk => Fk.wI ⟨rfl, hk⟩
    refine ⟨_, t, ((fr (by omega)).trans (fr (by omega))).trans (fr (by omega)), ?_, ?_, ?_, fun g => ?_⟩
    · rw [sI_wI, if_neg (by omega), sI_wI, if_neg (by omega), sI_wI, if_pos ⟨rfl, rfl⟩]; exact ifP_c gg
    · rw [sI_wI, if_neg (by omega), sI_wI, if_neg (by omega), sI_wI, if_neg (by omega), h3]
    · rw [sI_wI, if_pos ⟨rfl, rfl⟩]
    · rw [sI_wI, if_neg (by omega), sI_wI, if_pos ⟨rfl, rfl⟩, ifP_t (gg.mpr g), show min (dgE T (sgst T i) - sgst T i) 10 = dgE T (sgst T i) - sgst T i by have := g.2.1; omega, hng]
      unfold nbi
      by_cases m : byt T i = 45
      · rw [if_pos m, if_pos (by simp [m])]
      · rw [if_neg m, if_neg (by simp [m])]
  rw [f_X9_takeNumber, h3, gd_in (by omega) (by omega), hb]
  simp only [iIq45 hr]
  by_cases m : sB (T.2 i) = 45
  · have m' : byt T i = 45 := by
      rw [e]
      by_cases y : T.2 i < 128
      · rw [← hf.1 y]; exact m
      · have := hf.2.1 (by omega); omega
    rw [if_pos m, b_X9_takeNumber_19, if_neg (by decide), h3, nI_s, b_X9_takeNumber_37]
    have := l true (by simp [m'])
    rw [show sgst T i = i + 1 from if_pos m'] at this ⊢
    exact this
  · have m' : ¬ byt T i = 45 := by
      rw [e]
      intro y
      exact m (by rw [hf.1 (by omega)]; exact y)
    rw [if_neg m, b_X9_takeNumber_19, if_pos rfl, h3, b_X9_takeNumber_37]
    have := l false (by simp [m'])
    rw [show sgst T i = i from if_neg m'] at this ⊢
    exact this
/-! the next token -/
def TS (σ : xσ) (T : Tp) (q : Nat) : Prop := sI σ 1 2 = nI (kd T q) ∧ sI σ 1 3 = nI (fs T q) ∧ sI σ 1 4 = nI (nx T q) ∧ (kd T q = 2 → sI σ 1 5 = iI (nmb T q))
def TSi (σ : xσ) (T : Tp) (i : Nat) : Prop := sI σ 1 2 = nI (kdi T i) ∧ sI σ 1 3 = nI i ∧ sI σ 1 4 = nI (nxi T i) ∧ (kdi T i = 2 → sI σ 1 5 = iI (nbi T i))
set_option maxHeartbeats 200000 in
theorem e_adv185 {n : Nat} {σ : xσ} {i : Nat} (z : Bool) (h3 : sI σ 1 3 = nI i) : ∃ σ', b_X9_advance_185 n (nI i) (bI z) σ = some ((), σ') ∧ Fk PT σ σ' ∧ sI σ' 1 2 = nI (if z = true then 3 else 4) ∧ sI σ' 1 3 = nI i ∧ sI σ' 1 4 = nI (i + 1) := by
  have fr : ∀ {s : xσ} {k : Nat} {v : Int32}, 2 ≤ k ∧ k ≤ 5 → Fk PT s (wI s 1 k v) := fun hk => Fk.wI ⟨rfl, hk⟩
  rw [b_X9_advance_185]
  cases z
  · rw [if_pos (show bI false = 0 from rfl), b_X9_advance_196, st, st, nI_s]
    refine ⟨_, rfl, (fr (by omega)).trans (fr (by omega)), ?_, ?_, ?_⟩
    · rw [sI_wI, if_neg (by omega), sI_wI, if_pos ⟨rfl, rfl⟩]; rfl
    · rw [sI_wI, if_neg (by omega), sI_wI, if_neg (by omega), h3]
    · rw [sI_wI, if_pos ⟨rfl, rfl⟩]
  · rw [if_neg (show ¬ bI true = 0 by decide), b_X9_advance_196, st, st, nI_s]
    refine ⟨_, rfl, (fr (by omega)).trans (fr (by omega)), ?_, ?_, ?_⟩
    · rw [sI_wI, if_neg (by omega), sI_wI, if_pos ⟨rfl, rfl⟩]; rfl
    · rw [sI_wI, if_neg (by omega), sI_wI, if_neg (by omega), h3]
    · rw [sI_wI, if_pos ⟨rfl, rfl⟩]
set_option maxHeartbeats 200000 in
theorem advT_v {n : Nat} {σ : xσ} {T : Tp} (hT : TpS σ T) (ok : okTp T) {i : Nat} (hi : i < T.1) : advT n (nI i) σ = ifP (gr (T.2 i) = true) (bd (f_X9_takeWord n (wI (wI σ 1 3 (nI i)) 1 4 (nI i))) (fun _ s => some ((), s))) (ifP (dg (T.2 i) = true ∨ T.2 i = 45) (bd (f_X9_takeNumber n (wI (wI σ 1 3 (nI i)) 1 4 (nI i))) (fun _ s => some ((), s))) (b_X9_advance_185 n (nI i) (bI (sgn4 (T.2 i))) (wI (wI σ 1 3 (nI i)) 1 4 (nI i)))) := by
  have h4 := ok.1
  have hz := ok.2 i hi
  have hr := sB_r hz
  have hf := sB_f hz
  have hb : sI (wI (wI σ 1 3 (nI i)) 1 4 (nI i)) 2 (nI i).toNatClampNeg = iI (sB (T.2 i)) := by
    rw [nI_k (by omega), sI_wI, if_neg (by omega), sI_wI, if_neg (by omega)]; exact hT.2 i hi
  have h1 : sI (wI (wI σ 1 3 (nI i)) 1 4 (nI i)) 1 1 = nI T.1 := by rw [sI_wI, if_neg (by omega), sI_wI, if_neg (by omega)]; exact hT.1
  have i1 : ∀ {α : Type} (y : Option α), gd (inb (nI i) 4000) y = y := fun y => gd_in (by omega) (by omega)
  have gi := gr_i (T.2 i)
  have di := dg_i (T.2 i)
  have si := sgn4_i (T.2 i)
  unfold advT
  simp only [st]
  rw [h1, if_pos ((nI_l' (by omega) (by omega)).mpr hi)]
  simp only [i1, hb, iIl65 hr, iIl48 hr, iIq45 hr, iIq40 hr, iIq41 hr, iIq44 hr, iIq59 hr, iIe57 hr, iIh90 hr]
  generalize hw : sB (T.2 i) = w at *
  by_cases g : gr (T.2 i) = true
  · have := gi.mp g
    have := hf.1 (by omega)
    rw [ifP_t g, if_neg (by omega), if_neg (by omega)]
  · rw [ifP_f g]
    by_cases d : dg (T.2 i) = true ∨ T.2 i = 45
    · rw [ifP_t d]
      have d' : (48 ≤ T.2 i ∧ T.2 i ≤ 57) ∨ T.2 i = 45 := d.imp di.mp id
      have := hf.1 (by omega)
      rw [if_pos (by omega)]
      by_cases y : w < 48
      · rw [if_pos y, if_pos (by omega)]
      · rw [if_neg y, if_pos (by omega)]
    · rw [ifP_f d]
      have nd : ¬ (48 ≤ T.2 i ∧ T.2 i ≤ 57) := fun y => d (Or.inl (di.mpr y))
      have n45 : ¬ T.2 i = 45 := fun y => d (Or.inr y)
      have ng : ¬ (65 ≤ T.2 i ∧ T.2 i ≤ 90) := fun y => g (gi.mpr y)
      have w45 : ¬ w = 45 := fun y => by
        by_cases z : T.2 i < 128
        · have := hf.1 z; omega
        · have := hf.2.1 (by omega); omega
      have last : (if w = 40 then b_X9_advance_185 n (nI i) 1 (wI (wI σ 1 3 (nI i)) 1 4 (nI i)) else if w = 41 then b_X9_advance_185 n (nI i) 1 (wI (wI σ 1 3 (nI i)) 1 4 (nI i)) else if w = 44 then b_X9_advance_185 n (nI i) 1 (wI (wI σ 1 3 (nI i)) 1 4 (nI i)) else if w = 59 then b_X9_advance_185 n (nI i) 1 (wI (wI σ 1 3 (nI i)) 1 4 (nI i)) else b_X9_advance_185 n (nI i) 0 (wI (wI σ 1 3 (nI i)) 1 4 (nI i))) = b_X9_advance_185 n (nI i) (bI (sgn4 (T.2 i))) (wI (wI σ 1 3 (nI i)) 1 4 (nI i)) := by
        have wz : w = T.2 i ∨ w < 0 ∧ 128 ≤ T.2 i := by
          by_cases z : T.2 i < 128
          · exact Or.inl (hf.1 z)
          · exact Or.inr ⟨hf.2.1 (by omega), by omega⟩
        by_cases s : sgn4 (T.2 i) = true
        · have s' := si.mp s
          rw [s]
          show _ = b_X9_advance_185 n (nI i) 1 _
          repeat' split
          all_goals first | rfl | (exfalso; omega)
        · have s' : ¬ (T.2 i = 40 ∨ T.2 i = 41 ∨ T.2 i = 44 ∨ T.2 i = 59) := fun y => s (si.mpr y)
          rw [if_neg (by omega), if_neg (by omega), if_neg (by omega), if_neg (by omega)]
          cases e : sgn4 (T.2 i) with
          | true => exact (s e).elim
          | false => rfl
      rw [if_neg w45, last]
      by_cases y : w < 65
      · rw [if_pos y]
        by_cases x : w < 48
        · rw [if_pos x]
        · have h57 : ¬ w ≤ 57 := fun y => by
            rcases Int.lt_or_le (T.2 i) 128 with z | z
            · have := hf.1 z; omega
            · have := hf.2.1 z; omega
          rw [if_neg x, if_neg h57]
      · rw [if_neg y]
        have h9 : 90 < w := by
          rcases Int.lt_or_le (T.2 i) 128 with z | z
          · have := hf.1 z; omega
          · have := hf.2.1 z; omega
        rw [if_pos h9, if_neg (by omega), if_neg (by omega)]
set_option maxHeartbeats 200000 in
theorem e_advT {n : Nat} {σ : xσ} {T : Tp} (hT : TpS σ T) (ok : okTp T) {i : Nat} (hi : i ≤ T.1) : ∃ σ', advT n (nI i) σ = some ((), σ') ∧ Fk PT σ σ' ∧ TSi σ' T i := by
  have h4 := ok.1
  have fr : ∀ {s : xσ} {k : Nat} {v : Int32}, 2 ≤ k ∧ k ≤ 5 → Fk PT s (wI s 1 k v) := fun hk => Fk.wI ⟨rfl, hk⟩
  by_cases q : T.1 ≤ i
  · unfold advT
    simp only [st]
    have h1 : sI (wI (wI σ 1 3 (nI i)) 1 4 (nI i)) 1 1 = nI T.1 := by rw [sI_wI, if_neg (by omega), sI_wI, if_neg (by omega)]; exact hT.1
    rw [h1, if_neg (fun y => by have := (nI_l' (by omega) (by omega)).mp y; omega)]
    refine ⟨_, rfl, ((fr (by omega)).trans (fr (by omega))).trans (fr (by omega)), ?_, ?_, ?_, fun y => ?_⟩
    · rw [sI_wI, if_pos ⟨rfl, rfl⟩]; unfold kdi; rw [ifP_t q]; rfl
    · rw [sI_wI, if_neg (by omega), sI_wI, if_neg (by omega), sI_wI, if_pos ⟨rfl, rfl⟩]
    · rw [sI_wI, if_neg (by omega), sI_wI, if_pos ⟨rfl, rfl⟩]; unfold nxi; rw [ifP_t q]
    · unfold kdi at y; rw [ifP_t q] at y; omega
  · have hi' : i < T.1 := by omega
    have e : byt T i = T.2 i := bt_in hi'
    have f0 : Fk PT σ (wI (wI σ 1 3 (nI i)) 1 4 (nI i)) := (fr (by omega)).trans (fr (by omega))
    have hT' := hT.f f0
    have h3 : sI (wI (wI σ 1 3 (nI i)) 1 4 (nI i)) 1 3 = nI i := by rw [sI_wI, if_neg (by omega), sI_wI, if_pos ⟨rfl, rfl⟩]
    rw [advT_v hT ok hi']
    unfold TSi kdi nxi
    rw [ifP_f q, ifP_f q, e]
    by_cases g : gr (T.2 i) = true
    · rw [ifP_t g, ifP_t g, ifP_t g, e_takeWord hT' ok hi h3, bd]
      refine ⟨_, rfl, (f0.trans (fr (by omega))).trans (fr (by omega)), ?_, ?_, ?_, fun y => by omega⟩
      · rw [sI_wI, if_neg (by omega), sI_wI, if_pos ⟨rfl, rfl⟩]; rfl
      · rw [sI_wI, if_neg (by omega), sI_wI, if_neg (by omega), h3]
      · rw [sI_wI, if_pos ⟨rfl, rfl⟩]
    · rw [ifP_f g, ifP_f g, ifP_f g]
      by_cases d : dg (T.2 i) = true ∨ T.2 i = 45
      · obtain ⟨σ', t1, t2, t3, t4, t5, t6⟩ := e_takeNumber (n := n) hT' ok hi' h3
        rw [ifP_t d, ifP_t d, ifP_t d, t1, bd]
        refine ⟨σ', rfl, f0.trans t2, ?_, t4, t5, fun y => t6 ?_⟩
        · rw [t3]
          by_cases G : gdn T (sgst T i)
          · rw [ifP_t G, ifP_t G]; rfl
          · rw [ifP_f G, ifP_f G]; rfl
        · refine Classical.byContradiction (fun G => ?_)
          rw [ifP_f G] at y; omega
      · obtain ⟨σ', t1, t2, t3, t4, t5⟩ := e_adv185 (n := n) (sgn4 (T.2 i)) h3
        rw [ifP_f d, ifP_f d, ifP_f d, t1]
        refine ⟨σ', rfl, f0.trans t2, ?_, t4, t5, fun y => ?_⟩
        · rw [t3]
          cases s : sgn4 (T.2 i) with
          | true => rw [ifP_t rfl, if_pos rfl]
          | false => rw [ifP_f (by decide), if_neg (by decide)]
        · unfold ifP at y; split at y <;> omega
set_option maxHeartbeats 200000 in
theorem l_advance {n : Nat} {σ : xσ} {T : Tp} (hT : TpS σ T) (ok : okTp T) : ∀ f i, T.1 - i < f → i ≤ T.1 → ∃ σ', l_X9_advance_5 n f (nI i) σ = some ((), σ') ∧ Fk PT σ σ' ∧ TSi σ' T (fs T i) := by
  have h4 := ok.1
  intro f
  induction f with
  | zero => intro i h; omega
  | succ f ih =>
    intro i h hi
    rw [adv_u, hT.1]
    by_cases q : T.1 ≤ i
    · rw [if_pos ((nI_e' (by omega) (by omega)).mpr q), show fs T i = i from rn_out q]
      exact e_advT hT ok hi
    · have hz := ok.2 i (by omega)
      have hb : sI σ 2 (nI i).toNatClampNeg = iI (sB (T.2 i)) := by rw [nI_k (by omega)]; exact hT.2 i (by omega)
      have hr := sB_r hz
      have hf := sB_f hz
      have e : byt T i = T.2 i := bt_in (by omega)
      have si := spc_i (T.2 i)
      have i1 : ∀ {α : Type} (y : Option α), gd (inb (nI i) 4000) y = y := fun y => gd_in (by omega) (by omega)
      rw [if_neg (fun y => q ((nI_e' (by omega) (by omega)).mp y)), i1, i1, hb, nI_s]
      simp only [iIq32 hr, iIq10 hr]
      by_cases g : spc (T.2 i) = true
      · have g' := si.mp g
        have := hf.1 (by omega)
        have nxt := ih (i + 1) (by omega) (by omega)
        rw [show fs T i = fs T (i + 1) from rn_t (i := i) (by omega) (by rw [e]; exact g)]
        by_cases a : sB (T.2 i) = 32
        · rw [if_pos a]; exact nxt
        · rw [if_neg a, if_pos (by omega)]; exact nxt
      · have g' : ¬ (T.2 i = 32 ∨ T.2 i = 10) := fun y => g (si.mpr y)
        rw [show fs T i = i from rn_f (by rw [e]; exact g)]
        have a1 : ¬ sB (T.2 i) = 32 := fun y => by
          rcases Int.lt_or_le (T.2 i) 128 with z | z
          · have := hf.1 z; omega
          · have := hf.2.1 z; omega
        have a2 : ¬ sB (T.2 i) = 10 := fun y => by
          rcases Int.lt_or_le (T.2 i) 128 with z | z
          · have := hf.1 z; omega
          · have := hf.2.1 z; omega
        rw [if_neg a1, if_neg a2]
        exact e_advT hT ok hi
set_option maxHeartbeats 200000 in
theorem e_advance {n : Nat} {σ : xσ} {T : Tp} (hT : TpS σ T) (ok : okTp T) {q : Nat} (hq : q ≤ T.1) (h : sI σ 1 4 = nI q) : ∃ σ', f_X9_advance n σ = some ((), σ') ∧ Fk PT σ σ' ∧ TS σ' T q := by
  have := ok.1
  rw [f_X9_advance, st, h]
  exact l_advance hT ok xFU q (xFU_lt (by omega)) hq

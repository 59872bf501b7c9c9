/-! words -/
set_option maxHeartbeats 200000 in
theorem xTb_l : ∀ j, j < 28 → (xTb j).length < 100 := by decide +kernel
set_option maxHeartbeats 200000 in
theorem tlen_n (j : Nat) : tlen j = nI (xTb j).length := rfl
def wq (T : Tp) (q j : Nat) : Prop := kd T q = 1 ∧ nx T q = fs T q + (xTb j).length ∧ ∀ k, k < (xTb j).length → iI (byt T (fs T q + k)) = tchr j k
set_option maxHeartbeats 200000 in
theorem wq_list {T : Tp} {q j : Nat} (h : wq T q j) : xTb j = (List.range (nx T q - fs T q)).map (fun k => iI (byt T (fs T q + k))) := by
  obtain ⟨_, h2, h3⟩ := h
  refine List.ext_getElem (by rw [List.length_map, List.length_range]; omega) (fun k k1 k2 => ?_)
  rw [List.getElem_map, List.getElem_range, h3 k k1]
  unfold tchr
  rw [List.getD_eq_getElem?_getD, List.getElem?_eq_getElem k1]
  rfl
set_option maxHeartbeats 200000 in
theorem xTb_inj : ∀ i, i < 28 → ∀ j, j < 28 → xTb i = xTb j → i = j := by decide +kernel
set_option maxHeartbeats 200000 in
theorem wq_u {T : Tp} {q i j : Nat} (hi : i < 28) (hj : j < 28) (h : wq T q i) (k : wq T q j) : i = j := xTb_inj i hi j hj ((wq_list h).trans (wq_list k).symm)
/-! of the reference -/
set_option maxHeartbeats 200000 in
theorem l_isWord {n : Nat} {σ : xσ} {T : Tp} (hT : TpM σ T) (ok : okTp T) {j b : Nat} (hj : j < 28) (h46 : sI σ 233 46 = nI b) (hb : b + (xTb j).length ≤ T.1) : ∀ f k, (xTb j).length - k < f → k ≤ (xTb j).length → l_X14_isWord_28 n f j (nI k) σ = some (tf (∀ m, k ≤ m → m < (xTb j).length → iI (byt T (b + m)) = tchr j m), σ) := by
  have h4 := ok.1
  intro f
  induction f with
  | zero => intro k h; omega
  | succ f ih =>
    intro k h hk
    rw [l_X14_isWord_28, gd_pos hj, tlen_n]
    by_cases q : (xTb j).length ≤ k
    · rw [if_pos ((nI_e' (by omega) (by omega)).mpr q), tf_t (fun m a b => by omega)]
    · rw [if_neg (fun y => q ((nI_e' (by omega) (by omega)).mp y)), h46, nI_ad, gd_in (by omega) (by omega), gd_pos hj, gd_in (by omega) (by omega), nI_k (by omega), nI_k (by omega), hT.2 _ (by omega), nI_s, ← bt_in (show b + k < T.1 by omega), ih (k + 1) (by omega) (by omega)]
      by_cases e : iI (byt T (b + k)) = tchr j k
      · rw [if_pos e]
        congr 2
        refine tf_c ⟨fun y m a c => ?_, fun y m a c => y m (by omega) c⟩
        by_cases z : m = k
        · rw [z]; exact e
        · exact y m (by omega) c
      · rw [if_neg e, tf_f (fun y => e (y k (Nat.le_refl k) (by omega)))]
set_option maxHeartbeats 200000 in
theorem m_isWord {n : Nat} {σ : xσ} {T : Tp} (hT : TpM σ T) (ok : okTp T) {q : Nat} (hq : q ≤ T.1) (h : TM σ T q) {j : Nat} (hj : j < 28) : f_X14_isWord n j σ = some (tf (wq T q j), σ) := by
  have h4 := ok.1
  have hl := xTb_l j hj
  have hn := nx_b hq
  have k4 := kd_le T q
  rw [f_X14_isWord, h.1, h.2.1, h.2.2.1, gd_pos hj, tlen_n, nI_m hn.2.2.2]
  simp only [nIq1 (show kd T q < 2147483648 by omega), nI_q' (show nx T q - fs T q < 2147483648 by omega) (show (xTb j).length < 2147483648 by omega)]
  by_cases k : kd T q = 1
  · rw [if_pos k]
    by_cases l : nx T q - fs T q = (xTb j).length
    · have t := l_isWord (n := n) hT ok hj h.2.1 (by omega) xFU 0 (xFU_lt (by omega)) (by omega)
      rw [show nI 0 = 0 from rfl] at t
      rw [if_pos l, t]
      congr 2
      exact tf_c ⟨fun y => ⟨k, by omega, fun m hm => y m (by omega) hm⟩, fun y m _ hm => y.2.2 m hm⟩
    · rw [if_neg l, tf_f (fun y => l (by have := y.2.1; omega))]
  · rw [if_neg k, tf_f (fun y => k y.1)]
/-! of the system -/
set_option maxHeartbeats 200000 in
theorem l_isToken {n : Nat} {σ : xσ} {T : Tp} (hT : TpS σ T) (ok : okTp T) {j a b p : Nat} (hj : j < 28) (h3 : sI σ 1 3 = nI p) (hab : a ≤ b) (hb : b ≤ (xTb j).length) (hp : p + (b - a) ≤ T.1) (hg : ∀ k, k < b - a → gr (byt T (p + k)) = true) : ∀ f k, b - k < f → a ≤ k → k ≤ b → l_X9_isToken_20 n f j (nI a) (nI b) (nI k) σ = some (tf (∀ m, k ≤ m → m < b → tchr j m = iI (byt T (p + (m - a)))), σ) := by
  have h4 := ok.1
  have hl := xTb_l j hj
  intro f
  induction f with
  | zero => intro k h; omega
  | succ f ih =>
    intro k h ha hk
    rw [l_X9_isToken_20]
    by_cases q : b ≤ k
    · rw [if_pos ((nI_e' (by omega) (by omega)).mpr q), tf_t (fun m a b => by omega)]
    · have gk := (gr_i _).mp (hg (k - a) (by omega))
      have hz := ok.2 (p + (k - a)) (by omega)
      have hbt := bt_in (show p + (k - a) < T.1 by omega)
      have hf := (sB_f hz).1 (by omega)
      rw [if_neg (fun y => q ((nI_e' (by omega) (by omega)).mp y)), gd_pos hj, gd_in (by omega) (by omega), h3, nI_ad, nI_m (by omega), gd_in (by omega) (by omega), nI_k (by omega), nI_k (by omega), show p + k - a = p + (k - a) by omega, hT.2 _ (by omega), hf, ← hbt, nI_s, ih (k + 1) (by omega) (by omega) (by omega)]
      by_cases e : tchr j k = iI (byt T (p + (k - a)))
      · rw [if_pos e]
        congr 2
        refine tf_c ⟨fun y m a c => ?_, fun y m a c => y m (by omega) c⟩
        by_cases z : m = k
        · rw [z]; exact e
        · exact y m (by omega) c
      · rw [if_neg e, tf_f (fun y => e (y k (Nat.le_refl k) (by omega)))]
set_option maxHeartbeats 200000 in
theorem e_isToken {n : Nat} {σ : xσ} {T : Tp} (hT : TpS σ T) (ok : okTp T) {q : Nat} (hq : q ≤ T.1) (h : TS σ T q) (h1 : kd T q = 1) {j a b j' : Nat} (hj : j < 28) (hab : a ≤ b) (hb : b ≤ (xTb j).length) (hw : (xTb j').length = b - a ∧ ∀ k, k < b - a → tchr j' k = tchr j (a + k)) : f_X9_isToken n j (nI a) (nI b) σ = some (tf (wq T q j'), σ) := by
  have h4 := ok.1
  have hl := xTb_l j hj
  have hn := nx_b hq
  have w := kd_1 h1
  rw [f_X9_isToken, h.2.1, h.2.2.1, nI_m hab, nI_m hn.2.2.2]
  simp only [nI_q' (show b - a < 2147483648 by omega) (show nx T q - fs T q < 2147483648 by omega)]
  by_cases l : b - a = nx T q - fs T q
  · have t := l_isToken (n := n) hT ok hj h.2.1 hab hb (by omega) (fun k hk => rn_all T gr (fs T q) (fs T q + k) (by omega) (by have := w.2.2; unfold we at this; omega)) xFU a (xFU_lt (by omega)) (Nat.le_refl a) hab
    rw [if_pos l, t]
    congr 2
    refine tf_c ⟨fun y => ⟨h1, by omega, fun k hk => ?_⟩, fun y m u v => ?_⟩
    · have := y (a + k) (by omega) (by omega)
      rw [show a + k - a = k by omega] at this
      rw [hw.2 k (by omega), this]
    · have := y.2.2 (m - a) (by omega)
      rw [hw.2 (m - a) (by omega), show a + (m - a) = m by omega] at this
      exact this.symm
  · rw [if_neg l, tf_f (fun y => l (by have := y.2.1; omega))]
set_option maxHeartbeats 200000 in
theorem sk_in {n : Nat} {σ : xσ} {T : Tp} (hT : TpS σ T) (ok : okTp T) {q : Nat} (hq : q ≤ T.1) (h : TS σ T q) (h1 : kd T q = 1) {j a b x g j' : Nat} (hj : j < 28) (hab : a ≤ b) (hb : b ≤ (xTb j).length) (hsp : ∀ k, a ≤ k → k < b → tchr j k ≠ 32) (he : b = (xTb j).length ∨ tchr j b = 32) (hw : (xTb j').length = b - a ∧ ∀ k, k < b - a → tchr j' k = tchr j (a + k)) : ∀ m p, p + m = b → a ≤ p → l_X9_skipWord_17 n (g + m + 1) j (nI x) (nI a) (nI p) σ = ifP (wq T q j') (bd (f_X9_advance n σ) (fun _ s => some (nI x, s))) (l_X9_skipWord_17 n g j (nI (x + 1)) (nI (b + 1)) (nI (b + 1)) σ) := by
  have hl := xTb_l j hj
  intro m
  induction m with
  | zero =>
    intro p hp ha
    have : p = b := by omega
    subst this
    have tk := e_isToken (n := n) hT ok hq h h1 hj hab hb hw
    have fin : bd (f_X9_isToken n j (nI a) (nI p) σ) (fun v105 σ106 => if v105 = 0 then st (nI p + 1) (fun x111 => b_X9_skipWord_71 n (l_X9_skipWord_17 n g) j (nI x + 1) x111 (nI p) σ106) else bd (f_X9_advance n σ106) (fun v113 σ114 => some (nI x, σ114))) = ifP (wq T q j') (bd (f_X9_advance n σ) (fun _ s => some (nI x, s))) (l_X9_skipWord_17 n g j (nI (x + 1)) (nI (p + 1)) (nI (p + 1)) σ) := by
      rw [tk, bd]
      by_cases w : wq T q j'
      · rw [if_neg (fun y => (tf_0.mp y) w), ifP_t w]
      · rw [if_pos (tf_f w), ifP_f w, st, b_X9_skipWord_71, nI_s, nI_s]
    rw [Nat.add_zero, l_X9_skipWord_17, gd_pos hj, gd_pos hj, gd_pos hj, tlen_n, if_neg (fun y => by have := (nI_l' (by omega) (by omega)).mp y; omega)]
    by_cases e : p = (xTb j).length
    · rw [if_pos ((nI_q' (by omega) (by omega)).mpr e)]; exact fin
    · rw [if_neg (fun y => e ((nI_q' (by omega) (by omega)).mp y)), gd_in (by omega) (by omega), nI_k (by omega), if_pos (by rcases he with y | y; exact (e y).elim; exact y)]; exact fin
  | succ m ih =>
    intro p hp ha
    rw [show g + (m + 1) + 1 = (g + m + 1) + 1 by omega, l_X9_skipWord_17, gd_pos hj, gd_pos hj, gd_pos hj, tlen_n, if_neg (fun y => by have := (nI_l' (by omega) (by omega)).mp y; omega), if_neg (fun y => by have := (nI_q' (by omega) (by omega)).mp y; omega), gd_in (by omega) (by omega), nI_k (by omega), if_neg (hsp p ha (by omega)), nI_s]
    exact ih (p + 1) (by omega) (by omega)
set_option maxHeartbeats 200000 in
theorem sk_step {n : Nat} {σ : xσ} {T : Tp} (hT : TpS σ T) (ok : okTp T) {q : Nat} (hq : q ≤ T.1) (h : TS σ T q) (h1 : kd T q = 1) {j a b x g F j' : Nat} (hj : j < 28) (hF : F = g + (b - a) + 1) (hab : a ≤ b) (hb : b ≤ (xTb j).length) (hsp : ∀ k, k < b - a → tchr j (a + k) ≠ 32) (he : b = (xTb j).length ∨ tchr j b = 32) (hw : (xTb j').length = b - a ∧ ∀ k, k < b - a → tchr j' k = tchr j (a + k)) : l_X9_skipWord_17 n F j (nI x) (nI a) (nI a) σ = ifP (wq T q j') (bd (f_X9_advance n σ) (fun _ s => some (nI x, s))) (l_X9_skipWord_17 n g j (nI (x + 1)) (nI (b + 1)) (nI (b + 1)) σ) := by
  rw [hF]
  exact sk_in hT ok hq h h1 hj hab hb (fun k k1 k2 => by have := hsp (k - a) (by omega); rw [show a + (k - a) = k by omega] at this; exact this) he hw (b - a) a (by omega) (Nat.le_refl a)
set_option maxHeartbeats 200000 in
theorem sk_end {n : Nat} {σ : xσ} {j x a g F : Nat} (hj : j < 28) (hF : F = g + 1) (h : (xTb j).length < a) (ha : a < 1000) : l_X9_skipWord_17 n F j (nI x) (nI a) (nI a) σ = some ((-1), σ) := by
  have hl := xTb_l j hj
  rw [hF, l_X9_skipWord_17, gd_pos hj, tlen_n, if_pos ((nI_l' (by omega) (by omega)).mpr h)]
/-! which word of a row of words -/
def noW (T : Tp) (q : Nat) (W : List Nat) : Prop := ∀ j, j ∈ W → ¬ wq T q j
def SkR (n : Nat) (σ : xσ) (T : Tp) (q j : Nat) (W : List Nat) : Prop := (∃ x w σ', W[x]? = some w ∧ wq T q w ∧ f_X9_skipWord n j σ = some (nI x, σ') ∧ Fk PT σ σ' ∧ TS σ' T (nx T q)) ∨ (noW T q W ∧ f_X9_skipWord n j σ = some ((-1), σ))
set_option maxHeartbeats 200000 in
theorem noW_1 {T : Tp} {q : Nat} {W : List Nat} (h : kd T q ≠ 1) : noW T q W := fun _ _ y => h y.1
set_option maxHeartbeats 200000 in
theorem noW_c {T : Tp} {q j : Nat} {W : List Nat} (h : ¬ wq T q j) (k : noW T q W) : noW T q (j :: W) := fun i hi => by
  rcases List.mem_cons.mp hi with rfl | hi
  · exact h
  · exact k i hi
set_option maxHeartbeats 200000 in
theorem noW_0 (T : Tp) (q : Nat) : noW T q [] := fun _ h => nomatch h

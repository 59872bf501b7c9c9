/-! the reference: MOVE and FILL -/
set_option maxHeartbeats 200000 in
theorem m_isNumber {n : Nat} {σ : xσ} {x : Int} (h : R64 x) : f_X14_isNumber n (jJ x) σ = some (tf (b30 x), σ) := by
  have en : (-1073741823 : Int64) = jJ (-1073741823) := by rw [← jJ_neg]; rfl
  have l1 : (lg_cmp (jJ x) (-1073741823 : Int64) < 0) ↔ x < -1073741823 := by rw [en]; exact lc_lt h ⟨by decide, by decide⟩
  have l2 : (0 < lg_cmp (jJ x) (1073741823 : Int64)) ↔ 1073741823 < x := lc_gt (b := 1073741823) h ⟨by decide, by decide⟩
  rw [f_X14_isNumber]
  simp only [l1, l2]
  unfold b30
  by_cases q1 : x < -1073741823
  · rw [if_pos q1, tf_f (by omega)]
  · rw [if_neg q1]
    by_cases q2 : 1073741823 < x
    · rw [if_pos q2, tf_f (by omega)]
    · rw [if_neg q2, tf_t (by omega)]
set_option maxHeartbeats 200000 in
theorem l_move39 {n : Nat} {σ : xσ} {a : Nat} {c : Ct} (S : MH σ a c) (F : WF c) {dx dy : Int} (hx : b30 dx) (hy : b30 dy) : ∀ f i (fl : Bool), 40 - i < f → i ≤ cN c → (fl = true ↔ ∀ j, j < i → bV (cV (mvC c dx dy) j)) → l_X14_move_39 n f (iI dx) (iI dy) a (bI fl) (nI i) σ = ifP (inPl c dx dy) (bd (f_X14_hasRoom n 16 σ) (fun v103 σ104 => if v103 = 0 then bd (f_X14_put n 4 σ104) (fun v109 σ110 => some ((), σ110)) else l_X14_move_136 n xFU (iI dx) (iI dy) a 0 σ104)) (bd (f_X14_put n 5 σ) (fun v114 σ115 => some ((), σ115))) := by
  have hN := F.n
  intro f
  induction f with
  | zero => intro i fl h; omega
  | succ f ih =>
    intro i fl hf hi hfl
    rw [l_X14_move_39, S.N]
    by_cases q : cN c ≤ i
    · have e : i = cN c := by omega
      subst e
      rw [if_pos ((nI_e' (by omega) (by omega)).mpr q)]
      cases fl with
      | true => rw [if_neg (show ¬ bI true = 0 by decide), ifP_t (show inPl c dx dy from hfl.mp rfl)]
      | false => rw [if_pos (show bI false = 0 from rfl), ifP_f (fun y => by have := hfl.mpr y; cases this)]
    · rw [if_neg (fun y => q ((nI_e' (by omega) (by omega)).mp y))]
      cases fl with
      | false =>
        rw [if_pos (show bI false = 0 from rfl), b_X14_move_95, nI_s]
        exact ih (i + 1) false (by omega) (by omega) ⟨(fun y => nomatch y), fun y => hfl.mpr (fun j hj => y j (by omega))⟩
      | true =>
        have pre := hfl.mp rfl
        have b1 := F.x (show i < cN c by omega)
        have b2 := F.y (show i < cN c by omega)
        have r : ∀ u v : Int, b30 u → b30 v → R64 (u + v) := fun u v hu hv => by unfold b30 at *; exact ⟨by omega, by omega⟩
        have i1 : ∀ {α : Type} (y : Option α), gd (inb (nI i) 40) y = y := fun y => gd_in (by omega) (by omega)
        have nIk : (nI i).toNatClampNeg = i := nI_k (by omega)
        rw [if_neg (show ¬ bI true = 0 by decide)]
        simp only [i1, nIk]
        rw [S.X (by omega), iI_64 b1.r, iI_64 hx.r, jJ_add, m_isNumber (r _ _ b1 hx), bd]
        by_cases q1 : b30 ((cV c i).1 + dx)
        · rw [if_neg (tn q1), S.Y (by omega), iI_64 b2.r, iI_64 hy.r, jJ_add, m_isNumber (r _ _ b2 hy), bd]
          by_cases q2 : b30 ((cV c i).2 + dy)
          · rw [if_neg (tn q2), b_X14_move_95, nI_s]
            exact ih (i + 1) true (by omega) (by omega) ⟨fun _ j hj => by
              by_cases e : j = i
              · rw [e]; exact ⟨q1, q2⟩
              · exact pre j (by omega), fun _ => rfl⟩
          · rw [if_pos (tf_f q2), b_X14_move_95, nI_s]
            exact ih (i + 1) false (by omega) (by omega) ⟨(fun y => nomatch y), fun y => (q2 (y i (by omega)).2).elim⟩
        · rw [if_pos (tf_f q1), b_X14_move_95, nI_s]
          exact ih (i + 1) false (by omega) (by omega) ⟨(fun y => nomatch y), fun y => (q1 (y i (by omega)).1).elim⟩
set_option maxHeartbeats 200000 in
theorem l_move136 {n a : Nat} {c : Ct} (F : WF c) {dx dy : Int} : ∀ f i σ, 40 - i < f → i ≤ cN c → sI σ a 2 = nI (cN c) → (∀ j, j < cN c → sI σ (a + 2) j = iI (if j < i then (cV c j).1 + dx else (cV c j).1) ∧ sI σ (a + 3) j = iI (if j < i then (cV c j).2 + dy else (cV c j).2)) → ∃ σ', l_X14_move_136 n f (iI dx) (iI dy) a (nI i) σ = bd (f_X14_changed n 16 σ') (fun v102 σ103 => some ((), σ103)) ∧ Fk (fun b _ => b = a + 2 ∨ b = a + 3) σ σ' ∧ ∀ j, j < cN c → sI σ' (a + 2) j = iI ((cV c j).1 + dx) ∧ sI σ' (a + 3) j = iI ((cV c j).2 + dy) := by
  have hN := F.n
  intro f
  induction f with
  | zero => intro i σ h; omega
  | succ f ih =>
    intro i σ hf hi h2 h3
    rw [l_X14_move_136, h2]
    by_cases q : cN c ≤ i
    · rw [if_pos ((nI_e' (by omega) (by omega)).mpr q)]
      refine ⟨σ, rfl, Fk.refl, fun j hj => ?_⟩
      have := h3 j hj
      rw [if_pos (by omega), if_pos (by omega)] at this
      exact this
    · have i1 : ∀ {α : Type} (y : Option α), gd (inb (nI i) 40) y = y := fun y => gd_in (by omega) (by omega)
      have nIk : (nI i).toNatClampNeg = i := nI_k (by omega)
      obtain ⟨s1, s2⟩ := h3 i (by omega)
      rw [if_neg (by omega)] at s1 s2
      have e2 : ∀ v, sI (wI σ (a + 2) i v) (a + 3) i = iI (cV c i).2 := fun v => by rw [sI_wI, if_neg (by omega)]; exact s2
      rw [if_neg (fun y => q ((nI_e' (by omega) (by omega)).mp y))]
      simp only [i1, nIk, st, s1, e2, nI_s, iI_add]
      have G : Fk (fun b _ => b = a + 2 ∨ b = a + 3) σ (wI (wI σ (a + 2) i (iI ((cV c i).1 + dx))) (a + 3) i (iI ((cV c i).2 + dy))) := (Fk.wI (Or.inl rfl)).trans (Fk.wI (Or.inr rfl))
      obtain ⟨σ', t1, t2, t3⟩ := ih (i + 1) (wI (wI σ (a + 2) i (iI ((cV c i).1 + dx))) (a + 3) i (iI ((cV c i).2 + dy))) (by omega) (by omega) (by rw [(G a 2 (by omega)).1]; exact h2) (fun j hj => by
        by_cases e : j = i
        · subst e
          rw [sI_wI, if_neg (by omega), sI_own, sI_own, if_pos (by omega), if_pos (by omega)]; exact ⟨rfl, rfl⟩
        · have z1 : sI (wI (wI σ (a + 2) i (iI ((cV c i).1 + dx))) (a + 3) i (iI ((cV c i).2 + dy))) (a + 2) j = sI σ (a + 2) j := by rw [sI_wI, if_neg (by omega), sI_wI, if_neg (by omega)]
          have z2 : sI (wI (wI σ (a + 2) i (iI ((cV c i).1 + dx))) (a + 3) i (iI ((cV c i).2 + dy))) (a + 3) j = sI σ (a + 3) j := by rw [sI_wI, if_neg (by omega), sI_wI, if_neg (by omega)]
          rw [z1, z2]
          have := h3 j hj
          by_cases l : j < i
          · rw [if_pos l, if_pos l] at this
            rw [if_pos (by omega), if_pos (by omega)]; exact this
          · rw [if_neg l, if_neg l] at this
            rw [if_neg (by omega), if_neg (by omega)]; exact this)
      exact ⟨σ', t1, G.trans t2, t3⟩
set_option maxHeartbeats 200000 in
theorem m_moveK {n : Nat} {σ : xσ} {k : Kp} (h : KM σ k) (o : okK k) (hD : kD k = false) {z dx dy : Int} (hz : b30 z) (hx : b30 dx) (hy : b30 dy) {w : Ou} (hO : OM σ w) (hw : w.1 < 30000) : StX σ (f_X14_move n (iI z) (iI dx) (iI dy) σ) w (moveK k z dx dy) := by
  have rz : R32 z := hz.r
  have L := o.1.1
  have l2 := L.1
  obtain ⟨u, T⟩ := h.1.1
  rw [f_X14_move, m_find L T rz, bd]
  simp only [iIg0 (fd_R L z)]
  unfold moveK
  by_cases q1 : fdT (kL k) z < 0
  · rw [if_neg (by omega), ifP_t q1]; exact m_say' h hO hw (v := 2) (by decide) rfl
  obtain ⟨i1, i2, i3⟩ := fd_lt q1
  obtain ⟨v1, v2⟩ := T.2.1 _ (show (fdT (kL k) z).toNat < 200 by omega)
  have v2' : sR σ 260 (fdT (kL k) z).toNat = some (mq 259 (u (fdT (kL k) z).toNat)) := v2
  obtain ⟨x1, x2⟩ := T.2.2.2 _ i1
  obtain ⟨W, V⟩ := L.2.2.2 _ i1
  have hN := W.n
  have okm := okM_mq (a := 259) (Or.inl rfl) v1
  have ei : iI (fdT (kL k) z) = nI (fdT (kL k) z).toNat := by rw [nI_i, ← i2]
  have l := l_move39 (n := n) x2 W hx hy xFU 0 true (xFU_lt (by omega)) (by omega) ⟨fun _ j hj => by omega, fun _ => rfl⟩
  rw [show bI true = 1 from rfl, show nI 0 = 0 from rfl] at l
  rw [if_pos (by omega), ifP_f q1, ei, gd_in (by omega) (by omega), nI_k (by omega), v2', nn, gd_pos okm, l]
  by_cases q2 : inPl (tS (kL k) (fdT (kL k) z).toNat) dx dy
  · rw [ifP_t q2, ifP_f (fun y => y q2), show (16 : Int32) = nI 16 from rfl, m_hasRoom h o.2.1.1 hD (by omega), bd]
    by_cases q3 : room k 16
    · rw [if_neg (tn q3), ifP_f (fun y => y q3)]
      obtain ⟨σ1, t1, t2, t3⟩ := l_move136 (n := n) (a := mq 259 (u (fdT (kL k) z).toNat)) W (dx := dx) (dy := dy) xFU 0 σ (xFU_lt (by omega)) (by omega) x2.N (fun j hj => by rw [if_neg (by omega), if_neg (by omega)]; exact ⟨x2.X hj, x2.Y hj⟩)
      rw [show nI 0 = 0 from rfl] at t1
      have f8 : Fk (fun b _ => PL8 b) σ σ1 := t2.mono (fun b k y => by unfold mq at y; unfold PL8; omega)
      have oth : ∀ j, j < 200 → j ≠ (fdT (kL k) z).toNat → ∀ b r, mq 259 (u j) ≤ b → b < mq 259 (u j) + 4 → sI σ1 b r = sI σ b r := by
        intro j hj hne b r l1 l3
        have d := mq_dj (a := 259) (b := 259) (Or.inl rfl) (Or.inl rfl) (T.2.1 j hj).1 v1 (Or.inr (fun e => hne (T.2.2.1 j _ hj (by omega) e)))
        exact (t2 b r (by omega)).1
      have T1 : TbM σ1 259 (repT (kL k) (fdT (kL k) z).toNat (mvC (tS (kL k) (fdT (kL k) z).toNat) dx dy)) u := by
        refine ⟨⟨T.1.1, by rw [(t2 259 1 (by unfold mq; omega)).1]; exact T.1.2.1, T.1.2.2⟩, fun i hi => ⟨(T.2.1 i hi).1, by rw [(t2 (259 + 1) i (by unfold mq; omega)).2.2]; exact (T.2.1 i hi).2⟩, T.2.2.1, fun i hi => ?_⟩
        have hi' : i < tC (kL k) := hi
        show _ = iI (tI (kL k) i) ∧ MH σ1 _ (repF (tS (kL k)) _ _ i)
        unfold repF
        obtain ⟨y0, y1, ⟨y2, y3, y4⟩, y5, y6⟩ := T.2.2.2 i hi'
        by_cases e : i = (fdT (kL k) z).toNat
        · rw [if_pos e]
          subst e
          refine ⟨by rw [(t2 _ 0 (by omega)).1]; exact y0, y1, ⟨by rw [(t2 _ 1 (by omega)).1]; exact y2, by rw [(t2 _ 2 (by omega)).1]; exact y3, by rw [(t2 _ 3 (by omega)).1]; exact y4⟩, fun j hj => t3 j hj, fun r hr => by rw [(t2 _ r (by omega)).1]; exact y6 r hr⟩
        · rw [if_neg e]
          have ot := oth i (by omega) e
          refine ⟨by rw [ot _ 0 (Nat.le_refl _) (by omega)]; exact y0, y1, ⟨by rw [ot _ 1 (Nat.le_refl _) (by omega)]; exact y2, by rw [ot _ 2 (Nat.le_refl _) (by omega)]; exact y3, by rw [ot _ 3 (Nat.le_refl _) (by omega)]; exact y4⟩, fun j hj => by rw [ot _ j (by omega) (by omega), ot _ j (by omega) (by omega)]; exact y5 j hj, fun r hr => by rw [ot _ r (by omega) (by omega)]; exact y6 r hr⟩
      rw [t1, bd_id]
      exact (m_put2 o hD (okTb_rep L ⟨WF_mv W q2, Val_mv V dx dy⟩) (h.L f8 ⟨u, T1⟩) (m := 16) (by omega) (hO.l f8) hw).of (f8.mono (fun _ _ => PL8_x)).m
    · rw [if_pos (tf_f q3), ifP_t q3]; exact m_say' h hO hw (v := 4) (by decide) rfl
  · rw [ifP_f q2, ifP_t q2]; exact m_say' h hO hw (v := 5) (by decide) rfl
/-! drawn shapes of the reference -/
set_option maxHeartbeats 200000 in
theorem m_nextP {n : Nat} {σ : xσ} {a kn m r : Nat} {V : Nat → V2} {E : Nat → Nat} (h : ShM σ a kn (m, r, V, E)) (hm : m < 40) : ∃ σ', f_X12_add n a (iI (V m).1) (iI (V m).2) σ = some ((), σ') ∧ Fk (PMh a) σ σ' ∧ ShM σ' a kn (m + 1, r, V, E) := by
  obtain ⟨σ', t1, t2, t3⟩ := m_adp (n := n) h hm (V m)
  have es : adP (m, r, V, E) (V m) = (m + 1, r, V, E) := by
    unfold adP shP shR shV shE
    have : (fun j => if j = m then V m else V j) = V := by
      funext j
      by_cases y : j = m
      · rw [if_pos y, y]
      · rw [if_neg y]
    simp only [this]
  rw [es] at t3
  exact ⟨σ', t1, t2, t3⟩
set_option maxHeartbeats 200000 in
theorem m_nextR {n : Nat} {σ : xσ} {a kn m r : Nat} {V : Nat → V2} {E : Nat → Nat} (h : ShM σ a kn (m, r, V, E)) (h2 : m ≤ 40) (hr : r < 8) (he : E r = m) : ∃ σ', f_X12_endRing n a σ = some ((), σ') ∧ Fk (PMh a) σ σ' ∧ ShM σ' a kn (m, r + 1, V, E) := by
  obtain ⟨σ', t1, t2, t3⟩ := m_endR (n := n) h hr
  have es : clR (m, r, V, E) = (m, r + 1, V, E) := by
    unfold clR shP shR shV shE
    have : (fun x => if x = r then min m 40 else E x) = E := by
      funext x
      by_cases y : x = r
      · rw [if_pos y, y, he]; omega
      · rw [if_neg y]
    simp only [this]
  rw [es] at t3
  exact ⟨σ', t1, t2, t3⟩
def P56 (b k : Nat) : Prop := (b = 233 ∧ k = 56) ∨ PMh 1865 b k
set_option maxHeartbeats 200000 in
theorem m_draw {n : Nat} {σ : xσ} {s : Int32} (h : sI σ 233 56 = s) {w : Nat} (h1 : 1 ≤ w) (h2 : w < 2147483648) : ∃ σ', f_X14_draw n (nI w) σ = some (nI (dw (nxS s) w), σ') ∧ Fk (fun b k => b = 233 ∧ k = 56) σ σ' ∧ sI σ' 233 56 = nxS s := by
  rw [f_X14_draw, h, st, sI_own, gd_pos (show ¬ nI w = 0 from fun y => by have := (nIq0 h2).mp y; omega)]
  have e := sh8_e (s * 1103515245 + 12345)
  rw [e, dw_e _ h1 h2]
  exact ⟨_, rfl, Fk.wI ⟨rfl, rfl⟩, by rw [sI_own]; rfl⟩
set_option maxHeartbeats 200000 in
theorem ShM.s {σ σ' : xσ} {kn : Nat} {s : Sh} (h : ShM σ 1865 kn s) (f : Fk (fun b k => b = 233 ∧ k = 56) σ σ') : ShM σ' 1865 kn s := h.fr f (fun j k hj y => by omega)
set_option maxHeartbeats 200000 in
theorem m_made {n : Nat} {σ : xσ} {kn : Nat} (hk : kn < 3) {x y : Int} {w : Nat} (s : Int32) (hx : b30 x) (hy : b30 y) (h1 : 1 ≤ w) (hw : w ≤ 1000000000) (h2 : x + ((w : Int) + (w : Int) / 16 + 1) ≤ 1073741823) (h3 : y + ((w : Int) + (w : Int) / 16 + 1) ≤ 1073741823) (hs : sI σ 233 56 = s) : ∃ σ', f_X14_made n (nI kn) (iI x) (iI y) (nI w) σ = some ((), σ') ∧ Fk P56 σ σ' ∧ MH σ' 1865 (mdT kn x y w s) ∧ sI σ' 233 56 = mdS kn s := by
  obtain ⟨f1, f2, f3, f4, f5, f6, f7⟩ := md_f hk s hx hy h1 h2 h3
  obtain ⟨W, _⟩ := md_ok hk s hx hy h1 h2 h3
  have hN := W.n
  have e16 : nI w / 16 + 1 = nI (md16 w) := by
    have := nI_div (a := w) (b := 16) (by omega) (by omega) (by omega)
    rw [show (16 : Int32) = nI 16 from rfl, this, nI_s]; rfl
  have g16 : 1 ≤ md16 w ∧ md16 w < 2147483648 := by unfold md16; omega
  obtain ⟨σ1, a1, a2, a3⟩ := m_draw (n := n) hs h1 (by omega)
  obtain ⟨σ2, b1, b2, b3⟩ := m_draw (n := n) a3 h1 (by omega)
  obtain ⟨σ3, c1, c2, c3⟩ := m_beg (n := n) (σ := σ2) (a := 1865) (by decide) kn (cV (mdT kn x y w s)) (cE (mdT kn x y w s))
  obtain ⟨σ4, d1, d2, d3⟩ := m_nextP (n := n) c3 (by omega)
  rw [f5] at d1
  have p1 : (mdP x y w s).1 = x + dw (nxS s) w := rfl
  have p2 : (mdP x y w s).2 = y + dw (nxS (nxS s)) w := rfl
  have ax : iI x + nI (dw (nxS s) w) = iI (mdP x y w s).1 := by rw [nI_i, iI_add, p1]
  have ay : iI y + nI (dw (nxS (nxS s)) w) = iI (mdP x y w s).2 := by rw [nI_i, iI_add, p2]
  have l1 : ∀ {σ σ' : xσ}, Fk (fun b k => b = 233 ∧ k = 56) σ σ' → Fk P56 σ σ' := fun f => f.mono (fun b k y => Or.inl y)
  have l2 : ∀ {σ σ' : xσ}, Fk (PMh 1865) σ σ' → Fk P56 σ σ' := fun f => f.mono (fun b k y => Or.inr y)
  have F4 : Fk P56 σ σ4 := (((l1 a2).trans (l1 b2)).trans (l2 c2)).trans (l2 d2)
  have k56 : ∀ {σ σ' : xσ}, Fk (PMh 1865) σ σ' → sI σ' 233 56 = sI σ 233 56 := fun f => (f 233 56 (fun y => by unfold PMh at y; omega)).1
  have s4 : sI σ4 233 56 = nxS (nxS s) := by rw [k56 d2, k56 c2]; exact b3
  have fin : ∀ σ5 (sd : Int32), Fk P56 σ σ5 → sI σ5 233 56 = sd → ShM σ5 1865 kn (cN (mdT kn x y w s), 0, cV (mdT kn x y w s), cE (mdT kn x y w s)) → ∃ σ', b_X14_made_165 n σ5 = some ((), σ') ∧ Fk P56 σ σ' ∧ MH σ' 1865 (mdT kn x y w s) ∧ sI σ' 233 56 = sd := by
    intro σ5 sd F hsd H
    obtain ⟨σ6, v1, v2, v3⟩ := m_nextR (n := n) H hN.2 (by omega) (f4 0)
    rw [b_X14_made_165, v1, bd]
    refine ⟨σ6, rfl, F.trans (l2 v2), ?_, by rw [k56 v2]; exact hsd⟩
    have S := MH_of v3 (by show cN _ ≤ 40; omega) (by show 0 + 1 ≤ 8; omega)
    have ec : ((kn, cN (mdT kn x y w s), 0 + 1, cV (mdT kn x y w s), cE (mdT kn x y w s)) : Ct) = mdT kn x y w s := by
      rw [Nat.zero_add]
      conv => lhs; rw [← f3]; arg 1; rw [← f1]
      rfl
    rw [ec] at S; exact S
  rw [f_X14_made, a1, bd, ax, st, b1, bd, ay, st, c1, bd, d1, bd]
  rcases (show kn = 0 ∨ kn = 1 ∨ kn = 2 by omega) with e | e | e
  · have nN : cN (mdT kn x y w s) = 1 := by rw [f2, if_pos e]
    have es : mdS kn s = nxS (nxS s) := by unfold mdS; rw [if_neg (by omega), if_neg (by omega)]
    rw [if_neg (by rw [e]; decide), if_neg (by rw [e]; decide), es]
    have := fin σ4 (nxS (nxS s)) F4 s4 (by rw [nN]; exact d3)
    rw [b_X14_made_165] at this
    exact this
  · have nN : cN (mdT kn x y w s) = 2 := by rw [f2, if_neg (by omega), if_pos e]
    have es : mdS kn s = nxS (nxS (nxS (nxS s))) := by unfold mdS; rw [if_pos e]
    obtain ⟨σ5, v1, v2, v3⟩ := m_draw (n := n) s4 g16.1 g16.2
    obtain ⟨σ6, w1, w2, w3⟩ := m_draw (n := n) v3 g16.1 g16.2
    obtain ⟨σ7, r1, r2, r3⟩ := m_nextP (n := n) ((d3.s v2).s w2) (by omega)
    rw [f6 e] at r1
    have q1 : (mdQ kn x y w s).1 = (mdP x y w s).1 + dw (nxS (nxS (nxS s))) (md16 w) + 1 := by unfold mdQ; rw [if_pos e]
    have q2 : (mdQ kn x y w s).2 = (mdP x y w s).2 + dw (nxS (nxS (nxS (nxS s)))) (md16 w) := by unfold mdQ; rw [if_pos e]
    have bx : iI (mdP x y w s).1 + nI (dw (nxS (nxS (nxS s))) (md16 w)) + 1 = iI (mdQ kn x y w s).1 := by rw [nI_i, iI_add, show (1 : Int32) = iI 1 from rfl, iI_add, q1]
    have by' : iI (mdP x y w s).2 + nI (dw (nxS (nxS (nxS (nxS s)))) (md16 w)) = iI (mdQ kn x y w s).2 := by rw [nI_i, iI_add, q2]
    rw [if_pos (by rw [e]; rfl), e16, v1, bd, w1, bd, bx, by', r1, bd, b_X14_made_89, if_neg (by rw [e]; decide), es]
    have := fin σ7 (nxS (nxS (nxS (nxS s)))) (((F4.trans (l1 v2)).trans (l1 w2)).trans (l2 r2)) (by rw [k56 r2]; exact w3) (by rw [nN]; exact r3)
    rw [b_X14_made_165] at this
    exact this
  · have nN : cN (mdT kn x y w s) = 5 := by rw [f2, if_neg (by omega), if_neg (by omega)]
    have es : mdS kn s = nxS (nxS (nxS s)) := by unfold mdS; rw [if_neg (by omega), if_pos e]
    obtain ⟨e1, e2, e3, e4⟩ := f7 e
    obtain ⟨σ5, v1, v2, v3⟩ := m_draw (n := n) s4 g16.1 g16.2
    obtain ⟨σ6, w1, w2, w3⟩ := m_nextP (n := n) (d3.s v2) (by omega)
    rw [e1] at w1
    obtain ⟨σ7, r1, r2, r3⟩ := m_nextP (n := n) w3 (by omega)
    rw [e2] at r1
    obtain ⟨σ8, t1, t2, t3⟩ := m_nextP (n := n) r3 (by omega)
    rw [e3] at t1
    obtain ⟨σ9, m1, m2, m3⟩ := m_nextP (n := n) t3 (by omega)
    rw [e4] at m1
    have q1 : (mdQ kn x y w s).1 = (mdP x y w s).1 + (dw (nxS (nxS (nxS s))) (md16 w) + 1) := by unfold mdQ; rw [if_neg (by omega), if_pos e]
    have q2 : (mdQ kn x y w s).2 = (mdP x y w s).2 + (dw (nxS (nxS (nxS s))) (md16 w) + 1) := by unfold mdQ; rw [if_neg (by omega), if_pos e]
    have bx : iI (mdP x y w s).1 + nI (dw (nxS (nxS (nxS s))) (md16 w) + 1) = iI (mdQ kn x y w s).1 := by rw [nI_i, iI_add, q1]; rfl
    have by' : iI (mdP x y w s).2 + nI (dw (nxS (nxS (nxS s))) (md16 w) + 1) = iI (mdQ kn x y w s).2 := by rw [nI_i, iI_add, q2]; rfl
    rw [if_neg (by rw [e]; decide), if_pos (by rw [e]; rfl), e16, v1, bd, nI_s, st, bx, by', w1, bd, r1, bd, t1, bd, m1, bd, es]
    exact fin σ9 (nxS (nxS (nxS s))) (((((F4.trans (l1 v2)).trans (l2 w2)).trans (l2 r2)).trans (l2 t2)).trans (l2 m2)) (by rw [k56 m2, k56 t2, k56 r2, k56 w2]; exact v3) (by rw [nN]; exact m3)

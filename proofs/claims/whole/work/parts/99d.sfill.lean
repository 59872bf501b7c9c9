/-! FILL -/
def nxS (s : Int32) : Int32 := s * 1103515245 + 12345
def sh8 (s : Int32) : Nat := s.toUInt32.toNat / 256
def dw (s : Int32) (w : Nat) : Nat := sh8 s % w
set_option maxHeartbeats 200000 in
theorem sh8_b (s : Int32) : sh8 s < 16777216 := by
  have := s.toUInt32.toNat_lt
  unfold sh8; omega
set_option maxHeartbeats 200000 in
theorem u32i (u : UInt32) : u.toInt32 = nI u.toNat := by
  show (⟨u⟩ : Int32) = ⟨UInt32.ofNat u.toNat⟩
  rw [UInt32.ofNat_toNat]
set_option maxHeartbeats 200000 in
theorem sh8_e (s : Int32) : (s.toUInt32 >>> ((8 : Int32).toUInt32 &&& Int32.toUInt32 31)).toInt32 = nI (sh8 s) := by
  have b := sh8_b s
  have e1 : ((8 : Int32).toUInt32 &&& Int32.toUInt32 31) = 8 := by decide
  have e2 : (s.toUInt32 >>> (8 : UInt32)).toNat = sh8 s := by
    rw [UInt32.toNat_shiftRight]
    unfold sh8
    rw [Nat.shiftRight_eq_div_pow]
    rfl
  rw [e1, u32i, e2]
set_option maxHeartbeats 200000 in
theorem dw_e (s : Int32) {w : Nat} (h1 : 1 ≤ w) (h2 : w < 2147483648) : nI (sh8 s) - nI (sh8 s) / nI w * nI w = nI (dw s w) := by
  have b := sh8_b s
  rw [nI_div (by omega) (by omega) h2]
  have e : sh8 s / w * w ≤ sh8 s := Nat.div_mul_le_self _ _
  have em : nI (sh8 s / w) * nI w = nI (sh8 s / w * w) := by rw [nI_i, nI_i, nI_i, iI_mul]; rfl
  rw [em, nI_m e]
  congr 1
  unfold dw
  have := Nat.div_add_mod (sh8 s) w
  rw [Nat.mul_comm] at this
  omega
set_option maxHeartbeats 200000 in
theorem dw_lt (s : Int32) {w : Nat} (h : 1 ≤ w) : dw s w < w := Nat.mod_lt _ (by omega)
set_option maxHeartbeats 200000 in
theorem e_draw {n : Nat} {σ : xσ} (s : Int32) {w : Nat} (h1 : 1 ≤ w) (h2 : w < 2147483648) : f_X10_draw n s (nI w) σ = some (nI (dw s w), σ) := by
  rw [f_X10_draw, if_pos ((nIg1 h2).mpr h1), gd_pos (show ¬ nI w = 0 from fun y => by have := (nIq0 h2).mp y; omega), sh8_e, dw_e s h1 h2]
/-! the shapes that are made -/
def lnC (P Q : V2) : Ct := (1, 2, 1, fun i => if i = 0 then P else Q, fun _ => 2)
def mdC (kn : Nat) (P Q : V2) : Ct := if kn = 1 then lnC P Q else winC P Q
def md16 (w : Nat) : Nat := w / 16 + 1
def mdP (x y : Int) (w : Nat) (s : Int32) : V2 := (x + dw (nxS s) w, y + dw (nxS (nxS s)) w)
def mdQ (kn : Nat) (x y : Int) (w : Nat) (s : Int32) : V2 := if kn = 1 then ((mdP x y w s).1 + dw (nxS (nxS (nxS s))) (md16 w) + 1, (mdP x y w s).2 + dw (nxS (nxS (nxS (nxS s)))) (md16 w)) else if kn = 2 then ((mdP x y w s).1 + (dw (nxS (nxS (nxS s))) (md16 w) + 1), (mdP x y w s).2 + (dw (nxS (nxS (nxS s))) (md16 w) + 1)) else mdP x y w s
def mdS (kn : Nat) (s : Int32) : Int32 := if kn = 1 then nxS (nxS (nxS (nxS s))) else if kn = 2 then nxS (nxS (nxS s)) else nxS (nxS s)
def mdT (kn : Nat) (x y : Int) (w : Nat) (s : Int32) : Ct := mdC kn (mdP x y w s) (mdQ kn x y w s)
def fOk (z kk x y : Int) (w : Int) : Prop := 1 ≤ z ∧ 1 ≤ kk ∧ kk ≤ 100 ∧ z + kk - 1 ≤ 9999 ∧ 1 ≤ w ∧ w ≤ 1000000000 ∧ x + (w + w / 16 + 1) ≤ 1073741823 ∧ y + (w + w / 16 + 1) ≤ 1073741823
set_option maxHeartbeats 200000 in
theorem md_b {kn : Nat} {x y : Int} {w : Nat} (s : Int32) (hx : b30 x) (hy : b30 y) (h1 : 1 ≤ w) (h2 : x + ((w : Int) + (w : Int) / 16 + 1) ≤ 1073741823) (h3 : y + ((w : Int) + (w : Int) / 16 + 1) ≤ 1073741823) : bV (mdP x y w s) ∧ bV (mdQ kn x y w s) ∧ (kn = 1 → mdP x y w s ≠ mdQ kn x y w s) ∧ (kn = 2 → (mdP x y w s).1 < (mdQ kn x y w s).1 ∧ (mdP x y w s).2 < (mdQ kn x y w s).2) := by
  have a1 := dw_lt (nxS s) h1
  have a2 := dw_lt (nxS (nxS s)) h1
  have g : 1 ≤ md16 w := by unfold md16; omega
  have a3 := dw_lt (nxS (nxS (nxS s))) g
  have a4 := dw_lt (nxS (nxS (nxS (nxS s)))) g
  have e16 : (md16 w : Int) = (w : Int) / 16 + 1 := by unfold md16; omega
  unfold b30 at hx hy
  have p1 : (mdP x y w s).1 = x + dw (nxS s) w := rfl
  have p2 : (mdP x y w s).2 = y + dw (nxS (nxS s)) w := rfl
  refine ⟨⟨by unfold b30; omega, by unfold b30; omega⟩, ?_, fun e => ?_, fun e => ?_⟩
  · unfold mdQ
    by_cases e1 : kn = 1
    · rw [if_pos e1]; exact ⟨by unfold b30; simp only; omega, by unfold b30; simp only; omega⟩
    · rw [if_neg e1]
      by_cases e2 : kn = 2
      · rw [if_pos e2]; exact ⟨by unfold b30; simp only; omega, by unfold b30; simp only; omega⟩
      · rw [if_neg e2]; exact ⟨by unfold b30; omega, by unfold b30; omega⟩
  · unfold mdQ
    rw [if_pos e]
    intro y
    have := congrArg (fun z : V2 => z.1) y
    simp only at this
    omega
  · unfold mdQ
    rw [if_neg (by omega), if_pos e]
    simp only
    omega
set_option maxHeartbeats 200000 in
theorem md_ok {kn : Nat} (hk : kn < 3) {x y : Int} {w : Nat} (s : Int32) (hx : b30 x) (hy : b30 y) (h1 : 1 ≤ w) (h2 : x + ((w : Int) + (w : Int) / 16 + 1) ≤ 1073741823) (h3 : y + ((w : Int) + (w : Int) / 16 + 1) ≤ 1073741823) : WF (mdT kn x y w s) ∧ Val (mdT kn x y w s) := by
  obtain ⟨b1, b2, b3, b4⟩ := md_b (kn := kn) s hx hy h1 h2 h3
  unfold mdT mdC
  by_cases e : kn = 1
  · rw [if_pos e]
    have ne := b3 e
    refine ⟨⟨⟨by show 1 ≤ 2; omega, by show 1 ≤ 2; omega, by show 2 ≤ 40; omega, by show 1 ≤ 1; omega, by show 1 ≤ 8; omega⟩, fun r _ => ⟨by show 1 ≤ 2; omega, by show 2 ≤ 2; omega⟩, fun r hr => ?_, rfl, fun i _ => ?_, fun _ => rfl, fun y => ?_⟩, Or.inr (Or.inl ⟨rfl, by show 2 ≤ 2; omega, fun i hi => ?_⟩)⟩
    · have : r + 1 < 1 := hr
      omega
    · show bV (if i = 0 then _ else _)
      by_cases z : i = 0
      · rw [if_pos z]; exact b1
      · rw [if_neg z]; exact b2
    · have : (1 : Nat) = 0 := y
      omega
    · have hi' : i + 1 < 2 := hi
      have : i = 0 := by omega
      subst this
      exact ne
  · rw [if_neg e]
    exact ⟨wn_WF b1 b2, win_Val _ _⟩
set_option maxHeartbeats 200000 in
theorem md_f {kn : Nat} (hk : kn < 3) {x y : Int} {w : Nat} (s : Int32) (hx : b30 x) (hy : b30 y) (h1 : 1 ≤ w) (h2 : x + ((w : Int) + (w : Int) / 16 + 1) ≤ 1073741823) (h3 : y + ((w : Int) + (w : Int) / 16 + 1) ≤ 1073741823) : cK (mdT kn x y w s) = kn ∧ cN (mdT kn x y w s) = (if kn = 0 then 1 else if kn = 1 then 2 else 5) ∧ cR (mdT kn x y w s) = 1 ∧ (∀ r, cE (mdT kn x y w s) r = cN (mdT kn x y w s)) ∧ cV (mdT kn x y w s) 0 = mdP x y w s ∧ (kn = 1 → cV (mdT kn x y w s) 1 = mdQ kn x y w s) ∧ (kn = 2 → cV (mdT kn x y w s) 1 = ((mdQ kn x y w s).1, (mdP x y w s).2) ∧ cV (mdT kn x y w s) 2 = mdQ kn x y w s ∧ cV (mdT kn x y w s) 3 = ((mdP x y w s).1, (mdQ kn x y w s).2) ∧ cV (mdT kn x y w s) 4 = mdP x y w s) := by
  obtain ⟨b1, b2, b3, b4⟩ := md_b (kn := kn) s hx hy h1 h2 h3
  unfold mdT mdC
  rcases (show kn = 0 ∨ kn = 1 ∨ kn = 2 by omega) with rfl | rfl | rfl
  · have eq : mdQ 0 x y w s = mdP x y w s := by unfold mdQ; rw [if_neg (by omega), if_neg (by omega)]
    rw [eq, if_neg (by omega)]
    have nN : wnN (mdP x y w s) (mdP x y w s) = 1 := by unfold wnN; rw [if_pos rfl]
    refine ⟨by show wnK _ _ = 0; unfold wnK; rw [if_pos rfl], nN, rfl, fun r => rfl, wn_0 _ _, fun y => by omega, fun y => by omega⟩
  · rw [if_pos rfl]
    exact ⟨rfl, rfl, rfl, fun r => rfl, rfl, fun _ => rfl, fun y => by omega⟩
  · rw [if_neg (by omega)]
    obtain ⟨c1, c2⟩ := b4 rfl
    have t : ¬ ((mdP x y w s).1 = (mdQ 2 x y w s).1 ∨ (mdP x y w s).2 = (mdQ 2 x y w s).2) := by omega
    have e : mdP x y w s ≠ mdQ 2 x y w s := fun y => t (Or.inl (by rw [← y]))
    have nN : wnN (mdP x y w s) (mdQ 2 x y w s) = 5 := by unfold wnN; rw [if_neg e, if_neg t]
    refine ⟨by show wnK _ _ = 2; unfold wnK; rw [if_neg e, if_neg t], nN, rfl, fun r => rfl, wn_0 _ _, fun y => by omega, fun _ => ⟨?_, ?_, ?_, ?_⟩⟩
    · show wnV _ _ 1 = _; unfold wnV; rw [if_neg t, if_neg (by omega), if_pos rfl]
    · show wnV _ _ 2 = _; unfold wnV; rw [if_neg t, if_neg (by omega), if_neg (by omega), if_pos rfl]
    · show wnV _ _ 3 = _; unfold wnV; rw [if_neg t, if_neg (by omega), if_neg (by omega), if_neg (by omega), if_pos rfl]
    · show wnV _ _ 4 = _; unfold wnV; rw [if_neg t, if_neg (by omega), if_neg (by omega), if_neg (by omega), if_neg (by omega)]
/-! adding the places of a known shape one by one -/
set_option maxHeartbeats 200000 in
theorem e_nextP {n : Nat} {σ : xσ} {a kn m r : Nat} {V : Nat → V2} {E : Nat → Nat} (h : ShS n σ a kn (m, r, V, E)) : ∃ σ', f_X7_addPlace n a (iI (V m).1) (iI (V m).2) σ = some ((), σ') ∧ Fk (PSh a) σ σ' ∧ ShS n σ' a kn (m + 1, r, V, E) := by
  obtain ⟨σ', t1, t2, t3⟩ := e_addPlace h (V m)
  have es : adP (m, r, V, E) (V m) = (m + 1, r, V, E) := by
    unfold adP shP shR shV shE
    have : (fun j => if j = m then V m else V j) = V := by
      funext j
      by_cases y : j = m
      · rw [if_pos y, y]
      · rw [if_neg y]
    simp only [this]
  rw [es] at t3
  exact ⟨σ', t1, t2, t3⟩
set_option maxHeartbeats 200000 in
theorem e_nextR {n : Nat} {σ : xσ} {a kn m r : Nat} {V : Nat → V2} {E : Nat → Nat} (h : ShS n σ a kn (m, r, V, E)) (h1 : 1 ≤ m) (h2 : m ≤ 40) (he : E r = m) : ∃ σ', f_X7_closeRing n a σ = some ((), σ') ∧ Fk (PSh a) σ σ' ∧ ShS n σ' a kn (m, r + 1, V, E) := by
  obtain ⟨σ', t1, t2, t3⟩ := e_closeRing h h1
  have es : clR (m, r, V, E) = (m, r + 1, V, E) := by
    unfold clR shP shR shV shE
    have : (fun x => if x = r then min m 40 else E x) = E := by
      funext x
      by_cases y : x = r
      · rw [if_pos y, y, he]; omega
      · rw [if_neg y]
    simp only [this]
  rw [es] at t3
  exact ⟨σ', t1, t2, t3⟩
set_option maxHeartbeats 200000 in
theorem e_drawShape {n : Nat} {σ : xσ} {a : Nat} (oa : okS n a) (ha : 2476 ≤ a) {kn : Nat} (hk : kn < 3) {x y : Int} {w : Nat} (s : Int32) (hx : b30 x) (hy : b30 y) (h1 : 1 ≤ w) (hw : w ≤ 1000000000) (h2 : x + ((w : Int) + (w : Int) / 16 + 1) ≤ 1073741823) (h3 : y + ((w : Int) + (w : Int) / 16 + 1) ≤ 1073741823) (g2 : sI σ 4 2 = iI x) (g3 : sI σ 4 3 = iI y) (g4 : sI σ 4 4 = nI w) (g5 : sI σ 3 5 = nI kn) : ∃ σ', f_X10_drawShape n a s σ = some (mdS kn s, σ') ∧ Fk (PSh a) σ σ' ∧ SH n σ' a (mdT kn x y w s) := by
  obtain ⟨f1, f2, f3, f4, f5, f6, f7⟩ := md_f hk s hx hy h1 h2 h3
  obtain ⟨W, _⟩ := md_ok hk s hx hy h1 h2 h3
  have e16 : nI w / 16 + 1 = nI (md16 w) := by
    have := nI_div (a := w) (b := 16) (by omega) (by omega) (by omega)
    rw [show (16 : Int32) = nI 16 from rfl, this, nI_s]; rfl
  have g16 : 1 ≤ md16 w ∧ md16 w < 2147483648 := by unfold md16; omega
  obtain ⟨σ1, t1, t2, t3⟩ := e_start (σ := σ) oa kn (cV (mdT kn x y w s)) (cE (mdT kn x y w s))
  obtain ⟨σ2, u1, u2, u3⟩ := e_nextP t3
  rw [f5] at u1
  have p1 : (mdP x y w s).1 = x + dw (nxS s) w := rfl
  have p2 : (mdP x y w s).2 = y + dw (nxS (nxS s)) w := rfl
  have F12 := t2.trans u2
  have k35 : sI σ2 3 5 = nI kn := by rw [(F12 3 5 (fun y => by unfold PSh at y; omega)).1, g5]
  have ax : iI x + nI (dw (nxS s) w) = iI (mdP x y w s).1 := by rw [nI_i, iI_add, p1]
  have ay : iI y + nI (dw (nxS (nxS s)) w) = iI (mdP x y w s).2 := by rw [nI_i, iI_add, p2]
  -- the end of each
  have fin : ∀ σ3 (sd : Int32), Fk (PSh a) σ σ3 → ShS n σ3 a kn (cN (mdT kn x y w s), 0, cV (mdT kn x y w s), cE (mdT kn x y w s)) → ∃ σ', b_X10_drawShape_221 n a sd σ3 = some (sd, σ') ∧ Fk (PSh a) σ σ' ∧ SH n σ' a (mdT kn x y w s) := by
    intro σ3 sd F H
    have hN := W.n
    obtain ⟨σ4, v1, v2, v3⟩ := e_nextR H hN.1 hN.2 (f4 0)
    obtain ⟨σ5, w1, w2, w3, w4⟩ := e_finish v3 (fun i hi => W.b (by have : i < min (cN (mdT kn x y w s)) 40 := hi; omega))
    rw [b_X10_drawShape_221, v1, bd, w1, bd]
    refine ⟨σ5, rfl, (F.trans v2).trans (w2.mono (fun b k y => Or.inr ⟨y.1, by have := y.2; omega⟩)), ?_⟩
    have S := SH_of w3 (by show 1 ≤ cN _; omega) (by show cN _ ≤ 40; omega) (by show 0 + 1 ≤ 8; omega) (w4 (by show 1 ≤ cN _; omega))
    have ec : ((kn, cN (mdT kn x y w s), 0 + 1, cV (mdT kn x y w s), cE (mdT kn x y w s)) : Ct) = mdT kn x y w s := by
      rw [Nat.zero_add]
      conv => lhs; rw [← f3]; arg 1; rw [← f1]
      rfl
    rw [ec] at S; exact S
  rw [f_X10_drawShape, gd_pos oa, gd_pos (by decide), z8.2.2.2.2.1, g4, st, f_X10_nextSeed, bd, gd_pos (by decide)]
  show ∃ σ', bd (f_X10_draw n (nxS s) (nI w) σ) _ = _ ∧ _
  rw [e_draw (nxS s) h1 (by omega), bd, z8.2.2.1, g2, ax, st, f_X10_nextSeed, bd, gd_pos (by decide)]
  show ∃ σ', bd (f_X10_draw n (nxS (nxS s)) (nI w) σ) _ = _ ∧ _
  rw [e_draw (nxS (nxS s)) h1 (by omega), bd, z8.2.2.2.1, g3, ay, st, g5, t1, bd, u1, bd, k35]
  rcases (show kn = 0 ∨ kn = 1 ∨ kn = 2 by omega) with e | e | e
  · -- a point
    have nN : cN (mdT kn x y w s) = 1 := by rw [f2, if_pos e]
    rw [e, if_neg (by decide), if_neg (by decide)]
    have := fin σ2 (nxS (nxS s)) F12 (by rw [nN]; exact u3)
    rw [b_X10_drawShape_221] at this
    have es : mdS 0 s = nxS (nxS s) := by unfold mdS; rw [if_neg (by omega), if_neg (by omega)]
    rw [es]
    rw [e] at this
    exact this
  · -- a line
    have nN : cN (mdT kn x y w s) = 2 := by rw [f2, if_neg (by omega), if_pos e]
    obtain ⟨σ3, v1, v2, v3⟩ := e_nextP u3
    rw [f6 e] at v1
    have q1 : (mdQ kn x y w s).1 = (mdP x y w s).1 + dw (nxS (nxS (nxS s))) (md16 w) + 1 := by unfold mdQ; rw [if_pos e]
    have q2 : (mdQ kn x y w s).2 = (mdP x y w s).2 + dw (nxS (nxS (nxS (nxS s)))) (md16 w) := by unfold mdQ; rw [if_pos e]
    have bx : iI (mdP x y w s).1 + nI (dw (nxS (nxS (nxS s))) (md16 w)) + 1 = iI (mdQ kn x y w s).1 := by rw [nI_i, iI_add, show (1 : Int32) = iI 1 from rfl, iI_add, q1]
    have by' : iI (mdP x y w s).2 + nI (dw (nxS (nxS (nxS (nxS s)))) (md16 w)) = iI (mdQ kn x y w s).2 := by rw [nI_i, iI_add, q2]
    rw [if_pos (by rw [e]; rfl), f_X10_nextSeed, bd, e16]
    show ∃ σ', bd (f_X10_draw n (nxS (nxS (nxS s))) (nI (md16 w)) σ2) _ = _ ∧ _
    rw [e_draw _ g16.1 g16.2, bd, f_X10_nextSeed, bd]
    show ∃ σ', bd (f_X10_draw n (nxS (nxS (nxS (nxS s)))) (nI (md16 w)) σ2) _ = _ ∧ _
    rw [e_draw _ g16.1 g16.2, bd, bx, by', v1, bd]
    have es : mdS kn s = nxS (nxS (nxS (nxS s))) := by unfold mdS; rw [if_pos e]
    rw [es]
    exact fin σ3 _ (F12.trans v2) (by rw [nN]; exact v3)
  · -- a square
    have nN : cN (mdT kn x y w s) = 5 := by rw [f2, if_neg (by omega), if_neg (by omega)]
    obtain ⟨c1, c2, c3, c4⟩ := f7 e
    obtain ⟨σ3, v1, v2, v3⟩ := e_nextP u3
    rw [c1] at v1
    obtain ⟨σ4, w1, w2, w3⟩ := e_nextP v3
    rw [c2] at w1
    obtain ⟨σ5, r1, r2, r3⟩ := e_nextP w3
    rw [c3] at r1
    obtain ⟨σ6, m1, m2, m3⟩ := e_nextP r3
    rw [c4] at m1
    have q1 : (mdQ kn x y w s).1 = (mdP x y w s).1 + (dw (nxS (nxS (nxS s))) (md16 w) + 1) := by unfold mdQ; rw [if_neg (by omega), if_pos e]
    have q2 : (mdQ kn x y w s).2 = (mdP x y w s).2 + (dw (nxS (nxS (nxS s))) (md16 w) + 1) := by unfold mdQ; rw [if_neg (by omega), if_pos e]
    have bx : iI (mdP x y w s).1 + nI (dw (nxS (nxS (nxS s))) (md16 w) + 1) = iI (mdQ kn x y w s).1 := by rw [nI_i, iI_add, q1]; rfl
    have by' : iI (mdP x y w s).2 + nI (dw (nxS (nxS (nxS s))) (md16 w) + 1) = iI (mdQ kn x y w s).2 := by rw [nI_i, iI_add, q2]; rfl
    rw [if_neg (by rw [e]; decide), if_pos (by rw [e]; rfl), f_X10_nextSeed, bd, e16]
    show ∃ σ', bd (f_X10_draw n (nxS (nxS (nxS s))) (nI (md16 w)) σ2) _ = _ ∧ _
    rw [e_draw _ g16.1 g16.2, bd, nI_s, st, bx, by', v1, bd, w1, bd, r1, bd, m1, bd]
    have es : mdS kn s = nxS (nxS (nxS s)) := by unfold mdS; rw [if_neg (by omega), if_pos e]
    rw [es]
    exact fin σ6 _ ((((F12.trans v2).trans w2).trans r2).trans m2) (by rw [nN]; exact m3)

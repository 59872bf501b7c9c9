/-! replace and remove -/
def PRe (a b j : Nat) : Prop := b = a + 1 ∨ b = a + 2 ∨ (b = a ∧ j = 2) ∨ PHd b j
set_option maxHeartbeats 200000 in
theorem ad_ge (k : Nat) : 2476 ≤ ad k := by unfold ad; omega
set_option maxHeartbeats 200000 in
theorem KP_rep {n : Nat} {σ : xσ} {L C : Tb} {K lg : Nat} {pl pc : Nat → Nat} (h : KP n σ L C K lg pl pc) (okL : okTb L) (okC : okTb C) {i : Nat} (hi : i < tC L) {k : Nat} (hk : Fre L C K pl pc k) {c : Ct} (S : SH n σ (ad k) c) : ∃ σ' pl', f_X8_replace n 11 (nI i) (ad k) σ = some ((), σ') ∧ Fk (PRe 11) σ σ' ∧ KP n σ' (repT L i c) C K lg pl' pc := by
  obtain ⟨⟨a1, a2, a3, a4⟩, ⟨b1, b2, b3⟩, cL, cC, e⟩ := id h
  have l2 := okL.1
  obtain ⟨p1, p2, p3⟩ := cL.2 i hi
  have ok1 := okS_ad a1 p1
  have ne : pl i ≠ k := hk.2.1 i hi
  have c1 : 1 ≤ cnX pl (tC L) 0 (pl i) := by
    refine Classical.byContradiction (fun y => ?_)
    exact (cnX_0 (p := pl) (tC L) 0 (pl i)).mp (by omega) i (by omega) (by omega) rfl
  have ge1 := ad_ge (pl i)
  have ge2 := ad_ge k
  have z1 := cnX_le pl (tC L) 0 (pl i)
  have z2 := cnX_le pc (tC C) 0 (pl i)
  have hp := e (pl i) p1
  have hkv := e k hk.1
  have k0 : cnX pl (tC L) 0 k = 0 := (cnX_0 (p := pl) (tC L) 0 k).mpr (fun x _ hx => hk.2.1 x (by omega))
  have k1 : cnX pc (tC C) 0 k = 0 := (cnX_0 (p := pc) (tC C) 0 k).mpr (fun x _ hx => hk.2.2 x (by omega))
  rw [k0, k1] at hkv
  have i1 : ∀ {α : Type} (y : Option α), gd (inb (nI i) 200) y = y := fun y => gd_in (by omega) (by omega)
  have nIk : (nI i).toNatClampNeg = i := nI_k (by omega)
  rw [f_X8_replace, gd_pos (Or.inl rfl), gd_pos (okS_ad a1 hk.1), cL.1.1, if_neg (fun y => (nIl0 (show i < 2147483648 by omega)).mp y), if_pos ((nI_l' (by omega) (by omega)).mpr hi)]
  simp only [i1, nIk, p2, nn, st]
  rw [gd_pos ok1, hp, nIm1 (by omega)]
  have e8 : sI (wR (wI σ (ad (pl i)) 8 (nI (cnX pl (tC L) 0 (pl i) + cnX pc (tC C) 0 (pl i) - 1))) (11 + 2) i (some (ad k))) (ad k) 8 = nI 0 := by
    rw [sI_wR, sI_wI, if_neg (fun y => ne (ad_inj y.1.symm))]; exact hkv
  rw [e8, nI_s]
  have F : Fk (PRe 11) σ (wI (wR (wI σ (ad (pl i)) 8 (nI (cnX pl (tC L) 0 (pl i) + cnX pc (tC C) 0 (pl i) - 1))) (11 + 2) i (some (ad k))) (ad k) 8 (nI (0 + 1))) := by
    have F1 : Fk (PRe 11) σ (wI σ (ad (pl i)) 8 (nI (cnX pl (tC L) 0 (pl i) + cnX pc (tC C) 0 (pl i) - 1))) := Fk.wI (Or.inr (Or.inr (Or.inr (PHd_ad _))))
    exact (F1.trans (Fk.wR (Or.inr (Or.inl rfl)))).trans (Fk.wI (Or.inr (Or.inr (Or.inr (PHd_ad _)))))
  have nh : ∀ x j q, j < 5 → PRe 11 (ad x + j) q → j = 0 ∧ q = 8 := fun x j q hj y => by unfold PRe PHd ad at y; omega
  refine ⟨_, repF pl k i, rfl, F, ⟨a1, a2, a3, a4⟩, ⟨by rw [(F 10 3 (fun y => by unfold PRe PHd at y; omega)).1]; exact b1, by rw [(F 10 4 (fun y => by unfold PRe PHd at y; omega)).1]; exact b2, fun x hx => by rw [(F 17 x (fun y => by unfold PRe PHd at y; omega)).2.2]; exact b3 x hx⟩, ⟨⟨?_, fun j hj => ?_⟩, fun j hj => ?_⟩, cC.fk F (fun y => by unfold PRe PHd at y; omega) (fun q y => by unfold PRe PHd at y; omega) (fun q y => by unfold PRe PHd at y; omega) (fun x j q _ hj y => nh (pc x) j q hj y), fun x hx => ?_⟩
  · rw [sI_wI, if_neg (by omega), sI_wR, sI_wI, if_neg (by omega)]; exact cL.1.1
  · rw [sI_wI, if_neg (by omega), sI_wR, sI_wI, if_neg (by omega)]; exact cL.1.2 j hj
  · have hj' : j < tC L := hj
    show repF pl k i j < K ∧ _ = some (ad (repF pl k i j)) ∧ SH n _ (ad (repF pl k i j)) (repF (tS L) c i j)
    unfold repF
    by_cases y : j = i
    · rw [if_pos y, if_pos y]
      refine ⟨hk.1, ?_, S.fk F (fun q r hq y => nh k q r hq y)⟩
      rw [sR_wI, sR_wR, if_pos ⟨rfl, y⟩]
    · rw [if_neg y, if_neg y]
      obtain ⟨q1, q2, q3⟩ := cL.2 j hj'
      refine ⟨q1, ?_, q3.fk F (fun q r hq y => nh (pl j) q r hq y)⟩
      rw [sR_wI, sR_wR, if_neg (fun z => y z.2), sR_wI]; exact q2
  · have cr := cn_rep pl k x (tC L) i hi
    have eC : tC (repT L i c) = tC L := rfl
    rw [eC]
    by_cases y : x = k
    · subst y
      rw [if_pos rfl, if_neg ne] at cr
      rw [sI_own, k1]; congr 1; omega
    · rw [if_neg (show ¬ k = x from fun w => y w.symm)] at cr
      rw [sI_wI, if_neg (fun w => y (ad_inj w.1)), sI_wR]
      by_cases w : x = pl i
      · subst w
        rw [if_pos (show pl i = pl i from rfl)] at cr
        rw [sI_own]; congr 1; omega
      · rw [if_neg (show ¬ pl i = x from fun v => w v.symm)] at cr
        rw [sI_wI, if_neg (fun v => w (ad_inj v.1)), e x hx]; congr 1; omega
set_option maxHeartbeats 200000 in
theorem l_remove {n a K : Nat} (hn : n = ad K) (oa : a = 11 ∨ a = 14) {ids : Nat → Int} {P : Nat → Nat} {m i0 : Nat} (hm : m ≤ 200) (hP : ∀ j, j < m → P j < K) : ∀ f i σ, m - i < f → i0 ≤ i → i + 1 ≤ m → sI σ a 2 = nI (m - 1) → (∀ j, j < i → sI σ (a + 1) j = iI (remF ids i0 j) ∧ sR σ (a + 2) j = some (ad (remF P i0 j))) → (∀ j, i < j → j < m → sI σ (a + 1) j = iI (ids j) ∧ sR σ (a + 2) j = some (ad (P j))) → ∃ σ', l_X8_removeAt_40 n f a (nI i) σ = some ((), σ') ∧ Fk (fun b _ => b = a + 1 ∨ b = a + 2) σ σ' ∧ (∀ j, j < m - 1 → sI σ' (a + 1) j = iI (remF ids i0 j) ∧ sR σ' (a + 2) j = some (ad (remF P i0 j))) := by
  intro f
  induction f with
  | zero => intro i σ h; omega
  | succ f ih =>
    intro i σ hf h0 hi hC h1 h2
    rw [l_X8_removeAt_40, hC]
    by_cases q : m - 1 ≤ i
    · rw [if_pos ((nI_e' (by omega) (by omega)).mpr q)]
      exact ⟨σ, rfl, Fk.refl, fun j hj => h1 j (by omega)⟩
    · obtain ⟨q1, q2⟩ := h2 (i + 1) (by omega) (by omega)
      have ok := okS_ad hn (hP (i + 1) (by omega))
      have i1 : ∀ {α : Type} (y : Option α), gd (inb (nI i) 200) y = y := fun y => gd_in (by omega) (by omega)
      have i2 : ∀ {α : Type} (y : Option α), gd (inb (nI (i + 1)) 200) y = y := fun y => gd_in (by omega) (by omega)
      have nIk : (nI i).toNatClampNeg = i := nI_k (by omega)
      have nIk2 : (nI (i + 1)).toNatClampNeg = i + 1 := nI_k (by omega)
      rw [if_neg (fun y => q ((nI_e' (by omega) (by omega)).mp y))]
      simp only [nI_s, i1, i2, nIk, nIk2, q1, st, sR_wI, q2, nn]
      rw [gd_pos ok]
      have F : Fk (fun b _ => b = a + 1 ∨ b = a + 2) σ (wR (wI σ (a + 1) i (iI (ids (i + 1)))) (a + 2) i (some (ad (P (i + 1))))) := (Fk.wI (Or.inl rfl)).trans (Fk.wR (Or.inr rfl))
      obtain ⟨σ', t1, t2, t3⟩ := ih (i + 1) (wR (wI σ (a + 1) i (iI (ids (i + 1)))) (a + 2) i (some (ad (P (i + 1))))) (by omega) (by omega) (by omega) (by rw [sI_wR, sI_wI, if_neg (by omega)]; exact hC) (fun j hj => by
        by_cases e : j = i
        · subst e
          rw [sI_wR, sI_own, sR_wR, if_pos ⟨rfl, rfl⟩]
          unfold remF
          rw [if_neg (by omega), if_neg (by omega)]; exact ⟨rfl, rfl⟩
        · rw [sI_wR, sI_wI, if_neg (by omega), sR_wR, if_neg (by omega), sR_wI]; exact h1 j (by omega)) (fun j l1 l2 => by
        rw [sI_wR, sI_wI, if_neg (by omega), sR_wR, if_neg (by omega), sR_wI]; exact h2 j (by omega) l2)
      exact ⟨σ', t1, F.trans t2, t3⟩
set_option maxHeartbeats 200000 in
theorem KP_rem {n : Nat} {σ : xσ} {L C : Tb} {K lg : Nat} {pl pc : Nat → Nat} (h : KP n σ L C K lg pl pc) (okL : okTb L) (okC : okTb C) {i : Nat} (hi : i < tC L) : ∃ σ' pl', f_X8_removeAt n 11 (nI i) σ = some ((), σ') ∧ Fk (PRe 11) σ σ' ∧ KP n σ' (remT L i) C K lg pl' pc := by
  obtain ⟨⟨a1, a2, a3, a4⟩, ⟨b1, b2, b3⟩, cL, cC, e⟩ := id h
  have l2 := okL.1
  have l3 := okC.1
  obtain ⟨p1, p2, p3⟩ := cL.2 i hi
  have ok1 := okS_ad a1 p1
  have c1 : 1 ≤ cnX pl (tC L) 0 (pl i) := by
    refine Classical.byContradiction (fun y => ?_)
    exact (cnX_0 (p := pl) (tC L) 0 (pl i)).mp (by omega) i (by omega) (by omega) rfl
  have ge1 := ad_ge (pl i)
  have z1 := cnX_le pl (tC L) 0 (pl i)
  have z2 := cnX_le pc (tC C) 0 (pl i)
  have hp := e (pl i) p1
  have i1 : ∀ {α : Type} (y : Option α), gd (inb (nI i) 200) y = y := fun y => gd_in (by omega) (by omega)
  have nIk : (nI i).toNatClampNeg = i := nI_k (by omega)
  have eC : sI (wI σ (ad (pl i)) 8 (nI (cnX pl (tC L) 0 (pl i) + cnX pc (tC C) 0 (pl i) - 1))) 11 2 = nI (tC L) := by rw [sI_wI, if_neg (by omega)]; exact cL.1.1
  rw [f_X8_removeAt, gd_pos (Or.inl rfl), cL.1.1, if_neg (fun y => (nIl0 (show i < 2147483648 by omega)).mp y), if_pos ((nI_l' (by omega) (by omega)).mpr hi)]
  simp only [i1, nIk, p2, nn, st]
  rw [gd_pos ok1, hp, nIm1 (by omega), eC, nIm1 (by omega)]
  have F1 : Fk (PRe 11) σ (wI (wI σ (ad (pl i)) 8 (nI (cnX pl (tC L) 0 (pl i) + cnX pc (tC C) 0 (pl i) - 1))) 11 2 (nI (tC L - 1))) := by
    have F0 : Fk (PRe 11) σ (wI σ (ad (pl i)) 8 (nI (cnX pl (tC L) 0 (pl i) + cnX pc (tC C) 0 (pl i) - 1))) := Fk.wI (Or.inr (Or.inr (Or.inr (PHd_ad _))))
    exact F0.trans (Fk.wI (Or.inr (Or.inr (Or.inl ⟨rfl, rfl⟩))))
  have g : ∀ b k, 12 ≤ b ∧ b ≤ 13 → sI (wI (wI σ (ad (pl i)) 8 (nI (cnX pl (tC L) 0 (pl i) + cnX pc (tC C) 0 (pl i) - 1))) 11 2 (nI (tC L - 1))) b k = sI σ b k := fun b k hb => by rw [sI_wI, if_neg (by omega), sI_wI, if_neg (by omega)]
  obtain ⟨σ', t1, t2, t3⟩ := l_remove (a := 11) a1 (Or.inl rfl) (ids := tI L) (P := pl) (m := tC L) (i0 := i) l2 (fun j hj => (cL.2 j hj).1) xFU i (wI (wI σ (ad (pl i)) 8 (nI (cnX pl (tC L) 0 (pl i) + cnX pc (tC C) 0 (pl i) - 1))) 11 2 (nI (tC L - 1))) (xFU_lt (by omega)) (Nat.le_refl _) (by omega) (by rw [sI_own]) (fun j hj => by
    unfold remF
    rw [if_pos hj, if_pos hj, g 12 j (by omega), sR_wI, sR_wI]
    exact ⟨cL.1.2 j (by omega), (cL.2 j (by omega)).2.1⟩) (fun j l1 l2 => by
    rw [g 12 j (by omega), sR_wI, sR_wI]
    exact ⟨cL.1.2 j l2, (cL.2 j l2).2.1⟩)
  have F : Fk (PRe 11) σ σ' := F1.trans (t2.mono (fun b k y => by rcases y with y | y; exact Or.inl y; exact Or.inr (Or.inl y)))
  have nh : ∀ x j q, j < 5 → PRe 11 (ad x + j) q → j = 0 ∧ q = 8 := fun x j q hj y => by unfold PRe PHd ad at y; omega
  rw [t1]
  refine ⟨σ', remF pl i, rfl, F, ⟨a1, a2, a3, a4⟩, ⟨by rw [(F 10 3 (fun y => by unfold PRe PHd at y; omega)).1]; exact b1, by rw [(F 10 4 (fun y => by unfold PRe PHd at y; omega)).1]; exact b2, fun x hx => by rw [(F 17 x (fun y => by unfold PRe PHd at y; omega)).2.2]; exact b3 x hx⟩, ⟨⟨?_, fun j hj => (t3 j hj).1⟩, fun j hj => ?_⟩, cC.fk F (fun y => by unfold PRe PHd at y; omega) (fun q y => by unfold PRe PHd at y; omega) (fun q y => by unfold PRe PHd at y; omega) (fun x j q _ hj y => nh (pc x) j q hj y), fun x hx => ?_⟩
  · rw [(t2 11 2 (by omega)).1, sI_own]; rfl
  · have hj' : j < tC L - 1 := hj
    refine ⟨?_, (t3 j hj').2, ?_⟩
    · unfold remF
      by_cases y : j < i
      · rw [if_pos y]; exact (cL.2 j (by omega)).1
      · rw [if_neg y]; exact (cL.2 (j + 1) (by omega)).1
    · show SH n σ' (ad (remF pl i j)) (remF (tS L) i j)
      unfold remF
      by_cases y : j < i
      · rw [if_pos y, if_pos y]; exact (cL.2 j (by omega)).2.2.fk F (fun q r hq y => nh (pl j) q r hq y)
      · rw [if_neg y, if_neg y]; exact (cL.2 (j + 1) (by omega)).2.2.fk F (fun q r hq y => nh (pl (j + 1)) q r hq y)
  · have cr := cn_rem pl x (tC L) i hi
    have eCc : tC (remT L i) = tC L - 1 := rfl
    have gx := ad_ge x
    rw [eCc, (t2 (ad x) 8 (by omega)).1, sI_wI, if_neg (by omega)]
    by_cases w : x = pl i
    · subst w
      rw [if_pos rfl] at cr
      rw [sI_own]; congr 1; omega
    · rw [if_neg (fun v => w v.symm)] at cr
      rw [sI_wI, if_neg (fun v => w (ad_inj v.1)), e x hx]; congr 1; omega
/-! copies of shapes -/
def mvC (c : Ct) (dx dy : Int) : Ct := (cK c, cN c, cR c, fun i => ((cV c i).1 + dx, (cV c i).2 + dy), cE c)
set_option maxHeartbeats 200000 in
theorem mvC_0 (c : Ct) : mvC c 0 0 = c := by
  unfold mvC
  have : (fun i => ((cV c i).1 + 0, (cV c i).2 + 0)) = cV c := by funext i; simp
  rw [this]; rfl
set_option maxHeartbeats 200000 in
theorem l_copyMoved {n a a1 : Nat} {c : Ct} (F : WF c) {dx dy : Int} (dj : a + 5 ≤ a1 ∨ a1 + 5 ≤ a) : ∀ f i ring σ, 40 - i < f → i ≤ cN c → ring ≤ cR c → (∀ r, r < ring → cE c r ≤ i) → (ring < cR c → i < cE c ring) → SH n σ a1 c → ShS n σ a (cK c) (i, ring, cV (mvC c dx dy), cE c) → ∃ σ1, l_X7_copyMoved_14 n f a a1 (iI dx) (iI dy) (nI ring) (nI i) σ = bd (f_X7_finish n a σ1) (fun v102 σ103 => some ((), σ103)) ∧ Fk (PSh a) σ σ1 ∧ ShS n σ1 a (cK c) (cN c, cR c, cV (mvC c dx dy), cE c) := by
  have hN := F.n
  have hR := F.r
  intro f
  induction f with
  | zero => intro i ring σ h; omega
  | succ f ih =>
    intro i ring σ hf hi hr he hlt S H
    rw [l_X7_copyMoved_14, S.N]
    by_cases q : cN c ≤ i
    · have e1 : i = cN c := by omega
      have e2 : ring = cR c := by
        refine Classical.byContradiction (fun y => ?_)
        have := hlt (by omega)
        have := (F.e (show ring < cR c by omega)).2
        omega
      rw [if_pos ((nI_e' (by omega) (by omega)).mpr q)]
      subst e1; subst e2
      exact ⟨σ, rfl, Fk.refl, H⟩
    · obtain ⟨σ1, t1, t2, t3⟩ := e_addPlace H (cV (mvC c dx dy) i)
      have es : adP (i, ring, cV (mvC c dx dy), cE c) (cV (mvC c dx dy) i) = (i + 1, ring, cV (mvC c dx dy), cE c) := by
        unfold adP shP shR shV shE
        have : (fun j => if j = i then cV (mvC c dx dy) i else cV (mvC c dx dy) j) = cV (mvC c dx dy) := by
          funext j
          by_cases y : j = i
          · rw [if_pos y, y]
          · rw [if_neg y]
        simp only [this]
      rw [es] at t3
      have S1 : SH n σ1 a1 c := S.fk t2 (fun j k hj y => by unfold PSh at y; omega)
      have ax : (cV (mvC c dx dy) i).1 = (cV c i).1 + dx := rfl
      have ay : (cV (mvC c dx dy) i).2 = (cV c i).2 + dy := rfl
      rw [if_neg (fun y => q ((nI_e' (by omega) (by omega)).mp y)), gd_in (by omega) (by omega), gd_in (by omega) (by omega), nI_k (by omega), S.X (by omega), S.Y (by omega), iI_add, iI_add, ← ax, ← ay, t1, bd, S1.R]
      by_cases r : cR c ≤ ring
      · rw [if_pos ((nI_e' (by omega) (by omega)).mpr r), nI_s]
        obtain ⟨σ2, u1, u2, u3⟩ := ih (i + 1) ring σ1 (by omega) (by omega) hr (fun r hr => by have := he r hr; omega) (fun y => by omega) S1 t3
        exact ⟨σ2, u1, t2.trans u2, u3⟩
      · have b1 := F.e (show ring < cR c by omega)
        have lt := hlt (by omega)
        rw [if_neg (fun y => r ((nI_e' (by omega) (by omega)).mp y)), gd_in (by omega) (by omega), nI_k (by omega), S1.E (by omega), nI_s]
        by_cases e : cE c ring = i + 1
        · obtain ⟨σ2, u1, u2, u3⟩ := e_closeRing t3 (by show 1 ≤ i + 1; omega)
          have es2 : clR (i + 1, ring, cV (mvC c dx dy), cE c) = (i + 1, ring + 1, cV (mvC c dx dy), cE c) := by
            unfold clR shP shR shV shE
            have : (fun r => if r = ring then min (i + 1) 40 else cE c r) = cE c := by
              funext x
              by_cases y : x = ring
              · rw [if_pos y, y, e]; omega
              · rw [if_neg y]
            simp only [this]
          rw [es2] at u3
          have S2 : SH n σ2 a1 c := S1.fk u2 (fun j k hj y => by unfold PSh at y; omega)
          rw [if_pos ((nI_q' (by omega) (by omega)).mpr e), u1, bd, b_X7_copyMoved_75, nI_s, nI_s]
          obtain ⟨σ3, v1, v2, v3⟩ := ih (i + 1) (ring + 1) σ2 (by omega) (by omega) (by omega) (fun x hx => by
            by_cases y : x = ring
            · rw [y, e]; omega
            · have := he x (by omega); omega) (fun y => by have := F.e1 y; omega) S2 u3
          exact ⟨σ3, v1, (t2.trans u2).trans v2, v3⟩
        · rw [if_neg (fun y => e ((nI_q' (by omega) (by omega)).mp y))]
          obtain ⟨σ2, u1, u2, u3⟩ := ih (i + 1) ring σ1 (by omega) (by omega) hr (fun r hr => by have := he r hr; omega) (fun y => by omega) S1 t3
          exact ⟨σ2, u1, t2.trans u2, u3⟩
set_option maxHeartbeats 200000 in
theorem e_copyMoved {n : Nat} {σ : xσ} {a a1 : Nat} {c : Ct} (oa : okS n a) (S : SH n σ a1 c) (F : WF c) {dx dy : Int} (dj : a + 5 ≤ a1 ∨ a1 + 5 ≤ a) (hb : ∀ i, i < cN c → bV (cV (mvC c dx dy) i)) : ∃ σ', f_X7_copyMoved n a a1 (iI dx) (iI dy) σ = some ((), σ') ∧ Fk (PSh a) σ σ' ∧ SH n σ' a (mvC c dx dy) := by
  have hN := F.n
  have hR := F.r
  obtain ⟨σ1, t1, t2, t3⟩ := e_start (σ := σ) oa (cK c) (cV (mvC c dx dy)) (cE c)
  have S1 : SH n σ1 a1 c := S.fk t2 (fun j k hj y => by unfold PSh at y; omega)
  obtain ⟨σ2, u1, u2, u3⟩ := l_copyMoved (dx := dx) (dy := dy) F dj xFU 0 0 σ1 (xFU_lt (by omega)) (by omega) (by omega) (fun r hr => by omega) (fun y => by have := (F.e y).1; omega) S1 t3
  obtain ⟨σ3, v1, v2, v3, v4⟩ := e_finish u3 (fun i hi => hb i (by have : i < min (cN c) 40 := hi; omega))
  rw [show nI 0 = 0 from rfl] at u1
  rw [f_X7_copyMoved, gd_pos oa, gd_pos S.1, S.K, t1, bd, u1, v1, bd]
  refine ⟨σ3, rfl, (t2.trans u2).trans (v2.mono (fun b k y => Or.inr ⟨y.1, by have := y.2; omega⟩)), ?_⟩
  exact SH_of v3 (by show 1 ≤ cN c; omega) (by show cN c ≤ 40; omega) (by show cR c ≤ 8; omega) (v4 (by show 1 ≤ cN c; omega))

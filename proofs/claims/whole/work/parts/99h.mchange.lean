/-! the reference: what statements change and put out -/
abbrev Ou := Nat × (Nat → Int32)
def OM (σ : xσ) (w : Ou) : Prop := sI σ 233 44 = nI w.1 ∧ ∀ i, i < w.1 → sI σ 1864 i = w.2 i
def puO (w : Ou) (v : Int32) : Ou := (w.1 + 1, fun i => if i = w.1 then v else w.2 i)
def PPt (b k : Nat) : Prop := (b = 233 ∧ k = 44) ∨ b = 1864
def PXm (b k : Nat) : Prop := (b = 233 ∧ (k < 23 ∨ (32 ≤ k ∧ k ≤ 38) ∨ k = 44 ∨ 56 ≤ k)) ∨ (234 ≤ b ∧ b < 1863) ∨ b = 1864 ∨ (1865 ≤ b ∧ b ≤ 1868) ∨ (1870 ≤ b ∧ b < 2476 ∧ b ≠ 1874)
set_option maxHeartbeats 200000 in
theorem PPt_x {b k : Nat} (h : PPt b k) : PXm b k := by unfold PPt at h; unfold PXm; omega
set_option maxHeartbeats 200000 in
theorem PKm_x {b k : Nat} (h : PKm b k) : PXm b k := by unfold PKm P3x at h; unfold PXm; omega
set_option maxHeartbeats 200000 in
theorem PL8_x {b k : Nat} (h : PL8 b) : PXm b k := by unfold PL8 at h; unfold PXm; omega
set_option maxHeartbeats 200000 in
theorem m_put {n : Nat} {σ : xσ} {w : Ou} (h : OM σ w) (hw : w.1 < 30000) (v : Int32) : ∃ σ', f_X14_put n v σ = some ((), σ') ∧ Fk PPt σ σ' ∧ OM σ' (puO w v) := by
  have e : ∀ x, sI (wI σ 1864 w.1 x) 233 44 = nI w.1 := fun x => by rw [sI_wI, if_neg (by omega)]; exact h.1
  rw [f_X14_put, h.1, gd_in (by omega) (by omega), nI_k (by omega), st, e, nI_s, st]
  refine ⟨_, rfl, (Fk.wI (Or.inr rfl)).trans (Fk.wI (Or.inl ⟨rfl, rfl⟩)), ?_, fun i hi => ?_⟩
  · rw [sI_own]; rfl
  · have hi' : i < w.1 + 1 := hi
    show _ = if i = w.1 then v else w.2 i
    rw [sI_wI, if_neg (by omega)]
    by_cases e : i = w.1
    · rw [if_pos e, e, sI_own]
    · rw [if_neg e, sI_wI, if_neg (fun y => e y.2)]; exact h.2 i (by omega)
set_option maxHeartbeats 200000 in
theorem OM.fk {σ σ' : xσ} {w : Ou} {P : Nat → Nat → Prop} (h : OM σ w) (f : Fk P σ σ') (h1 : ¬ P 233 44) (h2 : ∀ k, ¬ P 1864 k) : OM σ' w := ⟨by rw [(f 233 44 h1).1]; exact h.1, fun i hi => by rw [(f 1864 i (h2 i)).1]; exact h.2 i hi⟩
set_option maxHeartbeats 200000 in
theorem KM.fk {σ σ' : xσ} {k : Kp} {P : Nat → Nat → Prop} (h : KM σ k) (f : Fk P σ σ') (h1 : ∀ j, 32 ≤ j ∧ j ≤ 38 → ¬ P 233 j) (h2 : ∀ b j, 259 ≤ b → b < 1863 → ¬ P b j) : KM σ' k := by
  obtain ⟨⟨⟨u1, T1⟩, u2, T2⟩, ⟨a1, a2⟩, a3, a4, a5, a6⟩ := h
  have z : ∀ j, 32 ≤ j ∧ j ≤ 38 → sI σ' 233 j = sI σ 233 j := fun j hj => (f 233 j (h1 j hj)).1
  refine ⟨⟨⟨u1, T1.fk f (fun b k l1 l2 => h2 b k (by omega) (by omega))⟩, u2, T2.fk f (fun b k l1 l2 => h2 b k (by omega) (by omega))⟩, ⟨by rw [z 32 (by omega)]; exact a1, by rw [z 33 (by omega)]; exact a2⟩, fun y => by rw [z 34 (by omega)]; exact a3 y, by rw [z 35 (by omega)]; exact a4, by rw [z 36 (by omega)]; exact a5, fun y => ⟨by rw [z 37 (by omega)]; exact (a6 y).1, fun q => by rw [z 38 (by omega)]; exact (a6 y).2 q⟩⟩
set_option maxHeartbeats 200000 in
theorem KM.p {σ σ' : xσ} {k : Kp} (h : KM σ k) (f : Fk PPt σ σ') : KM σ' k := h.fk f (fun j hj y => by unfold PPt at y; omega) (fun b j l1 l2 y => by unfold PPt at y; omega)
set_option maxHeartbeats 200000 in
theorem OM.k {σ σ' : xσ} {w : Ou} (h : OM σ w) (f : Fk PKm σ σ') : OM σ' w := h.fk f (fun y => by unfold PKm P3x at y; omega) (fun k y => by unfold PKm P3x at y; omega)
/-! frames that leave open what longs and references of the reference itself are -/
def Fm (P : Nat → Nat → Prop) (σ σ' : xσ) : Prop := (∀ b k, ¬ P b k → sI σ' b k = sI σ b k) ∧ ∀ b k, b ≠ 233 → ¬ P b k → sJ σ' b k = sJ σ b k ∧ sR σ' b k = sR σ b k
set_option maxHeartbeats 200000 in
theorem Fk.m {P : Nat → Nat → Prop} {σ σ' : xσ} (h : Fk P σ σ') : Fm P σ σ' := ⟨fun b k hb => (h b k hb).1, fun b k _ hb => (h b k hb).2⟩
set_option maxHeartbeats 200000 in
theorem Fm.trans {P : Nat → Nat → Prop} {σ1 σ2 σ3 : xσ} (h : Fm P σ1 σ2) (k : Fm P σ2 σ3) : Fm P σ1 σ3 := ⟨fun b j hb => (k.1 b j hb).trans (h.1 b j hb), fun b j h3 hb => ⟨(k.2 b j h3 hb).1.trans (h.2 b j h3 hb).1, (k.2 b j h3 hb).2.trans (h.2 b j h3 hb).2⟩⟩
set_option maxHeartbeats 200000 in
theorem Fm.refl {P : Nat → Nat → Prop} {σ : xσ} : Fm P σ σ := ⟨fun _ _ _ => rfl, fun _ _ _ _ => ⟨rfl, rfl⟩⟩
set_option maxHeartbeats 200000 in
theorem FrY_m {σ σ' : xσ} (f : FrY σ σ') : Fm PXm σ σ' := by
  have ay : ∀ b, AY b → b = 233 ∨ (234 ≤ b ∧ b ≤ 249) := fun b h => by unfold AY AZ A47 at h; omega
  refine ⟨fun b k hb => ?_, fun b k h3 hb => ?_⟩
  · by_cases y : AY b
    · rcases ay b y with e | e
      · subst e
        exact f.2 k (Classical.byContradiction (fun q => hb (Or.inl ⟨rfl, Or.inl (by omega)⟩)))
      · exact (hb (Or.inr (Or.inl (by omega)))).elim
    · exact (f.1 b y k).1
  · have y : ¬ AY b := fun y => by
      rcases ay b y with e | e
      · exact h3 e
      · exact hb (Or.inr (Or.inl (by omega)))
    exact (f.1 b y k).2
set_option maxHeartbeats 200000 in
theorem FrZ_y {σ σ' : xσ} (f : FrZ σ σ') : FrY σ σ' := ⟨f.1.mono (fun b y => Or.inl y), f.2⟩
set_option maxHeartbeats 200000 in
theorem TbM.y {σ σ' : xσ} {a : Nat} {t : Tb} {u : Nat → Nat} (h : TbM σ a t u) (f : FrY σ σ') : TbM σ' a t u := by
  have o := h.1.1
  have ay : ∀ b, AY b → b < 250 := fun b h => by unfold AY AZ A47 at h; omega
  have g : Fk (fun b _ => AY b) σ σ' := Fk.of f.1
  exact h.fk g (fun b k l1 l2 y => by have := ay b y; unfold okU at o; omega)
set_option maxHeartbeats 200000 in
theorem KM.y {σ σ' : xσ} {k : Kp} (h : KM σ k) (f : FrY σ σ') : KM σ' k := by
  obtain ⟨⟨⟨u1, T1⟩, u2, T2⟩, ⟨a1, a2⟩, a3, a4, a5, a6⟩ := h
  have z : ∀ j, 23 ≤ j → sI σ' 233 j = sI σ 233 j := f.2
  exact ⟨⟨⟨u1, T1.y f⟩, u2, T2.y f⟩, ⟨by rw [z 32 (by omega)]; exact a1, by rw [z 33 (by omega)]; exact a2⟩, fun y => by rw [z 34 (by omega)]; exact a3 y, by rw [z 35 (by omega)]; exact a4, by rw [z 36 (by omega)]; exact a5, fun y => ⟨by rw [z 37 (by omega)]; exact (a6 y).1, fun q => by rw [z 38 (by omega)]; exact (a6 y).2 q⟩⟩
set_option maxHeartbeats 200000 in
theorem OM.y {σ σ' : xσ} {w : Ou} (h : OM σ w) (f : FrY σ σ') : OM σ' w := ⟨by rw [f.2 44 (by omega)]; exact h.1, fun i hi => by rw [(f.1 1864 (by unfold AY AZ A47; omega) i).1]; exact h.2 i hi⟩
def outW (w : Ou) (r : Int × Kp) : Ou := if r.1 = -1 then w else puO w (iI r.1)
def StX (σ : xσ) (f : Option (Unit × xσ)) (w : Ou) (r : Int × Kp) : Prop := ∃ σ', f = some ((), σ') ∧ Fm PXm σ σ' ∧ KM σ' r.2 ∧ OM σ' (outW w r)
set_option maxHeartbeats 200000 in
theorem StX.of {σ σ1 : xσ} {f : Option (Unit × xσ)} {w : Ou} {r : Int × Kp} (F : Fm PXm σ σ1) (h : StX σ1 f w r) : StX σ f w r := by
  obtain ⟨σ', t1, t2, t3, t4⟩ := h
  exact ⟨σ', t1, F.trans t2, t3, t4⟩
/-! a number is put out, and nothing is changed -/
set_option maxHeartbeats 200000 in
theorem m_say {n : Nat} {σ : xσ} {k : Kp} (h : KM σ k) {w : Ou} (hO : OM σ w) (hw : w.1 < 30000) {v : Int} (hv : v ≠ -1) : StX σ (f_X14_put n (iI v) σ) w (v, k) := by
  obtain ⟨σ', t1, t2, t3⟩ := m_put (n := n) hO hw (iI v)
  refine ⟨σ', t1, (t2.mono (fun _ _ => PPt_x)).m, h.p t2, ?_⟩
  unfold outW
  rw [if_neg hv]
  exact t3
set_option maxHeartbeats 200000 in
theorem m_hasRoom {n : Nat} {σ : xσ} {k : Kp} (h : KM σ k) (hB : kB k ≤ 14112) (hD : kD k = false) {m : Nat} (hm : m ≤ 1000) : f_X14_hasRoom n (nI m) σ = some (tf (room k m), σ) := by
  have h34 := h.2.2.1 hD
  rw [f_X14_hasRoom, h34, nI_ad]
  unfold room
  cases e : kO k with
  | true =>
    rw [if_pos rfl]
    simp only [nIh14112 (show kB k + m < 2147483648 by omega)]
    by_cases q : 14112 < kB k + m
    · rw [if_pos q, tf_f (fun y => by rcases y with y | y; cases y; omega)]
    · rw [if_neg q, tf_t (Or.inr (by omega))]
  | false =>
    rw [if_neg (show ¬ false = true by decide), Nat.zero_add]
    simp only [nIh14112 (show m < 2147483648 by omega)]
    rw [if_neg (by omega), tf_t (Or.inl trivial)]
set_option maxHeartbeats 200000 in
theorem closeK_id {k : Kp} (h : kO k = false) : closeK k = k := by unfold closeK; rw [← h]; rfl
set_option maxHeartbeats 200000 in
theorem m_commit {n : Nat} {σ : xσ} {k : Kp} (h : KM σ k) (okL : okTb (kL k)) (hk3 : kK k = -1 ∨ kK k = 0 ∨ kK k = 1) (hX : kK k = 0 → 1 ≤ kX k ∧ kX k ≤ 1000) (hU : kU k ≤ 64) (hD : kD k = false) {c : Nat} (hc : c ≤ 14112) {σ0 : xσ} (hs : Fk (fun b j => b = 233 ∧ j = 34) σ σ0) (h34 : sI σ0 233 34 = nI c) {w : Ou} (hO : OM σ w) (hw : w.1 < 30000) : StX σ (bd (f_X14_isCommitted n σ0) (fun v σ1 => if v = 0 then some ((), σ1) else f_X14_put n 0 σ1)) w (wlK (closeK k) c) := by
  obtain ⟨⟨⟨u1, T1⟩, u2, T2⟩, ⟨a1, a2⟩, a3, a4, a5, a6⟩ := h
  have z : ∀ j, j ≠ 34 → sI σ0 233 j = sI σ 233 j := fun j hj => (hs 233 j (fun y => hj y.2)).1
  have K0 : KM0 σ0 k := ⟨⟨⟨u1, T1.fk hs (fun b k l1 l2 y => by omega)⟩, u2, T2.fk hs (fun b k l1 l2 y => by omega)⟩, by rw [z 33 (by omega), a2, hD]; rfl, by rw [z 35 (by omega)]; exact a4, by rw [z 36 (by omega)]; exact a5, by rw [z 37 (by omega)]; exact (a6 hD).1, fun y => by rw [z 38 (by omega)]; exact (a6 hD).2 y⟩
  obtain ⟨σ1, t1, t2, t3, t4⟩ := m_isCommitted (n := n) okL hk3 hX hU hD K0 hc h34
  have F0 : Fk PXm σ σ0 := hs.mono (fun b k y => by unfold PXm; omega)
  have O1 : OM σ1 w := (hO.fk hs (by omega) (fun k => by omega)).k t2
  rw [t1, bd]
  rcases t4 with e | e
  · rw [if_neg (tn (by rw [e]; decide))]
    obtain ⟨σ2, v1, v2, v3⟩ := m_put (n := n) O1 hw 0
    refine ⟨σ2, v1, ((F0.trans (t2.mono (fun _ _ => PKm_x))).trans (v2.mono (fun _ _ => PPt_x))).m, t3.p v2, ?_⟩
    unfold outW
    rw [if_neg (by rw [e]; decide), e]
    exact v3
  · rw [if_pos (tf_f (fun y => y e))]
    refine ⟨σ1, rfl, (F0.trans (t2.mono (fun _ _ => PKm_x))).m, t3, ?_⟩
    unfold outW
    rw [if_pos e]
    exact O1
set_option maxHeartbeats 200000 in
theorem m_changed {n : Nat} {σ : xσ} {k : Kp} (h : KM σ k) (okL : okTb (kL k)) (hk3 : kK k = -1 ∨ kK k = 0 ∨ kK k = 1) (hX : kK k = 0 → 1 ≤ kX k ∧ kX k ≤ 1000) (hU : kU k ≤ 64) (hD : kD k = false) {m : Nat} (hm : m ≤ 1000) (hB : kB k ≤ 14112) {w : Ou} (hO : OM σ w) (hw : w.1 < 30000) : StX σ (f_X14_changed n (nI m) σ) w (stK k m) := by
  have h34 := h.2.2.1 hD
  have h32 := h.2.1.1
  rw [f_X14_changed, h34, nI_ad, st]
  have hs : ∀ v, Fk (fun b j => b = 233 ∧ j = 34) σ (wI σ 233 34 v) := fun v => Fk.wI ⟨rfl, rfl⟩
  have e32 : ∀ v, sI (wI σ 233 34 v) 233 32 = bI (kO k) := fun v => by rw [sI_wI, if_neg (by omega)]; exact h32
  rw [e32]
  unfold stK
  cases e : kO k with
  | false =>
    rw [if_pos (show bI false = 0 from rfl), if_neg (show ¬ false = true by decide), if_neg (show ¬ false = true by decide), Nat.zero_add]
    have := m_commit (n := n) h okL hk3 hX hU hD (c := m) (by omega) (hs (nI m)) (by rw [sI_own]) hO hw
    rw [closeK_id e] at this
    simp only [bd_id]
    exact this
  | true =>
    rw [if_neg (show ¬ bI true = 0 by decide), if_pos rfl, if_pos rfl, bd_id]
    obtain ⟨⟨⟨u1, T1⟩, u2, T2⟩, ⟨a1, a2⟩, a3, a4, a5, a6⟩ := h
    have K1 : KM (wI σ 233 34 (nI (kB k + m))) (kL k, kC k, (true, kD k), (kB k + m, kU k), kS k, (kK k, kX k)) := by
      refine ⟨⟨⟨u1, T1.z⟩, u2, T2.z⟩, ⟨?_, ?_⟩, fun _ => ?_, ?_, ?_, fun y => ⟨?_, fun q => ?_⟩⟩
      · rw [sI_wI, if_neg (by omega), a1, e]; rfl
      · rw [sI_wI, if_neg (by omega)]; exact a2
      · rw [sI_own]; rfl
      · rw [sI_wI, if_neg (by omega)]; exact a4
      · rw [sI_wI, if_neg (by omega)]; exact a5
      · rw [sI_wI, if_neg (by omega)]; exact (a6 y).1
      · rw [sI_wI, if_neg (by omega)]; exact (a6 y).2 q
    have := m_say (n := n) K1 (hO.fk (hs _) (by omega) (fun k => by omega)) hw (v := 0) (by decide)
    exact this.of ((hs _).mono (fun b k y => by unfold PXm; omega)).m
set_option maxHeartbeats 200000 in
theorem m_say' {n : Nat} {σ : xσ} {k : Kp} (h : KM σ k) {w : Ou} (hO : OM σ w) (hw : w.1 < 30000) {v : Int} (hv : v ≠ -1) {x : Int32} (e : x = iI v) : StX σ (bd (f_X14_put n x σ) (fun _ s => some ((), s))) w (v, k) := by rw [bd_id, e]; exact m_say h hO hw hv
/-! a new live table -/
set_option maxHeartbeats 200000 in
theorem KM.L {σ σ' : xσ} {k : Kp} {L : Tb} (h : KM σ k) (f : Fk (fun b _ => PL8 b) σ σ') (hT : ∃ u, TbM σ' 259 L u) : KM σ' (withL k L) := by
  obtain ⟨⟨_, u2, T2⟩, ⟨a1, a2⟩, a3, a4, a5, a6⟩ := h
  have z : ∀ j, sI σ' 233 j = sI σ 233 j := fun j => (f 233 j (by unfold PL8; omega)).1
  exact ⟨⟨hT, u2, T2.fk f (fun b k l1 l2 y => by unfold PL8 at y; omega)⟩, ⟨by rw [z]; exact a1, by rw [z]; exact a2⟩, fun y => by rw [z]; exact a3 y, by rw [z]; exact a4, by rw [z]; exact a5, fun y => ⟨by rw [z]; exact (a6 y).1, fun q => by rw [z]; exact (a6 y).2 q⟩⟩
set_option maxHeartbeats 200000 in
theorem OM.l {σ σ' : xσ} {w : Ou} (h : OM σ w) (f : Fk (fun b _ => PL8 b) σ σ') : OM σ' w := h.fk f (by unfold PL8; omega) (fun k => by unfold PL8; omega)
set_option maxHeartbeats 200000 in
theorem m_put2 {n : Nat} {σ : xσ} {k : Kp} (o : okK k) (hD : kD k = false) {L : Tb} (oL : okTb L) (hK : KM σ (withL k L)) {m : Nat} (hm : m ≤ 1000) {w : Ou} (hO : OM σ w) (hw : w.1 < 30000) : StX σ (f_X14_changed n (nI m) σ) w (stK (withL k L) m) := by
  obtain ⟨o1, ⟨o2, o3⟩, o4, o5, o6, o7⟩ := o
  exact m_changed hK oL o4 o5 o3 hD hm o2 hO hw
set_option maxHeartbeats 200000 in
theorem m_addK {n : Nat} {σ : xσ} {k : Kp} (h : KM σ k) (o : okK k) (hD : kD k = false) {z : Int} (hz : b30 z) {kn : Nat} {s : Sh} (hs : ShN σ kn s) (hW : ¬ (40 < shP s ∨ 8 < shR s) → WF ((kn, s) : Ct)) {w : Ou} (hO : OM σ w) (hw : w.1 < 30000) : StX σ (f_X14_add n (iI z) σ) w (addK k z (40 < shP s ∨ 8 < shR s) (kn, s)) := by
  have rz : R32 z := hz.r
  have L := o.1.1
  have l2 := L.1
  obtain ⟨u, T⟩ := h.1.1
  obtain ⟨H, h50, h51, hp, hr⟩ := hs
  rw [f_X14_add]
  simp only [iIl1 rz, iIe9999 rz]
  unfold addK
  by_cases q1 : z < 1
  · rw [if_pos q1, ifP_t (Or.inl q1)]; exact m_say' h hO hw (v := 5) (by decide) rfl
  rw [if_neg q1]
  by_cases q2 : 9999 < z
  · rw [if_neg (by omega), ifP_t (Or.inr q2)]; exact m_say' h hO hw (v := 5) (by decide) rfl
  rw [if_pos (by omega), ifP_f (by omega), m_find L T rz, bd]
  simp only [iIl0 (fd_R L z)]
  by_cases q3 : 0 ≤ fdT (kL k) z
  · rw [if_neg (by omega), ifP_t q3]; exact m_say' h hO hw (v := 1) (by decide) rfl
  have tg : f_X14_isTooGreat n σ = some (tf (40 < shP s ∨ 8 < shR s), σ) := by
    rw [f_X14_isTooGreat, h50, h51]
    simp only [nIh40 (show shP s < 2147483648 by omega), nIe8 (show shR s < 2147483648 by omega)]
    by_cases a : 40 < shP s
    · rw [if_pos a, tf_t (Or.inl a)]
    · rw [if_neg a]
      by_cases b : shR s ≤ 8
      · rw [if_pos b, tf_f (by omega)]
      · rw [if_neg b, tf_t (by omega)]
  rw [if_pos (by omega), ifP_f q3, tg, bd]
  by_cases q4 : 40 < shP s ∨ 8 < shR s
  · rw [if_neg (tn q4), ifP_t q4]; exact m_say' h hO hw (v := 4) (by decide) rfl
  have W := hW q4
  have S : MH σ 1865 ((kn, s) : Ct) := MH_of H (by omega) (by omega)
  obtain ⟨σ1, f1, t1⟩ := m_isValid (n := n) S W (by omega)
  have S1 : MH σ1 1865 ((kn, s) : Ct) := S.y f1 (by omega)
  have h1 := h.y f1
  have O1 := hO.y f1
  have F1 := FrY_m f1
  refine StX.of F1 ?_
  rw [if_pos (tf_f q4), ifP_f q4, t1, bd]
  by_cases q5 : Val ((kn, s) : Ct)
  · have hN := W.n
    have hR := W.r
    have eB : (16 + 4 * nI (cR ((kn, s) : Ct))) + 8 * nI (cN ((kn, s) : Ct)) = nI (16 + 4 * cR ((kn, s) : Ct) + 8 * cN ((kn, s) : Ct)) := by
      rw [nI_i, nI_i, nI_i, show (16 : Int32) = iI 16 from rfl, show (4 : Int32) = iI 4 from rfl, show (8 : Int32) = iI 8 from rfl, iI_mul, iI_mul, iI_add, iI_add]
      rfl
    obtain ⟨u', T'⟩ := h1.1.1
    rw [if_neg (tn q5), ifP_f (fun y => y q5), S1.R, S1.N, eB, st, T'.1.2.1]
    simp only [nIq200 (show tC (kL k) < 2147483648 by omega)]
    by_cases q6 : tC (kL k) = 200
    · rw [if_pos q6, ifP_t (Or.inl (by omega))]; exact m_say' h1 O1 hw (v := 4) (by decide) rfl
    rw [if_neg q6, m_hasRoom h1 o.2.1.1 hD (by omega), bd]
    by_cases q7 : room k (16 + 4 * cR ((kn, s) : Ct) + 8 * cN ((kn, s) : Ct))
    · rw [if_neg (tn q7), ifP_f (fun y => by rcases y with y | y; omega; exact y q7)]
      have nid : ∀ j, j < tC (kL k) → tI (kL k) j ≠ z := by
        rcases fdT_v (kL k) z with ⟨_, b⟩ | ⟨j, a, _⟩
        · exact b
        · omega
      obtain ⟨σ2, u2, v1, v2, v3⟩ := m_addT (n := n) L T' (by omega) rz S1 W
      have K2 := h1.L v2 ⟨u2, v3⟩
      rw [v1, bd, bd_id]
      exact (m_put2 o hD (okTb_ins L ⟨by omega, by omega⟩ nid (by omega) ⟨W, q5⟩) K2 (by omega) (O1.l v2) hw).of (v2.mono (fun _ _ => PL8_x)).m
    · rw [if_pos (tf_f q7), ifP_t (Or.inr q7)]; exact m_say' h1 O1 hw (v := 4) (by decide) rfl
  · rw [if_pos (tf_f q5), ifP_t q5]; exact m_say' h1 O1 hw (v := 3) (by decide) rfl
set_option maxHeartbeats 200000 in
theorem m_dropK {n : Nat} {σ : xσ} {k : Kp} (h : KM σ k) (o : okK k) (hD : kD k = false) {z : Int} (hz : b30 z) {w : Ou} (hO : OM σ w) (hw : w.1 < 30000) : StX σ (f_X14_drop n (iI z) σ) w (dropK k z) := by
  have rz : R32 z := hz.r
  have L := o.1.1
  have l2 := L.1
  obtain ⟨u, T⟩ := h.1.1
  rw [f_X14_drop, m_find L T rz, bd]
  simp only [iIg0 (fd_R L z)]
  unfold dropK
  by_cases q1 : fdT (kL k) z < 0
  · rw [if_neg (by omega), ifP_t q1]; exact m_say' h hO hw (v := 2) (by decide) rfl
  obtain ⟨i1, i2, i3⟩ := fd_lt q1
  rw [if_pos (by omega), ifP_f q1, show (8 : Int32) = nI 8 from rfl, m_hasRoom h o.2.1.1 hD (by omega), bd]
  by_cases q2 : room k 8
  · rw [if_neg (tn q2), ifP_f (fun y => y q2)]
    obtain ⟨σ1, u', t1, t2, t3⟩ := m_dropT (n := n) L T i1
    have ei : iI (fdT (kL k) z) = nI (fdT (kL k) z).toNat := by rw [nI_i, ← i2]
    have K1 := h.L t2 ⟨u', t3⟩
    rw [ei, t1, bd, bd_id]
    exact (m_put2 o hD (okTb_rem L i1) K1 (by omega) (hO.l t2) hw).of (t2.mono (fun _ _ => PL8_x)).m
  · rw [if_pos (tf_f q2), ifP_t q2]; exact m_say' h hO hw (v := 4) (by decide) rfl
set_option maxHeartbeats 200000 in
theorem TbM.eq {σ : xσ} {a : Nat} {t v : Tb} {u : Nat → Nat} (h : TbM σ a t u) (e : eqTb v t) : TbM σ a v u := by
  obtain ⟨⟨h1, h2, h2'⟩, h3, h4, h5⟩ := h
  refine ⟨⟨h1, by rw [e.1]; exact h2, by rw [e.1]; exact h2'⟩, h3, h4, fun i hi => ?_⟩
  have := e.2 i hi
  rw [this.1, this.2]
  exact h5 i (by rw [← e.1]; exact hi)
set_option maxHeartbeats 200000 in
theorem m_plain {n : Nat} {σ : xσ} {k : Kp} (h : KM σ k) (o : okK k) (hD : kD k = false) {v : Nat} (hv : 4 ≤ v ∧ v ≤ 8) {w : Ou} (hO : OM σ w) (hw : w.1 < 30000) : StX σ (plnM n v σ) w (trK k v) := by
  obtain ⟨o1, ⟨o2, o3⟩, o4, o5, o6, o7⟩ := id o
  obtain ⟨⟨⟨u1, T1⟩, u2, T2⟩, ⟨a1, a2⟩, a3, a4, a5, a6⟩ := id h
  have say : ∀ x : Int32, ∀ y : Int, x = iI y → y ≠ -1 → StX σ (f_X14_put n x σ) w (y, k) := fun x y e hy => by rw [e]; exact m_say h hO hw hy
  have g33 : bI (kD k) = 0 := by rw [hD]; rfl
  unfold plnM trK
  rcases (show v = 4 ∨ v = 5 ∨ v = 6 ∨ v = 7 ∨ v = 8 by omega) with rfl | rfl | rfl | rfl | rfl
  · simp only [show ((4 : Nat) = 4) = True from eq_true rfl, show ((4 : Nat) = 5) = False from eq_false (by decide), show ((4 : Nat) = 6) = False from eq_false (by decide), show ((4 : Nat) = 7) = False from eq_false (by decide), if_true, if_false]
    rw [a1]
    cases e : kO k with
    | true => rw [if_neg (show ¬ bI true = 0 by decide), if_pos rfl]; exact say 6 6 rfl (by decide)
    | false =>
      rw [if_pos (show bI false = 0 from rfl), st, st, if_neg (by decide)]
      have F : Fk PKm σ (wI (wI σ 233 32 1) 233 34 0) := (F3 (by omega)).trans (F3 (by omega))
      have K1 : KM (wI (wI σ 233 32 1) 233 34 0) (kL k, kC k, (true, kD k), (0, kU k), kS k, (kK k, kX k)) := by
        refine ⟨⟨⟨u1, T1.z.z⟩, u2, T2.z.z⟩, ⟨?_, ?_⟩, fun _ => ?_, ?_, ?_, fun y => ⟨?_, fun q => ?_⟩⟩
        · rw [sI_wI, if_neg (by omega), sI_own]; rfl
        · rw [sI_wI, if_neg (by omega), sI_wI, if_neg (by omega)]; exact a2
        · rw [sI_own]; rfl
        · rw [sI_wI, if_neg (by omega), sI_wI, if_neg (by omega)]; exact a4
        · rw [sI_wI, if_neg (by omega), sI_wI, if_neg (by omega)]; exact a5
        · rw [sI_wI, if_neg (by omega), sI_wI, if_neg (by omega)]; exact (a6 y).1
        · rw [sI_wI, if_neg (by omega), sI_wI, if_neg (by omega)]; exact (a6 y).2 q
      exact (m_say (v := 0) K1 (hO.k F) hw (by decide)).of (F.mono (fun _ _ => PKm_x)).m
  · simp only [show ((5 : Nat) = 4) = False from eq_false (by decide), show ((5 : Nat) = 5) = True from eq_true rfl, show ((5 : Nat) = 6) = False from eq_false (by decide), show ((5 : Nat) = 7) = False from eq_false (by decide), if_true, if_false]
    rw [a1]
    cases e : kO k with
    | false => rw [if_pos (show bI false = 0 from rfl), if_neg (by decide)]; exact say 6 6 rfl (by decide)
    | true =>
      rw [if_neg (show ¬ bI true = 0 by decide), if_pos rfl]
      have h34 := a3 hD
      rw [e, if_pos rfl] at h34
      exact m_commit h o1.1 o4 o5 o3 hD o2 Fk.refl h34 hO hw
  · simp only [show ((6 : Nat) = 4) = False from eq_false (by decide), show ((6 : Nat) = 5) = False from eq_false (by decide), show ((6 : Nat) = 6) = True from eq_true rfl, show ((6 : Nat) = 7) = False from eq_false (by decide), if_true, if_false]
    rw [a1]
    cases e : kO k with
    | false => rw [if_pos (show bI false = 0 from rfl), if_neg (by decide)]; exact say 6 6 rfl (by decide)
    | true =>
      obtain ⟨σ1, t1, t2, t3, t4⟩ := m_takeT (n := n) (a0 := 259) (a1 := 1061) (Or.inl ⟨rfl, rfl⟩) o1.2 T1 T2
      rw [if_neg (show ¬ bI true = 0 by decide), if_pos rfl, t1, bd, st, st]
      have F : Fk PKm σ (wI (wI σ1 233 32 0) 233 34 0) := ((t2.mono (fun b k y => Or.inr (by omega))).trans (F3 (by omega))).trans (F3 (by omega))
      have z : ∀ j, sI σ1 233 j = sI σ 233 j := fun j => (t2 233 j (by omega)).1
      have K1 : KM (wI (wI σ1 233 32 0) 233 34 0) (kC k, kC k, (false, kD k), (kB k, kU k), kS k, (kK k, kX k)) := by
        refine ⟨⟨⟨u1, t3.z.z⟩, u2, t4.z.z⟩, ⟨?_, ?_⟩, fun _ => ?_, ?_, ?_, fun y => ⟨?_, fun q => ?_⟩⟩
        · rw [sI_wI, if_neg (by omega), sI_own]; rfl
        · rw [sI_wI, if_neg (by omega), sI_wI, if_neg (by omega), z]; exact a2
        · rw [sI_own]; rfl
        · rw [sI_wI, if_neg (by omega), sI_wI, if_neg (by omega), z]; exact a4
        · rw [sI_wI, if_neg (by omega), sI_wI, if_neg (by omega), z]; exact a5
        · rw [sI_wI, if_neg (by omega), sI_wI, if_neg (by omega), z]; exact (a6 y).1
        · rw [sI_wI, if_neg (by omega), sI_wI, if_neg (by omega), z]; exact (a6 y).2 q
      exact (m_say (v := 0) K1 (hO.k F) hw (by decide)).of (F.mono (fun _ _ => PKm_x)).m
  · simp only [show ((7 : Nat) = 4) = False from eq_false (by decide), show ((7 : Nat) = 5) = False from eq_false (by decide), show ((7 : Nat) = 6) = False from eq_false (by decide), show ((7 : Nat) = 7) = True from eq_true rfl, if_true, if_false]
    exact say 0 0 rfl (by decide)
  · simp only [show ((8 : Nat) = 4) = False from eq_false (by decide), show ((8 : Nat) = 5) = False from eq_false (by decide), show ((8 : Nat) = 6) = False from eq_false (by decide), show ((8 : Nat) = 7) = False from eq_false (by decide), if_true, if_false]
    rw [a1]
    cases e : kO k with
    | true => rw [if_neg (show ¬ bI true = 0 by decide), if_pos rfl]; exact say 6 6 rfl (by decide)
    | false =>
      have K0 : KM0 σ k := ⟨⟨⟨u1, T1⟩, u2, T2⟩, by rw [a2, g33], a4, a5, (a6 hD).1, (a6 hD).2⟩
      obtain ⟨σ1, t1, t2, t3, t4⟩ := m_isSaved (n := n) K0 o4
      rw [if_pos (show bI false = 0 from rfl), t1, bd, if_neg (show ¬ false = true by decide)]
      unfold svK
      by_cases q : kK k = 1
      · rw [if_pos q, if_pos (tf_f (fun y => y q))]
        exact ⟨σ1, rfl, (t2.mono (fun _ _ => PKm_x)).m, t3 q, by unfold outW; rw [if_pos rfl]; exact hO.k t2⟩
      · rw [if_neg q, if_neg (tn q)]
        obtain ⟨⟨⟨v1, S1⟩, v2, S2⟩, s2, s3, s4⟩ := t4 q
        have K1 : KM σ1 (kL k, kL k, (kO k, kD k), (kB k, 0), kS k + 1, (kK k, kX k)) := by
          refine ⟨⟨⟨v1, S1⟩, v2, S2.eq (o7 e hD)⟩, ⟨?_, ?_⟩, fun _ => ?_, ?_, ?_, fun y => ⟨?_, fun q => ?_⟩⟩
          · rw [s4 32 (by omega) (by omega)]; exact a1
          · rw [s4 33 (by omega) (by omega)]; exact a2
          · rw [s4 34 (by omega) (by omega)]; exact a3 hD
          · rw [s2]; rfl
          · rw [s3]; rfl
          · rw [s4 37 (by omega) (by omega)]; exact (a6 hD).1
          · rw [s4 38 (by omega) (by omega)]; exact (a6 hD).2 q
        exact (m_say (v := 0) K1 (hO.k t2) hw (by decide)).of (t2.mono (fun _ _ => PKm_x)).m

/-! THE STATE of both objects as three rows of numbers by address and place; what stands where never changes -/
abbrev xσ : Type := (Nat → Nat → Int32) × (Nat → Nat → Int64) × (Nat → Nat → Option Nat)
def sI (σ : xσ) (a k : Nat) : Int32 := σ.1 a k
def sJ (σ : xσ) (a k : Nat) : Int64 := σ.2.1 a k
def sR (σ : xσ) (a k : Nat) : Option Nat := σ.2.2 a k
def wI (σ : xσ) (a k : Nat) (v : Int32) : xσ := (fun b j => if b = a ∧ j = k then v else σ.1 b j, σ.2.1, σ.2.2)
def wJ (σ : xσ) (a k : Nat) (v : Int64) : xσ := (σ.1, fun b j => if b = a ∧ j = k then v else σ.2.1 b j, σ.2.2)
def wR (σ : xσ) (a k : Nat) (v : Option Nat) : xσ := (σ.1, σ.2.1, fun b j => if b = a ∧ j = k then v else σ.2.2 b j)
/-- five cells from n on begin with nothing in them -/
def wN (σ : xσ) (n : Nat) : xσ := (fun b j => if n ≤ b ∧ b < n + 5 then 0 else σ.1 b j, fun b j => if n ≤ b ∧ b < n + 5 then 0 else σ.2.1 b j, fun b j => if n ≤ b ∧ b < n + 5 then none else σ.2.2 b j)
theorem sI_wI (σ : xσ) (a k : Nat) (v : Int32) (b j : Nat) : sI (wI σ a k v) b j = if b = a ∧ j = k then v else sI σ b j := rfl
theorem sI_wJ (σ : xσ) (a k : Nat) (v : Int64) (b j : Nat) : sI (wJ σ a k v) b j = sI σ b j := rfl
theorem sI_wR (σ : xσ) (a k : Nat) (v : Option Nat) (b j : Nat) : sI (wR σ a k v) b j = sI σ b j := rfl
theorem sJ_wI (σ : xσ) (a k : Nat) (v : Int32) (b j : Nat) : sJ (wI σ a k v) b j = sJ σ b j := rfl
theorem sJ_wJ (σ : xσ) (a k : Nat) (v : Int64) (b j : Nat) : sJ (wJ σ a k v) b j = if b = a ∧ j = k then v else sJ σ b j := rfl
theorem sJ_wR (σ : xσ) (a k : Nat) (v : Option Nat) (b j : Nat) : sJ (wR σ a k v) b j = sJ σ b j := rfl
theorem sR_wI (σ : xσ) (a k : Nat) (v : Int32) (b j : Nat) : sR (wI σ a k v) b j = sR σ b j := rfl
theorem sR_wJ (σ : xσ) (a k : Nat) (v : Int64) (b j : Nat) : sR (wJ σ a k v) b j = sR σ b j := rfl
theorem sR_wR (σ : xσ) (a k : Nat) (v : Option Nat) (b j : Nat) : sR (wR σ a k v) b j = if b = a ∧ j = k then v else sR σ b j := rfl
/-- what stands at an address: a row (its type, its length) or an object (its sort) -/
def xTp : Nat → (Nat × Nat) ⊕ Nat
  | 0 => .inr 6
  | 1 => .inl (0, 40)
  | 2 => .inl (0, 40)
  | 3 => .inl (0, 8)
  | _ => .inl (3, 40)
def xTq : Nat → (Nat × Nat) ⊕ Nat
  | 0 => .inr 11
  | 1 => .inl (0, 8)
  | _ => .inl (0, 40)
def xTr : Nat → (Nat × Nat) ⊕ Nat
  | 0 => .inr 10
  | _ => .inl (2, 8)
def xTs (a : Nat) : (Nat × Nat) ⊕ Nat :=
  if 31 ≤ a ∧ a < 231 then .inr 2 else if 5 ≤ a ∧ a < 10 then xTp (a - 5) else if 19 ≤ a ∧ a < 24 then xTp (a - 19) else
  if a = 0 then .inr 9 else if a = 1 then .inr 8 else if a = 2 then .inl (1, 4000) else if a = 3 then .inr 4 else if a = 4 then .inl (0, 6) else if a = 10 then .inr 3 else
  if a = 11 ∨ a = 14 then .inr 7 else if a = 12 ∨ a = 15 then .inl (0, 200) else if a = 13 ∨ a = 16 then .inl (4, 200) else if a = 17 then .inl (4, 401) else
  if a = 18 then .inr 1 else if a = 24 ∨ a = 25 then .inl (2, 80) else if a = 26 then .inl (0, 80) else if a = 27 then .inr 0 else if a = 28 then .inl (0, 8) else
  if a = 29 then .inr 5 else if a = 30 then .inl (5, 200) else if a = 231 then .inl (0, 200) else .inl (0, 20000)
def xTm (a : Nat) : (Nat × Nat) ⊕ Nat :=
  if 261 ≤ a ∧ a < 1061 then xTq ((a - 261) % 4) else if 1063 ≤ a ∧ a < 1863 then xTq ((a - 1063) % 4) else if 1876 ≤ a then xTr ((a - 1876) % 3) else
  if 241 ≤ a ∧ a < 249 then xTq ((a - 241) % 4) else if 250 ≤ a ∧ a < 259 then xTr ((a - 250) % 3) else if 1865 ≤ a ∧ a < 1869 then xTq (a - 1865) else if 1870 ≤ a ∧ a < 1874 then xTq (a - 1870) else
  if a = 233 then .inr 13 else if 234 ≤ a ∧ a < 238 then .inl (2, 8) else if a = 238 ∨ a = 239 then .inl (2, 82) else if a = 240 then .inl (3, 8) else if a = 249 then .inl (0, 8) else
  if a = 259 ∨ a = 1061 then .inr 12 else if a = 260 ∨ a = 1062 then .inl (6, 200) else if a = 1863 then .inl (0, 4000) else if a = 1864 then .inl (0, 30000) else if a = 1869 then .inl (0, 8) else
  if a = 1874 then .inl (7, 200) else .inl (0, 200)
def xTy (a : Nat) : (Nat × Nat) ⊕ Nat := if a < 233 then xTs a else if a < 2476 then xTm a else xTp ((a - 2476) % 5)
/-- the fields of each sort: 0 an int, 1 a long, 2 a reference that changes, 3 a row that far behind, 4 a fixed address -/
def fkT : List (List (Nat × Nat)) := [[(4, 18), (4, 28)],
  [(2, 0), (0, 0), (0, 0), (0, 0), (0, 0), (0, 0), (0, 0), (4, 24), (4, 25), (4, 26), (0, 0), (0, 0), (0, 0), (0, 0)],
  [(1, 0), (1, 0), (1, 0)],
  [(4, 11), (4, 14), (4, 17), (0, 0), (0, 0), (0, 0), (0, 0), (0, 0), (0, 0), (0, 0), (0, 0), (0, 0)],
  [(4, 4), (4, 5), (0, 0), (0, 0), (0, 0), (0, 0)],
  [(4, 18)],
  [(0, 0), (0, 0), (0, 0), (0, 0), (0, 0), (0, 0), (0, 0), (0, 0), (0, 0), (3, 1), (3, 2), (3, 3), (3, 4)],
  [(3, 1), (3, 2), (0, 0)],
  [(4, 2), (0, 0), (0, 0), (0, 0), (0, 0), (0, 0)],
  [(4, 1), (4, 3), (4, 10), (4, 27), (4, 29), (4, 30), (4, 231), (4, 232), (0, 0), (0, 0), (0, 0)],
  [(3, 1), (3, 2)],
  [(0, 0), (0, 0), (0, 0), (0, 0), (3, 1), (3, 2), (3, 3)],
  [(3, 1), (0, 0)],
  [(4, 234), (4, 235), (4, 236), (4, 237), (0, 0), (0, 0), (0, 0), (0, 0), (0, 0), (0, 0), (1, 0), (1, 0), (1, 0), (0, 0), (4, 238), (4, 239), (0, 0), (0, 0), (0, 0), (0, 0), (1, 0), (1, 0), (0, 0), (4, 240), (4, 241), (4, 245), (4, 249), (4, 250), (4, 253), (4, 256), (4, 259), (4, 1061), (0, 0), (0, 0), (0, 0), (0, 0), (0, 0), (0, 0), (0, 0), (4, 1863), (0, 0), (0, 0), (0, 0), (4, 1864), (0, 0), (0, 0), (0, 0), (0, 0), (0, 0), (4, 1865), (0, 0), (0, 0), (4, 1869), (4, 1870), (4, 1874), (4, 1875), (0, 0), (0, 0)]]
def fk (s k : Nat) : Nat × Nat := (fkT.getD s []).getD k (0, 0)
def xNf (s : Nat) : Nat := (fkT.getD s []).length
def fldV (σ : xσ) (a s k : Nat) : Value :=
  match fk s k with
  | (0, _) => .int (sI σ a k)
  | (1, _) => .long (sJ σ a k)
  | (2, _) => va_rf (sR σ a k)
  | (3, o) => .ref (a + o)
  | (_, o) => .ref o
def xArr (σ : xσ) (a t n : Nat) : vp_A := if t = 2 then (n, .inr (.inl (sJ σ a))) else if t < 4 then (n, .inl (sI σ a)) else (n, .inr (.inr (.inr (.inr (sR σ a)))))
def xCell (σ : xσ) (a : Nat) : xC :=
  match xTy a with
  | .inl (t, n) => .inl (t, xArr σ a t n)
  | .inr s => .inr (s, mkF (fldV σ a s) (xNf s))
def xSl (n : Nat) : Nat := 103911 + 141 * ((n - 2476) / 5)
/-- the heap holds the state, n cells of it -/
def Rl (n : Nat) (σ : xσ) (h : xH) : Prop := (2476 ≤ n ∧ (n - 2476) % 5 = 0) ∧ h.1 = (n, xSl n) ∧ ∀ a, a < n → h.2 a = some (xCell σ a)
/-- an object of the sort s, a row of the type t and length m -/
def At (n a s : Nat) : Prop := xTy a = .inr s ∧ a < n
def Aa (n a t m : Nat) : Prop := xTy a = .inl (t, m) ∧ a < n
theorem Rl.at {n s a : Nat} {σ : xσ} {h : xH} (R : Rl n σ h) (e : xTy a = .inr s) (l : a < 2476) : At n a s := ⟨e, Nat.lt_of_lt_of_le l R.1.1⟩
theorem Rl.aa {n t m a : Nat} {σ : xσ} {h : xH} (R : Rl n σ h) (e : xTy a = .inl (t, m)) (l : a < 2476) : Aa n a t m := ⟨e, Nat.lt_of_lt_of_le l R.1.1⟩
theorem Rl.ob {n s a : Nat} {σ : xσ} {h : xH} (R : Rl n σ h) (g : At n a s) : h.2 a = some (.inr (s, mkF (fldV σ a s) (xNf s))) := by
  rw [R.2.2 a g.2, xCell, g.1]
theorem Rl.ar {n t m a : Nat} {σ : xσ} {h : xH} (R : Rl n σ h) (g : Aa n a t m) : h.2 a = some (.inl (t, xArr σ a t m)) := by
  rw [R.2.2 a g.2, xCell, g.1]
theorem Rl.put {n a : Nat} {σ σ' : xσ} {h h1 : xH} (R : Rl n σ h) (z : h1.1 = h.1) (c : h1.2 a = some (xCell σ' a)) (f : xFr h h1 a) (e : ∀ b, b ≠ a → xCell σ' b = xCell σ b) : Rl n σ' h1 := by
  refine ⟨R.1, z.trans R.2.1, fun b hb => ?_⟩
  by_cases q : b = a
  · subst q; exact c
  · rw [f b q, R.2.2 b hb, e b q]
theorem fldV_wI {σ : xσ} {a s k : Nat} {v : Int32} (hk : fk s k = (0, 0)) : updV (fldV σ a s) k (.int v) = fldV (wI σ a k v) a s := by
  funext j
  simp only [updV, fldV]
  by_cases q : j = k
  · subst q; simp [hk, sI_wI]
  · rw [if_neg q]; split <;> simp_all [sI_wI, sJ_wI, sR_wI]
theorem fldV_wJ {σ : xσ} {a s k : Nat} {v : Int64} (hk : fk s k = (1, 0)) : updV (fldV σ a s) k (.long v) = fldV (wJ σ a k v) a s := by
  funext j
  simp only [updV, fldV]
  by_cases q : j = k
  · subst q; simp [hk, sJ_wJ]
  · rw [if_neg q]; split <;> simp_all [sI_wJ, sJ_wJ, sR_wJ]
theorem fldV_wR {σ : xσ} {a s k b : Nat} (hk : fk s k = (2, 0)) : updV (fldV σ a s) k (.ref b) = fldV (wR σ a k (some b)) a s := by
  funext j
  simp only [updV, fldV]
  by_cases q : j = k
  · subst q; simp [hk, sR_wR, va_rf]
  · rw [if_neg q]; split <;> simp_all [sI_wR, sJ_wR, sR_wR]
theorem xCell_wI {σ : xσ} {a k : Nat} {v : Int32} : ∀ b, b ≠ a → xCell (wI σ a k v) b = xCell σ b := fun b q => by
  have e1 : sI (wI σ a k v) b = sI σ b := by funext j; simp [sI_wI, q]
  have e2 : sJ (wI σ a k v) b = sJ σ b := rfl
  have e3 : sR (wI σ a k v) b = sR σ b := rfl
  have e4 : ∀ s, fldV (wI σ a k v) b s = fldV σ b s := fun s => by funext j; simp only [fldV, e1, e2, e3]
  simp only [xCell, xArr, e1, e2, e3, e4]
theorem xCell_wJ {σ : xσ} {a k : Nat} {v : Int64} : ∀ b, b ≠ a → xCell (wJ σ a k v) b = xCell σ b := fun b q => by
  have e1 : sI (wJ σ a k v) b = sI σ b := rfl
  have e2 : sJ (wJ σ a k v) b = sJ σ b := by funext j; simp [sJ_wJ, q]
  have e3 : sR (wJ σ a k v) b = sR σ b := rfl
  have e4 : ∀ s, fldV (wJ σ a k v) b s = fldV σ b s := fun s => by funext j; simp only [fldV, e1, e2, e3]
  simp only [xCell, xArr, e1, e2, e3, e4]
theorem xCell_wR {σ : xσ} {a k : Nat} {v : Option Nat} : ∀ b, b ≠ a → xCell (wR σ a k v) b = xCell σ b := fun b q => by
  have e1 : sI (wR σ a k v) b = sI σ b := rfl
  have e2 : sJ (wR σ a k v) b = sJ σ b := rfl
  have e3 : sR (wR σ a k v) b = sR σ b := by funext j; simp [sR_wR, q]
  have e4 : ∀ s, fldV (wR σ a k v) b s = fldV σ b s := fun s => by funext j; simp only [fldV, e1, e2, e3]
  simp only [xCell, xArr, e1, e2, e3, e4]
theorem go_getS {G : xG} {M : xM} {pc pc' n : Nat} {L : xL} {S : List Value} {h : xH} {σ : xσ} {P : Option Value → xH → Prop} {index s kf a : Nat} {v : Value} (d : decode (xBy M) pc = .ok (.getfield index, 3)) (e : pc + 3 = pc') (g : xGf (xOwn M) index s kf) (R : Rl n σ h) (o : At n a s) (hk : kf < xNf s) (hv : fldV σ a s kf = v) (k : Go G M pc' L (v :: S) h P) : Go G M pc L (.ref a :: S) h P :=
  go_getfF d e g (R.ob o) hk hv k
theorem go_putI {G : xG} {M : xM} {pc pc' n : Nat} {L : xL} {S : List Value} {h : xH} {σ : xσ} {P : Option Value → xH → Prop} {index s kf a : Nat} {v : Int32} {ty : FieldType} (d : decode (xBy M) pc = .ok (.putfield index, 3)) (e : pc + 3 = pc') (g : xPf (xOwn M) index s kf ty false) (R : Rl n σ h) (o : At n a s) (hk : kf < xNf s) (hq : fk s kf = (0, 0)) (hn : narrow ty (.int v) = .int v) (hft : fits ty (.int v) = true) (k : ∀ h1 : xH, Rl n (wI σ a kf v) h1 → Go G M pc' L S h1 P) : Go G M pc L (.int v :: .ref a :: S) h P :=
  go_putfF d e g (fun h => by cases h) (R.ob o) hk hn hft (fun h1 z c f => k h1 (R.put z (by rw [c, xCell, o.1, fldV_wI hq]) f xCell_wI))
theorem go_putJ {G : xG} {M : xM} {pc pc' n : Nat} {L : xL} {S : List Value} {h : xH} {σ : xσ} {P : Option Value → xH → Prop} {index s kf a : Nat} {v : Int64} {ty : FieldType} (d : decode (xBy M) pc = .ok (.putfield index, 3)) (e : pc + 3 = pc') (g : xPf (xOwn M) index s kf ty false) (R : Rl n σ h) (o : At n a s) (hk : kf < xNf s) (hq : fk s kf = (1, 0)) (hn : narrow ty (.long v) = .long v) (hft : fits ty (.long v) = true) (k : ∀ h1 : xH, Rl n (wJ σ a kf v) h1 → Go G M pc' L S h1 P) : Go G M pc L (.long v :: .ref a :: S) h P :=
  go_putfF d e g (fun h => by cases h) (R.ob o) hk hn hft (fun h1 z c f => k h1 (R.put z (by rw [c, xCell, o.1, fldV_wJ hq]) f xCell_wJ))
theorem go_putR {G : xG} {M : xM} {pc pc' n : Nat} {L : xL} {S : List Value} {h : xH} {σ : xσ} {P : Option Value → xH → Prop} {index s kf a b : Nat} {ty : FieldType} (d : decode (xBy M) pc = .ok (.putfield index, 3)) (e : pc + 3 = pc') (g : xPf (xOwn M) index s kf ty false) (R : Rl n σ h) (o : At n a s) (hk : kf < xNf s) (hq : fk s kf = (2, 0)) (hn : ∀ q, narrow ty (.ref q) = .ref q) (hft : ∀ q, fits ty (.ref q) = true) (k : ∀ h1 : xH, Rl n (wR σ a kf (some b)) h1 → Go G M pc' L S h1 P) : Go G M pc L (.ref b :: .ref a :: S) h P :=
  go_putfF d e g (fun h => by cases h) (R.ob o) hk (hn _) (hft _) (fun h1 z c f => k h1 (R.put z (by rw [c, xCell, o.1, fldV_wR hq]) f xCell_wR))
theorem go_ialoadS {G : xG} {M : xM} {pc pc' n : Nat} {L : xL} {S : List Value} {h : xH} {σ : xσ} {P : Option Value → xH → Prop} {a m : Nat} {i : Int32} (d : decode (xBy M) pc = .ok (.iaload, 1)) (e : pc + 1 = pc') (R : Rl n σ h) (o : Aa n a 0 m) (hin : vp_in i m) (k : Go G M pc' L (.int (sI σ a i.toNatClampNeg) :: S) h P) : Go G M pc L (.int i :: .ref a :: S) h P :=
  go_iaload d e (R.ar o) hin k
theorem go_baloadS {G : xG} {M : xM} {pc pc' n : Nat} {L : xL} {S : List Value} {h : xH} {σ : xσ} {P : Option Value → xH → Prop} {a m : Nat} {i : Int32} (d : decode (xBy M) pc = .ok (.baload, 1)) (e : pc + 1 = pc') (R : Rl n σ h) (o : Aa n a 1 m) (hin : vp_in i m) (k : Go G M pc' L (.int (sI σ a i.toNatClampNeg) :: S) h P) : Go G M pc L (.int i :: .ref a :: S) h P :=
  go_baload d e (R.ar o) hin k
theorem go_zaloadS {G : xG} {M : xM} {pc pc' n : Nat} {L : xL} {S : List Value} {h : xH} {σ : xσ} {P : Option Value → xH → Prop} {a m : Nat} {i : Int32} (d : decode (xBy M) pc = .ok (.baload, 1)) (e : pc + 1 = pc') (R : Rl n σ h) (o : Aa n a 3 m) (hin : vp_in i m) (k : Go G M pc' L (.int (sI σ a i.toNatClampNeg) :: S) h P) : Go G M pc L (.int i :: .ref a :: S) h P :=
  go_zaload d e (R.ar o) hin k
theorem go_laloadS {G : xG} {M : xM} {pc pc' n : Nat} {L : xL} {S : List Value} {h : xH} {σ : xσ} {P : Option Value → xH → Prop} {a m : Nat} {i : Int32} (d : decode (xBy M) pc = .ok (.laload, 1)) (e : pc + 1 = pc') (R : Rl n σ h) (o : Aa n a 2 m) (hin : vp_in i m) (k : Go G M pc' L (.long (sJ σ a i.toNatClampNeg) :: S) h P) : Go G M pc L (.int i :: .ref a :: S) h P :=
  go_laload d e (R.ar o) hin k
theorem go_aaloadS {G : xG} {M : xM} {pc pc' n : Nat} {L : xL} {S : List Value} {h : xH} {σ : xσ} {P : Option Value → xH → Prop} {a m t b : Nat} {i : Int32} (d : decode (xBy M) pc = .ok (.aaload, 1)) (e : pc + 1 = pc') (ht : 4 ≤ t ∧ t < 8) (R : Rl n σ h) (o : Aa n a t m) (hin : vp_in i m) (q : sR σ a i.toNatClampNeg = some b) (k : Go G M pc' L (.ref b :: S) h P) : Go G M pc L (.int i :: .ref a :: S) h P := by
  have c := R.ar o
  rw [xArr, if_neg (by omega), if_neg (by omega)] at c
  refine go_aaload d e ht c hin ?_
  rw [q]; exact k
theorem go_iastoreS {G : xG} {M : xM} {pc pc' n : Nat} {L : xL} {S : List Value} {h : xH} {σ : xσ} {P : Option Value → xH → Prop} {a m : Nat} {i : Int32} {x : Int32} (d : decode (xBy M) pc = .ok (.iastore, 1)) (e : pc + 1 = pc') (R : Rl n σ h) (o : Aa n a 0 m) (hin : vp_in i m) (k : ∀ h1 : xH, Rl n (wI σ a i.toNatClampNeg x) h1 → Go G M pc' L S h1 P) : Go G M pc L (.int x :: .int i :: .ref a :: S) h P := by
  refine go_iastoreK d e (R.ar o) hin (fun h1 z c f => k h1 (R.put z ?_ f xCell_wI))
  rw [c, xCell, o.1]
  have e1 : upd (sI σ a) i.toNatClampNeg x = sI (wI σ a i.toNatClampNeg x) a := by funext j; simp [upd, sI_wI]
  rw [e1]; rfl
theorem go_bastoreS {G : xG} {M : xM} {pc pc' n : Nat} {L : xL} {S : List Value} {h : xH} {σ : xσ} {P : Option Value → xH → Prop} {a m : Nat} {i : Int32} {x : Int32} (d : decode (xBy M) pc = .ok (.bastore, 1)) (e : pc + 1 = pc') (R : Rl n σ h) (o : Aa n a 1 m) (hin : vp_in i m) (k : ∀ h1 : xH, Rl n (wI σ a i.toNatClampNeg (vp_nar .byte x)) h1 → Go G M pc' L S h1 P) : Go G M pc L (.int x :: .int i :: .ref a :: S) h P := by
  refine go_bastoreK d e (R.ar o) hin (fun h1 z c f => k h1 (R.put z ?_ f xCell_wI))
  rw [c, xCell, o.1]
  have e1 : upd (sI σ a) i.toNatClampNeg (vp_nar .byte x) = sI (wI σ a i.toNatClampNeg (vp_nar .byte x)) a := by funext j; simp [upd, sI_wI]
  rw [e1]; rfl
theorem go_zastoreS {G : xG} {M : xM} {pc pc' n : Nat} {L : xL} {S : List Value} {h : xH} {σ : xσ} {P : Option Value → xH → Prop} {a m : Nat} {i : Int32} {x : Int32} (d : decode (xBy M) pc = .ok (.bastore, 1)) (e : pc + 1 = pc') (R : Rl n σ h) (o : Aa n a 3 m) (hin : vp_in i m) (k : ∀ h1 : xH, Rl n (wI σ a i.toNatClampNeg (vp_nar .boolean x)) h1 → Go G M pc' L S h1 P) : Go G M pc L (.int x :: .int i :: .ref a :: S) h P := by
  refine go_zastoreK d e (R.ar o) hin (fun h1 z c f => k h1 (R.put z ?_ f xCell_wI))
  rw [c, xCell, o.1]
  have e1 : upd (sI σ a) i.toNatClampNeg (vp_nar .boolean x) = sI (wI σ a i.toNatClampNeg (vp_nar .boolean x)) a := by funext j; simp [upd, sI_wI]
  rw [e1]; rfl
theorem go_lastoreS {G : xG} {M : xM} {pc pc' n : Nat} {L : xL} {S : List Value} {h : xH} {σ : xσ} {P : Option Value → xH → Prop} {a m : Nat} {i : Int32} {x : Int64} (d : decode (xBy M) pc = .ok (.lastore, 1)) (e : pc + 1 = pc') (R : Rl n σ h) (o : Aa n a 2 m) (hin : vp_in i m) (k : ∀ h1 : xH, Rl n (wJ σ a i.toNatClampNeg x) h1 → Go G M pc' L S h1 P) : Go G M pc L (.long x :: .int i :: .ref a :: S) h P := by
  refine go_lastoreK d e (R.ar o) hin (fun h1 z c f => k h1 (R.put z ?_ f xCell_wJ))
  rw [c, xCell, o.1]
  have e1 : vp_updL (sJ σ a) i.toNatClampNeg x = sJ (wJ σ a i.toNatClampNeg x) a := by funext j; simp [vp_updL, sJ_wJ]
  rw [e1]; rfl
theorem go_aastoreS {G : xG} {M : xM} {pc pc' n : Nat} {L : xL} {S : List Value} {h : xH} {σ : xσ} {P : Option Value → xH → Prop} {a m t b ci N : Nat} {C : String} {T : u_T} {i : Int32} (d : decode (xBy M) pc = .ok (.aastore, 1)) (e : pc + 1 = pc') (ht : 4 ≤ t ∧ t < 8) (hC : xty t = .object C) (hc : vwCl[ci]? = some (C, T, N)) (R : Rl n σ h) (o : Aa n a t m) (ob : At n b ci) (hin : vp_in i m) (k : ∀ h1 : xH, Rl n (wR σ a i.toNatClampNeg (some b)) h1 → Go G M pc' L S h1 P) : Go G M pc L (.ref b :: .int i :: .ref a :: S) h P := by
  have c := R.ar o
  rw [xArr, if_neg (by omega), if_neg (by omega)] at c
  refine go_aastoreK d e ht.2 hC hc c (R.ob ob) hin (fun h1 z c f => k h1 (R.put z ?_ f xCell_wR))
  rw [c, xCell, o.1]
  have e1 : va_up (sR σ a) i.toNatClampNeg (some b) = sR (wR σ a i.toNatClampNeg (some b)) a := by funext j; simp [va_up, sR_wR]
  rw [e1]
  have e2 : xArr (wR σ a i.toNatClampNeg (some b)) a t m = (m, .inr (.inr (.inr (.inr (sR (wR σ a i.toNatClampNeg (some b)) a))))) := by rw [xArr, if_neg (by omega), if_neg (by omega)]
  rw [← e2]
/-- where objects may stand -/
abbrev okS (n a : Nat) : Prop := a + 4 < n ∧ (a = 5 ∨ a = 19 ∨ (2476 ≤ a ∧ (a - 2476) % 5 = 0))
abbrev okM (a : Nat) : Prop := a = 241 ∨ a = 245 ∨ (261 ≤ a ∧ a < 1061 ∧ (a - 261) % 4 = 0) ∨ (1063 ≤ a ∧ a < 1863 ∧ (a - 1063) % 4 = 0) ∨ a = 1865 ∨ a = 1870
abbrev okD (a : Nat) : Prop := 31 ≤ a ∧ a < 231
abbrev okE (a : Nat) : Prop := a = 250 ∨ a = 253 ∨ a = 256 ∨ (1876 ≤ a ∧ a < 2476 ∧ (a - 1876) % 3 = 0)
abbrev okT (a : Nat) : Prop := a = 11 ∨ a = 14
abbrev okU (a : Nat) : Prop := a = 259 ∨ a = 1061
abbrev okL (a : Nat) : Prop := xTy a = .inl (2, 8) ∧ a < 2476
abbrev okX (n a : Nat) : Prop := xTy a = .inl (0, 40) ∧ a < n
set_option maxRecDepth 100000 in
theorem okS.ty {n a : Nat} (g : okS n a) : ∀ j, j < 5 → xTy (a + j) = xTp j ∧ a + j < n := by
  intro j hj
  obtain ⟨g1, g2⟩ := g
  refine ⟨?_, by omega⟩
  rcases g2 with rfl | rfl | ⟨h1, h2⟩
  · rcases (show j = 0 ∨ j = 1 ∨ j = 2 ∨ j = 3 ∨ j = 4 by omega) with rfl | rfl | rfl | rfl | rfl <;> rfl
  · rcases (show j = 0 ∨ j = 1 ∨ j = 2 ∨ j = 3 ∨ j = 4 by omega) with rfl | rfl | rfl | rfl | rfl <;> rfl
  · rw [xTy, if_neg (by omega), if_neg (by omega)]
    exact congrArg xTp (show (a + j - 2476) % 5 = j by omega)
theorem okS.at {n a : Nat} (g : okS n a) : At n a 6 := g.ty 0 (by omega)
theorem okS.x {n a : Nat} (g : okS n a) : Aa n (a + 1) 0 40 := g.ty 1 (by omega)
theorem okS.y {n a : Nat} (g : okS n a) : Aa n (a + 2) 0 40 := g.ty 2 (by omega)
theorem okS.r {n a : Nat} (g : okS n a) : Aa n (a + 3) 0 8 := g.ty 3 (by omega)
theorem okS.l {n a : Nat} (g : okS n a) : Aa n (a + 4) 3 40 := g.ty 4 (by omega)
set_option maxRecDepth 100000 in
theorem okM.ty {a : Nat} (g : okM a) : ∀ j, j < 4 → xTy (a + j) = xTq j ∧ a + j < 2476 := by
  intro j hj
  unfold okM at g
  refine ⟨?_, by omega⟩
  rcases g with rfl | rfl | ⟨h1, h2, h3⟩ | ⟨h1, h2, h3⟩ | rfl | rfl
  · rcases (show j = 0 ∨ j = 1 ∨ j = 2 ∨ j = 3 by omega) with rfl | rfl | rfl | rfl <;> rfl
  · rcases (show j = 0 ∨ j = 1 ∨ j = 2 ∨ j = 3 by omega) with rfl | rfl | rfl | rfl <;> rfl
  · rw [xTy, if_neg (by omega), if_pos (by omega), xTm, if_pos (by omega)]; exact congrArg xTq (show (a + j - 261) % 4 = j by omega)
  · rw [xTy, if_neg (by omega), if_pos (by omega), xTm, if_neg (by omega), if_pos (by omega)]; exact congrArg xTq (show (a + j - 1063) % 4 = j by omega)
  · rcases (show j = 0 ∨ j = 1 ∨ j = 2 ∨ j = 3 by omega) with rfl | rfl | rfl | rfl <;> rfl
  · rcases (show j = 0 ∨ j = 1 ∨ j = 2 ∨ j = 3 by omega) with rfl | rfl | rfl | rfl <;> rfl
theorem okM.at {n a : Nat} {σ : xσ} {h : xH} (g : okM a) (R : Rl n σ h) : At n a 11 := R.at (g.ty 0 (by omega)).1 (g.ty 0 (by omega)).2
theorem okM.e {n a : Nat} {σ : xσ} {h : xH} (g : okM a) (R : Rl n σ h) : Aa n (a + 1) 0 8 := R.aa (g.ty 1 (by omega)).1 (g.ty 1 (by omega)).2
theorem okM.x {n a : Nat} {σ : xσ} {h : xH} (g : okM a) (R : Rl n σ h) : Aa n (a + 2) 0 40 := R.aa (g.ty 2 (by omega)).1 (g.ty 2 (by omega)).2
theorem okM.y {n a : Nat} {σ : xσ} {h : xH} (g : okM a) (R : Rl n σ h) : Aa n (a + 3) 0 40 := R.aa (g.ty 3 (by omega)).1 (g.ty 3 (by omega)).2
theorem okD.at {n a : Nat} {σ : xσ} {h : xH} (g : okD a) (R : Rl n σ h) : At n a 2 := by
  obtain ⟨h1, h2⟩ := g
  exact R.at (by rw [xTy, if_pos (by omega), xTs, if_pos (by omega)]) (by omega)
set_option maxRecDepth 100000 in
theorem okE.ty {a : Nat} (g : okE a) : ∀ j, j < 3 → xTy (a + j) = xTr j ∧ a + j < 2476 := by
  intro j hj
  unfold okE at g
  refine ⟨?_, by omega⟩
  rcases g with rfl | rfl | rfl | ⟨h1, h2, h3⟩
  · rcases (show j = 0 ∨ j = 1 ∨ j = 2 by omega) with rfl | rfl | rfl <;> rfl
  · rcases (show j = 0 ∨ j = 1 ∨ j = 2 by omega) with rfl | rfl | rfl <;> rfl
  · rcases (show j = 0 ∨ j = 1 ∨ j = 2 by omega) with rfl | rfl | rfl <;> rfl
  · rw [xTy, if_neg (by omega), if_pos (by omega), xTm, if_neg (by omega), if_neg (by omega), if_pos (by omega)]; exact congrArg xTr (show (a + j - 1876) % 3 = j by omega)
theorem okE.at {n a : Nat} {σ : xσ} {h : xH} (g : okE a) (R : Rl n σ h) : At n a 10 := R.at (g.ty 0 (by omega)).1 (g.ty 0 (by omega)).2
theorem okE.nu {n a : Nat} {σ : xσ} {h : xH} (g : okE a) (R : Rl n σ h) : Aa n (a + 1) 2 8 := R.aa (g.ty 1 (by omega)).1 (g.ty 1 (by omega)).2
theorem okE.de {n a : Nat} {σ : xσ} {h : xH} (g : okE a) (R : Rl n σ h) : Aa n (a + 2) 2 8 := R.aa (g.ty 2 (by omega)).1 (g.ty 2 (by omega)).2
theorem okE.okn {a : Nat} (g : okE a) : okL (a + 1) := g.ty 1 (by omega)
theorem okE.okd {a : Nat} (g : okE a) : okL (a + 2) := g.ty 2 (by omega)
theorem okT.at {n a : Nat} {σ : xσ} {h : xH} (g : okT a) (R : Rl n σ h) : At n a 7 := by rcases g with rfl | rfl <;> exact R.at rfl (by decide)
theorem okT.i {n a : Nat} {σ : xσ} {h : xH} (g : okT a) (R : Rl n σ h) : Aa n (a + 1) 0 200 := by rcases g with rfl | rfl <;> exact R.aa rfl (by decide)
theorem okT.s {n a : Nat} {σ : xσ} {h : xH} (g : okT a) (R : Rl n σ h) : Aa n (a + 2) 4 200 := by rcases g with rfl | rfl <;> exact R.aa rfl (by decide)
theorem okU.at {n a : Nat} {σ : xσ} {h : xH} (g : okU a) (R : Rl n σ h) : At n a 12 := by rcases g with rfl | rfl <;> exact R.at rfl (by decide)
theorem okU.a {n a : Nat} {σ : xσ} {h : xH} (g : okU a) (R : Rl n σ h) : Aa n (a + 1) 6 200 := by rcases g with rfl | rfl <;> exact R.aa rfl (by decide)
theorem okL.aa {n a : Nat} {σ : xσ} {h : xH} (g : okL a) (R : Rl n σ h) : Aa n a 2 8 := R.aa g.1 g.2
abbrev inb (i : Int32) (n : Nat) : Prop := ¬ (i < 0 ∨ n ≤ i.toNatClampNeg)
/-- what the walks are made of -/
def gd {α : Type} (c : Prop) [Decidable c] (x : Option α) : Option α := if c then x else none
theorem gd_some {α : Type} {c : Prop} [Decidable c] {x : Option α} {r : α} (e : gd c x = some r) : c ∧ x = some r := by
  unfold gd at e; split at e
  · exact ⟨by assumption, e⟩
  · cases e
theorem gd_pos {α : Type} {c : Prop} [Decidable c] (h : c) (x : Option α) : gd c x = x := if_pos h
def bd {α β : Type} (x : Option (α × xσ)) (k : α → xσ → Option β) : Option β := match x with
  | none => none
  | some (a, s) => k a s
theorem bd_some {α β : Type} {x : Option (α × xσ)} {k : α → xσ → Option β} {r : β} (e : bd x k = some r) : ∃ a s, x = some (a, s) ∧ k a s = some r := by
  cases x with
  | none => cases e
  | some p => exact ⟨p.1, p.2, rfl, e⟩
theorem bd_eq {α β : Type} {x : Option (α × xσ)} {k : α → xσ → Option β} {a : α} {s : xσ} (e : x = some (a, s)) : bd x k = k a s := by rw [e]; rfl
/-- a call that may make shapes -/
def bn {α β : Type} (x : Option (α × Nat × xσ)) (k : α → Nat → xσ → Option β) : Option β := match x with
  | none => none
  | some (a, n, s) => k a n s
theorem bn_some {α β : Type} {x : Option (α × Nat × xσ)} {k : α → Nat → xσ → Option β} {r : β} (e : bn x k = some r) : ∃ a n s, x = some (a, n, s) ∧ k a n s = some r := by
  cases x with
  | none => cases e
  | some p => exact ⟨p.1, p.2.1, p.2.2, rfl, e⟩
theorem bn_eq {α β : Type} {x : Option (α × Nat × xσ)} {k : α → Nat → xσ → Option β} {a : α} {n : Nat} {s : xσ} (e : x = some (a, n, s)) : bn x k = k a n s := by rw [e]; rfl
def nn {β : Type} (x : Option Nat) (k : Nat → Option β) : Option β := match x with
  | none => none
  | some a => k a
theorem nn_some {β : Type} {x : Option Nat} {k : Nat → Option β} {r : β} (e : nn x k = some r) : ∃ a, x = some a ∧ k a = some r := by
  cases x with
  | none => cases e
  | some p => exact ⟨p, rfl, e⟩
theorem nn_eq {β : Type} {x : Option Nat} {k : Nat → Option β} {a : Nat} (e : x = some a) : nn x k = k a := by rw [e]; rfl
def om {β : Type} (x : Option Nat) (k0 : Option β) (k : Nat → Option β) : Option β := match x with
  | none => k0
  | some a => k a
theorem it {α : Type} {c : Prop} [Decidable c] {A B r : α} (h : c) (e : (if c then A else B) = r) : A = r := by rw [if_pos h] at e; exact e
theorem ie {α : Type} {c : Prop} [Decidable c] {A B r : α} (h : ¬ c) (e : (if c then A else B) = r) : B = r := by rw [if_neg h] at e; exact e
theorem nb {v : Int32} (h : v = 0 ∨ v = 1) : narrow .boolean (.int v) = .int v := by rcases h with rfl | rfl <;> rfl
/-- how often a loop may go round -/
def xFU : Nat := 20001

/-! what the walks by program use -/
def st {α β : Type} (x : α) (k : α → Option β) : Option β := k x
theorem st_some {α β : Type} {x : α} {k : α → Option β} {r : β} (e : st x k = some r) : ∃ y, x = y ∧ k y = some r := ⟨x, rfl, e⟩
def stn {β : Type} (n : Nat) (σ : xσ) (k : Nat → Nat → xσ → Option β) : Option β := k n (n + 5) (wN σ n)
theorem stn_some {β : Type} {n : Nat} {σ : xσ} {k : Nat → Nat → xσ → Option β} {r : β} (e : stn n σ k = some r) : ∃ a m s, (a = n ∧ m = n + 5 ∧ s = wN σ n) ∧ k a m s = some r := ⟨n, n + 5, wN σ n, ⟨rfl, rfl, rfl⟩, e⟩
theorem Rl.cast {n : Nat} {σ σ' : xσ} {h : xH} (e : σ = σ') (R : Rl n σ h) : Rl n σ' h := e ▸ R
theorem okS5 {n : Nat} {σ : xσ} {h : xH} (R : Rl n σ h) : okS n 5 := ⟨by have := R.1.1; omega, Or.inl rfl⟩
theorem okS19 {n : Nat} {σ : xσ} {h : xH} (R : Rl n σ h) : okS n 19 := ⟨by have := R.1.1; omega, Or.inr (Or.inl rfl)⟩
theorem okl {n a : Nat} {σ : xσ} {h : xH} (R : Rl n σ h) (e : xTy a = .inl (0, 40)) (l : a < 2476) : okX n a := ⟨e, Nat.lt_of_lt_of_le l R.1.1⟩
theorem sw_out {x : Int32} (lo hi : Int) (h : ∀ v : Int, lo ≤ v → v ≤ hi → x = Int32.ofInt v → False) : x.toInt < lo ∨ hi < x.toInt := by
  by_cases h1 : x.toInt < lo
  · exact Or.inl h1
  · by_cases h2 : hi < x.toInt
    · exact Or.inr h2
    · exact (h x.toInt (by omega) (by omega) (Int32.ofInt_toInt x).symm).elim
theorem go_istore_nE {G : xG} {M : xM} {pc pc' : Nat} {L : xL} {S : List Value} {h : xH} {P : Option Value → xH → Prop} {L' : xL} {k0 : Fin 4} {i : Nat} {x y : Int32} (q : x = y) (d : decode (xBy M) pc = .ok (.istore_n k0, 1)) (e : pc + 1 = pc') (hi : (k0 : Nat) = i) (hn : i < xMl M) (hl : xs1 (.int y) i L = L') (k : Go G M pc' L' S h P) : Go G M pc L (.int x :: S) h P := by
  subst q; exact go_istore_n d e hi hn hl k
theorem go_istoreE {G : xG} {M : xM} {pc pc' : Nat} {L : xL} {S : List Value} {h : xH} {P : Option Value → xH → Prop} {L' : xL} {i : Nat} {x y : Int32} (q : x = y) (d : decode (xBy M) pc = .ok (.istore i, 2)) (e : pc + 2 = pc') (hn : i < xMl M) (hl : xs1 (.int y) i L = L') (k : Go G M pc' L' S h P) : Go G M pc L (.int x :: S) h P := by
  subst q; exact go_istore d e hn hl k
theorem go_lstore_nE {G : xG} {M : xM} {pc pc' : Nat} {L : xL} {S : List Value} {h : xH} {P : Option Value → xH → Prop} {L' : xL} {k0 : Fin 4} {i : Nat} {x y : Int64} (q : x = y) (d : decode (xBy M) pc = .ok (.lstore_n k0, 1)) (e : pc + 1 = pc') (hi : (k0 : Nat) = i) (hn : i + 1 < xMl M) (hl : xs2 (.long y) i L = L') (k : Go G M pc' L' S h P) : Go G M pc L (.long x :: S) h P := by
  subst q; exact go_lstore_n d e hi hn hl k
theorem go_lstoreE {G : xG} {M : xM} {pc pc' : Nat} {L : xL} {S : List Value} {h : xH} {P : Option Value → xH → Prop} {L' : xL} {i : Nat} {x y : Int64} (q : x = y) (d : decode (xBy M) pc = .ok (.lstore i, 2)) (e : pc + 2 = pc') (hn : i + 1 < xMl M) (hl : xs2 (.long y) i L = L') (k : Go G M pc' L' S h P) : Go G M pc L (.long x :: S) h P := by
  subst q; exact go_lstore d e hn hl k
theorem go_getSR {G : xG} {M : xM} {pc pc' n : Nat} {L : xL} {S : List Value} {h : xH} {σ : xσ} {P : Option Value → xH → Prop} {index s kf a b : Nat} (d : decode (xBy M) pc = .ok (.getfield index, 3)) (e : pc + 3 = pc') (g : xGf (xOwn M) index s kf) (R : Rl n σ h) (o : At n a s) (hk : kf < xNf s) (hv : fldV σ a s kf = va_rf (sR σ a kf)) (q : sR σ a kf = some b) (k : Go G M pc' L (.ref b :: S) h P) : Go G M pc L (.ref a :: S) h P :=
  go_getS d e g R o hk (hv.trans (by rw [q]; rfl)) k

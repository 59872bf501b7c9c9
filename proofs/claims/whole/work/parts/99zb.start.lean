/-! the start -/
def tb0 : Tb := (0, fun _ => 0, fun _ => (0, 0, 0, fun _ => (0, 0), fun _ => 0))
def kp0 : Kp := (tb0, tb0, (false, false), (0, 0), 0, (-1, 0))
def ab0 : Ab := ((0, fun _ => 0), kp0, (0, fun _ => 0), -1)
set_option maxHeartbeats 200000 in
theorem okTb0 : okTb tb0 := ⟨by show 0 ≤ 200; omega, fun i hi => absurd hi (Nat.not_lt_zero i), fun i hi => absurd hi (Nat.not_lt_zero (i + 1)), fun i hi => absurd hi (Nat.not_lt_zero i)⟩
set_option maxHeartbeats 200000 in
theorem okA0 : okA ab0 := ⟨⟨by show 0 ≤ 4000; omega, fun i hi => absurd hi (Nat.not_lt_zero i)⟩, ⟨⟨okTb0, okTb0⟩, ⟨by show 0 ≤ 14112; omega, by show 0 ≤ 64; omega⟩, Or.inl rfl, fun y => absurd y (by show ¬ (-1 : Int) = 0; omega), fun _ => rfl, fun _ _ => eqTb_r _⟩, by show 0 ≤ 20000; omega⟩
set_option maxHeartbeats 200000 in
theorem aRv {h : xH} {a t n : Nat} {f : Nat → Option Nat} (e : h.2 a = some (.inl (t, n, .inr (.inr (.inr (.inr f)))))) (k : Nat) : sR (sgH h) a k = f k := by simp [sR, sgH, hR, e]
set_option maxHeartbeats 200000 in
theorem SI0 {h : xH} (hC : CIn h) : SI 2476 (sgH h) ab0 := by
  obtain ⟨k0, ⟨k1, k2⟩, ⟨k3, k4, k5⟩, ⟨k10, k11, k12, k13, k14, k15, k16, k17⟩, _, _, ⟨g, k30, k31⟩, k231, k232⟩ := hC
  refine ⟨⟨fI k1 (k := 1) rfl, fun i hi => absurd hi (Nat.not_lt_zero i)⟩, ⟨⟨0, 0, fun _ => 0, fun _ => 0, ?_⟩, fI k10 (k := 5) rfl, fI k10 (k := 6) rfl, ⟨0, fI k10 (k := 7) rfl, by omega, fun y => nomatch (show false = true from y)⟩, fI k10 (k := 8) rfl, fI k10 (k := 9) rfl, fun _ => ⟨fI k10 (k := 10) rfl, fun y => absurd y (by show ¬ (-1 : Int) = 0; omega)⟩⟩, ⟨fI k0 (k := 8) rfl, fun i hi => absurd hi (Nat.not_lt_zero i)⟩, fI k0 (k := 10) rfl, fun i hi => by rw [aRv k30]; exact (k31 i hi).1⟩
  exact ⟨⟨rfl, by omega, by omega, Or.inl rfl⟩, ⟨fI k10 (k := 3) rfl, fI k10 (k := 4) rfl, fun k hk => absurd hk (Nat.not_lt_zero k)⟩, ⟨⟨fI k11 (k := 2) rfl, fun i hi => absurd hi (Nat.not_lt_zero i)⟩, fun i hi => absurd hi (Nat.not_lt_zero i)⟩, ⟨⟨fI k14 (k := 2) rfl, fun i hi => absurd hi (Nat.not_lt_zero i)⟩, fun i hi => absurd hi (Nat.not_lt_zero i)⟩, fun k hk => absurd hk (Nat.not_lt_zero k)⟩
set_option maxHeartbeats 200000 in
theorem TbM0 {h : xH} {a : Nat} (oa : okU a) (k : MSt0 h a) : TbM (sgH h) a tb0 (fun i => i) := by
  obtain ⟨f, ⟨k1, k2⟩, k3⟩ := k
  exact ⟨⟨oa, fI k1 (k := 1) rfl, by show 0 ≤ 200; omega⟩, fun i hi => ⟨hi, by rw [aRv k2]; exact (k3 i hi).1⟩, fun i j _ _ e => e, fun i hi => absurd hi (Nat.not_lt_zero i)⟩
set_option maxHeartbeats 200000 in
theorem RI0 {h : xH} (hM : MIn h) : RI (sgH h) ab0 := by
  obtain ⟨⟨F, k0, c, m⟩, _, ⟨_, _, _, _, _, _, s1, s2⟩, _, ⟨f, k74, k76⟩⟩ := hM
  obtain ⟨m32, m33, m34, m35, m36, m37, m38, m40, m41, m42, m44, _⟩ := m
  have gF : ∀ {k : Nat} {v : Int32}, k < 58 → F k = .int v → sI (sgH h) 233 k = v := fun hk e => fI k0 (by rw [mkF_get F hk, e])
  exact ⟨⟨gF (by decide) m40, fun i hi => absurd hi (Nat.not_lt_zero i)⟩, ⟨⟨⟨_, TbM0 (Or.inl rfl) s1⟩, _, TbM0 (Or.inr rfl) s2⟩, ⟨gF (by decide) m32, gF (by decide) m33⟩, fun _ => gF (by decide) m34, gF (by decide) m35, gF (by decide) m36, fun _ => ⟨gF (by decide) m37, fun y => absurd y (by show ¬ (-1 : Int) = 0; omega)⟩⟩, ⟨gF (by decide) m44, fun i hi => absurd hi (Nat.not_lt_zero i)⟩, gF (by decide) m42, fun i hi => by rw [aRv k74]; exact (k76 i hi).1⟩
set_option maxHeartbeats 200000 in
theorem whole_all (G : xG) (hN : gN G ≤ 5632) : Go G mL_law 0 [some (.retAddr 99), none, none, none] [] ((0, 0), fun _ => none) (fun v h' => v = some (.int 1) ∧ Bd h') := whole_go (I := In) (fun h _ a b => ⟨ab0, okA0, SI0 a, RI0 b⟩) In_n In_pure G hN

/-! methods as functions, by program (gen/dcmall.py) -/
def b_X14_lookRound_563 (n : Nat) (k56 : Nat → Int32 → Nat → Int64 → Int64 → Int64 → Int64 → Int32 → xσ → Option (Unit × xσ)) (a1 : Nat) (x2 : Int32) (a3 : Nat) (l4 : Int64) (l6 : Int64) (l8 : Int64) (l10 : Int64) (x12 : Int32) (σ : xσ) : Option (Unit × xσ) := k56 a1 x2 a3 l4 l6 l8 l10 (x12 + 1) σ
set_option maxRecDepth 100000 in
set_option maxHeartbeats 4000000 in
theorem t_X14_lookRound_563 {G : xG} {n : Nat} {k56 : Nat → Int32 → Nat → Int64 → Int64 → Int64 → Int64 → Int32 → xσ → Option (Unit × xσ)} (hk56 : ∀ {a1 : Nat} {x2 : Int32} {a3 : Nat} {l4 : Int64} {l6 : Int64} {l8 : Int64} {l10 : Int64} {x12 : Int32} {σ : xσ} {h : xH} {r : Unit × xσ} {d13 : Option Value} {d14 : Option Value} {d15 : Option Value} {d16 : Option Value} {d17 : Option Value} {d18 : Option Value} {d19 : Option Value} {d20 : Option Value} {d21 : Option Value} {d22 : Option Value} {d23 : Option Value} {d24 : Option Value} {d25 : Option Value}, Rl n σ h → okM a1 → okM a3 → k56 a1 x2 a3 l4 l6 l8 l10 x12 σ = some r → Go G mX14_lookRound 56 [some (.ref 233), some (.ref a1), some (.int x2), some (.ref a3), some (.long l4), none, some (.long l6), none, some (.long l8), none, some (.long l10), none, some (.int x12), d13, d14, d15, d16, d17, d18, d19, d20, d21, d22, d23, d24, d25] [] h (fun v h' => xRok (xRt mX14_lookRound) v ∧ v = none ∧ Rl n r.2 h')) {a1 : Nat} {x2 : Int32} {a3 : Nat} {l4 : Int64} {l6 : Int64} {l8 : Int64} {l10 : Int64} {x12 : Int32} {σ : xσ} {h : xH} {r : Unit × xσ} {d13 : Option Value} {d14 : Option Value} {d15 : Option Value} {d16 : Option Value} {d17 : Option Value} {d18 : Option Value} {d19 : Option Value} {d20 : Option Value} {d21 : Option Value} {d22 : Option Value} {d23 : Option Value} {d24 : Option Value} {d25 : Option Value} : Rl n σ h → okM a1 → okM a3 → b_X14_lookRound_563 n k56 a1 x2 a3 l4 l6 l8 l10 x12 σ = some r → Go G mX14_lookRound 563 [some (.ref 233), some (.ref a1), some (.int x2), some (.ref a3), some (.long l4), none, some (.long l6), none, some (.long l8), none, some (.long l10), none, some (.int x12), d13, d14, d15, d16, d17, d18, d19, d20, d21, d22, d23, d24, d25] [] h (fun v h' => xRok (xRt mX14_lookRound) v ∧ v = none ∧ Rl n r.2 h') := by
  intro R g1 g3 hf
  rw [b_X14_lookRound_563] at hf
  refine go_iincC (kk := 1) (pc' := 566) dX14_lookRound_563 rfl rfl (by decide) (by decide) rfl ?_
  refine go_goto (pc' := 0) (tgt := 56) dX14_lookRound_566 (by decide) ?_
  exact hk56 R g1 g3 hf
def b_X14_lookRound_556 (n : Nat) (k56 : Nat → Int32 → Nat → Int64 → Int64 → Int64 → Int64 → Int32 → xσ → Option (Unit × xσ)) (a1 : Nat) (x2 : Int32) (a3 : Nat) (l4 : Int64) (l6 : Int64) (l8 : Int64) (l10 : Int64) (x12 : Int32) (xs0 : Int32) (ls1 : Int64) (ls2 : Int64) (σ : xσ) : Option (Unit × xσ) := bd (f_X14_begins n ls2 ls1 xs0 l8 l10 σ) (fun v101 σ102 => b_X14_lookRound_563 n k56 a1 x2 a3 l4 l6 l8 l10 x12 σ102)
set_option maxRecDepth 100000 in
set_option maxHeartbeats 4000000 in
theorem t_X14_lookRound_556 {G : xG} {n : Nat} {k56 : Nat → Int32 → Nat → Int64 → Int64 → Int64 → Int64 → Int32 → xσ → Option (Unit × xσ)} (hk56 : ∀ {a1 : Nat} {x2 : Int32} {a3 : Nat} {l4 : Int64} {l6 : Int64} {l8 : Int64} {l10 : Int64} {x12 : Int32} {σ : xσ} {h : xH} {r : Unit × xσ} {d13 : Option Value} {d14 : Option Value} {d15 : Option Value} {d16 : Option Value} {d17 : Option Value} {d18 : Option Value} {d19 : Option Value} {d20 : Option Value} {d21 : Option Value} {d22 : Option Value} {d23 : Option Value} {d24 : Option Value} {d25 : Option Value}, Rl n σ h → okM a1 → okM a3 → k56 a1 x2 a3 l4 l6 l8 l10 x12 σ = some r → Go G mX14_lookRound 56 [some (.ref 233), some (.ref a1), some (.int x2), some (.ref a3), some (.long l4), none, some (.long l6), none, some (.long l8), none, some (.long l10), none, some (.int x12), d13, d14, d15, d16, d17, d18, d19, d20, d21, d22, d23, d24, d25] [] h (fun v h' => xRok (xRt mX14_lookRound) v ∧ v = none ∧ Rl n r.2 h')) {a1 : Nat} {x2 : Int32} {a3 : Nat} {l4 : Int64} {l6 : Int64} {l8 : Int64} {l10 : Int64} {x12 : Int32} {xs0 : Int32} {ls1 : Int64} {ls2 : Int64} {σ : xσ} {h : xH} {r : Unit × xσ} {d13 : Option Value} {d14 : Option Value} {d15 : Option Value} {d16 : Option Value} {d17 : Option Value} {d18 : Option Value} {d19 : Option Value} {d20 : Option Value} {d21 : Option Value} {d22 : Option Value} {d23 : Option Value} {d24 : Option Value} {d25 : Option Value} : Rl n σ h → okM a1 → okM a3 → b_X14_lookRound_556 n k56 a1 x2 a3 l4 l6 l8 l10 x12 xs0 ls1 ls2 σ = some r → Go G mX14_lookRound 556 [some (.ref 233), some (.ref a1), some (.int x2), some (.ref a3), some (.long l4), none, some (.long l6), none, some (.long l8), none, some (.long l10), none, some (.int x12), d13, d14, d15, d16, d17, d18, d19, d20, d21, d22, d23, d24, d25] [.int xs0, .long ls1, .long ls2, .ref 233] h (fun v h' => xRok (xRt mX14_lookRound) v ∧ v = none ∧ Rl n r.2 h') := by
  intro R g1 g3 hf
  rw [b_X14_lookRound_556] at hf
  refine go_lload (pc' := 558) dX14_lookRound_556 rfl rfl ?_
  refine go_lload (pc' := 560) dX14_lookRound_558 rfl rfl ?_
  obtain ⟨v101, σ102, e103, hf⟩ := bd_some hf
  refine go_invV (As := [_, _, _, _, _]) (pc' := 563) dX14_lookRound_560 rfl cf_X14_lookRound_164 rfl (R.ob (R.at rfl (by decide))) rfl rfl (Nat.le_of_ble_eq_true rfl) (c_X14_begins R e103) (fun q104v h105 q104 => ?_)
  obtain ⟨rfl, R⟩ := q104
  exact t_X14_lookRound_563 @hk56 R g1 g3 hf
def b_X14_lookRound_534 (n : Nat) (k56 : Nat → Int32 → Nat → Int64 → Int64 → Int64 → Int64 → Int32 → xσ → Option (Unit × xσ)) (a1 : Nat) (x2 : Int32) (a3 : Nat) (l4 : Int64) (l6 : Int64) (l8 : Int64) (l10 : Int64) (x12 : Int32) (x14 : Int32) (l15 : Int64) (l17 : Int64) (x19 : Int32) (σ : xσ) : Option (Unit × xσ) := if x14 = 0 then k56 a1 x2 a3 l4 l6 l8 l10 (x12 + 1) σ else if x19 = 0 then b_X14_lookRound_556 n k56 a1 x2 a3 l4 l6 l8 l10 x12 1 (-l17) (-l15) σ else b_X14_lookRound_556 n k56 a1 x2 a3 l4 l6 l8 l10 x12 0 (-l17) (-l15) σ
set_option maxRecDepth 100000 in
set_option maxHeartbeats 4000000 in
theorem t_X14_lookRound_534 {G : xG} {n : Nat} {k56 : Nat → Int32 → Nat → Int64 → Int64 → Int64 → Int64 → Int32 → xσ → Option (Unit × xσ)} (hk56 : ∀ {a1 : Nat} {x2 : Int32} {a3 : Nat} {l4 : Int64} {l6 : Int64} {l8 : Int64} {l10 : Int64} {x12 : Int32} {σ : xσ} {h : xH} {r : Unit × xσ} {d13 : Option Value} {d14 : Option Value} {d15 : Option Value} {d16 : Option Value} {d17 : Option Value} {d18 : Option Value} {d19 : Option Value} {d20 : Option Value} {d21 : Option Value} {d22 : Option Value} {d23 : Option Value} {d24 : Option Value} {d25 : Option Value}, Rl n σ h → okM a1 → okM a3 → k56 a1 x2 a3 l4 l6 l8 l10 x12 σ = some r → Go G mX14_lookRound 56 [some (.ref 233), some (.ref a1), some (.int x2), some (.ref a3), some (.long l4), none, some (.long l6), none, some (.long l8), none, some (.long l10), none, some (.int x12), d13, d14, d15, d16, d17, d18, d19, d20, d21, d22, d23, d24, d25] [] h (fun v h' => xRok (xRt mX14_lookRound) v ∧ v = none ∧ Rl n r.2 h')) {a1 : Nat} {x2 : Int32} {a3 : Nat} {l4 : Int64} {l6 : Int64} {l8 : Int64} {l10 : Int64} {x12 : Int32} {x14 : Int32} {l15 : Int64} {l17 : Int64} {x19 : Int32} {σ : xσ} {h : xH} {r : Unit × xσ} {d13 : Option Value} {d20 : Option Value} {d21 : Option Value} {d22 : Option Value} {d23 : Option Value} {d24 : Option Value} {d25 : Option Value} : Rl n σ h → okM a1 → okM a3 → b_X14_lookRound_534 n k56 a1 x2 a3 l4 l6 l8 l10 x12 x14 l15 l17 x19 σ = some r → Go G mX14_lookRound 534 [some (.ref 233), some (.ref a1), some (.int x2), some (.ref a3), some (.long l4), none, some (.long l6), none, some (.long l8), none, some (.long l10), none, some (.int x12), d13, some (.int x14), some (.long l15), none, some (.long l17), none, some (.int x19), d20, d21, d22, d23, d24, d25] [] h (fun v h' => xRok (xRt mX14_lookRound) v ∧ v = none ∧ Rl n r.2 h') := by
  intro R g1 g3 hf
  rw [b_X14_lookRound_534] at hf
  refine go_iload (pc' := 536) dX14_lookRound_534 rfl rfl ?_
  refine go_if_eq (pc' := 539) (tgt := 563) dX14_lookRound_536 (by decide) rfl (fun c101 => ?_) (fun c101 => ?_)
  · have hf := it c101 hf
    refine go_iincC (kk := 1) (pc' := 566) dX14_lookRound_563 rfl rfl (by decide) (by decide) rfl ?_
    refine go_goto (pc' := 0) (tgt := 56) dX14_lookRound_566 (by decide) ?_
    exact hk56 R g1 g3 hf
  · have hf := ie c101 hf
    refine go_aload_n (i := 0) (pc' := 540) dX14_lookRound_539 rfl rfl rfl ?_
    refine go_lload (pc' := 542) dX14_lookRound_540 rfl rfl ?_
    refine go_lneg (pc' := 543) dX14_lookRound_542 rfl ?_
    refine go_lload (pc' := 545) dX14_lookRound_543 rfl rfl ?_
    refine go_lneg (pc' := 546) dX14_lookRound_545 rfl ?_
    refine go_iload (pc' := 548) dX14_lookRound_546 rfl rfl ?_
    refine go_if_ne (pc' := 551) (tgt := 555) dX14_lookRound_548 (by decide) rfl (fun c102 => ?_) (fun c102 => ?_)
    · have hf := ie c102 hf
      refine go_iconst (v := 0) (pc' := 556) dX14_lookRound_555 rfl (by decide) ?_
      exact t_X14_lookRound_556 @hk56 R g1 g3 hf
    · have hf := it c102 hf
      refine go_iconst (v := 1) (pc' := 552) dX14_lookRound_551 rfl (by decide) ?_
      refine go_goto (pc' := 0) (tgt := 556) dX14_lookRound_552 (by decide) ?_
      exact t_X14_lookRound_556 @hk56 R g1 g3 hf
def b_X14_lookRound_513 (n : Nat) (k56 : Nat → Int32 → Nat → Int64 → Int64 → Int64 → Int64 → Int32 → xσ → Option (Unit × xσ)) (a1 : Nat) (x2 : Int32) (a3 : Nat) (l4 : Int64) (l6 : Int64) (l8 : Int64) (l10 : Int64) (x12 : Int32) (x13 : Int32) (x14 : Int32) (l15 : Int64) (l17 : Int64) (xs0 : Int32) (σ : xσ) : Option (Unit × xσ) := if x13 = 0 then if x14 = 0 then k56 a1 x2 a3 l4 l6 l8 l10 (x12 + 1) σ else if xs0 = 0 then b_X14_lookRound_556 n k56 a1 x2 a3 l4 l6 l8 l10 x12 1 (-l17) (-l15) σ else b_X14_lookRound_556 n k56 a1 x2 a3 l4 l6 l8 l10 x12 0 (-l17) (-l15) σ else bd (f_X14_begins n l15 l17 xs0 l8 l10 σ) (fun v104 σ105 => b_X14_lookRound_534 n k56 a1 x2 a3 l4 l6 l8 l10 x12 x14 l15 l17 xs0 σ105)
set_option maxRecDepth 100000 in
set_option maxHeartbeats 4000000 in
theorem t_X14_lookRound_513 {G : xG} {n : Nat} {k56 : Nat → Int32 → Nat → Int64 → Int64 → Int64 → Int64 → Int32 → xσ → Option (Unit × xσ)} (hk56 : ∀ {a1 : Nat} {x2 : Int32} {a3 : Nat} {l4 : Int64} {l6 : Int64} {l8 : Int64} {l10 : Int64} {x12 : Int32} {σ : xσ} {h : xH} {r : Unit × xσ} {d13 : Option Value} {d14 : Option Value} {d15 : Option Value} {d16 : Option Value} {d17 : Option Value} {d18 : Option Value} {d19 : Option Value} {d20 : Option Value} {d21 : Option Value} {d22 : Option Value} {d23 : Option Value} {d24 : Option Value} {d25 : Option Value}, Rl n σ h → okM a1 → okM a3 → k56 a1 x2 a3 l4 l6 l8 l10 x12 σ = some r → Go G mX14_lookRound 56 [some (.ref 233), some (.ref a1), some (.int x2), some (.ref a3), some (.long l4), none, some (.long l6), none, some (.long l8), none, some (.long l10), none, some (.int x12), d13, d14, d15, d16, d17, d18, d19, d20, d21, d22, d23, d24, d25] [] h (fun v h' => xRok (xRt mX14_lookRound) v ∧ v = none ∧ Rl n r.2 h')) {a1 : Nat} {x2 : Int32} {a3 : Nat} {l4 : Int64} {l6 : Int64} {l8 : Int64} {l10 : Int64} {x12 : Int32} {x13 : Int32} {x14 : Int32} {l15 : Int64} {l17 : Int64} {xs0 : Int32} {σ : xσ} {h : xH} {r : Unit × xσ} {d19 : Option Value} {d20 : Option Value} {d21 : Option Value} {d22 : Option Value} {d23 : Option Value} {d24 : Option Value} {d25 : Option Value} : Rl n σ h → okM a1 → okM a3 → b_X14_lookRound_513 n k56 a1 x2 a3 l4 l6 l8 l10 x12 x13 x14 l15 l17 xs0 σ = some r → Go G mX14_lookRound 513 [some (.ref 233), some (.ref a1), some (.int x2), some (.ref a3), some (.long l4), none, some (.long l6), none, some (.long l8), none, some (.long l10), none, some (.int x12), some (.int x13), some (.int x14), some (.long l15), none, some (.long l17), none, d19, d20, d21, d22, d23, d24, d25] [.int xs0] h (fun v h' => xRok (xRt mX14_lookRound) v ∧ v = none ∧ Rl n r.2 h') := by
  intro R g1 g3 hf
  rw [b_X14_lookRound_513] at hf
  refine go_istoreE rfl (pc' := 515) dX14_lookRound_513 rfl (by decide) rfl ?_
  refine go_iload (pc' := 517) dX14_lookRound_515 rfl rfl ?_
  refine go_if_eq (pc' := 520) (tgt := 534) dX14_lookRound_517 (by decide) rfl (fun c101 => ?_) (fun c101 => ?_)
  · have hf := it c101 hf
    refine go_iload (pc' := 536) dX14_lookRound_534 rfl rfl ?_
    refine go_if_eq (pc' := 539) (tgt := 563) dX14_lookRound_536 (by decide) rfl (fun c102 => ?_) (fun c102 => ?_)
    · have hf := it c102 hf
      refine go_iincC (kk := 1) (pc' := 566) dX14_lookRound_563 rfl rfl (by decide) (by decide) rfl ?_
      refine go_goto (pc' := 0) (tgt := 56) dX14_lookRound_566 (by decide) ?_
      exact hk56 R g1 g3 hf
    · have hf := ie c102 hf
      refine go_aload_n (i := 0) (pc' := 540) dX14_lookRound_539 rfl rfl rfl ?_
      refine go_lload (pc' := 542) dX14_lookRound_540 rfl rfl ?_
      refine go_lneg (pc' := 543) dX14_lookRound_542 rfl ?_
      refine go_lload (pc' := 545) dX14_lookRound_543 rfl rfl ?_
      refine go_lneg (pc' := 546) dX14_lookRound_545 rfl ?_
      refine go_iload (pc' := 548) dX14_lookRound_546 rfl rfl ?_
      refine go_if_ne (pc' := 551) (tgt := 555) dX14_lookRound_548 (by decide) rfl (fun c103 => ?_) (fun c103 => ?_)
      · have hf := ie c103 hf
        refine go_iconst (v := 0) (pc' := 556) dX14_lookRound_555 rfl (by decide) ?_
        exact t_X14_lookRound_556 @hk56 R g1 g3 hf
      · have hf := it c103 hf
        refine go_iconst (v := 1) (pc' := 552) dX14_lookRound_551 rfl (by decide) ?_
        refine go_goto (pc' := 0) (tgt := 556) dX14_lookRound_552 (by decide) ?_
        exact t_X14_lookRound_556 @hk56 R g1 g3 hf
  · have hf := ie c101 hf
    refine go_aload_n (i := 0) (pc' := 521) dX14_lookRound_520 rfl rfl rfl ?_
    refine go_lload (pc' := 523) dX14_lookRound_521 rfl rfl ?_
    refine go_lload (pc' := 525) dX14_lookRound_523 rfl rfl ?_
    refine go_iload (pc' := 527) dX14_lookRound_525 rfl rfl ?_
    refine go_lload (pc' := 529) dX14_lookRound_527 rfl rfl ?_
    refine go_lload (pc' := 531) dX14_lookRound_529 rfl rfl ?_
    obtain ⟨v104, σ105, e106, hf⟩ := bd_some hf
    refine go_invV (As := [_, _, _, _, _]) (pc' := 534) dX14_lookRound_531 rfl cf_X14_lookRound_164 rfl (R.ob (R.at rfl (by decide))) rfl rfl (Nat.le_of_ble_eq_true rfl) (c_X14_begins R e106) (fun q107v h108 q107 => ?_)
    obtain ⟨rfl, R⟩ := q107
    exact t_X14_lookRound_534 @hk56 R g1 g3 hf
def b_X14_lookRound_444 (n : Nat) (k56 : Nat → Int32 → Nat → Int64 → Int64 → Int64 → Int64 → Int32 → xσ → Option (Unit × xσ)) (a1 : Nat) (x2 : Int32) (a3 : Nat) (l4 : Int64) (l6 : Int64) (l8 : Int64) (l10 : Int64) (x12 : Int32) (x13 : Int32) (x14 : Int32) (σ : xσ) : Option (Unit × xσ) := gd (inb (x12 + 1) 40) (gd (inb x12 40) (st (((sI σ (a3 + 2) (x12 + 1).toNatClampNeg).toInt64) - ((sI σ (a3 + 2) x12.toNatClampNeg).toInt64)) (fun l103 => gd (inb (x12 + 1) 40) (gd (inb x12 40) (st (((sI σ (a3 + 3) (x12 + 1).toNatClampNeg).toInt64) - ((sI σ (a3 + 3) x12.toNatClampNeg).toInt64)) (fun l107 => if (sI σ a3 1) = 2 then bd (f_X14_ringOf n a3 x12 σ) (fun v110 σ111 => gd (inb v110 8) (if (sI σ111 240 v110.toNatClampNeg) = 0 then b_X14_lookRound_513 n k56 a1 x2 a3 l4 l6 l8 l10 x12 x13 x14 l103 l107 0 σ111 else b_X14_lookRound_513 n k56 a1 x2 a3 l4 l6 l8 l10 x12 x13 x14 l103 l107 1 σ111)) else b_X14_lookRound_513 n k56 a1 x2 a3 l4 l6 l8 l10 x12 x13 x14 l103 l107 0 σ))))))
set_option maxRecDepth 100000 in
set_option maxHeartbeats 4000000 in
theorem t_X14_lookRound_444 {G : xG} {n : Nat} {k56 : Nat → Int32 → Nat → Int64 → Int64 → Int64 → Int64 → Int32 → xσ → Option (Unit × xσ)} (hk56 : ∀ {a1 : Nat} {x2 : Int32} {a3 : Nat} {l4 : Int64} {l6 : Int64} {l8 : Int64} {l10 : Int64} {x12 : Int32} {σ : xσ} {h : xH} {r : Unit × xσ} {d13 : Option Value} {d14 : Option Value} {d15 : Option Value} {d16 : Option Value} {d17 : Option Value} {d18 : Option Value} {d19 : Option Value} {d20 : Option Value} {d21 : Option Value} {d22 : Option Value} {d23 : Option Value} {d24 : Option Value} {d25 : Option Value}, Rl n σ h → okM a1 → okM a3 → k56 a1 x2 a3 l4 l6 l8 l10 x12 σ = some r → Go G mX14_lookRound 56 [some (.ref 233), some (.ref a1), some (.int x2), some (.ref a3), some (.long l4), none, some (.long l6), none, some (.long l8), none, some (.long l10), none, some (.int x12), d13, d14, d15, d16, d17, d18, d19, d20, d21, d22, d23, d24, d25] [] h (fun v h' => xRok (xRt mX14_lookRound) v ∧ v = none ∧ Rl n r.2 h')) {a1 : Nat} {x2 : Int32} {a3 : Nat} {l4 : Int64} {l6 : Int64} {l8 : Int64} {l10 : Int64} {x12 : Int32} {x13 : Int32} {x14 : Int32} {σ : xσ} {h : xH} {r : Unit × xσ} {d15 : Option Value} {d16 : Option Value} {d17 : Option Value} {d18 : Option Value} {d19 : Option Value} {d20 : Option Value} {d21 : Option Value} {d22 : Option Value} {d23 : Option Value} {d24 : Option Value} {d25 : Option Value} : Rl n σ h → okM a1 → okM a3 → b_X14_lookRound_444 n k56 a1 x2 a3 l4 l6 l8 l10 x12 x13 x14 σ = some r → Go G mX14_lookRound 444 [some (.ref 233), some (.ref a1), some (.int x2), some (.ref a3), some (.long l4), none, some (.long l6), none, some (.long l8), none, some (.long l10), none, some (.int x12), some (.int x13), some (.int x14), d15, d16, d17, d18, d19, d20, d21, d22, d23, d24, d25] [] h (fun v h' => xRok (xRt mX14_lookRound) v ∧ v = none ∧ Rl n r.2 h') := by
  intro R g1 g3 hf
  rw [b_X14_lookRound_444] at hf
  refine go_aload_n (i := 3) (pc' := 445) dX14_lookRound_444 rfl rfl rfl ?_
  refine go_getS (pc' := 448) dX14_lookRound_445 rfl gf_LandBaseModel_30 R (g3.at R) (by decide) rfl ?_
  refine go_iload (pc' := 450) dX14_lookRound_448 rfl rfl ?_
  refine go_iconst (v := 1) (pc' := 451) dX14_lookRound_450 rfl (by decide) ?_
  refine go_iadd (pc' := 452) dX14_lookRound_451 rfl ?_
  obtain ⟨g101, hf⟩ := gd_some hf
  refine go_ialoadS (pc' := 453) dX14_lookRound_452 rfl R (g3.x R) g101 ?_
  refine go_i2l (pc' := 454) dX14_lookRound_453 rfl rfl ?_
  refine go_aload_n (i := 3) (pc' := 455) dX14_lookRound_454 rfl rfl rfl ?_
  refine go_getS (pc' := 458) dX14_lookRound_455 rfl gf_LandBaseModel_30 R (g3.at R) (by decide) rfl ?_
  refine go_iload (pc' := 460) dX14_lookRound_458 rfl rfl ?_
  obtain ⟨g102, hf⟩ := gd_some hf
  refine go_ialoadS (pc' := 461) dX14_lookRound_460 rfl R (g3.x R) g102 ?_
  refine go_i2l (pc' := 462) dX14_lookRound_461 rfl rfl ?_
  refine go_lsub (pc' := 463) dX14_lookRound_462 rfl ?_
  obtain ⟨l103, e104, hf⟩ := st_some hf
  refine go_lstoreE e104 (pc' := 465) dX14_lookRound_463 rfl (by decide) rfl ?_
  refine go_aload_n (i := 3) (pc' := 466) dX14_lookRound_465 rfl rfl rfl ?_
  refine go_getS (pc' := 469) dX14_lookRound_466 rfl gf_LandBaseModel_36 R (g3.at R) (by decide) rfl ?_
  refine go_iload (pc' := 471) dX14_lookRound_469 rfl rfl ?_
  refine go_iconst (v := 1) (pc' := 472) dX14_lookRound_471 rfl (by decide) ?_
  refine go_iadd (pc' := 473) dX14_lookRound_472 rfl ?_
  obtain ⟨g105, hf⟩ := gd_some hf
  refine go_ialoadS (pc' := 474) dX14_lookRound_473 rfl R (g3.y R) g105 ?_
  refine go_i2l (pc' := 475) dX14_lookRound_474 rfl rfl ?_
  refine go_aload_n (i := 3) (pc' := 476) dX14_lookRound_475 rfl rfl rfl ?_
  refine go_getS (pc' := 479) dX14_lookRound_476 rfl gf_LandBaseModel_36 R (g3.at R) (by decide) rfl ?_
  refine go_iload (pc' := 481) dX14_lookRound_479 rfl rfl ?_
  obtain ⟨g106, hf⟩ := gd_some hf
  refine go_ialoadS (pc' := 482) dX14_lookRound_481 rfl R (g3.y R) g106 ?_
  refine go_i2l (pc' := 483) dX14_lookRound_482 rfl rfl ?_
  refine go_lsub (pc' := 484) dX14_lookRound_483 rfl ?_
  obtain ⟨l107, e108, hf⟩ := st_some hf
  refine go_lstoreE e108 (pc' := 486) dX14_lookRound_484 rfl (by decide) rfl ?_
  refine go_aload_n (i := 3) (pc' := 487) dX14_lookRound_486 rfl rfl rfl ?_
  refine go_getS (pc' := 490) dX14_lookRound_487 rfl gf_LandBaseModel_75 R (g3.at R) (by decide) rfl ?_
  refine go_iconst (v := 2) (pc' := 491) dX14_lookRound_490 rfl (by decide) ?_
  refine go_icmp_ne (pc' := 494) (tgt := 512) dX14_lookRound_491 (by decide) rfl (fun c109 => ?_) (fun c109 => ?_)
  · have hf := ie c109 hf
    refine go_iconst (v := 0) (pc' := 513) dX14_lookRound_512 rfl (by decide) ?_
    exact t_X14_lookRound_513 @hk56 R g1 g3 hf
  · have hf := it c109 hf
    refine go_aload_n (i := 0) (pc' := 495) dX14_lookRound_494 rfl rfl rfl ?_
    refine go_getS (pc' := 498) dX14_lookRound_495 rfl gf_LandBaseModel_156 R (R.at rfl (by decide)) (by decide) rfl ?_
    refine go_aload_n (i := 3) (pc' := 499) dX14_lookRound_498 rfl rfl rfl ?_
    refine go_iload (pc' := 501) dX14_lookRound_499 rfl rfl ?_
    obtain ⟨v110, σ111, e112, hf⟩ := bd_some hf
    refine go_invS (As := [_, _]) (pc' := 504) dX14_lookRound_501 rfl cf_X14_lookRound_160 rfl rfl (Nat.le_of_ble_eq_true rfl) (c_X14_ringOf R e112) (fun q113v h114 q113 => ?_)
    obtain ⟨rfl, R⟩ := q113
    obtain ⟨g115, hf⟩ := gd_some hf
    refine go_zaloadS (pc' := 505) dX14_lookRound_504 rfl R (R.aa rfl (by decide)) g115 ?_
    refine go_if_eq (pc' := 508) (tgt := 512) dX14_lookRound_505 (by decide) rfl (fun c116 => ?_) (fun c116 => ?_)
    · have hf := it c116 hf
      refine go_iconst (v := 0) (pc' := 513) dX14_lookRound_512 rfl (by decide) ?_
      exact t_X14_lookRound_513 @hk56 R g1 g3 hf
    · have hf := ie c116 hf
      refine go_iconst (v := 1) (pc' := 509) dX14_lookRound_508 rfl (by decide) ?_
      refine go_goto (pc' := 0) (tgt := 513) dX14_lookRound_509 (by decide) ?_
      exact t_X14_lookRound_513 @hk56 R g1 g3 hf
def b_X14_lookRound_378 (n : Nat) (k56 : Nat → Int32 → Nat → Int64 → Int64 → Int64 → Int64 → Int32 → xσ → Option (Unit × xσ)) (a1 : Nat) (x2 : Int32) (a3 : Nat) (l4 : Int64) (l6 : Int64) (l8 : Int64) (l10 : Int64) (x12 : Int32) (x13 : Int32) (xs0 : Int32) (σ : xσ) : Option (Unit × xσ) := b_X14_lookRound_444 n k56 a1 x2 a3 l4 l6 l8 l10 x12 x13 xs0 σ
set_option maxRecDepth 100000 in
set_option maxHeartbeats 4000000 in
theorem t_X14_lookRound_378 {G : xG} {n : Nat} {k56 : Nat → Int32 → Nat → Int64 → Int64 → Int64 → Int64 → Int32 → xσ → Option (Unit × xσ)} (hk56 : ∀ {a1 : Nat} {x2 : Int32} {a3 : Nat} {l4 : Int64} {l6 : Int64} {l8 : Int64} {l10 : Int64} {x12 : Int32} {σ : xσ} {h : xH} {r : Unit × xσ} {d13 : Option Value} {d14 : Option Value} {d15 : Option Value} {d16 : Option Value} {d17 : Option Value} {d18 : Option Value} {d19 : Option Value} {d20 : Option Value} {d21 : Option Value} {d22 : Option Value} {d23 : Option Value} {d24 : Option Value} {d25 : Option Value}, Rl n σ h → okM a1 → okM a3 → k56 a1 x2 a3 l4 l6 l8 l10 x12 σ = some r → Go G mX14_lookRound 56 [some (.ref 233), some (.ref a1), some (.int x2), some (.ref a3), some (.long l4), none, some (.long l6), none, some (.long l8), none, some (.long l10), none, some (.int x12), d13, d14, d15, d16, d17, d18, d19, d20, d21, d22, d23, d24, d25] [] h (fun v h' => xRok (xRt mX14_lookRound) v ∧ v = none ∧ Rl n r.2 h')) {a1 : Nat} {x2 : Int32} {a3 : Nat} {l4 : Int64} {l6 : Int64} {l8 : Int64} {l10 : Int64} {x12 : Int32} {x13 : Int32} {xs0 : Int32} {σ : xσ} {h : xH} {r : Unit × xσ} {d14 : Option Value} {d15 : Option Value} {d16 : Option Value} {d17 : Option Value} {d18 : Option Value} {d19 : Option Value} {d20 : Option Value} {d21 : Option Value} {d22 : Option Value} {d23 : Option Value} {d24 : Option Value} {d25 : Option Value} : Rl n σ h → okM a1 → okM a3 → b_X14_lookRound_378 n k56 a1 x2 a3 l4 l6 l8 l10 x12 x13 xs0 σ = some r → Go G mX14_lookRound 378 [some (.ref 233), some (.ref a1), some (.int x2), some (.ref a3), some (.long l4), none, some (.long l6), none, some (.long l8), none, some (.long l10), none, some (.int x12), some (.int x13), d14, d15, d16, d17, d18, d19, d20, d21, d22, d23, d24, d25] [.int xs0] h (fun v h' => xRok (xRt mX14_lookRound) v ∧ v = none ∧ Rl n r.2 h') := by
  intro R g1 g3 hf
  rw [b_X14_lookRound_378] at hf
  refine go_istoreE rfl (pc' := 380) dX14_lookRound_378 rfl (by decide) rfl ?_
  refine go_goto (pc' := 0) (tgt := 444) dX14_lookRound_380 (by decide) ?_
  exact t_X14_lookRound_444 @hk56 R g1 g3 hf
def b_X14_lookRound_377 (n : Nat) (k56 : Nat → Int32 → Nat → Int64 → Int64 → Int64 → Int64 → Int32 → xσ → Option (Unit × xσ)) (a1 : Nat) (x2 : Int32) (a3 : Nat) (l4 : Int64) (l6 : Int64) (l8 : Int64) (l10 : Int64) (x12 : Int32) (x13 : Int32) (σ : xσ) : Option (Unit × xσ) := b_X14_lookRound_378 n k56 a1 x2 a3 l4 l6 l8 l10 x12 x13 0 σ
set_option maxRecDepth 100000 in
set_option maxHeartbeats 4000000 in
theorem t_X14_lookRound_377 {G : xG} {n : Nat} {k56 : Nat → Int32 → Nat → Int64 → Int64 → Int64 → Int64 → Int32 → xσ → Option (Unit × xσ)} (hk56 : ∀ {a1 : Nat} {x2 : Int32} {a3 : Nat} {l4 : Int64} {l6 : Int64} {l8 : Int64} {l10 : Int64} {x12 : Int32} {σ : xσ} {h : xH} {r : Unit × xσ} {d13 : Option Value} {d14 : Option Value} {d15 : Option Value} {d16 : Option Value} {d17 : Option Value} {d18 : Option Value} {d19 : Option Value} {d20 : Option Value} {d21 : Option Value} {d22 : Option Value} {d23 : Option Value} {d24 : Option Value} {d25 : Option Value}, Rl n σ h → okM a1 → okM a3 → k56 a1 x2 a3 l4 l6 l8 l10 x12 σ = some r → Go G mX14_lookRound 56 [some (.ref 233), some (.ref a1), some (.int x2), some (.ref a3), some (.long l4), none, some (.long l6), none, some (.long l8), none, some (.long l10), none, some (.int x12), d13, d14, d15, d16, d17, d18, d19, d20, d21, d22, d23, d24, d25] [] h (fun v h' => xRok (xRt mX14_lookRound) v ∧ v = none ∧ Rl n r.2 h')) {a1 : Nat} {x2 : Int32} {a3 : Nat} {l4 : Int64} {l6 : Int64} {l8 : Int64} {l10 : Int64} {x12 : Int32} {x13 : Int32} {σ : xσ} {h : xH} {r : Unit × xσ} {d14 : Option Value} {d15 : Option Value} {d16 : Option Value} {d17 : Option Value} {d18 : Option Value} {d19 : Option Value} {d20 : Option Value} {d21 : Option Value} {d22 : Option Value} {d23 : Option Value} {d24 : Option Value} {d25 : Option Value} : Rl n σ h → okM a1 → okM a3 → b_X14_lookRound_377 n k56 a1 x2 a3 l4 l6 l8 l10 x12 x13 σ = some r → Go G mX14_lookRound 377 [some (.ref 233), some (.ref a1), some (.int x2), some (.ref a3), some (.long l4), none, some (.long l6), none, some (.long l8), none, some (.long l10), none, some (.int x12), some (.int x13), d14, d15, d16, d17, d18, d19, d20, d21, d22, d23, d24, d25] [] h (fun v h' => xRok (xRt mX14_lookRound) v ∧ v = none ∧ Rl n r.2 h') := by
  intro R g1 g3 hf
  rw [b_X14_lookRound_377] at hf
  refine go_iconst (v := 0) (pc' := 378) dX14_lookRound_377 rfl (by decide) ?_
  exact t_X14_lookRound_378 @hk56 R g1 g3 hf
def b_X14_lookRound_348 (n : Nat) (k56 : Nat → Int32 → Nat → Int64 → Int64 → Int64 → Int64 → Int32 → xσ → Option (Unit × xσ)) (a1 : Nat) (x2 : Int32) (a3 : Nat) (l4 : Int64) (l6 : Int64) (l8 : Int64) (l10 : Int64) (x12 : Int32) (x22 : Int32) (x23 : Int32) (x24 : Int32) (x25 : Int32) (xs0 : Int32) (σ : xσ) : Option (Unit × xσ) := if x24 = 0 then b_X14_lookRound_378 n k56 a1 x2 a3 l4 l6 l8 l10 x12 xs0 0 σ else if x25 = 0 then if x23 = 0 then b_X14_lookRound_378 n k56 a1 x2 a3 l4 l6 l8 l10 x12 xs0 1 σ else b_X14_lookRound_378 n k56 a1 x2 a3 l4 l6 l8 l10 x12 xs0 0 σ else if x22 = 0 then b_X14_lookRound_378 n k56 a1 x2 a3 l4 l6 l8 l10 x12 xs0 1 σ else b_X14_lookRound_377 n k56 a1 x2 a3 l4 l6 l8 l10 x12 xs0 σ
set_option maxRecDepth 100000 in
set_option maxHeartbeats 4000000 in
theorem t_X14_lookRound_348 {G : xG} {n : Nat} {k56 : Nat → Int32 → Nat → Int64 → Int64 → Int64 → Int64 → Int32 → xσ → Option (Unit × xσ)} (hk56 : ∀ {a1 : Nat} {x2 : Int32} {a3 : Nat} {l4 : Int64} {l6 : Int64} {l8 : Int64} {l10 : Int64} {x12 : Int32} {σ : xσ} {h : xH} {r : Unit × xσ} {d13 : Option Value} {d14 : Option Value} {d15 : Option Value} {d16 : Option Value} {d17 : Option Value} {d18 : Option Value} {d19 : Option Value} {d20 : Option Value} {d21 : Option Value} {d22 : Option Value} {d23 : Option Value} {d24 : Option Value} {d25 : Option Value}, Rl n σ h → okM a1 → okM a3 → k56 a1 x2 a3 l4 l6 l8 l10 x12 σ = some r → Go G mX14_lookRound 56 [some (.ref 233), some (.ref a1), some (.int x2), some (.ref a3), some (.long l4), none, some (.long l6), none, some (.long l8), none, some (.long l10), none, some (.int x12), d13, d14, d15, d16, d17, d18, d19, d20, d21, d22, d23, d24, d25] [] h (fun v h' => xRok (xRt mX14_lookRound) v ∧ v = none ∧ Rl n r.2 h')) {a1 : Nat} {x2 : Int32} {a3 : Nat} {l4 : Int64} {l6 : Int64} {l8 : Int64} {l10 : Int64} {x12 : Int32} {x22 : Int32} {x23 : Int32} {x24 : Int32} {x25 : Int32} {xs0 : Int32} {σ : xσ} {h : xH} {r : Unit × xσ} {d13 : Option Value} {d14 : Option Value} {d15 : Option Value} {d16 : Option Value} {d17 : Option Value} {d18 : Option Value} {d19 : Option Value} {d20 : Option Value} {d21 : Option Value} : Rl n σ h → okM a1 → okM a3 → b_X14_lookRound_348 n k56 a1 x2 a3 l4 l6 l8 l10 x12 x22 x23 x24 x25 xs0 σ = some r → Go G mX14_lookRound 348 [some (.ref 233), some (.ref a1), some (.int x2), some (.ref a3), some (.long l4), none, some (.long l6), none, some (.long l8), none, some (.long l10), none, some (.int x12), d13, d14, d15, d16, d17, d18, d19, d20, d21, some (.int x22), some (.int x23), some (.int x24), some (.int x25)] [.int xs0] h (fun v h' => xRok (xRt mX14_lookRound) v ∧ v = none ∧ Rl n r.2 h') := by
  intro R g1 g3 hf
  rw [b_X14_lookRound_348] at hf
  refine go_istoreE rfl (pc' := 350) dX14_lookRound_348 rfl (by decide) rfl ?_
  refine go_iload (pc' := 352) dX14_lookRound_350 rfl rfl ?_
  refine go_if_eq (pc' := 355) (tgt := 377) dX14_lookRound_352 (by decide) rfl (fun c101 => ?_) (fun c101 => ?_)
  · have hf := it c101 hf
    refine go_iconst (v := 0) (pc' := 378) dX14_lookRound_377 rfl (by decide) ?_
    exact t_X14_lookRound_378 @hk56 R g1 g3 hf
  · have hf := ie c101 hf
    refine go_iload (pc' := 357) dX14_lookRound_355 rfl rfl ?_
    refine go_if_eq (pc' := 360) (tgt := 368) dX14_lookRound_357 (by decide) rfl (fun c102 => ?_) (fun c102 => ?_)
    · have hf := it c102 hf
      refine go_iload (pc' := 370) dX14_lookRound_368 rfl rfl ?_
      refine go_if_ne (pc' := 373) (tgt := 377) dX14_lookRound_370 (by decide) rfl (fun c103 => ?_) (fun c103 => ?_)
      · have hf := ie c103 hf
        refine go_iconst (v := 0) (pc' := 378) dX14_lookRound_377 rfl (by decide) ?_
        exact t_X14_lookRound_378 @hk56 R g1 g3 hf
      · have hf := it c103 hf
        refine go_iconst (v := 1) (pc' := 374) dX14_lookRound_373 rfl (by decide) ?_
        refine go_goto (pc' := 0) (tgt := 378) dX14_lookRound_374 (by decide) ?_
        exact t_X14_lookRound_378 @hk56 R g1 g3 hf
    · have hf := ie c102 hf
      refine go_iload (pc' := 362) dX14_lookRound_360 rfl rfl ?_
      refine go_if_eq (pc' := 365) (tgt := 373) dX14_lookRound_362 (by decide) rfl (fun c104 => ?_) (fun c104 => ?_)
      · have hf := it c104 hf
        refine go_iconst (v := 1) (pc' := 374) dX14_lookRound_373 rfl (by decide) ?_
        refine go_goto (pc' := 0) (tgt := 378) dX14_lookRound_374 (by decide) ?_
        exact t_X14_lookRound_378 @hk56 R g1 g3 hf
      · have hf := ie c104 hf
        refine go_goto (pc' := 0) (tgt := 377) dX14_lookRound_365 (by decide) ?_
        exact t_X14_lookRound_377 @hk56 R g1 g3 hf
def b_X14_lookRound_347 (n : Nat) (k56 : Nat → Int32 → Nat → Int64 → Int64 → Int64 → Int64 → Int32 → xσ → Option (Unit × xσ)) (a1 : Nat) (x2 : Int32) (a3 : Nat) (l4 : Int64) (l6 : Int64) (l8 : Int64) (l10 : Int64) (x12 : Int32) (x22 : Int32) (x23 : Int32) (x24 : Int32) (x25 : Int32) (σ : xσ) : Option (Unit × xσ) := b_X14_lookRound_348 n k56 a1 x2 a3 l4 l6 l8 l10 x12 x22 x23 x24 x25 0 σ
set_option maxRecDepth 100000 in
set_option maxHeartbeats 4000000 in
theorem t_X14_lookRound_347 {G : xG} {n : Nat} {k56 : Nat → Int32 → Nat → Int64 → Int64 → Int64 → Int64 → Int32 → xσ → Option (Unit × xσ)} (hk56 : ∀ {a1 : Nat} {x2 : Int32} {a3 : Nat} {l4 : Int64} {l6 : Int64} {l8 : Int64} {l10 : Int64} {x12 : Int32} {σ : xσ} {h : xH} {r : Unit × xσ} {d13 : Option Value} {d14 : Option Value} {d15 : Option Value} {d16 : Option Value} {d17 : Option Value} {d18 : Option Value} {d19 : Option Value} {d20 : Option Value} {d21 : Option Value} {d22 : Option Value} {d23 : Option Value} {d24 : Option Value} {d25 : Option Value}, Rl n σ h → okM a1 → okM a3 → k56 a1 x2 a3 l4 l6 l8 l10 x12 σ = some r → Go G mX14_lookRound 56 [some (.ref 233), some (.ref a1), some (.int x2), some (.ref a3), some (.long l4), none, some (.long l6), none, some (.long l8), none, some (.long l10), none, some (.int x12), d13, d14, d15, d16, d17, d18, d19, d20, d21, d22, d23, d24, d25] [] h (fun v h' => xRok (xRt mX14_lookRound) v ∧ v = none ∧ Rl n r.2 h')) {a1 : Nat} {x2 : Int32} {a3 : Nat} {l4 : Int64} {l6 : Int64} {l8 : Int64} {l10 : Int64} {x12 : Int32} {x22 : Int32} {x23 : Int32} {x24 : Int32} {x25 : Int32} {σ : xσ} {h : xH} {r : Unit × xσ} {d13 : Option Value} {d14 : Option Value} {d15 : Option Value} {d16 : Option Value} {d17 : Option Value} {d18 : Option Value} {d19 : Option Value} {d20 : Option Value} {d21 : Option Value} : Rl n σ h → okM a1 → okM a3 → b_X14_lookRound_347 n k56 a1 x2 a3 l4 l6 l8 l10 x12 x22 x23 x24 x25 σ = some r → Go G mX14_lookRound 347 [some (.ref 233), some (.ref a1), some (.int x2), some (.ref a3), some (.long l4), none, some (.long l6), none, some (.long l8), none, some (.long l10), none, some (.int x12), d13, d14, d15, d16, d17, d18, d19, d20, d21, some (.int x22), some (.int x23), some (.int x24), some (.int x25)] [] h (fun v h' => xRok (xRt mX14_lookRound) v ∧ v = none ∧ Rl n r.2 h') := by
  intro R g1 g3 hf
  rw [b_X14_lookRound_347] at hf
  refine go_iconst (v := 0) (pc' := 348) dX14_lookRound_347 rfl (by decide) ?_
  exact t_X14_lookRound_348 @hk56 R g1 g3 hf
def b_X14_lookRound_318 (n : Nat) (k56 : Nat → Int32 → Nat → Int64 → Int64 → Int64 → Int64 → Int32 → xσ → Option (Unit × xσ)) (a1 : Nat) (x2 : Int32) (a3 : Nat) (l4 : Int64) (l6 : Int64) (l8 : Int64) (l10 : Int64) (x12 : Int32) (x22 : Int32) (x23 : Int32) (x24 : Int32) (xs0 : Int32) (σ : xσ) : Option (Unit × xσ) := if x24 = 0 then b_X14_lookRound_348 n k56 a1 x2 a3 l4 l6 l8 l10 x12 x22 x23 x24 xs0 0 σ else if xs0 = 0 then if x22 = 0 then b_X14_lookRound_348 n k56 a1 x2 a3 l4 l6 l8 l10 x12 x22 x23 x24 xs0 1 σ else b_X14_lookRound_348 n k56 a1 x2 a3 l4 l6 l8 l10 x12 x22 x23 x24 xs0 0 σ else if x23 = 0 then b_X14_lookRound_348 n k56 a1 x2 a3 l4 l6 l8 l10 x12 x22 x23 x24 xs0 1 σ else b_X14_lookRound_347 n k56 a1 x2 a3 l4 l6 l8 l10 x12 x22 x23 x24 xs0 σ
set_option maxRecDepth 100000 in
set_option maxHeartbeats 4000000 in
theorem t_X14_lookRound_318 {G : xG} {n : Nat} {k56 : Nat → Int32 → Nat → Int64 → Int64 → Int64 → Int64 → Int32 → xσ → Option (Unit × xσ)} (hk56 : ∀ {a1 : Nat} {x2 : Int32} {a3 : Nat} {l4 : Int64} {l6 : Int64} {l8 : Int64} {l10 : Int64} {x12 : Int32} {σ : xσ} {h : xH} {r : Unit × xσ} {d13 : Option Value} {d14 : Option Value} {d15 : Option Value} {d16 : Option Value} {d17 : Option Value} {d18 : Option Value} {d19 : Option Value} {d20 : Option Value} {d21 : Option Value} {d22 : Option Value} {d23 : Option Value} {d24 : Option Value} {d25 : Option Value}, Rl n σ h → okM a1 → okM a3 → k56 a1 x2 a3 l4 l6 l8 l10 x12 σ = some r → Go G mX14_lookRound 56 [some (.ref 233), some (.ref a1), some (.int x2), some (.ref a3), some (.long l4), none, some (.long l6), none, some (.long l8), none, some (.long l10), none, some (.int x12), d13, d14, d15, d16, d17, d18, d19, d20, d21, d22, d23, d24, d25] [] h (fun v h' => xRok (xRt mX14_lookRound) v ∧ v = none ∧ Rl n r.2 h')) {a1 : Nat} {x2 : Int32} {a3 : Nat} {l4 : Int64} {l6 : Int64} {l8 : Int64} {l10 : Int64} {x12 : Int32} {x22 : Int32} {x23 : Int32} {x24 : Int32} {xs0 : Int32} {σ : xσ} {h : xH} {r : Unit × xσ} {d13 : Option Value} {d14 : Option Value} {d15 : Option Value} {d16 : Option Value} {d17 : Option Value} {d18 : Option Value} {d19 : Option Value} {d20 : Option Value} {d21 : Option Value} {d25 : Option Value} : Rl n σ h → okM a1 → okM a3 → b_X14_lookRound_318 n k56 a1 x2 a3 l4 l6 l8 l10 x12 x22 x23 x24 xs0 σ = some r → Go G mX14_lookRound 318 [some (.ref 233), some (.ref a1), some (.int x2), some (.ref a3), some (.long l4), none, some (.long l6), none, some (.long l8), none, some (.long l10), none, some (.int x12), d13, d14, d15, d16, d17, d18, d19, d20, d21, some (.int x22), some (.int x23), some (.int x24), d25] [.int xs0] h (fun v h' => xRok (xRt mX14_lookRound) v ∧ v = none ∧ Rl n r.2 h') := by
  intro R g1 g3 hf
  rw [b_X14_lookRound_318] at hf
  refine go_istoreE rfl (pc' := 320) dX14_lookRound_318 rfl (by decide) rfl ?_
  refine go_iload (pc' := 322) dX14_lookRound_320 rfl rfl ?_
  refine go_if_eq (pc' := 325) (tgt := 347) dX14_lookRound_322 (by decide) rfl (fun c101 => ?_) (fun c101 => ?_)
  · have hf := it c101 hf
    refine go_iconst (v := 0) (pc' := 348) dX14_lookRound_347 rfl (by decide) ?_
    exact t_X14_lookRound_348 @hk56 R g1 g3 hf
  · have hf := ie c101 hf
    refine go_iload (pc' := 327) dX14_lookRound_325 rfl rfl ?_
    refine go_if_eq (pc' := 330) (tgt := 338) dX14_lookRound_327 (by decide) rfl (fun c102 => ?_) (fun c102 => ?_)
    · have hf := it c102 hf
      refine go_iload (pc' := 340) dX14_lookRound_338 rfl rfl ?_
      refine go_if_ne (pc' := 343) (tgt := 347) dX14_lookRound_340 (by decide) rfl (fun c103 => ?_) (fun c103 => ?_)
      · have hf := ie c103 hf
        refine go_iconst (v := 0) (pc' := 348) dX14_lookRound_347 rfl (by decide) ?_
        exact t_X14_lookRound_348 @hk56 R g1 g3 hf
      · have hf := it c103 hf
        refine go_iconst (v := 1) (pc' := 344) dX14_lookRound_343 rfl (by decide) ?_
        refine go_goto (pc' := 0) (tgt := 348) dX14_lookRound_344 (by decide) ?_
        exact t_X14_lookRound_348 @hk56 R g1 g3 hf
    · have hf := ie c102 hf
      refine go_iload (pc' := 332) dX14_lookRound_330 rfl rfl ?_
      refine go_if_eq (pc' := 335) (tgt := 343) dX14_lookRound_332 (by decide) rfl (fun c104 => ?_) (fun c104 => ?_)
      · have hf := it c104 hf
        refine go_iconst (v := 1) (pc' := 344) dX14_lookRound_343 rfl (by decide) ?_
        refine go_goto (pc' := 0) (tgt := 348) dX14_lookRound_344 (by decide) ?_
        exact t_X14_lookRound_348 @hk56 R g1 g3 hf
      · have hf := ie c104 hf
        refine go_goto (pc' := 0) (tgt := 347) dX14_lookRound_335 (by decide) ?_
        exact t_X14_lookRound_347 @hk56 R g1 g3 hf
def b_X14_lookRound_299 (n : Nat) (k56 : Nat → Int32 → Nat → Int64 → Int64 → Int64 → Int64 → Int32 → xσ → Option (Unit × xσ)) (a1 : Nat) (x2 : Int32) (a3 : Nat) (l4 : Int64) (l6 : Int64) (l8 : Int64) (l10 : Int64) (x12 : Int32) (x22 : Int32) (x23 : Int32) (xs0 : Int32) (σ : xσ) : Option (Unit × xσ) := if 0 < (lg_cmp (sJ σ 233 11) (sJ σ 233 12)) then b_X14_lookRound_318 n k56 a1 x2 a3 l4 l6 l8 l10 x12 x22 x23 xs0 0 σ else b_X14_lookRound_318 n k56 a1 x2 a3 l4 l6 l8 l10 x12 x22 x23 xs0 1 σ
set_option maxRecDepth 100000 in
set_option maxHeartbeats 4000000 in
theorem t_X14_lookRound_299 {G : xG} {n : Nat} {k56 : Nat → Int32 → Nat → Int64 → Int64 → Int64 → Int64 → Int32 → xσ → Option (Unit × xσ)} (hk56 : ∀ {a1 : Nat} {x2 : Int32} {a3 : Nat} {l4 : Int64} {l6 : Int64} {l8 : Int64} {l10 : Int64} {x12 : Int32} {σ : xσ} {h : xH} {r : Unit × xσ} {d13 : Option Value} {d14 : Option Value} {d15 : Option Value} {d16 : Option Value} {d17 : Option Value} {d18 : Option Value} {d19 : Option Value} {d20 : Option Value} {d21 : Option Value} {d22 : Option Value} {d23 : Option Value} {d24 : Option Value} {d25 : Option Value}, Rl n σ h → okM a1 → okM a3 → k56 a1 x2 a3 l4 l6 l8 l10 x12 σ = some r → Go G mX14_lookRound 56 [some (.ref 233), some (.ref a1), some (.int x2), some (.ref a3), some (.long l4), none, some (.long l6), none, some (.long l8), none, some (.long l10), none, some (.int x12), d13, d14, d15, d16, d17, d18, d19, d20, d21, d22, d23, d24, d25] [] h (fun v h' => xRok (xRt mX14_lookRound) v ∧ v = none ∧ Rl n r.2 h')) {a1 : Nat} {x2 : Int32} {a3 : Nat} {l4 : Int64} {l6 : Int64} {l8 : Int64} {l10 : Int64} {x12 : Int32} {x22 : Int32} {x23 : Int32} {xs0 : Int32} {σ : xσ} {h : xH} {r : Unit × xσ} {d13 : Option Value} {d14 : Option Value} {d15 : Option Value} {d16 : Option Value} {d17 : Option Value} {d18 : Option Value} {d19 : Option Value} {d20 : Option Value} {d21 : Option Value} {d24 : Option Value} {d25 : Option Value} : Rl n σ h → okM a1 → okM a3 → b_X14_lookRound_299 n k56 a1 x2 a3 l4 l6 l8 l10 x12 x22 x23 xs0 σ = some r → Go G mX14_lookRound 299 [some (.ref 233), some (.ref a1), some (.int x2), some (.ref a3), some (.long l4), none, some (.long l6), none, some (.long l8), none, some (.long l10), none, some (.int x12), d13, d14, d15, d16, d17, d18, d19, d20, d21, some (.int x22), some (.int x23), d24, d25] [.int xs0] h (fun v h' => xRok (xRt mX14_lookRound) v ∧ v = none ∧ Rl n r.2 h') := by
  intro R g1 g3 hf
  rw [b_X14_lookRound_299] at hf
  refine go_istoreE rfl (pc' := 301) dX14_lookRound_299 rfl (by decide) rfl ?_
  refine go_aload_n (i := 0) (pc' := 302) dX14_lookRound_301 rfl rfl rfl ?_
  refine go_getS (pc' := 305) dX14_lookRound_302 rfl gf_LandBaseModel_105 R (R.at rfl (by decide)) (by decide) rfl ?_
  refine go_aload_n (i := 0) (pc' := 306) dX14_lookRound_305 rfl rfl rfl ?_
  refine go_getS (pc' := 309) dX14_lookRound_306 rfl gf_LandBaseModel_108 R (R.at rfl (by decide)) (by decide) rfl ?_
  refine go_lcmp (pc' := 310) dX14_lookRound_309 rfl ?_
  refine go_if_gt (pc' := 313) (tgt := 317) dX14_lookRound_310 (by decide) rfl (fun c101 => ?_) (fun c101 => ?_)
  · have hf := it c101 hf
    refine go_iconst (v := 0) (pc' := 318) dX14_lookRound_317 rfl (by decide) ?_
    exact t_X14_lookRound_318 @hk56 R g1 g3 hf
  · have hf := ie c101 hf
    refine go_iconst (v := 1) (pc' := 314) dX14_lookRound_313 rfl (by decide) ?_
    refine go_goto (pc' := 0) (tgt := 318) dX14_lookRound_314 (by decide) ?_
    exact t_X14_lookRound_318 @hk56 R g1 g3 hf
def b_X14_lookRound_282 (n : Nat) (k56 : Nat → Int32 → Nat → Int64 → Int64 → Int64 → Int64 → Int32 → xσ → Option (Unit × xσ)) (a1 : Nat) (x2 : Int32) (a3 : Nat) (l4 : Int64) (l6 : Int64) (l8 : Int64) (l10 : Int64) (x12 : Int32) (x20 : Int32) (x21 : Int32) (x22 : Int32) (xs0 : Int32) (σ : xσ) : Option (Unit × xσ) := if x20 = 0 then b_X14_lookRound_299 n k56 a1 x2 a3 l4 l6 l8 l10 x12 x22 xs0 0 σ else if x21 = 0 then b_X14_lookRound_299 n k56 a1 x2 a3 l4 l6 l8 l10 x12 x22 xs0 0 σ else b_X14_lookRound_299 n k56 a1 x2 a3 l4 l6 l8 l10 x12 x22 xs0 1 σ
set_option maxRecDepth 100000 in
set_option maxHeartbeats 4000000 in
theorem t_X14_lookRound_282 {G : xG} {n : Nat} {k56 : Nat → Int32 → Nat → Int64 → Int64 → Int64 → Int64 → Int32 → xσ → Option (Unit × xσ)} (hk56 : ∀ {a1 : Nat} {x2 : Int32} {a3 : Nat} {l4 : Int64} {l6 : Int64} {l8 : Int64} {l10 : Int64} {x12 : Int32} {σ : xσ} {h : xH} {r : Unit × xσ} {d13 : Option Value} {d14 : Option Value} {d15 : Option Value} {d16 : Option Value} {d17 : Option Value} {d18 : Option Value} {d19 : Option Value} {d20 : Option Value} {d21 : Option Value} {d22 : Option Value} {d23 : Option Value} {d24 : Option Value} {d25 : Option Value}, Rl n σ h → okM a1 → okM a3 → k56 a1 x2 a3 l4 l6 l8 l10 x12 σ = some r → Go G mX14_lookRound 56 [some (.ref 233), some (.ref a1), some (.int x2), some (.ref a3), some (.long l4), none, some (.long l6), none, some (.long l8), none, some (.long l10), none, some (.int x12), d13, d14, d15, d16, d17, d18, d19, d20, d21, d22, d23, d24, d25] [] h (fun v h' => xRok (xRt mX14_lookRound) v ∧ v = none ∧ Rl n r.2 h')) {a1 : Nat} {x2 : Int32} {a3 : Nat} {l4 : Int64} {l6 : Int64} {l8 : Int64} {l10 : Int64} {x12 : Int32} {x20 : Int32} {x21 : Int32} {x22 : Int32} {xs0 : Int32} {σ : xσ} {h : xH} {r : Unit × xσ} {d13 : Option Value} {d14 : Option Value} {d15 : Option Value} {d16 : Option Value} {d17 : Option Value} {d18 : Option Value} {d19 : Option Value} {d23 : Option Value} {d24 : Option Value} {d25 : Option Value} : Rl n σ h → okM a1 → okM a3 → b_X14_lookRound_282 n k56 a1 x2 a3 l4 l6 l8 l10 x12 x20 x21 x22 xs0 σ = some r → Go G mX14_lookRound 282 [some (.ref 233), some (.ref a1), some (.int x2), some (.ref a3), some (.long l4), none, some (.long l6), none, some (.long l8), none, some (.long l10), none, some (.int x12), d13, d14, d15, d16, d17, d18, d19, some (.int x20), some (.int x21), some (.int x22), d23, d24, d25] [.int xs0] h (fun v h' => xRok (xRt mX14_lookRound) v ∧ v = none ∧ Rl n r.2 h') := by
  intro R g1 g3 hf
  rw [b_X14_lookRound_282] at hf
  refine go_istoreE rfl (pc' := 284) dX14_lookRound_282 rfl (by decide) rfl ?_
  refine go_iload (pc' := 286) dX14_lookRound_284 rfl rfl ?_
  refine go_if_eq (pc' := 289) (tgt := 298) dX14_lookRound_286 (by decide) rfl (fun c101 => ?_) (fun c101 => ?_)
  · have hf := it c101 hf
    refine go_iconst (v := 0) (pc' := 299) dX14_lookRound_298 rfl (by decide) ?_
    exact t_X14_lookRound_299 @hk56 R g1 g3 hf
  · have hf := ie c101 hf
    refine go_iload (pc' := 291) dX14_lookRound_289 rfl rfl ?_
    refine go_if_eq (pc' := 294) (tgt := 298) dX14_lookRound_291 (by decide) rfl (fun c102 => ?_) (fun c102 => ?_)
    · have hf := it c102 hf
      refine go_iconst (v := 0) (pc' := 299) dX14_lookRound_298 rfl (by decide) ?_
      exact t_X14_lookRound_299 @hk56 R g1 g3 hf
    · have hf := ie c102 hf
      refine go_iconst (v := 1) (pc' := 295) dX14_lookRound_294 rfl (by decide) ?_
      refine go_goto (pc' := 0) (tgt := 299) dX14_lookRound_295 (by decide) ?_
      exact t_X14_lookRound_299 @hk56 R g1 g3 hf
def b_X14_lookRound_251 (n : Nat) (k56 : Nat → Int32 → Nat → Int64 → Int64 → Int64 → Int64 → Int32 → xσ → Option (Unit × xσ)) (a1 : Nat) (x2 : Int32) (a3 : Nat) (l4 : Int64) (l6 : Int64) (l8 : Int64) (l10 : Int64) (x12 : Int32) (l18 : Int64) (x20 : Int32) (x21 : Int32) (xs0 : Int32) (σ : xσ) : Option (Unit × xσ) := if (lg_cmp l18 ((0 : Int64))) < 0 then b_X14_lookRound_282 n k56 a1 x2 a3 l4 l6 l8 l10 x12 x20 x21 xs0 0 σ else bd (f_X14_compare_ n l18 (sJ σ 233 10) l4 l6 σ) (fun v102 σ103 => if v102 = 0 then b_X14_lookRound_282 n k56 a1 x2 a3 l4 l6 l8 l10 x12 x20 x21 xs0 1 σ103 else b_X14_lookRound_282 n k56 a1 x2 a3 l4 l6 l8 l10 x12 x20 x21 xs0 0 σ103)
set_option maxRecDepth 100000 in
set_option maxHeartbeats 4000000 in
theorem t_X14_lookRound_251 {G : xG} {n : Nat} {k56 : Nat → Int32 → Nat → Int64 → Int64 → Int64 → Int64 → Int32 → xσ → Option (Unit × xσ)} (hk56 : ∀ {a1 : Nat} {x2 : Int32} {a3 : Nat} {l4 : Int64} {l6 : Int64} {l8 : Int64} {l10 : Int64} {x12 : Int32} {σ : xσ} {h : xH} {r : Unit × xσ} {d13 : Option Value} {d14 : Option Value} {d15 : Option Value} {d16 : Option Value} {d17 : Option Value} {d18 : Option Value} {d19 : Option Value} {d20 : Option Value} {d21 : Option Value} {d22 : Option Value} {d23 : Option Value} {d24 : Option Value} {d25 : Option Value}, Rl n σ h → okM a1 → okM a3 → k56 a1 x2 a3 l4 l6 l8 l10 x12 σ = some r → Go G mX14_lookRound 56 [some (.ref 233), some (.ref a1), some (.int x2), some (.ref a3), some (.long l4), none, some (.long l6), none, some (.long l8), none, some (.long l10), none, some (.int x12), d13, d14, d15, d16, d17, d18, d19, d20, d21, d22, d23, d24, d25] [] h (fun v h' => xRok (xRt mX14_lookRound) v ∧ v = none ∧ Rl n r.2 h')) {a1 : Nat} {x2 : Int32} {a3 : Nat} {l4 : Int64} {l6 : Int64} {l8 : Int64} {l10 : Int64} {x12 : Int32} {l18 : Int64} {x20 : Int32} {x21 : Int32} {xs0 : Int32} {σ : xσ} {h : xH} {r : Unit × xσ} {d13 : Option Value} {d14 : Option Value} {d15 : Option Value} {d16 : Option Value} {d17 : Option Value} {d22 : Option Value} {d23 : Option Value} {d24 : Option Value} {d25 : Option Value} : Rl n σ h → okM a1 → okM a3 → b_X14_lookRound_251 n k56 a1 x2 a3 l4 l6 l8 l10 x12 l18 x20 x21 xs0 σ = some r → Go G mX14_lookRound 251 [some (.ref 233), some (.ref a1), some (.int x2), some (.ref a3), some (.long l4), none, some (.long l6), none, some (.long l8), none, some (.long l10), none, some (.int x12), d13, d14, d15, d16, d17, some (.long l18), none, some (.int x20), some (.int x21), d22, d23, d24, d25] [.int xs0] h (fun v h' => xRok (xRt mX14_lookRound) v ∧ v = none ∧ Rl n r.2 h') := by
  intro R g1 g3 hf
  rw [b_X14_lookRound_251] at hf
  refine go_istoreE rfl (pc' := 253) dX14_lookRound_251 rfl (by decide) rfl ?_
  refine go_lload (pc' := 255) dX14_lookRound_253 rfl rfl ?_
  refine go_lconst (v := 0) (pc' := 256) dX14_lookRound_255 rfl (by decide) ?_
  refine go_lcmp (pc' := 257) dX14_lookRound_256 rfl ?_
  refine go_if_lt (pc' := 260) (tgt := 281) dX14_lookRound_257 (by decide) rfl (fun c101 => ?_) (fun c101 => ?_)
  · have hf := it c101 hf
    refine go_iconst (v := 0) (pc' := 282) dX14_lookRound_281 rfl (by decide) ?_
    exact t_X14_lookRound_282 @hk56 R g1 g3 hf
  · have hf := ie c101 hf
    refine go_aload_n (i := 0) (pc' := 261) dX14_lookRound_260 rfl rfl rfl ?_
    refine go_lload (pc' := 263) dX14_lookRound_261 rfl rfl ?_
    refine go_aload_n (i := 0) (pc' := 264) dX14_lookRound_263 rfl rfl rfl ?_
    refine go_getS (pc' := 267) dX14_lookRound_264 rfl gf_LandBaseModel_94 R (R.at rfl (by decide)) (by decide) rfl ?_
    refine go_lload (pc' := 269) dX14_lookRound_267 rfl rfl ?_
    refine go_lload (pc' := 271) dX14_lookRound_269 rfl rfl ?_
    obtain ⟨v102, σ103, e104, hf⟩ := bd_some hf
    refine go_invV (As := [_, _, _, _]) (pc' := 274) dX14_lookRound_271 rfl cf_X14_lookRound_151 rfl (R.ob (R.at rfl (by decide))) rfl rfl (Nat.le_of_ble_eq_true rfl) (c_X14_compare_ R e104) (fun q105v h106 q105 => ?_)
    obtain ⟨rfl, R⟩ := q105
    refine go_if_ne (pc' := 277) (tgt := 281) dX14_lookRound_274 (by decide) rfl (fun c107 => ?_) (fun c107 => ?_)
    · have hf := ie c107 hf
      refine go_iconst (v := 0) (pc' := 282) dX14_lookRound_281 rfl (by decide) ?_
      exact t_X14_lookRound_282 @hk56 R g1 g3 hf
    · have hf := it c107 hf
      refine go_iconst (v := 1) (pc' := 278) dX14_lookRound_277 rfl (by decide) ?_
      refine go_goto (pc' := 0) (tgt := 282) dX14_lookRound_278 (by decide) ?_
      exact t_X14_lookRound_282 @hk56 R g1 g3 hf
def b_X14_lookRound_232 (n : Nat) (k56 : Nat → Int32 → Nat → Int64 → Int64 → Int64 → Int64 → Int32 → xσ → Option (Unit × xσ)) (a1 : Nat) (x2 : Int32) (a3 : Nat) (l4 : Int64) (l6 : Int64) (l8 : Int64) (l10 : Int64) (x12 : Int32) (x15 : Int32) (l16 : Int64) (l18 : Int64) (x20 : Int32) (xs0 : Int32) (σ : xσ) : Option (Unit × xσ) := if (lg_cmp l16 ((0 : Int64))) < 0 then b_X14_lookRound_251 n k56 a1 x2 a3 l4 l6 l8 l10 x12 l18 x20 xs0 0 σ else if x15 = 0 then b_X14_lookRound_251 n k56 a1 x2 a3 l4 l6 l8 l10 x12 l18 x20 xs0 1 σ else b_X14_lookRound_251 n k56 a1 x2 a3 l4 l6 l8 l10 x12 l18 x20 xs0 0 σ
set_option maxRecDepth 100000 in
set_option maxHeartbeats 4000000 in
theorem t_X14_lookRound_232 {G : xG} {n : Nat} {k56 : Nat → Int32 → Nat → Int64 → Int64 → Int64 → Int64 → Int32 → xσ → Option (Unit × xσ)} (hk56 : ∀ {a1 : Nat} {x2 : Int32} {a3 : Nat} {l4 : Int64} {l6 : Int64} {l8 : Int64} {l10 : Int64} {x12 : Int32} {σ : xσ} {h : xH} {r : Unit × xσ} {d13 : Option Value} {d14 : Option Value} {d15 : Option Value} {d16 : Option Value} {d17 : Option Value} {d18 : Option Value} {d19 : Option Value} {d20 : Option Value} {d21 : Option Value} {d22 : Option Value} {d23 : Option Value} {d24 : Option Value} {d25 : Option Value}, Rl n σ h → okM a1 → okM a3 → k56 a1 x2 a3 l4 l6 l8 l10 x12 σ = some r → Go G mX14_lookRound 56 [some (.ref 233), some (.ref a1), some (.int x2), some (.ref a3), some (.long l4), none, some (.long l6), none, some (.long l8), none, some (.long l10), none, some (.int x12), d13, d14, d15, d16, d17, d18, d19, d20, d21, d22, d23, d24, d25] [] h (fun v h' => xRok (xRt mX14_lookRound) v ∧ v = none ∧ Rl n r.2 h')) {a1 : Nat} {x2 : Int32} {a3 : Nat} {l4 : Int64} {l6 : Int64} {l8 : Int64} {l10 : Int64} {x12 : Int32} {x15 : Int32} {l16 : Int64} {l18 : Int64} {x20 : Int32} {xs0 : Int32} {σ : xσ} {h : xH} {r : Unit × xσ} {d13 : Option Value} {d14 : Option Value} {d21 : Option Value} {d22 : Option Value} {d23 : Option Value} {d24 : Option Value} {d25 : Option Value} : Rl n σ h → okM a1 → okM a3 → b_X14_lookRound_232 n k56 a1 x2 a3 l4 l6 l8 l10 x12 x15 l16 l18 x20 xs0 σ = some r → Go G mX14_lookRound 232 [some (.ref 233), some (.ref a1), some (.int x2), some (.ref a3), some (.long l4), none, some (.long l6), none, some (.long l8), none, some (.long l10), none, some (.int x12), d13, d14, some (.int x15), some (.long l16), none, some (.long l18), none, some (.int x20), d21, d22, d23, d24, d25] [.int xs0] h (fun v h' => xRok (xRt mX14_lookRound) v ∧ v = none ∧ Rl n r.2 h') := by
  intro R g1 g3 hf
  rw [b_X14_lookRound_232] at hf
  refine go_istoreE rfl (pc' := 234) dX14_lookRound_232 rfl (by decide) rfl ?_
  refine go_lload (pc' := 236) dX14_lookRound_234 rfl rfl ?_
  refine go_lconst (v := 0) (pc' := 237) dX14_lookRound_236 rfl (by decide) ?_
  refine go_lcmp (pc' := 238) dX14_lookRound_237 rfl ?_
  refine go_if_lt (pc' := 241) (tgt := 250) dX14_lookRound_238 (by decide) rfl (fun c101 => ?_) (fun c101 => ?_)
  · have hf := it c101 hf
    refine go_iconst (v := 0) (pc' := 251) dX14_lookRound_250 rfl (by decide) ?_
    exact t_X14_lookRound_251 @hk56 R g1 g3 hf
  · have hf := ie c101 hf
    refine go_iload (pc' := 243) dX14_lookRound_241 rfl rfl ?_
    refine go_if_ne (pc' := 246) (tgt := 250) dX14_lookRound_243 (by decide) rfl (fun c102 => ?_) (fun c102 => ?_)
    · have hf := ie c102 hf
      refine go_iconst (v := 0) (pc' := 251) dX14_lookRound_250 rfl (by decide) ?_
      exact t_X14_lookRound_251 @hk56 R g1 g3 hf
    · have hf := it c102 hf
      refine go_iconst (v := 1) (pc' := 247) dX14_lookRound_246 rfl (by decide) ?_
      refine go_goto (pc' := 0) (tgt := 251) dX14_lookRound_247 (by decide) ?_
      exact t_X14_lookRound_251 @hk56 R g1 g3 hf
def b_X14_lookRound_201 (n : Nat) (k56 : Nat → Int32 → Nat → Int64 → Int64 → Int64 → Int64 → Int32 → xσ → Option (Unit × xσ)) (a1 : Nat) (x2 : Int32) (a3 : Nat) (l4 : Int64) (l6 : Int64) (l8 : Int64) (l10 : Int64) (x12 : Int32) (x15 : Int32) (l16 : Int64) (l18 : Int64) (xs0 : Int32) (σ : xσ) : Option (Unit × xσ) := if (lg_cmp l18 ((0 : Int64))) < 0 then b_X14_lookRound_232 n k56 a1 x2 a3 l4 l6 l8 l10 x12 x15 l16 l18 xs0 0 σ else bd (f_X14_compare_ n l18 (sJ σ 233 10) l4 l6 σ) (fun v102 σ103 => if v102 < 0 then b_X14_lookRound_232 n k56 a1 x2 a3 l4 l6 l8 l10 x12 x15 l16 l18 xs0 0 σ103 else b_X14_lookRound_232 n k56 a1 x2 a3 l4 l6 l8 l10 x12 x15 l16 l18 xs0 1 σ103)
set_option maxRecDepth 100000 in
set_option maxHeartbeats 4000000 in
theorem t_X14_lookRound_201 {G : xG} {n : Nat} {k56 : Nat → Int32 → Nat → Int64 → Int64 → Int64 → Int64 → Int32 → xσ → Option (Unit × xσ)} (hk56 : ∀ {a1 : Nat} {x2 : Int32} {a3 : Nat} {l4 : Int64} {l6 : Int64} {l8 : Int64} {l10 : Int64} {x12 : Int32} {σ : xσ} {h : xH} {r : Unit × xσ} {d13 : Option Value} {d14 : Option Value} {d15 : Option Value} {d16 : Option Value} {d17 : Option Value} {d18 : Option Value} {d19 : Option Value} {d20 : Option Value} {d21 : Option Value} {d22 : Option Value} {d23 : Option Value} {d24 : Option Value} {d25 : Option Value}, Rl n σ h → okM a1 → okM a3 → k56 a1 x2 a3 l4 l6 l8 l10 x12 σ = some r → Go G mX14_lookRound 56 [some (.ref 233), some (.ref a1), some (.int x2), some (.ref a3), some (.long l4), none, some (.long l6), none, some (.long l8), none, some (.long l10), none, some (.int x12), d13, d14, d15, d16, d17, d18, d19, d20, d21, d22, d23, d24, d25] [] h (fun v h' => xRok (xRt mX14_lookRound) v ∧ v = none ∧ Rl n r.2 h')) {a1 : Nat} {x2 : Int32} {a3 : Nat} {l4 : Int64} {l6 : Int64} {l8 : Int64} {l10 : Int64} {x12 : Int32} {x15 : Int32} {l16 : Int64} {l18 : Int64} {xs0 : Int32} {σ : xσ} {h : xH} {r : Unit × xσ} {d13 : Option Value} {d14 : Option Value} {d20 : Option Value} {d21 : Option Value} {d22 : Option Value} {d23 : Option Value} {d24 : Option Value} {d25 : Option Value} : Rl n σ h → okM a1 → okM a3 → b_X14_lookRound_201 n k56 a1 x2 a3 l4 l6 l8 l10 x12 x15 l16 l18 xs0 σ = some r → Go G mX14_lookRound 201 [some (.ref 233), some (.ref a1), some (.int x2), some (.ref a3), some (.long l4), none, some (.long l6), none, some (.long l8), none, some (.long l10), none, some (.int x12), d13, d14, some (.int x15), some (.long l16), none, some (.long l18), none, d20, d21, d22, d23, d24, d25] [.int xs0] h (fun v h' => xRok (xRt mX14_lookRound) v ∧ v = none ∧ Rl n r.2 h') := by
  intro R g1 g3 hf
  rw [b_X14_lookRound_201] at hf
  refine go_istoreE rfl (pc' := 203) dX14_lookRound_201 rfl (by decide) rfl ?_
  refine go_lload (pc' := 205) dX14_lookRound_203 rfl rfl ?_
  refine go_lconst (v := 0) (pc' := 206) dX14_lookRound_205 rfl (by decide) ?_
  refine go_lcmp (pc' := 207) dX14_lookRound_206 rfl ?_
  refine go_if_lt (pc' := 210) (tgt := 231) dX14_lookRound_207 (by decide) rfl (fun c101 => ?_) (fun c101 => ?_)
  · have hf := it c101 hf
    refine go_iconst (v := 0) (pc' := 232) dX14_lookRound_231 rfl (by decide) ?_
    exact t_X14_lookRound_232 @hk56 R g1 g3 hf
  · have hf := ie c101 hf
    refine go_aload_n (i := 0) (pc' := 211) dX14_lookRound_210 rfl rfl rfl ?_
    refine go_lload (pc' := 213) dX14_lookRound_211 rfl rfl ?_
    refine go_aload_n (i := 0) (pc' := 214) dX14_lookRound_213 rfl rfl rfl ?_
    refine go_getS (pc' := 217) dX14_lookRound_214 rfl gf_LandBaseModel_94 R (R.at rfl (by decide)) (by decide) rfl ?_
    refine go_lload (pc' := 219) dX14_lookRound_217 rfl rfl ?_
    refine go_lload (pc' := 221) dX14_lookRound_219 rfl rfl ?_
    obtain ⟨v102, σ103, e104, hf⟩ := bd_some hf
    refine go_invV (As := [_, _, _, _]) (pc' := 224) dX14_lookRound_221 rfl cf_X14_lookRound_151 rfl (R.ob (R.at rfl (by decide))) rfl rfl (Nat.le_of_ble_eq_true rfl) (c_X14_compare_ R e104) (fun q105v h106 q105 => ?_)
    obtain ⟨rfl, R⟩ := q105
    refine go_if_lt (pc' := 227) (tgt := 231) dX14_lookRound_224 (by decide) rfl (fun c107 => ?_) (fun c107 => ?_)
    · have hf := it c107 hf
      refine go_iconst (v := 0) (pc' := 232) dX14_lookRound_231 rfl (by decide) ?_
      exact t_X14_lookRound_232 @hk56 R g1 g3 hf
    · have hf := ie c107 hf
      refine go_iconst (v := 1) (pc' := 228) dX14_lookRound_227 rfl (by decide) ?_
      refine go_goto (pc' := 0) (tgt := 232) dX14_lookRound_228 (by decide) ?_
      exact t_X14_lookRound_232 @hk56 R g1 g3 hf
def b_X14_lookRound_156 (n : Nat) (k56 : Nat → Int32 → Nat → Int64 → Int64 → Int64 → Int64 → Int32 → xσ → Option (Unit × xσ)) (a1 : Nat) (x2 : Int32) (a3 : Nat) (l4 : Int64) (l6 : Int64) (l8 : Int64) (l10 : Int64) (x12 : Int32) (xs0 : Int32) (σ : xσ) : Option (Unit × xσ) := st (lmin (sJ σ 233 11) (sJ σ 233 12)) (fun l101 => st (lmax (sJ σ 233 11) (sJ σ 233 12)) (fun l103 => if (lg_cmp l101 ((0 : Int64))) < 0 then b_X14_lookRound_201 n k56 a1 x2 a3 l4 l6 l8 l10 x12 xs0 l101 l103 1 σ else if 0 < xs0 then b_X14_lookRound_201 n k56 a1 x2 a3 l4 l6 l8 l10 x12 xs0 l101 l103 0 σ else b_X14_lookRound_201 n k56 a1 x2 a3 l4 l6 l8 l10 x12 xs0 l101 l103 1 σ))
set_option maxRecDepth 100000 in
set_option maxHeartbeats 4000000 in
theorem t_X14_lookRound_156 {G : xG} {n : Nat} {k56 : Nat → Int32 → Nat → Int64 → Int64 → Int64 → Int64 → Int32 → xσ → Option (Unit × xσ)} (hk56 : ∀ {a1 : Nat} {x2 : Int32} {a3 : Nat} {l4 : Int64} {l6 : Int64} {l8 : Int64} {l10 : Int64} {x12 : Int32} {σ : xσ} {h : xH} {r : Unit × xσ} {d13 : Option Value} {d14 : Option Value} {d15 : Option Value} {d16 : Option Value} {d17 : Option Value} {d18 : Option Value} {d19 : Option Value} {d20 : Option Value} {d21 : Option Value} {d22 : Option Value} {d23 : Option Value} {d24 : Option Value} {d25 : Option Value}, Rl n σ h → okM a1 → okM a3 → k56 a1 x2 a3 l4 l6 l8 l10 x12 σ = some r → Go G mX14_lookRound 56 [some (.ref 233), some (.ref a1), some (.int x2), some (.ref a3), some (.long l4), none, some (.long l6), none, some (.long l8), none, some (.long l10), none, some (.int x12), d13, d14, d15, d16, d17, d18, d19, d20, d21, d22, d23, d24, d25] [] h (fun v h' => xRok (xRt mX14_lookRound) v ∧ v = none ∧ Rl n r.2 h')) {a1 : Nat} {x2 : Int32} {a3 : Nat} {l4 : Int64} {l6 : Int64} {l8 : Int64} {l10 : Int64} {x12 : Int32} {xs0 : Int32} {σ : xσ} {h : xH} {r : Unit × xσ} {d13 : Option Value} {d14 : Option Value} {d15 : Option Value} {d16 : Option Value} {d17 : Option Value} {d18 : Option Value} {d19 : Option Value} {d20 : Option Value} {d21 : Option Value} {d22 : Option Value} {d23 : Option Value} {d24 : Option Value} {d25 : Option Value} : Rl n σ h → okM a1 → okM a3 → b_X14_lookRound_156 n k56 a1 x2 a3 l4 l6 l8 l10 x12 xs0 σ = some r → Go G mX14_lookRound 156 [some (.ref 233), some (.ref a1), some (.int x2), some (.ref a3), some (.long l4), none, some (.long l6), none, some (.long l8), none, some (.long l10), none, some (.int x12), d13, d14, d15, d16, d17, d18, d19, d20, d21, d22, d23, d24, d25] [.int xs0] h (fun v h' => xRok (xRt mX14_lookRound) v ∧ v = none ∧ Rl n r.2 h') := by
  intro R g1 g3 hf
  rw [b_X14_lookRound_156] at hf
  refine go_istoreE rfl (pc' := 158) dX14_lookRound_156 rfl (by decide) rfl ?_
  refine go_aload_n (i := 0) (pc' := 159) dX14_lookRound_158 rfl rfl rfl ?_
  refine go_getS (pc' := 162) dX14_lookRound_159 rfl gf_LandBaseModel_105 R (R.at rfl (by decide)) (by decide) rfl ?_
  refine go_aload_n (i := 0) (pc' := 163) dX14_lookRound_162 rfl rfl rfl ?_
  refine go_getS (pc' := 166) dX14_lookRound_163 rfl gf_LandBaseModel_108 R (R.at rfl (by decide)) (by decide) rfl ?_
  refine go_mlmin (pc' := 169) dX14_lookRound_166 rfl cf_X14_lookRound_154 (Nat.le_of_ble_eq_true rfl) ?_
  obtain ⟨l101, e102, hf⟩ := st_some hf
  refine go_lstoreE e102 (pc' := 171) dX14_lookRound_169 rfl (by decide) rfl ?_
  refine go_aload_n (i := 0) (pc' := 172) dX14_lookRound_171 rfl rfl rfl ?_
  refine go_getS (pc' := 175) dX14_lookRound_172 rfl gf_LandBaseModel_105 R (R.at rfl (by decide)) (by decide) rfl ?_
  refine go_aload_n (i := 0) (pc' := 176) dX14_lookRound_175 rfl rfl rfl ?_
  refine go_getS (pc' := 179) dX14_lookRound_176 rfl gf_LandBaseModel_108 R (R.at rfl (by decide)) (by decide) rfl ?_
  refine go_mlmax (pc' := 182) dX14_lookRound_179 rfl cf_X14_lookRound_148 (Nat.le_of_ble_eq_true rfl) ?_
  obtain ⟨l103, e104, hf⟩ := st_some hf
  refine go_lstoreE e104 (pc' := 184) dX14_lookRound_182 rfl (by decide) rfl ?_
  refine go_lload (pc' := 186) dX14_lookRound_184 rfl rfl ?_
  refine go_lconst (v := 0) (pc' := 187) dX14_lookRound_186 rfl (by decide) ?_
  refine go_lcmp (pc' := 188) dX14_lookRound_187 rfl ?_
  refine go_if_lt (pc' := 191) (tgt := 196) dX14_lookRound_188 (by decide) rfl (fun c105 => ?_) (fun c105 => ?_)
  · have hf := it c105 hf
    refine go_iconst (v := 1) (pc' := 197) dX14_lookRound_196 rfl (by decide) ?_
    refine go_goto (pc' := 0) (tgt := 201) dX14_lookRound_197 (by decide) ?_
    exact t_X14_lookRound_201 @hk56 R g1 g3 hf
  · have hf := ie c105 hf
    refine go_iload (pc' := 193) dX14_lookRound_191 rfl rfl ?_
    refine go_if_gt (pc' := 196) (tgt := 200) dX14_lookRound_193 (by decide) rfl (fun c106 => ?_) (fun c106 => ?_)
    · have hf := it c106 hf
      refine go_iconst (v := 0) (pc' := 201) dX14_lookRound_200 rfl (by decide) ?_
      exact t_X14_lookRound_201 @hk56 R g1 g3 hf
    · have hf := ie c106 hf
      refine go_iconst (v := 1) (pc' := 197) dX14_lookRound_196 rfl (by decide) ?_
      refine go_goto (pc' := 0) (tgt := 201) dX14_lookRound_197 (by decide) ?_
      exact t_X14_lookRound_201 @hk56 R g1 g3 hf
def b_X14_lookRound_442 (n : Nat) (k56 : Nat → Int32 → Nat → Int64 → Int64 → Int64 → Int64 → Int32 → xσ → Option (Unit × xσ)) (a1 : Nat) (x2 : Int32) (a3 : Nat) (l4 : Int64) (l6 : Int64) (l8 : Int64) (l10 : Int64) (x12 : Int32) (x13 : Int32) (xs0 : Int32) (σ : xσ) : Option (Unit × xσ) := b_X14_lookRound_444 n k56 a1 x2 a3 l4 l6 l8 l10 x12 x13 xs0 σ
set_option maxRecDepth 100000 in
set_option maxHeartbeats 4000000 in
theorem t_X14_lookRound_442 {G : xG} {n : Nat} {k56 : Nat → Int32 → Nat → Int64 → Int64 → Int64 → Int64 → Int32 → xσ → Option (Unit × xσ)} (hk56 : ∀ {a1 : Nat} {x2 : Int32} {a3 : Nat} {l4 : Int64} {l6 : Int64} {l8 : Int64} {l10 : Int64} {x12 : Int32} {σ : xσ} {h : xH} {r : Unit × xσ} {d13 : Option Value} {d14 : Option Value} {d15 : Option Value} {d16 : Option Value} {d17 : Option Value} {d18 : Option Value} {d19 : Option Value} {d20 : Option Value} {d21 : Option Value} {d22 : Option Value} {d23 : Option Value} {d24 : Option Value} {d25 : Option Value}, Rl n σ h → okM a1 → okM a3 → k56 a1 x2 a3 l4 l6 l8 l10 x12 σ = some r → Go G mX14_lookRound 56 [some (.ref 233), some (.ref a1), some (.int x2), some (.ref a3), some (.long l4), none, some (.long l6), none, some (.long l8), none, some (.long l10), none, some (.int x12), d13, d14, d15, d16, d17, d18, d19, d20, d21, d22, d23, d24, d25] [] h (fun v h' => xRok (xRt mX14_lookRound) v ∧ v = none ∧ Rl n r.2 h')) {a1 : Nat} {x2 : Int32} {a3 : Nat} {l4 : Int64} {l6 : Int64} {l8 : Int64} {l10 : Int64} {x12 : Int32} {x13 : Int32} {xs0 : Int32} {σ : xσ} {h : xH} {r : Unit × xσ} {d14 : Option Value} {d15 : Option Value} {d16 : Option Value} {d17 : Option Value} {d18 : Option Value} {d19 : Option Value} {d20 : Option Value} {d21 : Option Value} {d22 : Option Value} {d23 : Option Value} {d24 : Option Value} {d25 : Option Value} : Rl n σ h → okM a1 → okM a3 → b_X14_lookRound_442 n k56 a1 x2 a3 l4 l6 l8 l10 x12 x13 xs0 σ = some r → Go G mX14_lookRound 442 [some (.ref 233), some (.ref a1), some (.int x2), some (.ref a3), some (.long l4), none, some (.long l6), none, some (.long l8), none, some (.long l10), none, some (.int x12), some (.int x13), d14, d15, d16, d17, d18, d19, d20, d21, d22, d23, d24, d25] [.int xs0] h (fun v h' => xRok (xRt mX14_lookRound) v ∧ v = none ∧ Rl n r.2 h') := by
  intro R g1 g3 hf
  rw [b_X14_lookRound_442] at hf
  refine go_istoreE rfl (pc' := 444) dX14_lookRound_442 rfl (by decide) rfl ?_
  exact t_X14_lookRound_444 @hk56 R g1 g3 hf
def b_X14_lookRound_426 (n : Nat) (k56 : Nat → Int32 → Nat → Int64 → Int64 → Int64 → Int64 → Int32 → xσ → Option (Unit × xσ)) (a1 : Nat) (x2 : Int32) (a3 : Nat) (l4 : Int64) (l6 : Int64) (l8 : Int64) (l10 : Int64) (x12 : Int32) (xs0 : Int32) (σ : xσ) : Option (Unit × xσ) := if (lg_cmp (sJ σ 233 12) ((0 : Int64))) ≤ 0 then b_X14_lookRound_442 n k56 a1 x2 a3 l4 l6 l8 l10 x12 xs0 0 σ else b_X14_lookRound_442 n k56 a1 x2 a3 l4 l6 l8 l10 x12 xs0 1 σ
set_option maxRecDepth 100000 in
set_option maxHeartbeats 4000000 in
theorem t_X14_lookRound_426 {G : xG} {n : Nat} {k56 : Nat → Int32 → Nat → Int64 → Int64 → Int64 → Int64 → Int32 → xσ → Option (Unit × xσ)} (hk56 : ∀ {a1 : Nat} {x2 : Int32} {a3 : Nat} {l4 : Int64} {l6 : Int64} {l8 : Int64} {l10 : Int64} {x12 : Int32} {σ : xσ} {h : xH} {r : Unit × xσ} {d13 : Option Value} {d14 : Option Value} {d15 : Option Value} {d16 : Option Value} {d17 : Option Value} {d18 : Option Value} {d19 : Option Value} {d20 : Option Value} {d21 : Option Value} {d22 : Option Value} {d23 : Option Value} {d24 : Option Value} {d25 : Option Value}, Rl n σ h → okM a1 → okM a3 → k56 a1 x2 a3 l4 l6 l8 l10 x12 σ = some r → Go G mX14_lookRound 56 [some (.ref 233), some (.ref a1), some (.int x2), some (.ref a3), some (.long l4), none, some (.long l6), none, some (.long l8), none, some (.long l10), none, some (.int x12), d13, d14, d15, d16, d17, d18, d19, d20, d21, d22, d23, d24, d25] [] h (fun v h' => xRok (xRt mX14_lookRound) v ∧ v = none ∧ Rl n r.2 h')) {a1 : Nat} {x2 : Int32} {a3 : Nat} {l4 : Int64} {l6 : Int64} {l8 : Int64} {l10 : Int64} {x12 : Int32} {xs0 : Int32} {σ : xσ} {h : xH} {r : Unit × xσ} {d13 : Option Value} {d14 : Option Value} {d15 : Option Value} {d16 : Option Value} {d17 : Option Value} {d18 : Option Value} {d19 : Option Value} {d20 : Option Value} {d21 : Option Value} {d22 : Option Value} {d23 : Option Value} {d24 : Option Value} {d25 : Option Value} : Rl n σ h → okM a1 → okM a3 → b_X14_lookRound_426 n k56 a1 x2 a3 l4 l6 l8 l10 x12 xs0 σ = some r → Go G mX14_lookRound 426 [some (.ref 233), some (.ref a1), some (.int x2), some (.ref a3), some (.long l4), none, some (.long l6), none, some (.long l8), none, some (.long l10), none, some (.int x12), d13, d14, d15, d16, d17, d18, d19, d20, d21, d22, d23, d24, d25] [.int xs0] h (fun v h' => xRok (xRt mX14_lookRound) v ∧ v = none ∧ Rl n r.2 h') := by
  intro R g1 g3 hf
  rw [b_X14_lookRound_426] at hf
  refine go_istoreE rfl (pc' := 428) dX14_lookRound_426 rfl (by decide) rfl ?_
  refine go_aload_n (i := 0) (pc' := 429) dX14_lookRound_428 rfl rfl rfl ?_
  refine go_getS (pc' := 432) dX14_lookRound_429 rfl gf_LandBaseModel_108 R (R.at rfl (by decide)) (by decide) rfl ?_
  refine go_lconst (v := 0) (pc' := 433) dX14_lookRound_432 rfl (by decide) ?_
  refine go_lcmp (pc' := 434) dX14_lookRound_433 rfl ?_
  refine go_if_le (pc' := 437) (tgt := 441) dX14_lookRound_434 (by decide) rfl (fun c101 => ?_) (fun c101 => ?_)
  · have hf := it c101 hf
    refine go_iconst (v := 0) (pc' := 442) dX14_lookRound_441 rfl (by decide) ?_
    exact t_X14_lookRound_442 @hk56 R g1 g3 hf
  · have hf := ie c101 hf
    refine go_iconst (v := 1) (pc' := 438) dX14_lookRound_437 rfl (by decide) ?_
    refine go_goto (pc' := 0) (tgt := 442) dX14_lookRound_438 (by decide) ?_
    exact t_X14_lookRound_442 @hk56 R g1 g3 hf
def l_X14_lookRound_56 (n : Nat) : Nat → Nat → Int32 → Nat → Int64 → Int64 → Int64 → Int64 → Int32 → xσ → Option (Unit × xσ)
  | 0, _, _, _, _, _, _, _, _, _ => none
  | f + 1, a1, x2, a3, l4, l6, l8, l10, x12, σ => if (sI σ a3 2) ≤ (x12 + 1) then some ((), σ) else bd (f_X12_isWay n a3 x12 σ) (fun v102 σ103 => if v102 = 0 then b_X14_lookRound_563 n (l_X14_lookRound_56 n f) a1 x2 a3 l4 l6 l8 l10 x12 σ103 else bd (f_X14_meetWays n a1 x2 a3 x12 σ103) (fun v108 σ109 => if (sI σ109 233 9) = 0 then if (sI σ109 233 8) = 0 then gd (inb (x12 + 1) 40) (gd (inb x12 40) (st (((sI σ109 (a3 + 2) (x12 + 1).toNatClampNeg).toInt64) - ((sI σ109 (a3 + 2) x12.toNatClampNeg).toInt64)) (fun l117 => gd (inb (x12 + 1) 40) (gd (inb x12 40) (st (((sI σ109 (a3 + 3) (x12 + 1).toNatClampNeg).toInt64) - ((sI σ109 (a3 + 3) x12.toNatClampNeg).toInt64)) (fun l121 => if (sI σ109 a3 1) = 2 then bd (f_X14_ringOf n a3 x12 σ109) (fun v124 σ125 => gd (inb v124 8) (if (sI σ125 240 v124.toNatClampNeg) = 0 then b_X14_lookRound_513 n (l_X14_lookRound_56 n f) a1 x2 a3 l4 l6 l8 l10 x12 0 0 l117 l121 0 σ125 else b_X14_lookRound_513 n (l_X14_lookRound_56 n f) a1 x2 a3 l4 l6 l8 l10 x12 0 0 l117 l121 1 σ125)) else b_X14_lookRound_513 n (l_X14_lookRound_56 n f) a1 x2 a3 l4 l6 l8 l10 x12 0 0 l117 l121 0 σ109)))))) else bd (f_X14_compare_ n (sJ σ109 233 11) (sJ σ109 233 10) l4 l6 σ109) (fun v131 σ132 => if v131 = 0 then if 0 ≤ (lg_cmp (sJ σ132 233 12) (sJ σ132 233 10)) then b_X14_lookRound_426 n (l_X14_lookRound_56 n f) a1 x2 a3 l4 l6 l8 l10 x12 0 σ132 else b_X14_lookRound_426 n (l_X14_lookRound_56 n f) a1 x2 a3 l4 l6 l8 l10 x12 1 σ132 else gd (inb (x12 + 1) 40) (gd (inb x12 40) (st (((sI σ132 (a3 + 2) (x12 + 1).toNatClampNeg).toInt64) - ((sI σ132 (a3 + 2) x12.toNatClampNeg).toInt64)) (fun l139 => gd (inb (x12 + 1) 40) (gd (inb x12 40) (st (((sI σ132 (a3 + 3) (x12 + 1).toNatClampNeg).toInt64) - ((sI σ132 (a3 + 3) x12.toNatClampNeg).toInt64)) (fun l143 => if (sI σ132 a3 1) = 2 then bd (f_X14_ringOf n a3 x12 σ132) (fun v146 σ147 => gd (inb v146 8) (if (sI σ147 240 v146.toNatClampNeg) = 0 then b_X14_lookRound_513 n (l_X14_lookRound_56 n f) a1 x2 a3 l4 l6 l8 l10 x12 0 0 l139 l143 0 σ147 else b_X14_lookRound_513 n (l_X14_lookRound_56 n f) a1 x2 a3 l4 l6 l8 l10 x12 0 0 l139 l143 1 σ147)) else b_X14_lookRound_513 n (l_X14_lookRound_56 n f) a1 x2 a3 l4 l6 l8 l10 x12 0 0 l139 l143 0 σ132))))))) else if 0 < (lg_cmp (sJ σ109 233 11) (sJ σ109 233 12)) then bd (f_X14_compare_ n (lmax (sJ σ109 233 12) ((0 : Int64))) (sJ σ109 233 10) l4 l6 σ109) (fun v155 σ156 => b_X14_lookRound_156 n (l_X14_lookRound_56 n f) a1 x2 a3 l4 l6 l8 l10 x12 v155 σ156) else bd (f_X14_compare_ n (lmax (sJ σ109 233 11) ((0 : Int64))) (sJ σ109 233 10) l4 l6 σ109) (fun v160 σ161 => b_X14_lookRound_156 n (l_X14_lookRound_56 n f) a1 x2 a3 l4 l6 l8 l10 x12 v160 σ161)))
set_option maxRecDepth 100000 in
set_option maxHeartbeats 4000000 in
theorem t_X14_lookRound_56 {G : xG} {n : Nat} : ∀ (f : Nat) {a1 : Nat} {x2 : Int32} {a3 : Nat} {l4 : Int64} {l6 : Int64} {l8 : Int64} {l10 : Int64} {x12 : Int32} {σ : xσ} {h : xH} {r : Unit × xσ} {d13 : Option Value} {d14 : Option Value} {d15 : Option Value} {d16 : Option Value} {d17 : Option Value} {d18 : Option Value} {d19 : Option Value} {d20 : Option Value} {d21 : Option Value} {d22 : Option Value} {d23 : Option Value} {d24 : Option Value} {d25 : Option Value}, Rl n σ h → okM a1 → okM a3 → l_X14_lookRound_56 n f a1 x2 a3 l4 l6 l8 l10 x12 σ = some r → Go G mX14_lookRound 56 [some (.ref 233), some (.ref a1), some (.int x2), some (.ref a3), some (.long l4), none, some (.long l6), none, some (.long l8), none, some (.long l10), none, some (.int x12), d13, d14, d15, d16, d17, d18, d19, d20, d21, d22, d23, d24, d25] [] h (fun v h' => xRok (xRt mX14_lookRound) v ∧ v = none ∧ Rl n r.2 h') := by
  intro f
  induction f with
  | zero =>
    intros
    rename _ = some _ => hf
    rw [l_X14_lookRound_56] at hf
    cases hf
  | succ f ih =>
    intro a1 x2 a3 l4 l6 l8 l10 x12 σ h r d13 d14 d15 d16 d17 d18 d19 d20 d21 d22 d23 d24 d25 R g1 g3 hf
    rw [l_X14_lookRound_56] at hf
    refine go_iload (pc' := 58) dX14_lookRound_56 rfl rfl ?_
    refine go_iconst (v := 1) (pc' := 59) dX14_lookRound_58 rfl (by decide) ?_
    refine go_iadd (pc' := 60) dX14_lookRound_59 rfl ?_
    refine go_aload_n (i := 3) (pc' := 61) dX14_lookRound_60 rfl rfl rfl ?_
    refine go_getS (pc' := 64) dX14_lookRound_61 rfl gf_LandBaseModel_79 R (g3.at R) (by decide) rfl ?_
    refine go_icmp_ge (pc' := 67) (tgt := 569) dX14_lookRound_64 (by decide) rfl (fun c101 => ?_) (fun c101 => ?_)
    · have hf := it c101 hf
      obtain rfl := Option.some.inj hf
      exact Go.ret (v := none) dX14_lookRound_569 rfl ⟨trivial, rfl, R⟩
    · have hf := ie c101 hf
      refine go_aload_n (i := 3) (pc' := 68) dX14_lookRound_67 rfl rfl rfl ?_
      refine go_iload (pc' := 70) dX14_lookRound_68 rfl rfl ?_
      obtain ⟨v102, σ103, e104, hf⟩ := bd_some hf
      refine go_invV (As := [_]) (pc' := 73) dX14_lookRound_70 rfl cf_X14_lookRound_82 rfl (R.ob (g3.at R)) rfl rfl (Nat.le_of_ble_eq_true rfl) (c_X12_isWay R e104) (fun q105v h106 q105 => ?_)
      obtain ⟨rfl, R⟩ := q105
      refine go_if_ne (pc' := 76) (tgt := 79) dX14_lookRound_73 (by decide) rfl (fun c107 => ?_) (fun c107 => ?_)
      · have hf := ie c107 hf
        refine go_aload_n (i := 0) (pc' := 80) dX14_lookRound_79 rfl rfl rfl ?_
        refine go_aload_n (i := 1) (pc' := 81) dX14_lookRound_80 rfl rfl rfl ?_
        refine go_iload_n (i := 2) (pc' := 82) dX14_lookRound_81 rfl rfl rfl ?_
        refine go_aload_n (i := 3) (pc' := 83) dX14_lookRound_82 rfl rfl rfl ?_
        refine go_iload (pc' := 85) dX14_lookRound_83 rfl rfl ?_
        obtain ⟨v108, σ109, e110, hf⟩ := bd_some hf
        refine go_invV (As := [_, _, _, _]) (pc' := 88) dX14_lookRound_85 rfl cf_X14_lookRound_144 rfl (R.ob (R.at rfl (by decide))) rfl rfl (Nat.le_of_ble_eq_true rfl) (c_X14_meetWays R e110) (fun q111v h112 q111 => ?_)
        obtain ⟨rfl, R⟩ := q111
        refine go_iconst (v := 0) (pc' := 89) dX14_lookRound_88 rfl (by decide) ?_
        refine go_istoreE rfl (pc' := 91) dX14_lookRound_89 rfl (by decide) rfl ?_
        refine go_iconst (v := 0) (pc' := 92) dX14_lookRound_91 rfl (by decide) ?_
        refine go_istoreE rfl (pc' := 94) dX14_lookRound_92 rfl (by decide) rfl ?_
        refine go_aload_n (i := 0) (pc' := 95) dX14_lookRound_94 rfl rfl rfl ?_
        refine go_getS (pc' := 98) dX14_lookRound_95 rfl gf_LandBaseModel_98 R (R.at rfl (by decide)) (by decide) rfl ?_
        refine go_if_eq (pc' := 101) (tgt := 383) dX14_lookRound_98 (by decide) rfl (fun c113 => ?_) (fun c113 => ?_)
        · have hf := it c113 hf
          refine go_aload_n (i := 0) (pc' := 384) dX14_lookRound_383 rfl rfl rfl ?_
          refine go_getS (pc' := 387) dX14_lookRound_384 rfl gf_LandBaseModel_102 R (R.at rfl (by decide)) (by decide) rfl ?_
          refine go_if_eq (pc' := 390) (tgt := 444) dX14_lookRound_387 (by decide) rfl (fun c114 => ?_) (fun c114 => ?_)
          · have hf := it c114 hf
            refine go_aload_n (i := 3) (pc' := 445) dX14_lookRound_444 rfl rfl rfl ?_
            refine go_getS (pc' := 448) dX14_lookRound_445 rfl gf_LandBaseModel_30 R (g3.at R) (by decide) rfl ?_
            refine go_iload (pc' := 450) dX14_lookRound_448 rfl rfl ?_
            refine go_iconst (v := 1) (pc' := 451) dX14_lookRound_450 rfl (by decide) ?_
            refine go_iadd (pc' := 452) dX14_lookRound_451 rfl ?_
            obtain ⟨g115, hf⟩ := gd_some hf
            refine go_ialoadS (pc' := 453) dX14_lookRound_452 rfl R (g3.x R) g115 ?_
            refine go_i2l (pc' := 454) dX14_lookRound_453 rfl rfl ?_
            refine go_aload_n (i := 3) (pc' := 455) dX14_lookRound_454 rfl rfl rfl ?_
            refine go_getS (pc' := 458) dX14_lookRound_455 rfl gf_LandBaseModel_30 R (g3.at R) (by decide) rfl ?_
            refine go_iload (pc' := 460) dX14_lookRound_458 rfl rfl ?_
            obtain ⟨g116, hf⟩ := gd_some hf
            refine go_ialoadS (pc' := 461) dX14_lookRound_460 rfl R (g3.x R) g116 ?_
            refine go_i2l (pc' := 462) dX14_lookRound_461 rfl rfl ?_
            refine go_lsub (pc' := 463) dX14_lookRound_462 rfl ?_
            obtain ⟨l117, e118, hf⟩ := st_some hf
            refine go_lstoreE e118 (pc' := 465) dX14_lookRound_463 rfl (by decide) rfl ?_
            refine go_aload_n (i := 3) (pc' := 466) dX14_lookRound_465 rfl rfl rfl ?_
            refine go_getS (pc' := 469) dX14_lookRound_466 rfl gf_LandBaseModel_36 R (g3.at R) (by decide) rfl ?_
            refine go_iload (pc' := 471) dX14_lookRound_469 rfl rfl ?_
            refine go_iconst (v := 1) (pc' := 472) dX14_lookRound_471 rfl (by decide) ?_
            refine go_iadd (pc' := 473) dX14_lookRound_472 rfl ?_
            obtain ⟨g119, hf⟩ := gd_some hf
            refine go_ialoadS (pc' := 474) dX14_lookRound_473 rfl R (g3.y R) g119 ?_
            refine go_i2l (pc' := 475) dX14_lookRound_474 rfl rfl ?_
            refine go_aload_n (i := 3) (pc' := 476) dX14_lookRound_475 rfl rfl rfl ?_
            refine go_getS (pc' := 479) dX14_lookRound_476 rfl gf_LandBaseModel_36 R (g3.at R) (by decide) rfl ?_
            refine go_iload (pc' := 481) dX14_lookRound_479 rfl rfl ?_
            obtain ⟨g120, hf⟩ := gd_some hf
            refine go_ialoadS (pc' := 482) dX14_lookRound_481 rfl R (g3.y R) g120 ?_
            refine go_i2l (pc' := 483) dX14_lookRound_482 rfl rfl ?_
            refine go_lsub (pc' := 484) dX14_lookRound_483 rfl ?_
            obtain ⟨l121, e122, hf⟩ := st_some hf
            refine go_lstoreE e122 (pc' := 486) dX14_lookRound_484 rfl (by decide) rfl ?_
            refine go_aload_n (i := 3) (pc' := 487) dX14_lookRound_486 rfl rfl rfl ?_
            refine go_getS (pc' := 490) dX14_lookRound_487 rfl gf_LandBaseModel_75 R (g3.at R) (by decide) rfl ?_
            refine go_iconst (v := 2) (pc' := 491) dX14_lookRound_490 rfl (by decide) ?_
            refine go_icmp_ne (pc' := 494) (tgt := 512) dX14_lookRound_491 (by decide) rfl (fun c123 => ?_) (fun c123 => ?_)
            · have hf := ie c123 hf
              refine go_iconst (v := 0) (pc' := 513) dX14_lookRound_512 rfl (by decide) ?_
              exact t_X14_lookRound_513 @ih R g1 g3 hf
            · have hf := it c123 hf
              refine go_aload_n (i := 0) (pc' := 495) dX14_lookRound_494 rfl rfl rfl ?_
              refine go_getS (pc' := 498) dX14_lookRound_495 rfl gf_LandBaseModel_156 R (R.at rfl (by decide)) (by decide) rfl ?_
              refine go_aload_n (i := 3) (pc' := 499) dX14_lookRound_498 rfl rfl rfl ?_
              refine go_iload (pc' := 501) dX14_lookRound_499 rfl rfl ?_
              obtain ⟨v124, σ125, e126, hf⟩ := bd_some hf
              refine go_invS (As := [_, _]) (pc' := 504) dX14_lookRound_501 rfl cf_X14_lookRound_160 rfl rfl (Nat.le_of_ble_eq_true rfl) (c_X14_ringOf R e126) (fun q127v h128 q127 => ?_)
              obtain ⟨rfl, R⟩ := q127
              obtain ⟨g129, hf⟩ := gd_some hf
              refine go_zaloadS (pc' := 505) dX14_lookRound_504 rfl R (R.aa rfl (by decide)) g129 ?_
              refine go_if_eq (pc' := 508) (tgt := 512) dX14_lookRound_505 (by decide) rfl (fun c130 => ?_) (fun c130 => ?_)
              · have hf := it c130 hf
                refine go_iconst (v := 0) (pc' := 513) dX14_lookRound_512 rfl (by decide) ?_
                exact t_X14_lookRound_513 @ih R g1 g3 hf
              · have hf := ie c130 hf
                refine go_iconst (v := 1) (pc' := 509) dX14_lookRound_508 rfl (by decide) ?_
                refine go_goto (pc' := 0) (tgt := 513) dX14_lookRound_509 (by decide) ?_
                exact t_X14_lookRound_513 @ih R g1 g3 hf
          · have hf := ie c114 hf
            refine go_aload_n (i := 0) (pc' := 391) dX14_lookRound_390 rfl rfl rfl ?_
            refine go_aload_n (i := 0) (pc' := 392) dX14_lookRound_391 rfl rfl rfl ?_
            refine go_getS (pc' := 395) dX14_lookRound_392 rfl gf_LandBaseModel_105 R (R.at rfl (by decide)) (by decide) rfl ?_
            refine go_aload_n (i := 0) (pc' := 396) dX14_lookRound_395 rfl rfl rfl ?_
            refine go_getS (pc' := 399) dX14_lookRound_396 rfl gf_LandBaseModel_94 R (R.at rfl (by decide)) (by decide) rfl ?_
            refine go_lload (pc' := 401) dX14_lookRound_399 rfl rfl ?_
            refine go_lload (pc' := 403) dX14_lookRound_401 rfl rfl ?_
            obtain ⟨v131, σ132, e133, hf⟩ := bd_some hf
            refine go_invV (As := [_, _, _, _]) (pc' := 406) dX14_lookRound_403 rfl cf_X14_lookRound_151 rfl (R.ob (R.at rfl (by decide))) rfl rfl (Nat.le_of_ble_eq_true rfl) (c_X14_compare_ R e133) (fun q134v h135 q134 => ?_)
            obtain ⟨rfl, R⟩ := q134
            refine go_if_ne (pc' := 409) (tgt := 444) dX14_lookRound_406 (by decide) rfl (fun c136 => ?_) (fun c136 => ?_)
            · have hf := ie c136 hf
              refine go_aload_n (i := 3) (pc' := 445) dX14_lookRound_444 rfl rfl rfl ?_
              refine go_getS (pc' := 448) dX14_lookRound_445 rfl gf_LandBaseModel_30 R (g3.at R) (by decide) rfl ?_
              refine go_iload (pc' := 450) dX14_lookRound_448 rfl rfl ?_
              refine go_iconst (v := 1) (pc' := 451) dX14_lookRound_450 rfl (by decide) ?_
              refine go_iadd (pc' := 452) dX14_lookRound_451 rfl ?_
              obtain ⟨g137, hf⟩ := gd_some hf
              refine go_ialoadS (pc' := 453) dX14_lookRound_452 rfl R (g3.x R) g137 ?_
              refine go_i2l (pc' := 454) dX14_lookRound_453 rfl rfl ?_
              refine go_aload_n (i := 3) (pc' := 455) dX14_lookRound_454 rfl rfl rfl ?_
              refine go_getS (pc' := 458) dX14_lookRound_455 rfl gf_LandBaseModel_30 R (g3.at R) (by decide) rfl ?_
              refine go_iload (pc' := 460) dX14_lookRound_458 rfl rfl ?_
              obtain ⟨g138, hf⟩ := gd_some hf
              refine go_ialoadS (pc' := 461) dX14_lookRound_460 rfl R (g3.x R) g138 ?_
              refine go_i2l (pc' := 462) dX14_lookRound_461 rfl rfl ?_
              refine go_lsub (pc' := 463) dX14_lookRound_462 rfl ?_
              obtain ⟨l139, e140, hf⟩ := st_some hf
              refine go_lstoreE e140 (pc' := 465) dX14_lookRound_463 rfl (by decide) rfl ?_
              refine go_aload_n (i := 3) (pc' := 466) dX14_lookRound_465 rfl rfl rfl ?_
              refine go_getS (pc' := 469) dX14_lookRound_466 rfl gf_LandBaseModel_36 R (g3.at R) (by decide) rfl ?_
              refine go_iload (pc' := 471) dX14_lookRound_469 rfl rfl ?_
              refine go_iconst (v := 1) (pc' := 472) dX14_lookRound_471 rfl (by decide) ?_
              refine go_iadd (pc' := 473) dX14_lookRound_472 rfl ?_
              obtain ⟨g141, hf⟩ := gd_some hf
              refine go_ialoadS (pc' := 474) dX14_lookRound_473 rfl R (g3.y R) g141 ?_
              refine go_i2l (pc' := 475) dX14_lookRound_474 rfl rfl ?_
              refine go_aload_n (i := 3) (pc' := 476) dX14_lookRound_475 rfl rfl rfl ?_
              refine go_getS (pc' := 479) dX14_lookRound_476 rfl gf_LandBaseModel_36 R (g3.at R) (by decide) rfl ?_
              refine go_iload (pc' := 481) dX14_lookRound_479 rfl rfl ?_
              obtain ⟨g142, hf⟩ := gd_some hf
              refine go_ialoadS (pc' := 482) dX14_lookRound_481 rfl R (g3.y R) g142 ?_
              refine go_i2l (pc' := 483) dX14_lookRound_482 rfl rfl ?_
              refine go_lsub (pc' := 484) dX14_lookRound_483 rfl ?_
              obtain ⟨l143, e144, hf⟩ := st_some hf
              refine go_lstoreE e144 (pc' := 486) dX14_lookRound_484 rfl (by decide) rfl ?_
              refine go_aload_n (i := 3) (pc' := 487) dX14_lookRound_486 rfl rfl rfl ?_
              refine go_getS (pc' := 490) dX14_lookRound_487 rfl gf_LandBaseModel_75 R (g3.at R) (by decide) rfl ?_
              refine go_iconst (v := 2) (pc' := 491) dX14_lookRound_490 rfl (by decide) ?_
              refine go_icmp_ne (pc' := 494) (tgt := 512) dX14_lookRound_491 (by decide) rfl (fun c145 => ?_) (fun c145 => ?_)
              · have hf := ie c145 hf
                refine go_iconst (v := 0) (pc' := 513) dX14_lookRound_512 rfl (by decide) ?_
                exact t_X14_lookRound_513 @ih R g1 g3 hf
              · have hf := it c145 hf
                refine go_aload_n (i := 0) (pc' := 495) dX14_lookRound_494 rfl rfl rfl ?_
                refine go_getS (pc' := 498) dX14_lookRound_495 rfl gf_LandBaseModel_156 R (R.at rfl (by decide)) (by decide) rfl ?_
                refine go_aload_n (i := 3) (pc' := 499) dX14_lookRound_498 rfl rfl rfl ?_
                refine go_iload (pc' := 501) dX14_lookRound_499 rfl rfl ?_
                obtain ⟨v146, σ147, e148, hf⟩ := bd_some hf
                refine go_invS (As := [_, _]) (pc' := 504) dX14_lookRound_501 rfl cf_X14_lookRound_160 rfl rfl (Nat.le_of_ble_eq_true rfl) (c_X14_ringOf R e148) (fun q149v h150 q149 => ?_)
                obtain ⟨rfl, R⟩ := q149
                obtain ⟨g151, hf⟩ := gd_some hf
                refine go_zaloadS (pc' := 505) dX14_lookRound_504 rfl R (R.aa rfl (by decide)) g151 ?_
                refine go_if_eq (pc' := 508) (tgt := 512) dX14_lookRound_505 (by decide) rfl (fun c152 => ?_) (fun c152 => ?_)
                · have hf := it c152 hf
                  refine go_iconst (v := 0) (pc' := 513) dX14_lookRound_512 rfl (by decide) ?_
                  exact t_X14_lookRound_513 @ih R g1 g3 hf
                · have hf := ie c152 hf
                  refine go_iconst (v := 1) (pc' := 509) dX14_lookRound_508 rfl (by decide) ?_
                  refine go_goto (pc' := 0) (tgt := 513) dX14_lookRound_509 (by decide) ?_
                  exact t_X14_lookRound_513 @ih R g1 g3 hf
            · have hf := it c136 hf
              refine go_aload_n (i := 0) (pc' := 410) dX14_lookRound_409 rfl rfl rfl ?_
              refine go_getS (pc' := 413) dX14_lookRound_410 rfl gf_LandBaseModel_108 R (R.at rfl (by decide)) (by decide) rfl ?_
              refine go_aload_n (i := 0) (pc' := 414) dX14_lookRound_413 rfl rfl rfl ?_
              refine go_getS (pc' := 417) dX14_lookRound_414 rfl gf_LandBaseModel_94 R (R.at rfl (by decide)) (by decide) rfl ?_
              refine go_lcmp (pc' := 418) dX14_lookRound_417 rfl ?_
              refine go_if_ge (pc' := 421) (tgt := 425) dX14_lookRound_418 (by decide) rfl (fun c153 => ?_) (fun c153 => ?_)
              · have hf := it c153 hf
                refine go_iconst (v := 0) (pc' := 426) dX14_lookRound_425 rfl (by decide) ?_
                exact t_X14_lookRound_426 @ih R g1 g3 hf
              · have hf := ie c153 hf
                refine go_iconst (v := 1) (pc' := 422) dX14_lookRound_421 rfl (by decide) ?_
                refine go_goto (pc' := 0) (tgt := 426) dX14_lookRound_422 (by decide) ?_
                exact t_X14_lookRound_426 @ih R g1 g3 hf
        · have hf := ie c113 hf
          refine go_aload_n (i := 0) (pc' := 102) dX14_lookRound_101 rfl rfl rfl ?_
          refine go_getS (pc' := 105) dX14_lookRound_102 rfl gf_LandBaseModel_105 R (R.at rfl (by decide)) (by decide) rfl ?_
          refine go_aload_n (i := 0) (pc' := 106) dX14_lookRound_105 rfl rfl rfl ?_
          refine go_getS (pc' := 109) dX14_lookRound_106 rfl gf_LandBaseModel_108 R (R.at rfl (by decide)) (by decide) rfl ?_
          refine go_lcmp (pc' := 110) dX14_lookRound_109 rfl ?_
          refine go_if_gt (pc' := 113) (tgt := 136) dX14_lookRound_110 (by decide) rfl (fun c154 => ?_) (fun c154 => ?_)
          · have hf := it c154 hf
            refine go_aload_n (i := 0) (pc' := 137) dX14_lookRound_136 rfl rfl rfl ?_
            refine go_aload_n (i := 0) (pc' := 138) dX14_lookRound_137 rfl rfl rfl ?_
            refine go_getS (pc' := 141) dX14_lookRound_138 rfl gf_LandBaseModel_108 R (R.at rfl (by decide)) (by decide) rfl ?_
            refine go_lconst (v := 0) (pc' := 142) dX14_lookRound_141 rfl (by decide) ?_
            refine go_mlmax (pc' := 145) dX14_lookRound_142 rfl cf_X14_lookRound_148 (Nat.le_of_ble_eq_true rfl) ?_
            refine go_aload_n (i := 0) (pc' := 146) dX14_lookRound_145 rfl rfl rfl ?_
            refine go_getS (pc' := 149) dX14_lookRound_146 rfl gf_LandBaseModel_94 R (R.at rfl (by decide)) (by decide) rfl ?_
            refine go_lload (pc' := 151) dX14_lookRound_149 rfl rfl ?_
            refine go_lload (pc' := 153) dX14_lookRound_151 rfl rfl ?_
            obtain ⟨v155, σ156, e157, hf⟩ := bd_some hf
            refine go_invV (As := [_, _, _, _]) (pc' := 156) dX14_lookRound_153 rfl cf_X14_lookRound_151 rfl (R.ob (R.at rfl (by decide))) rfl rfl (Nat.le_of_ble_eq_true rfl) (c_X14_compare_ R e157) (fun q158v h159 q158 => ?_)
            obtain ⟨rfl, R⟩ := q158
            exact t_X14_lookRound_156 @ih R g1 g3 hf
          · have hf := ie c154 hf
            refine go_aload_n (i := 0) (pc' := 114) dX14_lookRound_113 rfl rfl rfl ?_
            refine go_aload_n (i := 0) (pc' := 115) dX14_lookRound_114 rfl rfl rfl ?_
            refine go_getS (pc' := 118) dX14_lookRound_115 rfl gf_LandBaseModel_105 R (R.at rfl (by decide)) (by decide) rfl ?_
            refine go_lconst (v := 0) (pc' := 119) dX14_lookRound_118 rfl (by decide) ?_
            refine go_mlmax (pc' := 122) dX14_lookRound_119 rfl cf_X14_lookRound_148 (Nat.le_of_ble_eq_true rfl) ?_
            refine go_aload_n (i := 0) (pc' := 123) dX14_lookRound_122 rfl rfl rfl ?_
            refine go_getS (pc' := 126) dX14_lookRound_123 rfl gf_LandBaseModel_94 R (R.at rfl (by decide)) (by decide) rfl ?_
            refine go_lload (pc' := 128) dX14_lookRound_126 rfl rfl ?_
            refine go_lload (pc' := 130) dX14_lookRound_128 rfl rfl ?_
            obtain ⟨v160, σ161, e162, hf⟩ := bd_some hf
            refine go_invV (As := [_, _, _, _]) (pc' := 133) dX14_lookRound_130 rfl cf_X14_lookRound_151 rfl (R.ob (R.at rfl (by decide))) rfl rfl (Nat.le_of_ble_eq_true rfl) (c_X14_compare_ R e162) (fun q163v h164 q163 => ?_)
            obtain ⟨rfl, R⟩ := q163
            refine go_goto (pc' := 0) (tgt := 156) dX14_lookRound_133 (by decide) ?_
            exact t_X14_lookRound_156 @ih R g1 g3 hf
      · have hf := it c107 hf
        refine go_goto (pc' := 0) (tgt := 563) dX14_lookRound_76 (by decide) ?_
        exact t_X14_lookRound_563 @ih R g1 g3 hf
def f_X14_lookRound (n : Nat) (a1 : Nat) (x2 : Int32) (a3 : Nat) (l4 : Int64) (l6 : Int64) (σ : xσ) : Option (Unit × xσ) := gd (okM a1) (gd (okM a3) (st (wI σ 233 16 0) (fun σ101 => st (wI σ101 233 17 0) (fun σ104 => st (wI σ104 233 19 3) (fun σ107 => gd (inb (x2 + 1) 40) (gd (inb x2 40) (st (((sI σ107 (a1 + 2) (x2 + 1).toNatClampNeg).toInt64) - ((sI σ107 (a1 + 2) x2.toNatClampNeg).toInt64)) (fun l112 => gd (inb (x2 + 1) 40) (gd (inb x2 40) (st (((sI σ107 (a1 + 3) (x2 + 1).toNatClampNeg).toInt64) - ((sI σ107 (a1 + 3) x2.toNatClampNeg).toInt64)) (fun l116 => l_X14_lookRound_56 n xFU a1 x2 a3 l4 l6 l112 l116 0 σ107)))))))))))
set_option maxRecDepth 100000 in
set_option maxHeartbeats 4000000 in
theorem c_X14_lookRound {G : xG} {n : Nat} {σ : xσ} {h : xH} {a1 : Nat} {x2 : Int32} {a3 : Nat} {l4 : Int64} {l6 : Int64} {v1 : Unit} {σ1 : xσ} (R : Rl n σ h) (hf : f_X14_lookRound n a1 x2 a3 l4 l6 σ = some (v1, σ1)) : Ca G mX14_lookRound [.ref 233, .ref a1, .int x2, .ref a3, .long l4, .long l6] h (fun v h' => v = none ∧ Rl n σ1 h') := by
  refine Ca.of rfl (Nat.le_of_ble_eq_true rfl) ?_
  generalize hr : (v1, σ1) = r at hf
  suffices q : Go G mX14_lookRound 0 (xent (xMl mX14_lookRound) [.ref 233, .ref a1, .int x2, .ref a3, .long l4, .long l6]) [] h (fun v h' => xRok (xRt mX14_lookRound) v ∧ v = none ∧ Rl n r.2 h') by
    subst hr
    exact q
  clear hr
  rw [f_X14_lookRound] at hf
  obtain ⟨g1, hf⟩ := gd_some hf
  obtain ⟨g3, hf⟩ := gd_some hf
  refine go_aload_n (i := 0) (pc' := 1) dX14_lookRound_0 rfl rfl rfl ?_
  refine go_iconst (v := 0) (pc' := 2) dX14_lookRound_1 rfl (by decide) ?_
  obtain ⟨σ101, e102, hf⟩ := st_some hf
  refine go_putI (pc' := 5) dX14_lookRound_2 rfl pf_LandBaseModel_120 R (R.at rfl (by decide)) (by decide) rfl rfl rfl (fun h103 R => ?_)
  have R := Rl.cast e102 R
  refine go_aload_n (i := 0) (pc' := 6) dX14_lookRound_5 rfl rfl rfl ?_
  refine go_iconst (v := 0) (pc' := 7) dX14_lookRound_6 rfl (by decide) ?_
  obtain ⟨σ104, e105, hf⟩ := st_some hf
  refine go_putI (pc' := 10) dX14_lookRound_7 rfl pf_LandBaseModel_126 R (R.at rfl (by decide)) (by decide) rfl rfl rfl (fun h106 R => ?_)
  have R := Rl.cast e105 R
  refine go_aload_n (i := 0) (pc' := 11) dX14_lookRound_10 rfl rfl rfl ?_
  refine go_iconst (v := 3) (pc' := 12) dX14_lookRound_11 rfl (by decide) ?_
  obtain ⟨σ107, e108, hf⟩ := st_some hf
  refine go_putI (pc' := 15) dX14_lookRound_12 rfl pf_LandBaseModel_132 R (R.at rfl (by decide)) (by decide) rfl rfl rfl (fun h109 R => ?_)
  have R := Rl.cast e108 R
  refine go_aload_n (i := 1) (pc' := 16) dX14_lookRound_15 rfl rfl rfl ?_
  refine go_getS (pc' := 19) dX14_lookRound_16 rfl gf_LandBaseModel_30 R (g1.at R) (by decide) rfl ?_
  refine go_iload_n (i := 2) (pc' := 20) dX14_lookRound_19 rfl rfl rfl ?_
  refine go_iconst (v := 1) (pc' := 21) dX14_lookRound_20 rfl (by decide) ?_
  refine go_iadd (pc' := 22) dX14_lookRound_21 rfl ?_
  obtain ⟨g110, hf⟩ := gd_some hf
  refine go_ialoadS (pc' := 23) dX14_lookRound_22 rfl R (g1.x R) g110 ?_
  refine go_i2l (pc' := 24) dX14_lookRound_23 rfl rfl ?_
  refine go_aload_n (i := 1) (pc' := 25) dX14_lookRound_24 rfl rfl rfl ?_
  refine go_getS (pc' := 28) dX14_lookRound_25 rfl gf_LandBaseModel_30 R (g1.at R) (by decide) rfl ?_
  refine go_iload_n (i := 2) (pc' := 29) dX14_lookRound_28 rfl rfl rfl ?_
  obtain ⟨g111, hf⟩ := gd_some hf
  refine go_ialoadS (pc' := 30) dX14_lookRound_29 rfl R (g1.x R) g111 ?_
  refine go_i2l (pc' := 31) dX14_lookRound_30 rfl rfl ?_
  refine go_lsub (pc' := 32) dX14_lookRound_31 rfl ?_
  obtain ⟨l112, e113, hf⟩ := st_some hf
  refine go_lstoreE e113 (pc' := 34) dX14_lookRound_32 rfl (by decide) rfl ?_
  refine go_aload_n (i := 1) (pc' := 35) dX14_lookRound_34 rfl rfl rfl ?_
  refine go_getS (pc' := 38) dX14_lookRound_35 rfl gf_LandBaseModel_36 R (g1.at R) (by decide) rfl ?_
  refine go_iload_n (i := 2) (pc' := 39) dX14_lookRound_38 rfl rfl rfl ?_
  refine go_iconst (v := 1) (pc' := 40) dX14_lookRound_39 rfl (by decide) ?_
  refine go_iadd (pc' := 41) dX14_lookRound_40 rfl ?_
  obtain ⟨g114, hf⟩ := gd_some hf
  refine go_ialoadS (pc' := 42) dX14_lookRound_41 rfl R (g1.y R) g114 ?_
  refine go_i2l (pc' := 43) dX14_lookRound_42 rfl rfl ?_
  refine go_aload_n (i := 1) (pc' := 44) dX14_lookRound_43 rfl rfl rfl ?_
  refine go_getS (pc' := 47) dX14_lookRound_44 rfl gf_LandBaseModel_36 R (g1.at R) (by decide) rfl ?_
  refine go_iload_n (i := 2) (pc' := 48) dX14_lookRound_47 rfl rfl rfl ?_
  obtain ⟨g115, hf⟩ := gd_some hf
  refine go_ialoadS (pc' := 49) dX14_lookRound_48 rfl R (g1.y R) g115 ?_
  refine go_i2l (pc' := 50) dX14_lookRound_49 rfl rfl ?_
  refine go_lsub (pc' := 51) dX14_lookRound_50 rfl ?_
  obtain ⟨l116, e117, hf⟩ := st_some hf
  refine go_lstoreE e117 (pc' := 53) dX14_lookRound_51 rfl (by decide) rfl ?_
  refine go_iconst (v := 0) (pc' := 54) dX14_lookRound_53 rfl (by decide) ?_
  refine go_istoreE rfl (pc' := 56) dX14_lookRound_54 rfl (by decide) rfl ?_
  exact t_X14_lookRound_56 xFU R g1 g3 hf
def b_X14_goPiece_83 (n : Nat) (xs0 : Int32) (σ : xσ) : Option (Unit × xσ) := gd (xs0 = 0 ∨ xs0 = 1) (st (wI σ 233 5 xs0) (fun σ102 => some ((), σ102)))
set_option maxRecDepth 100000 in
set_option maxHeartbeats 4000000 in
theorem t_X14_goPiece_83 {G : xG} {n : Nat} {xs0 : Int32} {σ : xσ} {h : xH} {r : Unit × xσ} {d0 : Option Value} {d1 : Option Value} {d2 : Option Value} {d3 : Option Value} {d4 : Option Value} {d5 : Option Value} {d6 : Option Value} {d7 : Option Value} {d8 : Option Value} : Rl n σ h → b_X14_goPiece_83 n xs0 σ = some r → Go G mX14_goPiece 83 [d0, d1, d2, d3, d4, d5, d6, d7, d8] [.int xs0, .ref 233] h (fun v h' => xRok (xRt mX14_goPiece) v ∧ v = none ∧ Rl n r.2 h') := by
  intro R hf
  rw [b_X14_goPiece_83] at hf
  obtain ⟨g101, hf⟩ := gd_some hf
  obtain ⟨σ102, e103, hf⟩ := st_some hf
  refine go_putI (pc' := 86) dX14_goPiece_83 rfl pf_LandBaseModel_171 R (R.at rfl (by decide)) (by decide) rfl (nb g101) (nf g101) (fun h104 R => ?_)
  have R := Rl.cast e103 R
  refine go_goto (pc' := 0) (tgt := 240) dX14_goPiece_86 (by decide) ?_
  obtain rfl := Option.some.inj hf
  exact Go.ret (v := none) dX14_goPiece_240 rfl ⟨trivial, rfl, R⟩
def b_X14_goPiece_62 (n : Nat) (x8 : Int32) (xs0 : Int32) (σ : xσ) : Option (Unit × xσ) := gd (xs0 = 0 ∨ xs0 = 1) (st (wI σ 233 4 xs0) (fun σ102 => if (sI σ102 233 5) = 0 then if x8 = 0 then b_X14_goPiece_83 n 1 σ102 else b_X14_goPiece_83 n 0 σ102 else b_X14_goPiece_83 n 1 σ102))
set_option maxRecDepth 100000 in
set_option maxHeartbeats 4000000 in
theorem t_X14_goPiece_62 {G : xG} {n : Nat} {x8 : Int32} {xs0 : Int32} {σ : xσ} {h : xH} {r : Unit × xσ} {d1 : Option Value} {d2 : Option Value} {d3 : Option Value} {d4 : Option Value} {d5 : Option Value} {d6 : Option Value} {d7 : Option Value} : Rl n σ h → b_X14_goPiece_62 n x8 xs0 σ = some r → Go G mX14_goPiece 62 [some (.ref 233), d1, d2, d3, d4, d5, d6, d7, some (.int x8)] [.int xs0, .ref 233] h (fun v h' => xRok (xRt mX14_goPiece) v ∧ v = none ∧ Rl n r.2 h') := by
  intro R hf
  rw [b_X14_goPiece_62] at hf
  obtain ⟨g101, hf⟩ := gd_some hf
  obtain ⟨σ102, e103, hf⟩ := st_some hf
  refine go_putI (pc' := 65) dX14_goPiece_62 rfl pf_LandBaseModel_168 R (R.at rfl (by decide)) (by decide) rfl (nb g101) (nf g101) (fun h104 R => ?_)
  have R := Rl.cast e103 R
  refine go_aload_n (i := 0) (pc' := 66) dX14_goPiece_65 rfl rfl rfl ?_
  refine go_aload_n (i := 0) (pc' := 67) dX14_goPiece_66 rfl rfl rfl ?_
  refine go_getS (pc' := 70) dX14_goPiece_67 rfl gf_LandBaseModel_171 R (R.at rfl (by decide)) (by decide) rfl ?_
  refine go_if_ne (pc' := 73) (tgt := 78) dX14_goPiece_70 (by decide) rfl (fun c105 => ?_) (fun c105 => ?_)
  · have hf := ie c105 hf
    refine go_iconst (v := 1) (pc' := 79) dX14_goPiece_78 rfl (by decide) ?_
    refine go_goto (pc' := 0) (tgt := 83) dX14_goPiece_79 (by decide) ?_
    exact t_X14_goPiece_83 R hf
  · have hf := it c105 hf
    refine go_iload (pc' := 75) dX14_goPiece_73 rfl rfl ?_
    refine go_if_ne (pc' := 78) (tgt := 82) dX14_goPiece_75 (by decide) rfl (fun c106 => ?_) (fun c106 => ?_)
    · have hf := ie c106 hf
      refine go_iconst (v := 0) (pc' := 83) dX14_goPiece_82 rfl (by decide) ?_
      exact t_X14_goPiece_83 R hf
    · have hf := it c106 hf
      refine go_iconst (v := 1) (pc' := 79) dX14_goPiece_78 rfl (by decide) ?_
      refine go_goto (pc' := 0) (tgt := 83) dX14_goPiece_79 (by decide) ?_
      exact t_X14_goPiece_83 R hf
def b_X14_goPiece_42 (n : Nat) (xs0 : Int32) (σ : xσ) : Option (Unit × xσ) := if (sI σ 233 4) = 0 then if xs0 = 0 then b_X14_goPiece_62 n xs0 0 σ else b_X14_goPiece_62 n xs0 1 σ else b_X14_goPiece_62 n xs0 1 σ
set_option maxRecDepth 100000 in
set_option maxHeartbeats 4000000 in
theorem t_X14_goPiece_42 {G : xG} {n : Nat} {xs0 : Int32} {σ : xσ} {h : xH} {r : Unit × xσ} {d1 : Option Value} {d2 : Option Value} {d3 : Option Value} {d4 : Option Value} {d5 : Option Value} {d6 : Option Value} {d7 : Option Value} {d8 : Option Value} : Rl n σ h → b_X14_goPiece_42 n xs0 σ = some r → Go G mX14_goPiece 42 [some (.ref 233), d1, d2, d3, d4, d5, d6, d7, d8] [.int xs0] h (fun v h' => xRok (xRt mX14_goPiece) v ∧ v = none ∧ Rl n r.2 h') := by
  intro R hf
  rw [b_X14_goPiece_42] at hf
  refine go_istoreE rfl (pc' := 44) dX14_goPiece_42 rfl (by decide) rfl ?_
  refine go_aload_n (i := 0) (pc' := 45) dX14_goPiece_44 rfl rfl rfl ?_
  refine go_aload_n (i := 0) (pc' := 46) dX14_goPiece_45 rfl rfl rfl ?_
  refine go_getS (pc' := 49) dX14_goPiece_46 rfl gf_LandBaseModel_168 R (R.at rfl (by decide)) (by decide) rfl ?_
  refine go_if_ne (pc' := 52) (tgt := 57) dX14_goPiece_49 (by decide) rfl (fun c101 => ?_) (fun c101 => ?_)
  · have hf := ie c101 hf
    refine go_iconst (v := 1) (pc' := 58) dX14_goPiece_57 rfl (by decide) ?_
    refine go_goto (pc' := 0) (tgt := 62) dX14_goPiece_58 (by decide) ?_
    exact t_X14_goPiece_62 R hf
  · have hf := it c101 hf
    refine go_iload (pc' := 54) dX14_goPiece_52 rfl rfl ?_
    refine go_if_eq (pc' := 57) (tgt := 61) dX14_goPiece_54 (by decide) rfl (fun c102 => ?_) (fun c102 => ?_)
    · have hf := it c102 hf
      refine go_iconst (v := 0) (pc' := 62) dX14_goPiece_61 rfl (by decide) ?_
      exact t_X14_goPiece_62 R hf
    · have hf := ie c102 hf
      refine go_iconst (v := 1) (pc' := 58) dX14_goPiece_57 rfl (by decide) ?_
      refine go_goto (pc' := 0) (tgt := 62) dX14_goPiece_58 (by decide) ?_
      exact t_X14_goPiece_62 R hf
def b_X14_goPiece_170 (n : Nat) (xs0 : Int32) (σ : xσ) : Option (Unit × xσ) := gd (xs0 = 0 ∨ xs0 = 1) (st (wI σ 233 7 xs0) (fun σ102 => some ((), σ102)))
set_option maxRecDepth 100000 in
set_option maxHeartbeats 4000000 in
theorem t_X14_goPiece_170 {G : xG} {n : Nat} {xs0 : Int32} {σ : xσ} {h : xH} {r : Unit × xσ} {d0 : Option Value} {d1 : Option Value} {d2 : Option Value} {d3 : Option Value} {d4 : Option Value} {d5 : Option Value} {d6 : Option Value} {d7 : Option Value} {d8 : Option Value} : Rl n σ h → b_X14_goPiece_170 n xs0 σ = some r → Go G mX14_goPiece 170 [d0, d1, d2, d3, d4, d5, d6, d7, d8] [.int xs0, .ref 233] h (fun v h' => xRok (xRt mX14_goPiece) v ∧ v = none ∧ Rl n r.2 h') := by
  intro R hf
  rw [b_X14_goPiece_170] at hf
  obtain ⟨g101, hf⟩ := gd_some hf
  obtain ⟨σ102, e103, hf⟩ := st_some hf
  refine go_putI (pc' := 173) dX14_goPiece_170 rfl pf_LandBaseModel_177 R (R.at rfl (by decide)) (by decide) rfl (nb g101) (nf g101) (fun h104 R => ?_)
  have R := Rl.cast e103 R
  refine go_goto (pc' := 0) (tgt := 240) dX14_goPiece_173 (by decide) ?_
  obtain rfl := Option.some.inj hf
  exact Go.ret (v := none) dX14_goPiece_240 rfl ⟨trivial, rfl, R⟩
def b_X14_goPiece_122 (n : Nat) (a1 : Nat) (x2 : Int32) (a3 : Nat) (xs0 : Int32) (σ : xσ) : Option (Unit × xσ) := gd (xs0 = 0 ∨ xs0 = 1) (st (wI σ 233 4 xs0) (fun σ102 => if (sI σ102 a1 1) = 2 then if (sI σ102 a3 1) = 2 then if (sI σ102 233 7) = 0 then bd (f_X14_ringOf n a1 x2 σ102) (fun v108 σ109 => bd (f_X14_isInteriorLeft n a1 v108 σ109) (fun v113 σ114 => if (sI σ102 233 18) = v113 then b_X14_goPiece_170 n 1 σ114 else b_X14_goPiece_170 n 0 σ114)) else b_X14_goPiece_170 n 1 σ102 else some ((), σ102) else some ((), σ102)))
set_option maxRecDepth 100000 in
set_option maxHeartbeats 4000000 in
theorem t_X14_goPiece_122 {G : xG} {n : Nat} {a1 : Nat} {x2 : Int32} {a3 : Nat} {xs0 : Int32} {σ : xσ} {h : xH} {r : Unit × xσ} {d4 : Option Value} {d5 : Option Value} {d6 : Option Value} {d7 : Option Value} {d8 : Option Value} : Rl n σ h → okM a1 → okM a3 → b_X14_goPiece_122 n a1 x2 a3 xs0 σ = some r → Go G mX14_goPiece 122 [some (.ref 233), some (.ref a1), some (.int x2), some (.ref a3), d4, d5, d6, d7, d8] [.int xs0, .ref 233] h (fun v h' => xRok (xRt mX14_goPiece) v ∧ v = none ∧ Rl n r.2 h') := by
  intro R g1 g3 hf
  rw [b_X14_goPiece_122] at hf
  obtain ⟨g101, hf⟩ := gd_some hf
  obtain ⟨σ102, e103, hf⟩ := st_some hf
  refine go_putI (pc' := 125) dX14_goPiece_122 rfl pf_LandBaseModel_168 R (R.at rfl (by decide)) (by decide) rfl (nb g101) (nf g101) (fun h104 R => ?_)
  have R := Rl.cast e103 R
  refine go_aload_n (i := 1) (pc' := 126) dX14_goPiece_125 rfl rfl rfl ?_
  refine go_getS (pc' := 129) dX14_goPiece_126 rfl gf_LandBaseModel_75 R (g1.at R) (by decide) rfl ?_
  refine go_iconst (v := 2) (pc' := 130) dX14_goPiece_129 rfl (by decide) ?_
  refine go_icmp_ne (pc' := 133) (tgt := 240) dX14_goPiece_130 (by decide) rfl (fun c105 => ?_) (fun c105 => ?_)
  · have hf := ie c105 hf
    obtain rfl := Option.some.inj hf
    exact Go.ret (v := none) dX14_goPiece_240 rfl ⟨trivial, rfl, R⟩
  · have hf := it c105 hf
    refine go_aload_n (i := 3) (pc' := 134) dX14_goPiece_133 rfl rfl rfl ?_
    refine go_getS (pc' := 137) dX14_goPiece_134 rfl gf_LandBaseModel_75 R (g3.at R) (by decide) rfl ?_
    refine go_iconst (v := 2) (pc' := 138) dX14_goPiece_137 rfl (by decide) ?_
    refine go_icmp_ne (pc' := 141) (tgt := 240) dX14_goPiece_138 (by decide) rfl (fun c106 => ?_) (fun c106 => ?_)
    · have hf := ie c106 hf
      obtain rfl := Option.some.inj hf
      exact Go.ret (v := none) dX14_goPiece_240 rfl ⟨trivial, rfl, R⟩
    · have hf := it c106 hf
      refine go_aload_n (i := 0) (pc' := 142) dX14_goPiece_141 rfl rfl rfl ?_
      refine go_aload_n (i := 0) (pc' := 143) dX14_goPiece_142 rfl rfl rfl ?_
      refine go_getS (pc' := 146) dX14_goPiece_143 rfl gf_LandBaseModel_177 R (R.at rfl (by decide)) (by decide) rfl ?_
      refine go_if_ne (pc' := 149) (tgt := 165) dX14_goPiece_146 (by decide) rfl (fun c107 => ?_) (fun c107 => ?_)
      · have hf := ie c107 hf
        refine go_iconst (v := 1) (pc' := 166) dX14_goPiece_165 rfl (by decide) ?_
        refine go_goto (pc' := 0) (tgt := 170) dX14_goPiece_166 (by decide) ?_
        exact t_X14_goPiece_170 R hf
      · have hf := it c107 hf
        refine go_aload_n (i := 0) (pc' := 150) dX14_goPiece_149 rfl rfl rfl ?_
        refine go_getS (pc' := 153) dX14_goPiece_150 rfl gf_LandBaseModel_129 R (R.at rfl (by decide)) (by decide) rfl ?_
        refine go_aload_n (i := 1) (pc' := 154) dX14_goPiece_153 rfl rfl rfl ?_
        refine go_aload_n (i := 1) (pc' := 155) dX14_goPiece_154 rfl rfl rfl ?_
        refine go_iload_n (i := 2) (pc' := 156) dX14_goPiece_155 rfl rfl rfl ?_
        obtain ⟨v108, σ109, e110, hf⟩ := bd_some hf
        refine go_invS (As := [_, _]) (pc' := 159) dX14_goPiece_156 rfl cf_X14_goPiece_160 rfl rfl (Nat.le_of_ble_eq_true rfl) (c_X14_ringOf R e110) (fun q111v h112 q111 => ?_)
        obtain ⟨rfl, R⟩ := q111
        obtain ⟨v113, σ114, e115, hf⟩ := bd_some hf
        refine go_invS (As := [_, _]) (pc' := 162) dX14_goPiece_159 rfl cf_X14_goPiece_183 rfl rfl (Nat.le_of_ble_eq_true rfl) (c_X14_isInteriorLeft R e115) (fun q116v h117 q116 => ?_)
        obtain ⟨rfl, R⟩ := q116
        refine go_icmp_ne (pc' := 165) (tgt := 169) dX14_goPiece_162 (by decide) rfl (fun c118 => ?_) (fun c118 => ?_)
        · have hf := ie c118 hf
          refine go_iconst (v := 0) (pc' := 170) dX14_goPiece_169 rfl (by decide) ?_
          exact t_X14_goPiece_170 R hf
        · have hf := it c118 hf
          refine go_iconst (v := 1) (pc' := 166) dX14_goPiece_165 rfl (by decide) ?_
          refine go_goto (pc' := 0) (tgt := 170) dX14_goPiece_166 (by decide) ?_
          exact t_X14_goPiece_170 R hf
def b_X14_goPiece_237 (n : Nat) (xs0 : Int32) (σ : xσ) : Option (Unit × xσ) := gd (xs0 = 0 ∨ xs0 = 1) (st (wI σ 233 5 xs0) (fun σ102 => some ((), σ102)))
set_option maxRecDepth 100000 in
set_option maxHeartbeats 4000000 in
theorem t_X14_goPiece_237 {G : xG} {n : Nat} {xs0 : Int32} {σ : xσ} {h : xH} {r : Unit × xσ} {d0 : Option Value} {d1 : Option Value} {d2 : Option Value} {d3 : Option Value} {d4 : Option Value} {d5 : Option Value} {d6 : Option Value} {d7 : Option Value} {d8 : Option Value} : Rl n σ h → b_X14_goPiece_237 n xs0 σ = some r → Go G mX14_goPiece 237 [d0, d1, d2, d3, d4, d5, d6, d7, d8] [.int xs0, .ref 233] h (fun v h' => xRok (xRt mX14_goPiece) v ∧ v = none ∧ Rl n r.2 h') := by
  intro R hf
  rw [b_X14_goPiece_237] at hf
  obtain ⟨g101, hf⟩ := gd_some hf
  obtain ⟨σ102, e103, hf⟩ := st_some hf
  refine go_putI (pc' := 240) dX14_goPiece_237 rfl pf_LandBaseModel_171 R (R.at rfl (by decide)) (by decide) rfl (nb g101) (nf g101) (fun h104 R => ?_)
  have R := Rl.cast e103 R
  obtain rfl := Option.some.inj hf
  exact Go.ret (v := none) dX14_goPiece_240 rfl ⟨trivial, rfl, R⟩
def b_X14_goPiece_216 (n : Nat) (x8 : Int32) (xs0 : Int32) (σ : xσ) : Option (Unit × xσ) := gd (xs0 = 0 ∨ xs0 = 1) (st (wI σ 233 4 xs0) (fun σ102 => if (sI σ102 233 5) = 0 then if x8 = 0 then b_X14_goPiece_237 n 1 σ102 else b_X14_goPiece_237 n 0 σ102 else b_X14_goPiece_237 n 1 σ102))
set_option maxRecDepth 100000 in
set_option maxHeartbeats 4000000 in
theorem t_X14_goPiece_216 {G : xG} {n : Nat} {x8 : Int32} {xs0 : Int32} {σ : xσ} {h : xH} {r : Unit × xσ} {d1 : Option Value} {d2 : Option Value} {d3 : Option Value} {d4 : Option Value} {d5 : Option Value} {d6 : Option Value} {d7 : Option Value} : Rl n σ h → b_X14_goPiece_216 n x8 xs0 σ = some r → Go G mX14_goPiece 216 [some (.ref 233), d1, d2, d3, d4, d5, d6, d7, some (.int x8)] [.int xs0, .ref 233] h (fun v h' => xRok (xRt mX14_goPiece) v ∧ v = none ∧ Rl n r.2 h') := by
  intro R hf
  rw [b_X14_goPiece_216] at hf
  obtain ⟨g101, hf⟩ := gd_some hf
  obtain ⟨σ102, e103, hf⟩ := st_some hf
  refine go_putI (pc' := 219) dX14_goPiece_216 rfl pf_LandBaseModel_168 R (R.at rfl (by decide)) (by decide) rfl (nb g101) (nf g101) (fun h104 R => ?_)
  have R := Rl.cast e103 R
  refine go_aload_n (i := 0) (pc' := 220) dX14_goPiece_219 rfl rfl rfl ?_
  refine go_aload_n (i := 0) (pc' := 221) dX14_goPiece_220 rfl rfl rfl ?_
  refine go_getS (pc' := 224) dX14_goPiece_221 rfl gf_LandBaseModel_171 R (R.at rfl (by decide)) (by decide) rfl ?_
  refine go_if_ne (pc' := 227) (tgt := 232) dX14_goPiece_224 (by decide) rfl (fun c105 => ?_) (fun c105 => ?_)
  · have hf := ie c105 hf
    refine go_iconst (v := 1) (pc' := 233) dX14_goPiece_232 rfl (by decide) ?_
    refine go_goto (pc' := 0) (tgt := 237) dX14_goPiece_233 (by decide) ?_
    exact t_X14_goPiece_237 R hf
  · have hf := it c105 hf
    refine go_iload (pc' := 229) dX14_goPiece_227 rfl rfl ?_
    refine go_if_ne (pc' := 232) (tgt := 236) dX14_goPiece_229 (by decide) rfl (fun c106 => ?_) (fun c106 => ?_)
    · have hf := ie c106 hf
      refine go_iconst (v := 0) (pc' := 237) dX14_goPiece_236 rfl (by decide) ?_
      exact t_X14_goPiece_237 R hf
    · have hf := it c106 hf
      refine go_iconst (v := 1) (pc' := 233) dX14_goPiece_232 rfl (by decide) ?_
      refine go_goto (pc' := 0) (tgt := 237) dX14_goPiece_233 (by decide) ?_
      exact t_X14_goPiece_237 R hf
def b_X14_goPiece_196 (n : Nat) (xs0 : Int32) (σ : xσ) : Option (Unit × xσ) := if (sI σ 233 4) = 0 then if xs0 = 0 then b_X14_goPiece_216 n xs0 0 σ else b_X14_goPiece_216 n xs0 1 σ else b_X14_goPiece_216 n xs0 1 σ
set_option maxRecDepth 100000 in
set_option maxHeartbeats 4000000 in
theorem t_X14_goPiece_196 {G : xG} {n : Nat} {xs0 : Int32} {σ : xσ} {h : xH} {r : Unit × xσ} {d1 : Option Value} {d2 : Option Value} {d3 : Option Value} {d4 : Option Value} {d5 : Option Value} {d6 : Option Value} {d7 : Option Value} {d8 : Option Value} : Rl n σ h → b_X14_goPiece_196 n xs0 σ = some r → Go G mX14_goPiece 196 [some (.ref 233), d1, d2, d3, d4, d5, d6, d7, d8] [.int xs0] h (fun v h' => xRok (xRt mX14_goPiece) v ∧ v = none ∧ Rl n r.2 h') := by
  intro R hf
  rw [b_X14_goPiece_196] at hf
  refine go_istoreE rfl (pc' := 198) dX14_goPiece_196 rfl (by decide) rfl ?_
  refine go_aload_n (i := 0) (pc' := 199) dX14_goPiece_198 rfl rfl rfl ?_
  refine go_aload_n (i := 0) (pc' := 200) dX14_goPiece_199 rfl rfl rfl ?_
  refine go_getS (pc' := 203) dX14_goPiece_200 rfl gf_LandBaseModel_168 R (R.at rfl (by decide)) (by decide) rfl ?_
  refine go_if_ne (pc' := 206) (tgt := 211) dX14_goPiece_203 (by decide) rfl (fun c101 => ?_) (fun c101 => ?_)
  · have hf := ie c101 hf
    refine go_iconst (v := 1) (pc' := 212) dX14_goPiece_211 rfl (by decide) ?_
    refine go_goto (pc' := 0) (tgt := 216) dX14_goPiece_212 (by decide) ?_
    exact t_X14_goPiece_216 R hf
  · have hf := it c101 hf
    refine go_iload (pc' := 208) dX14_goPiece_206 rfl rfl ?_
    refine go_if_eq (pc' := 211) (tgt := 215) dX14_goPiece_208 (by decide) rfl (fun c102 => ?_) (fun c102 => ?_)
    · have hf := it c102 hf
      refine go_iconst (v := 0) (pc' := 216) dX14_goPiece_215 rfl (by decide) ?_
      exact t_X14_goPiece_216 R hf
    · have hf := ie c102 hf
      refine go_iconst (v := 1) (pc' := 212) dX14_goPiece_211 rfl (by decide) ?_
      refine go_goto (pc' := 0) (tgt := 216) dX14_goPiece_212 (by decide) ?_
      exact t_X14_goPiece_216 R hf
def f_X14_goPiece (n : Nat) (a1 : Nat) (x2 : Int32) (a3 : Nat) (l4 : Int64) (l6 : Int64) (σ : xσ) : Option (Unit × xσ) := gd (okM a1) (gd (okM a3) (bd (f_X14_lookRound n a1 x2 a3 l4 l6 σ) (fun v101 σ102 => if (sI σ102 233 16) = 0 then gd (inb x2 40) (gd (inb x2 40) (bd (f_X14_locate n a3 (sI σ102 (a1 + 2) x2.toNatClampNeg) (sI σ102 (a1 + 3) x2.toNatClampNeg) σ102) (fun v117 σ118 => if v117 < 0 then b_X14_goPiece_42 n 0 σ118 else b_X14_goPiece_42 n 1 σ118))) else if (sI σ102 233 17) = 0 then if (sI σ102 a3 1) = 2 then if (sI σ102 233 22) = 0 then b_X14_goPiece_196 n 0 σ102 else b_X14_goPiece_196 n 1 σ102 else b_X14_goPiece_196 n 0 σ102 else st (wI σ102 233 6 1) (fun σ110 => if (sI σ110 233 4) = 0 then if (sI σ110 a3 1) = 1 then b_X14_goPiece_122 n a1 x2 a3 1 σ110 else b_X14_goPiece_122 n a1 x2 a3 0 σ110 else b_X14_goPiece_122 n a1 x2 a3 1 σ110))))
set_option maxRecDepth 100000 in
set_option maxHeartbeats 4000000 in
theorem c_X14_goPiece {G : xG} {n : Nat} {σ : xσ} {h : xH} {a1 : Nat} {x2 : Int32} {a3 : Nat} {l4 : Int64} {l6 : Int64} {v1 : Unit} {σ1 : xσ} (R : Rl n σ h) (hf : f_X14_goPiece n a1 x2 a3 l4 l6 σ = some (v1, σ1)) : Ca G mX14_goPiece [.ref 233, .ref a1, .int x2, .ref a3, .long l4, .long l6] h (fun v h' => v = none ∧ Rl n σ1 h') := by
  refine Ca.of rfl (Nat.le_of_ble_eq_true rfl) ?_
  generalize hr : (v1, σ1) = r at hf
  suffices q : Go G mX14_goPiece 0 (xent (xMl mX14_goPiece) [.ref 233, .ref a1, .int x2, .ref a3, .long l4, .long l6]) [] h (fun v h' => xRok (xRt mX14_goPiece) v ∧ v = none ∧ Rl n r.2 h') by
    subst hr
    exact q
  clear hr
  rw [f_X14_goPiece] at hf
  obtain ⟨g1, hf⟩ := gd_some hf
  obtain ⟨g3, hf⟩ := gd_some hf
  refine go_aload_n (i := 0) (pc' := 1) dX14_goPiece_0 rfl rfl rfl ?_
  refine go_aload_n (i := 1) (pc' := 2) dX14_goPiece_1 rfl rfl rfl ?_
  refine go_iload_n (i := 2) (pc' := 3) dX14_goPiece_2 rfl rfl rfl ?_
  refine go_aload_n (i := 3) (pc' := 4) dX14_goPiece_3 rfl rfl rfl ?_
  refine go_lload (pc' := 6) dX14_goPiece_4 rfl rfl ?_
  refine go_lload (pc' := 8) dX14_goPiece_6 rfl rfl ?_
  obtain ⟨v101, σ102, e103, hf⟩ := bd_some hf
  refine go_invV (As := [_, _, _, _, _]) (pc' := 11) dX14_goPiece_8 rfl cf_X14_goPiece_194 rfl (R.ob (R.at rfl (by decide))) rfl rfl (Nat.le_of_ble_eq_true rfl) (c_X14_lookRound R e103) (fun q104v h105 q104 => ?_)
  obtain ⟨rfl, R⟩ := q104
  refine go_aload_n (i := 0) (pc' := 12) dX14_goPiece_11 rfl rfl rfl ?_
  refine go_getS (pc' := 15) dX14_goPiece_12 rfl gf_LandBaseModel_120 R (R.at rfl (by decide)) (by decide) rfl ?_
  refine go_if_ne (pc' := 18) (tgt := 89) dX14_goPiece_15 (by decide) rfl (fun c106 => ?_) (fun c106 => ?_)
  · have hf := ie c106 hf
    refine go_aload_n (i := 0) (pc' := 90) dX14_goPiece_89 rfl rfl rfl ?_
    refine go_getS (pc' := 93) dX14_goPiece_90 rfl gf_LandBaseModel_126 R (R.at rfl (by decide)) (by decide) rfl ?_
    refine go_if_eq (pc' := 96) (tgt := 176) dX14_goPiece_93 (by decide) rfl (fun c107 => ?_) (fun c107 => ?_)
    · have hf := it c107 hf
      refine go_aload_n (i := 3) (pc' := 177) dX14_goPiece_176 rfl rfl rfl ?_
      refine go_getS (pc' := 180) dX14_goPiece_177 rfl gf_LandBaseModel_75 R (g3.at R) (by decide) rfl ?_
      refine go_iconst (v := 2) (pc' := 181) dX14_goPiece_180 rfl (by decide) ?_
      refine go_icmp_ne (pc' := 184) (tgt := 195) dX14_goPiece_181 (by decide) rfl (fun c108 => ?_) (fun c108 => ?_)
      · have hf := ie c108 hf
        refine go_iconst (v := 0) (pc' := 196) dX14_goPiece_195 rfl (by decide) ?_
        exact t_X14_goPiece_196 R hf
      · have hf := it c108 hf
        refine go_aload_n (i := 0) (pc' := 185) dX14_goPiece_184 rfl rfl rfl ?_
        refine go_getS (pc' := 188) dX14_goPiece_185 rfl gf_LandBaseModel_141 R (R.at rfl (by decide)) (by decide) rfl ?_
        refine go_if_eq (pc' := 191) (tgt := 195) dX14_goPiece_188 (by decide) rfl (fun c109 => ?_) (fun c109 => ?_)
        · have hf := it c109 hf
          refine go_iconst (v := 0) (pc' := 196) dX14_goPiece_195 rfl (by decide) ?_
          exact t_X14_goPiece_196 R hf
        · have hf := ie c109 hf
          refine go_iconst (v := 1) (pc' := 192) dX14_goPiece_191 rfl (by decide) ?_
          refine go_goto (pc' := 0) (tgt := 196) dX14_goPiece_192 (by decide) ?_
          exact t_X14_goPiece_196 R hf
    · have hf := ie c107 hf
      refine go_aload_n (i := 0) (pc' := 97) dX14_goPiece_96 rfl rfl rfl ?_
      refine go_iconst (v := 1) (pc' := 98) dX14_goPiece_97 rfl (by decide) ?_
      obtain ⟨σ110, e111, hf⟩ := st_some hf
      refine go_putI (pc' := 101) dX14_goPiece_98 rfl pf_LandBaseModel_174 R (R.at rfl (by decide)) (by decide) rfl rfl rfl (fun h112 R => ?_)
      have R := Rl.cast e111 R
      refine go_aload_n (i := 0) (pc' := 102) dX14_goPiece_101 rfl rfl rfl ?_
      refine go_aload_n (i := 0) (pc' := 103) dX14_goPiece_102 rfl rfl rfl ?_
      refine go_getS (pc' := 106) dX14_goPiece_103 rfl gf_LandBaseModel_168 R (R.at rfl (by decide)) (by decide) rfl ?_
      refine go_if_ne (pc' := 109) (tgt := 117) dX14_goPiece_106 (by decide) rfl (fun c113 => ?_) (fun c113 => ?_)
      · have hf := ie c113 hf
        refine go_iconst (v := 1) (pc' := 118) dX14_goPiece_117 rfl (by decide) ?_
        refine go_goto (pc' := 0) (tgt := 122) dX14_goPiece_118 (by decide) ?_
        exact t_X14_goPiece_122 R g1 g3 hf
      · have hf := it c113 hf
        refine go_aload_n (i := 3) (pc' := 110) dX14_goPiece_109 rfl rfl rfl ?_
        refine go_getS (pc' := 113) dX14_goPiece_110 rfl gf_LandBaseModel_75 R (g3.at R) (by decide) rfl ?_
        refine go_iconst (v := 1) (pc' := 114) dX14_goPiece_113 rfl (by decide) ?_
        refine go_icmp_ne (pc' := 117) (tgt := 121) dX14_goPiece_114 (by decide) rfl (fun c114 => ?_) (fun c114 => ?_)
        · have hf := ie c114 hf
          refine go_iconst (v := 0) (pc' := 122) dX14_goPiece_121 rfl (by decide) ?_
          exact t_X14_goPiece_122 R g1 g3 hf
        · have hf := it c114 hf
          refine go_iconst (v := 1) (pc' := 118) dX14_goPiece_117 rfl (by decide) ?_
          refine go_goto (pc' := 0) (tgt := 122) dX14_goPiece_118 (by decide) ?_
          exact t_X14_goPiece_122 R g1 g3 hf
  · have hf := it c106 hf
    refine go_aload_n (i := 3) (pc' := 19) dX14_goPiece_18 rfl rfl rfl ?_
    refine go_aload_n (i := 1) (pc' := 20) dX14_goPiece_19 rfl rfl rfl ?_
    refine go_getS (pc' := 23) dX14_goPiece_20 rfl gf_LandBaseModel_30 R (g1.at R) (by decide) rfl ?_
    refine go_iload_n (i := 2) (pc' := 24) dX14_goPiece_23 rfl rfl rfl ?_
    obtain ⟨g115, hf⟩ := gd_some hf
    refine go_ialoadS (pc' := 25) dX14_goPiece_24 rfl R (g1.x R) g115 ?_
    refine go_aload_n (i := 1) (pc' := 26) dX14_goPiece_25 rfl rfl rfl ?_
    refine go_getS (pc' := 29) dX14_goPiece_26 rfl gf_LandBaseModel_36 R (g1.at R) (by decide) rfl ?_
    refine go_iload_n (i := 2) (pc' := 30) dX14_goPiece_29 rfl rfl rfl ?_
    obtain ⟨g116, hf⟩ := gd_some hf
    refine go_ialoadS (pc' := 31) dX14_goPiece_30 rfl R (g1.y R) g116 ?_
    obtain ⟨v117, σ118, e119, hf⟩ := bd_some hf
    refine go_invS (As := [_, _, _]) (pc' := 34) dX14_goPiece_31 rfl cf_X14_goPiece_197 rfl rfl (Nat.le_of_ble_eq_true rfl) (c_X14_locate R e119) (fun q120v h121 q120 => ?_)
    obtain ⟨rfl, R⟩ := q120
    refine go_if_lt (pc' := 37) (tgt := 41) dX14_goPiece_34 (by decide) rfl (fun c122 => ?_) (fun c122 => ?_)
    · have hf := it c122 hf
      refine go_iconst (v := 0) (pc' := 42) dX14_goPiece_41 rfl (by decide) ?_
      exact t_X14_goPiece_42 R hf
    · have hf := ie c122 hf
      refine go_iconst (v := 1) (pc' := 38) dX14_goPiece_37 rfl (by decide) ?_
      refine go_goto (pc' := 0) (tgt := 42) dX14_goPiece_38 (by decide) ?_
      exact t_X14_goPiece_42 R hf
def b_X14_goAlong_232 (n : Nat) (k57 : Nat → Nat → Int32 → xσ → Option (Unit × xσ)) (a1 : Nat) (a2 : Nat) (x3 : Int32) (σ : xσ) : Option (Unit × xσ) := k57 a1 a2 (x3 + 1) σ
set_option maxRecDepth 100000 in
set_option maxHeartbeats 4000000 in
theorem t_X14_goAlong_232 {G : xG} {n : Nat} {k57 : Nat → Nat → Int32 → xσ → Option (Unit × xσ)} (hk57 : ∀ {a1 : Nat} {a2 : Nat} {x3 : Int32} {σ : xσ} {h : xH} {r : Unit × xσ} {d4 : Option Value}, Rl n σ h → okM a1 → okM a2 → k57 a1 a2 x3 σ = some r → Go G mX14_goAlong 57 [some (.ref 233), some (.ref a1), some (.ref a2), some (.int x3), d4] [] h (fun v h' => xRok (xRt mX14_goAlong) v ∧ v = none ∧ Rl n r.2 h')) {a1 : Nat} {a2 : Nat} {x3 : Int32} {σ : xσ} {h : xH} {r : Unit × xσ} {d4 : Option Value} : Rl n σ h → okM a1 → okM a2 → b_X14_goAlong_232 n k57 a1 a2 x3 σ = some r → Go G mX14_goAlong 232 [some (.ref 233), some (.ref a1), some (.ref a2), some (.int x3), d4] [] h (fun v h' => xRok (xRt mX14_goAlong) v ∧ v = none ∧ Rl n r.2 h') := by
  intro R g1 g2 hf
  rw [b_X14_goAlong_232] at hf
  refine go_iincC (kk := 1) (pc' := 235) dX14_goAlong_232 rfl rfl (by decide) (by decide) rfl ?_
  refine go_goto (pc' := 0) (tgt := 57) dX14_goAlong_235 (by decide) ?_
  exact hk57 R g1 g2 hf
def b_X14_goAlong_169 (n : Nat) (k57 : Nat → Nat → Int32 → xσ → Option (Unit × xσ)) (k96 : Nat → Nat → Int32 → Int32 → xσ → Option (Unit × xσ)) (a1 : Nat) (a2 : Nat) (x3 : Int32) (x4 : Int32) (σ : xσ) : Option (Unit × xσ) := k96 a1 a2 x3 (x4 + 1) σ
set_option maxRecDepth 100000 in
set_option maxHeartbeats 4000000 in
theorem t_X14_goAlong_169 {G : xG} {n : Nat} {k57 : Nat → Nat → Int32 → xσ → Option (Unit × xσ)} {k96 : Nat → Nat → Int32 → Int32 → xσ → Option (Unit × xσ)} (hk57 : ∀ {a1 : Nat} {a2 : Nat} {x3 : Int32} {σ : xσ} {h : xH} {r : Unit × xσ} {d4 : Option Value}, Rl n σ h → okM a1 → okM a2 → k57 a1 a2 x3 σ = some r → Go G mX14_goAlong 57 [some (.ref 233), some (.ref a1), some (.ref a2), some (.int x3), d4] [] h (fun v h' => xRok (xRt mX14_goAlong) v ∧ v = none ∧ Rl n r.2 h')) (hk96 : ∀ {a1 : Nat} {a2 : Nat} {x3 : Int32} {x4 : Int32} {σ : xσ} {h : xH} {r : Unit × xσ}, Rl n σ h → okM a1 → okM a2 → k96 a1 a2 x3 x4 σ = some r → Go G mX14_goAlong 96 [some (.ref 233), some (.ref a1), some (.ref a2), some (.int x3), some (.int x4)] [] h (fun v h' => xRok (xRt mX14_goAlong) v ∧ v = none ∧ Rl n r.2 h')) {a1 : Nat} {a2 : Nat} {x3 : Int32} {x4 : Int32} {σ : xσ} {h : xH} {r : Unit × xσ} : Rl n σ h → okM a1 → okM a2 → b_X14_goAlong_169 n k57 k96 a1 a2 x3 x4 σ = some r → Go G mX14_goAlong 169 [some (.ref 233), some (.ref a1), some (.ref a2), some (.int x3), some (.int x4)] [] h (fun v h' => xRok (xRt mX14_goAlong) v ∧ v = none ∧ Rl n r.2 h') := by
  intro R g1 g2 hf
  rw [b_X14_goAlong_169] at hf
  refine go_iincC (kk := 1) (pc' := 172) dX14_goAlong_169 rfl rfl (by decide) (by decide) rfl ?_
  refine go_goto (pc' := 0) (tgt := 96) dX14_goAlong_172 (by decide) ?_
  exact hk96 R g1 g2 hf
def b_X14_goAlong_226 (n : Nat) (k57 : Nat → Nat → Int32 → xσ → Option (Unit × xσ)) (k178 : Nat → Nat → Int32 → Int32 → xσ → Option (Unit × xσ)) (a1 : Nat) (a2 : Nat) (x3 : Int32) (x4 : Int32) (σ : xσ) : Option (Unit × xσ) := k178 a1 a2 x3 (x4 + 1) σ
set_option maxRecDepth 100000 in
set_option maxHeartbeats 4000000 in
theorem t_X14_goAlong_226 {G : xG} {n : Nat} {k57 : Nat → Nat → Int32 → xσ → Option (Unit × xσ)} {k178 : Nat → Nat → Int32 → Int32 → xσ → Option (Unit × xσ)} (hk57 : ∀ {a1 : Nat} {a2 : Nat} {x3 : Int32} {σ : xσ} {h : xH} {r : Unit × xσ} {d4 : Option Value}, Rl n σ h → okM a1 → okM a2 → k57 a1 a2 x3 σ = some r → Go G mX14_goAlong 57 [some (.ref 233), some (.ref a1), some (.ref a2), some (.int x3), d4] [] h (fun v h' => xRok (xRt mX14_goAlong) v ∧ v = none ∧ Rl n r.2 h')) (hk178 : ∀ {a1 : Nat} {a2 : Nat} {x3 : Int32} {x4 : Int32} {σ : xσ} {h : xH} {r : Unit × xσ}, Rl n σ h → okM a1 → okM a2 → k178 a1 a2 x3 x4 σ = some r → Go G mX14_goAlong 178 [some (.ref 233), some (.ref a1), some (.ref a2), some (.int x3), some (.int x4)] [] h (fun v h' => xRok (xRt mX14_goAlong) v ∧ v = none ∧ Rl n r.2 h')) {a1 : Nat} {a2 : Nat} {x3 : Int32} {x4 : Int32} {σ : xσ} {h : xH} {r : Unit × xσ} : Rl n σ h → okM a1 → okM a2 → b_X14_goAlong_226 n k57 k178 a1 a2 x3 x4 σ = some r → Go G mX14_goAlong 226 [some (.ref 233), some (.ref a1), some (.ref a2), some (.int x3), some (.int x4)] [] h (fun v h' => xRok (xRt mX14_goAlong) v ∧ v = none ∧ Rl n r.2 h') := by
  intro R g1 g2 hf
  rw [b_X14_goAlong_226] at hf
  refine go_iincC (kk := 1) (pc' := 229) dX14_goAlong_226 rfl rfl (by decide) (by decide) rfl ?_
  refine go_goto (pc' := 0) (tgt := 178) dX14_goAlong_229 (by decide) ?_
  exact hk178 R g1 g2 hf
def l_X14_goAlong_178 (n : Nat) (k57 : Nat → Nat → Int32 → xσ → Option (Unit × xσ)) : Nat → Nat → Nat → Int32 → Int32 → xσ → Option (Unit × xσ)
  | 0, _, _, _, _, _ => none
  | f + 1, a1, a2, x3, x4, σ => if (sI σ 233 13) ≤ x4 then k57 a1 a2 (x3 + 1) σ else gd (inb x4 82) (gd (inb x4 82) (if 0 ≤ (lg_cmp (sJ σ 238 x4.toNatClampNeg) (sJ σ 239 x4.toNatClampNeg)) then (l_X14_goAlong_178 n k57 f) a1 a2 x3 (x4 + 1) σ else gd (inb x4 82) (gd (inb x4 82) (bd (f_X14_goPiece n a1 x3 a2 (sJ σ 238 x4.toNatClampNeg) (sJ σ 239 x4.toNatClampNeg) σ) (fun v107 σ108 => b_X14_goAlong_226 n k57 (l_X14_goAlong_178 n k57 f) a1 a2 x3 x4 σ108)))))
set_option maxRecDepth 100000 in
set_option maxHeartbeats 4000000 in
theorem t_X14_goAlong_178 {G : xG} {n : Nat} {k57 : Nat → Nat → Int32 → xσ → Option (Unit × xσ)} (hk57 : ∀ {a1 : Nat} {a2 : Nat} {x3 : Int32} {σ : xσ} {h : xH} {r : Unit × xσ} {d4 : Option Value}, Rl n σ h → okM a1 → okM a2 → k57 a1 a2 x3 σ = some r → Go G mX14_goAlong 57 [some (.ref 233), some (.ref a1), some (.ref a2), some (.int x3), d4] [] h (fun v h' => xRok (xRt mX14_goAlong) v ∧ v = none ∧ Rl n r.2 h')) : ∀ (f : Nat) {a1 : Nat} {a2 : Nat} {x3 : Int32} {x4 : Int32} {σ : xσ} {h : xH} {r : Unit × xσ}, Rl n σ h → okM a1 → okM a2 → l_X14_goAlong_178 n k57 f a1 a2 x3 x4 σ = some r → Go G mX14_goAlong 178 [some (.ref 233), some (.ref a1), some (.ref a2), some (.int x3), some (.int x4)] [] h (fun v h' => xRok (xRt mX14_goAlong) v ∧ v = none ∧ Rl n r.2 h') := by
  intro f
  induction f with
  | zero =>
    intros
    rename _ = some _ => hf
    rw [l_X14_goAlong_178] at hf
    cases hf
  | succ f ih =>
    intro a1 a2 x3 x4 σ h r  R g1 g2 hf
    rw [l_X14_goAlong_178] at hf
    refine go_iload (pc' := 180) dX14_goAlong_178 rfl rfl ?_
    refine go_aload_n (i := 0) (pc' := 181) dX14_goAlong_180 rfl rfl rfl ?_
    refine go_getS (pc' := 184) dX14_goAlong_181 rfl gf_LandBaseModel_114 R (R.at rfl (by decide)) (by decide) rfl ?_
    refine go_icmp_ge (pc' := 187) (tgt := 232) dX14_goAlong_184 (by decide) rfl (fun c101 => ?_) (fun c101 => ?_)
    · have hf := it c101 hf
      refine go_iincC (kk := 1) (pc' := 235) dX14_goAlong_232 rfl rfl (by decide) (by decide) rfl ?_
      refine go_goto (pc' := 0) (tgt := 57) dX14_goAlong_235 (by decide) ?_
      exact hk57 R g1 g2 hf
    · have hf := ie c101 hf
      refine go_aload_n (i := 0) (pc' := 188) dX14_goAlong_187 rfl rfl rfl ?_
      refine go_getS (pc' := 191) dX14_goAlong_188 rfl gf_LandBaseModel_111 R (R.at rfl (by decide)) (by decide) rfl ?_
      refine go_iload (pc' := 193) dX14_goAlong_191 rfl rfl ?_
      obtain ⟨g102, hf⟩ := gd_some hf
      refine go_laloadS (pc' := 194) dX14_goAlong_193 rfl R (R.aa rfl (by decide)) g102 ?_
      refine go_aload_n (i := 0) (pc' := 195) dX14_goAlong_194 rfl rfl rfl ?_
      refine go_getS (pc' := 198) dX14_goAlong_195 rfl gf_LandBaseModel_117 R (R.at rfl (by decide)) (by decide) rfl ?_
      refine go_iload (pc' := 200) dX14_goAlong_198 rfl rfl ?_
      obtain ⟨g103, hf⟩ := gd_some hf
      refine go_laloadS (pc' := 201) dX14_goAlong_200 rfl R (R.aa rfl (by decide)) g103 ?_
      refine go_lcmp (pc' := 202) dX14_goAlong_201 rfl ?_
      refine go_if_ge (pc' := 205) (tgt := 226) dX14_goAlong_202 (by decide) rfl (fun c104 => ?_) (fun c104 => ?_)
      · have hf := it c104 hf
        refine go_iincC (kk := 1) (pc' := 229) dX14_goAlong_226 rfl rfl (by decide) (by decide) rfl ?_
        refine go_goto (pc' := 0) (tgt := 178) dX14_goAlong_229 (by decide) ?_
        exact ih R g1 g2 hf
      · have hf := ie c104 hf
        refine go_aload_n (i := 0) (pc' := 206) dX14_goAlong_205 rfl rfl rfl ?_
        refine go_aload_n (i := 1) (pc' := 207) dX14_goAlong_206 rfl rfl rfl ?_
        refine go_iload_n (i := 3) (pc' := 208) dX14_goAlong_207 rfl rfl rfl ?_
        refine go_aload_n (i := 2) (pc' := 209) dX14_goAlong_208 rfl rfl rfl ?_
        refine go_aload_n (i := 0) (pc' := 210) dX14_goAlong_209 rfl rfl rfl ?_
        refine go_getS (pc' := 213) dX14_goAlong_210 rfl gf_LandBaseModel_111 R (R.at rfl (by decide)) (by decide) rfl ?_
        refine go_iload (pc' := 215) dX14_goAlong_213 rfl rfl ?_
        obtain ⟨g105, hf⟩ := gd_some hf
        refine go_laloadS (pc' := 216) dX14_goAlong_215 rfl R (R.aa rfl (by decide)) g105 ?_
        refine go_aload_n (i := 0) (pc' := 217) dX14_goAlong_216 rfl rfl rfl ?_
        refine go_getS (pc' := 220) dX14_goAlong_217 rfl gf_LandBaseModel_117 R (R.at rfl (by decide)) (by decide) rfl ?_
        refine go_iload (pc' := 222) dX14_goAlong_220 rfl rfl ?_
        obtain ⟨g106, hf⟩ := gd_some hf
        refine go_laloadS (pc' := 223) dX14_goAlong_222 rfl R (R.aa rfl (by decide)) g106 ?_
        obtain ⟨v107, σ108, e109, hf⟩ := bd_some hf
        refine go_invV (As := [_, _, _, _, _]) (pc' := 226) dX14_goAlong_223 rfl cf_X14_goAlong_190 rfl (R.ob (R.at rfl (by decide))) rfl rfl (Nat.le_of_ble_eq_true rfl) (c_X14_goPiece R e109) (fun q110v h111 q110 => ?_)
        obtain ⟨rfl, R⟩ := q110
        exact t_X14_goAlong_226 @hk57 @ih R g1 g2 hf
def l_X14_goAlong_96 (n : Nat) (k57 : Nat → Nat → Int32 → xσ → Option (Unit × xσ)) : Nat → Nat → Nat → Int32 → Int32 → xσ → Option (Unit × xσ)
  | 0, _, _, _, _, _ => none
  | f + 1, a1, a2, x3, x4, σ => if (sI σ a2 2) ≤ (x4 + 1) then l_X14_goAlong_178 n k57 xFU a1 a2 x3 0 σ else bd (f_X12_isWay n a2 x4 σ) (fun v102 σ103 => if v102 = 0 then b_X14_goAlong_169 n k57 (l_X14_goAlong_96 n k57 f) a1 a2 x3 x4 σ103 else bd (f_X14_meetWays n a1 x3 a2 x4 σ103) (fun v108 σ109 => if (sI σ109 233 9) = 0 then if (sI σ109 233 8) = 0 then (l_X14_goAlong_96 n k57 f) a1 a2 x3 (x4 + 1) σ109 else bd (f_X14_cut n (sJ σ109 233 11) σ109) (fun v115 σ116 => b_X14_goAlong_169 n k57 (l_X14_goAlong_96 n k57 f) a1 a2 x3 x4 σ116) else bd (f_X14_cut n (sJ σ109 233 11) σ109) (fun v120 σ121 => bd (f_X14_cut n (sJ σ121 233 12) σ121) (fun v125 σ126 => b_X14_goAlong_169 n k57 (l_X14_goAlong_96 n k57 f) a1 a2 x3 x4 σ126))))
set_option maxRecDepth 100000 in
set_option maxHeartbeats 4000000 in
theorem t_X14_goAlong_96 {G : xG} {n : Nat} {k57 : Nat → Nat → Int32 → xσ → Option (Unit × xσ)} (hk57 : ∀ {a1 : Nat} {a2 : Nat} {x3 : Int32} {σ : xσ} {h : xH} {r : Unit × xσ} {d4 : Option Value}, Rl n σ h → okM a1 → okM a2 → k57 a1 a2 x3 σ = some r → Go G mX14_goAlong 57 [some (.ref 233), some (.ref a1), some (.ref a2), some (.int x3), d4] [] h (fun v h' => xRok (xRt mX14_goAlong) v ∧ v = none ∧ Rl n r.2 h')) : ∀ (f : Nat) {a1 : Nat} {a2 : Nat} {x3 : Int32} {x4 : Int32} {σ : xσ} {h : xH} {r : Unit × xσ}, Rl n σ h → okM a1 → okM a2 → l_X14_goAlong_96 n k57 f a1 a2 x3 x4 σ = some r → Go G mX14_goAlong 96 [some (.ref 233), some (.ref a1), some (.ref a2), some (.int x3), some (.int x4)] [] h (fun v h' => xRok (xRt mX14_goAlong) v ∧ v = none ∧ Rl n r.2 h') := by
  intro f
  induction f with
  | zero =>
    intros
    rename _ = some _ => hf
    rw [l_X14_goAlong_96] at hf
    cases hf
  | succ f ih =>
    intro a1 a2 x3 x4 σ h r  R g1 g2 hf
    rw [l_X14_goAlong_96] at hf
    refine go_iload (pc' := 98) dX14_goAlong_96 rfl rfl ?_
    refine go_iconst (v := 1) (pc' := 99) dX14_goAlong_98 rfl (by decide) ?_
    refine go_iadd (pc' := 100) dX14_goAlong_99 rfl ?_
    refine go_aload_n (i := 2) (pc' := 101) dX14_goAlong_100 rfl rfl rfl ?_
    refine go_getS (pc' := 104) dX14_goAlong_101 rfl gf_LandBaseModel_79 R (g2.at R) (by decide) rfl ?_
    refine go_icmp_ge (pc' := 107) (tgt := 175) dX14_goAlong_104 (by decide) rfl (fun c101 => ?_) (fun c101 => ?_)
    · have hf := it c101 hf
      refine go_iconst (v := 0) (pc' := 176) dX14_goAlong_175 rfl (by decide) ?_
      refine go_istoreE rfl (pc' := 178) dX14_goAlong_176 rfl (by decide) rfl ?_
      exact t_X14_goAlong_178 @hk57 xFU R g1 g2 hf
    · have hf := ie c101 hf
      refine go_aload_n (i := 2) (pc' := 108) dX14_goAlong_107 rfl rfl rfl ?_
      refine go_iload (pc' := 110) dX14_goAlong_108 rfl rfl ?_
      obtain ⟨v102, σ103, e104, hf⟩ := bd_some hf
      refine go_invV (As := [_]) (pc' := 113) dX14_goAlong_110 rfl cf_X14_goAlong_82 rfl (R.ob (g2.at R)) rfl rfl (Nat.le_of_ble_eq_true rfl) (c_X12_isWay R e104) (fun q105v h106 q105 => ?_)
      obtain ⟨rfl, R⟩ := q105
      refine go_if_ne (pc' := 116) (tgt := 119) dX14_goAlong_113 (by decide) rfl (fun c107 => ?_) (fun c107 => ?_)
      · have hf := ie c107 hf
        refine go_aload_n (i := 0) (pc' := 120) dX14_goAlong_119 rfl rfl rfl ?_
        refine go_aload_n (i := 1) (pc' := 121) dX14_goAlong_120 rfl rfl rfl ?_
        refine go_iload_n (i := 3) (pc' := 122) dX14_goAlong_121 rfl rfl rfl ?_
        refine go_aload_n (i := 2) (pc' := 123) dX14_goAlong_122 rfl rfl rfl ?_
        refine go_iload (pc' := 125) dX14_goAlong_123 rfl rfl ?_
        obtain ⟨v108, σ109, e110, hf⟩ := bd_some hf
        refine go_invV (As := [_, _, _, _]) (pc' := 128) dX14_goAlong_125 rfl cf_X14_goAlong_144 rfl (R.ob (R.at rfl (by decide))) rfl rfl (Nat.le_of_ble_eq_true rfl) (c_X14_meetWays R e110) (fun q111v h112 q111 => ?_)
        obtain ⟨rfl, R⟩ := q111
        refine go_aload_n (i := 0) (pc' := 129) dX14_goAlong_128 rfl rfl rfl ?_
        refine go_getS (pc' := 132) dX14_goAlong_129 rfl gf_LandBaseModel_98 R (R.at rfl (by decide)) (by decide) rfl ?_
        refine go_if_eq (pc' := 135) (tgt := 154) dX14_goAlong_132 (by decide) rfl (fun c113 => ?_) (fun c113 => ?_)
        · have hf := it c113 hf
          refine go_aload_n (i := 0) (pc' := 155) dX14_goAlong_154 rfl rfl rfl ?_
          refine go_getS (pc' := 158) dX14_goAlong_155 rfl gf_LandBaseModel_102 R (R.at rfl (by decide)) (by decide) rfl ?_
          refine go_if_eq (pc' := 161) (tgt := 169) dX14_goAlong_158 (by decide) rfl (fun c114 => ?_) (fun c114 => ?_)
          · have hf := it c114 hf
            refine go_iincC (kk := 1) (pc' := 172) dX14_goAlong_169 rfl rfl (by decide) (by decide) rfl ?_
            refine go_goto (pc' := 0) (tgt := 96) dX14_goAlong_172 (by decide) ?_
            exact ih R g1 g2 hf
          · have hf := ie c114 hf
            refine go_aload_n (i := 0) (pc' := 162) dX14_goAlong_161 rfl rfl rfl ?_
            refine go_aload_n (i := 0) (pc' := 163) dX14_goAlong_162 rfl rfl rfl ?_
            refine go_getS (pc' := 166) dX14_goAlong_163 rfl gf_LandBaseModel_105 R (R.at rfl (by decide)) (by decide) rfl ?_
            obtain ⟨v115, σ116, e117, hf⟩ := bd_some hf
            refine go_invV (As := [_]) (pc' := 169) dX14_goAlong_166 rfl cf_X14_goAlong_186 rfl (R.ob (R.at rfl (by decide))) rfl rfl (Nat.le_of_ble_eq_true rfl) (c_X14_cut R e117) (fun q118v h119 q118 => ?_)
            obtain ⟨rfl, R⟩ := q118
            exact t_X14_goAlong_169 @hk57 @ih R g1 g2 hf
        · have hf := ie c113 hf
          refine go_aload_n (i := 0) (pc' := 136) dX14_goAlong_135 rfl rfl rfl ?_
          refine go_aload_n (i := 0) (pc' := 137) dX14_goAlong_136 rfl rfl rfl ?_
          refine go_getS (pc' := 140) dX14_goAlong_137 rfl gf_LandBaseModel_105 R (R.at rfl (by decide)) (by decide) rfl ?_
          obtain ⟨v120, σ121, e122, hf⟩ := bd_some hf
          refine go_invV (As := [_]) (pc' := 143) dX14_goAlong_140 rfl cf_X14_goAlong_186 rfl (R.ob (R.at rfl (by decide))) rfl rfl (Nat.le_of_ble_eq_true rfl) (c_X14_cut R e122) (fun q123v h124 q123 => ?_)
          obtain ⟨rfl, R⟩ := q123
          refine go_aload_n (i := 0) (pc' := 144) dX14_goAlong_143 rfl rfl rfl ?_
          refine go_aload_n (i := 0) (pc' := 145) dX14_goAlong_144 rfl rfl rfl ?_
          refine go_getS (pc' := 148) dX14_goAlong_145 rfl gf_LandBaseModel_108 R (R.at rfl (by decide)) (by decide) rfl ?_
          obtain ⟨v125, σ126, e127, hf⟩ := bd_some hf
          refine go_invV (As := [_]) (pc' := 151) dX14_goAlong_148 rfl cf_X14_goAlong_186 rfl (R.ob (R.at rfl (by decide))) rfl rfl (Nat.le_of_ble_eq_true rfl) (c_X14_cut R e127) (fun q128v h129 q128 => ?_)
          obtain ⟨rfl, R⟩ := q128
          refine go_goto (pc' := 0) (tgt := 169) dX14_goAlong_151 (by decide) ?_
          exact t_X14_goAlong_169 @hk57 @ih R g1 g2 hf
      · have hf := it c107 hf
        refine go_goto (pc' := 0) (tgt := 169) dX14_goAlong_116 (by decide) ?_
        exact t_X14_goAlong_169 @hk57 @ih R g1 g2 hf
def l_X14_goAlong_57 (n : Nat) : Nat → Nat → Nat → Int32 → xσ → Option (Unit × xσ)
  | 0, _, _, _, _ => none
  | f + 1, a1, a2, x3, σ => if (sI σ a1 2) ≤ (x3 + 1) then some ((), σ) else bd (f_X12_isWay n a1 x3 σ) (fun v102 σ103 => if v102 = 0 then b_X14_goAlong_232 n (l_X14_goAlong_57 n f) a1 a2 x3 σ103 else st (wI σ103 233 13 0) (fun σ108 => st (wJ σ108 233 10 ((1 : Int64))) (fun σ111 => bd (f_X14_cut n ((0 : Int64)) σ111) (fun v114 σ115 => l_X14_goAlong_96 n (l_X14_goAlong_57 n f) xFU a1 a2 x3 0 σ115))))
set_option maxRecDepth 100000 in
set_option maxHeartbeats 4000000 in
theorem t_X14_goAlong_57 {G : xG} {n : Nat} : ∀ (f : Nat) {a1 : Nat} {a2 : Nat} {x3 : Int32} {σ : xσ} {h : xH} {r : Unit × xσ} {d4 : Option Value}, Rl n σ h → okM a1 → okM a2 → l_X14_goAlong_57 n f a1 a2 x3 σ = some r → Go G mX14_goAlong 57 [some (.ref 233), some (.ref a1), some (.ref a2), some (.int x3), d4] [] h (fun v h' => xRok (xRt mX14_goAlong) v ∧ v = none ∧ Rl n r.2 h') := by
  intro f
  induction f with
  | zero =>
    intros
    rename _ = some _ => hf
    rw [l_X14_goAlong_57] at hf
    cases hf
  | succ f ih =>
    intro a1 a2 x3 σ h r d4 R g1 g2 hf
    rw [l_X14_goAlong_57] at hf
    refine go_iload_n (i := 3) (pc' := 58) dX14_goAlong_57 rfl rfl rfl ?_
    refine go_iconst (v := 1) (pc' := 59) dX14_goAlong_58 rfl (by decide) ?_
    refine go_iadd (pc' := 60) dX14_goAlong_59 rfl ?_
    refine go_aload_n (i := 1) (pc' := 61) dX14_goAlong_60 rfl rfl rfl ?_
    refine go_getS (pc' := 64) dX14_goAlong_61 rfl gf_LandBaseModel_79 R (g1.at R) (by decide) rfl ?_
    refine go_icmp_ge (pc' := 67) (tgt := 238) dX14_goAlong_64 (by decide) rfl (fun c101 => ?_) (fun c101 => ?_)
    · have hf := it c101 hf
      obtain rfl := Option.some.inj hf
      exact Go.ret (v := none) dX14_goAlong_238 rfl ⟨trivial, rfl, R⟩
    · have hf := ie c101 hf
      refine go_aload_n (i := 1) (pc' := 68) dX14_goAlong_67 rfl rfl rfl ?_
      refine go_iload_n (i := 3) (pc' := 69) dX14_goAlong_68 rfl rfl rfl ?_
      obtain ⟨v102, σ103, e104, hf⟩ := bd_some hf
      refine go_invV (As := [_]) (pc' := 72) dX14_goAlong_69 rfl cf_X14_goAlong_82 rfl (R.ob (g1.at R)) rfl rfl (Nat.le_of_ble_eq_true rfl) (c_X12_isWay R e104) (fun q105v h106 q105 => ?_)
      obtain ⟨rfl, R⟩ := q105
      refine go_if_ne (pc' := 75) (tgt := 78) dX14_goAlong_72 (by decide) rfl (fun c107 => ?_) (fun c107 => ?_)
      · have hf := ie c107 hf
        refine go_aload_n (i := 0) (pc' := 79) dX14_goAlong_78 rfl rfl rfl ?_
        refine go_iconst (v := 0) (pc' := 80) dX14_goAlong_79 rfl (by decide) ?_
        obtain ⟨σ108, e109, hf⟩ := st_some hf
        refine go_putI (pc' := 83) dX14_goAlong_80 rfl pf_LandBaseModel_114 R (R.at rfl (by decide)) (by decide) rfl rfl rfl (fun h110 R => ?_)
        have R := Rl.cast e109 R
        refine go_aload_n (i := 0) (pc' := 84) dX14_goAlong_83 rfl rfl rfl ?_
        refine go_lconst (v := 1) (pc' := 85) dX14_goAlong_84 rfl (by decide) ?_
        obtain ⟨σ111, e112, hf⟩ := st_some hf
        refine go_putJ (pc' := 88) dX14_goAlong_85 rfl pf_LandBaseModel_94 R (R.at rfl (by decide)) (by decide) rfl rfl rfl (fun h113 R => ?_)
        have R := Rl.cast e112 R
        refine go_aload_n (i := 0) (pc' := 89) dX14_goAlong_88 rfl rfl rfl ?_
        refine go_lconst (v := 0) (pc' := 90) dX14_goAlong_89 rfl (by decide) ?_
        obtain ⟨v114, σ115, e116, hf⟩ := bd_some hf
        refine go_invV (As := [_]) (pc' := 93) dX14_goAlong_90 rfl cf_X14_goAlong_186 rfl (R.ob (R.at rfl (by decide))) rfl rfl (Nat.le_of_ble_eq_true rfl) (c_X14_cut R e116) (fun q117v h118 q117 => ?_)
        obtain ⟨rfl, R⟩ := q117
        refine go_iconst (v := 0) (pc' := 94) dX14_goAlong_93 rfl (by decide) ?_
        refine go_istoreE rfl (pc' := 96) dX14_goAlong_94 rfl (by decide) rfl ?_
        exact t_X14_goAlong_96 @ih xFU R g1 g2 hf
      · have hf := it c107 hf
        refine go_goto (pc' := 0) (tgt := 232) dX14_goAlong_75 (by decide) ?_
        exact t_X14_goAlong_232 @ih R g1 g2 hf
def l_X14_goAlong_22 (n : Nat) : Nat → Nat → Nat → Int32 → xσ → Option (Unit × xσ)
  | 0, _, _, _, _ => none
  | f + 1, a1, a2, x3, σ => if (sI σ a2 3) ≤ x3 then l_X14_goAlong_57 n xFU a1 a2 0 σ else if (sI σ a2 1) = 2 then bd (f_X14_isInteriorLeft n a2 x3 σ) (fun v103 σ104 => gd (inb x3 8) (st (wI σ104 240 x3.toNatClampNeg (vp_nar .boolean v103)) (fun σ109 => (l_X14_goAlong_22 n f) a1 a2 (x3 + 1) σ109))) else l_X14_goAlong_57 n xFU a1 a2 0 σ
set_option maxRecDepth 100000 in
set_option maxHeartbeats 4000000 in
theorem t_X14_goAlong_22 {G : xG} {n : Nat} : ∀ (f : Nat) {a1 : Nat} {a2 : Nat} {x3 : Int32} {σ : xσ} {h : xH} {r : Unit × xσ} {d4 : Option Value}, Rl n σ h → okM a1 → okM a2 → l_X14_goAlong_22 n f a1 a2 x3 σ = some r → Go G mX14_goAlong 22 [some (.ref 233), some (.ref a1), some (.ref a2), some (.int x3), d4] [] h (fun v h' => xRok (xRt mX14_goAlong) v ∧ v = none ∧ Rl n r.2 h') := by
  intro f
  induction f with
  | zero =>
    intros
    rename _ = some _ => hf
    rw [l_X14_goAlong_22] at hf
    cases hf
  | succ f ih =>
    intro a1 a2 x3 σ h r d4 R g1 g2 hf
    rw [l_X14_goAlong_22] at hf
    refine go_iload_n (i := 3) (pc' := 23) dX14_goAlong_22 rfl rfl rfl ?_
    refine go_aload_n (i := 2) (pc' := 24) dX14_goAlong_23 rfl rfl rfl ?_
    refine go_getS (pc' := 27) dX14_goAlong_24 rfl gf_LandBaseModel_180 R (g2.at R) (by decide) rfl ?_
    refine go_icmp_ge (pc' := 30) (tgt := 55) dX14_goAlong_27 (by decide) rfl (fun c101 => ?_) (fun c101 => ?_)
    · have hf := it c101 hf
      refine go_iconst (v := 0) (pc' := 56) dX14_goAlong_55 rfl (by decide) ?_
      refine go_istore_nE rfl (i := 3) (pc' := 57) dX14_goAlong_56 rfl rfl (by decide) rfl ?_
      exact t_X14_goAlong_57 xFU R g1 g2 hf
    · have hf := ie c101 hf
      refine go_aload_n (i := 2) (pc' := 31) dX14_goAlong_30 rfl rfl rfl ?_
      refine go_getS (pc' := 34) dX14_goAlong_31 rfl gf_LandBaseModel_75 R (g2.at R) (by decide) rfl ?_
      refine go_iconst (v := 2) (pc' := 35) dX14_goAlong_34 rfl (by decide) ?_
      refine go_icmp_ne (pc' := 38) (tgt := 55) dX14_goAlong_35 (by decide) rfl (fun c102 => ?_) (fun c102 => ?_)
      · have hf := ie c102 hf
        refine go_iconst (v := 0) (pc' := 56) dX14_goAlong_55 rfl (by decide) ?_
        refine go_istore_nE rfl (i := 3) (pc' := 57) dX14_goAlong_56 rfl rfl (by decide) rfl ?_
        exact t_X14_goAlong_57 xFU R g1 g2 hf
      · have hf := it c102 hf
        refine go_aload_n (i := 0) (pc' := 39) dX14_goAlong_38 rfl rfl rfl ?_
        refine go_getS (pc' := 42) dX14_goAlong_39 rfl gf_LandBaseModel_156 R (R.at rfl (by decide)) (by decide) rfl ?_
        refine go_iload_n (i := 3) (pc' := 43) dX14_goAlong_42 rfl rfl rfl ?_
        refine go_aload_n (i := 2) (pc' := 44) dX14_goAlong_43 rfl rfl rfl ?_
        refine go_iload_n (i := 3) (pc' := 45) dX14_goAlong_44 rfl rfl rfl ?_
        obtain ⟨v103, σ104, e105, hf⟩ := bd_some hf
        refine go_invS (As := [_, _]) (pc' := 48) dX14_goAlong_45 rfl cf_X14_goAlong_183 rfl rfl (Nat.le_of_ble_eq_true rfl) (c_X14_isInteriorLeft R e105) (fun q106v h107 q106 => ?_)
        obtain ⟨rfl, R⟩ := q106
        obtain ⟨g108, hf⟩ := gd_some hf
        obtain ⟨σ109, e110, hf⟩ := st_some hf
        refine go_zastoreS (pc' := 49) dX14_goAlong_48 rfl R (R.aa rfl (by decide)) g108 (fun h111 R => ?_)
        have R := Rl.cast e110 R
        refine go_iincC (kk := 1) (pc' := 52) dX14_goAlong_49 rfl rfl (by decide) (by decide) rfl ?_
        refine go_goto (pc' := 0) (tgt := 22) dX14_goAlong_52 (by decide) ?_
        exact ih R g1 g2 hf
def f_X14_goAlong (n : Nat) (a1 : Nat) (a2 : Nat) (σ : xσ) : Option (Unit × xσ) := gd (okM a1) (gd (okM a2) (st (wI σ 233 4 0) (fun σ101 => st (wI σ101 233 5 0) (fun σ104 => st (wI σ104 233 6 0) (fun σ107 => st (wI σ107 233 7 0) (fun σ110 => l_X14_goAlong_22 n xFU a1 a2 0 σ110))))))
set_option maxRecDepth 100000 in
set_option maxHeartbeats 4000000 in
theorem c_X14_goAlong {G : xG} {n : Nat} {σ : xσ} {h : xH} {a1 : Nat} {a2 : Nat} {v1 : Unit} {σ1 : xσ} (R : Rl n σ h) (hf : f_X14_goAlong n a1 a2 σ = some (v1, σ1)) : Ca G mX14_goAlong [.ref 233, .ref a1, .ref a2] h (fun v h' => v = none ∧ Rl n σ1 h') := by
  refine Ca.of rfl (Nat.le_of_ble_eq_true rfl) ?_
  generalize hr : (v1, σ1) = r at hf
  suffices q : Go G mX14_goAlong 0 (xent (xMl mX14_goAlong) [.ref 233, .ref a1, .ref a2]) [] h (fun v h' => xRok (xRt mX14_goAlong) v ∧ v = none ∧ Rl n r.2 h') by
    subst hr
    exact q
  clear hr
  rw [f_X14_goAlong] at hf
  obtain ⟨g1, hf⟩ := gd_some hf
  obtain ⟨g2, hf⟩ := gd_some hf
  refine go_aload_n (i := 0) (pc' := 1) dX14_goAlong_0 rfl rfl rfl ?_
  refine go_iconst (v := 0) (pc' := 2) dX14_goAlong_1 rfl (by decide) ?_
  obtain ⟨σ101, e102, hf⟩ := st_some hf
  refine go_putI (pc' := 5) dX14_goAlong_2 rfl pf_LandBaseModel_168 R (R.at rfl (by decide)) (by decide) rfl rfl rfl (fun h103 R => ?_)
  have R := Rl.cast e102 R
  refine go_aload_n (i := 0) (pc' := 6) dX14_goAlong_5 rfl rfl rfl ?_
  refine go_iconst (v := 0) (pc' := 7) dX14_goAlong_6 rfl (by decide) ?_
  obtain ⟨σ104, e105, hf⟩ := st_some hf
  refine go_putI (pc' := 10) dX14_goAlong_7 rfl pf_LandBaseModel_171 R (R.at rfl (by decide)) (by decide) rfl rfl rfl (fun h106 R => ?_)
  have R := Rl.cast e105 R
  refine go_aload_n (i := 0) (pc' := 11) dX14_goAlong_10 rfl rfl rfl ?_
  refine go_iconst (v := 0) (pc' := 12) dX14_goAlong_11 rfl (by decide) ?_
  obtain ⟨σ107, e108, hf⟩ := st_some hf
  refine go_putI (pc' := 15) dX14_goAlong_12 rfl pf_LandBaseModel_174 R (R.at rfl (by decide)) (by decide) rfl rfl rfl (fun h109 R => ?_)
  have R := Rl.cast e108 R
  refine go_aload_n (i := 0) (pc' := 16) dX14_goAlong_15 rfl rfl rfl ?_
  refine go_iconst (v := 0) (pc' := 17) dX14_goAlong_16 rfl (by decide) ?_
  obtain ⟨σ110, e111, hf⟩ := st_some hf
  refine go_putI (pc' := 20) dX14_goAlong_17 rfl pf_LandBaseModel_177 R (R.at rfl (by decide)) (by decide) rfl rfl rfl (fun h112 R => ?_)
  have R := Rl.cast e111 R
  refine go_iconst (v := 0) (pc' := 21) dX14_goAlong_20 rfl (by decide) ?_
  refine go_istore_nE rfl (i := 3) (pc' := 22) dX14_goAlong_21 rfl rfl (by decide) rfl ?_
  exact t_X14_goAlong_22 xFU R g1 g2 hf
def b_X14_extreme_74 (n : Nat) (k23 : Nat → Int32 → Int32 → Int32 → Int32 → xσ → Option (Int32 × xσ)) (a0 : Nat) (x1 : Int32) (x2 : Int32) (x4 : Int32) (xs0 : Int32) (σ : xσ) : Option (Int32 × xσ) := k23 a0 x1 x2 xs0 (x4 + 1) σ
set_option maxRecDepth 100000 in
set_option maxHeartbeats 4000000 in
theorem t_X14_extreme_74 {G : xG} {n : Nat} {k23 : Nat → Int32 → Int32 → Int32 → Int32 → xσ → Option (Int32 × xσ)} (hk23 : ∀ {a0 : Nat} {x1 : Int32} {x2 : Int32} {x3 : Int32} {x4 : Int32} {σ : xσ} {h : xH} {r : Int32 × xσ} {d5 : Option Value}, Rl n σ h → okM a0 → k23 a0 x1 x2 x3 x4 σ = some r → Go G mX14_extreme 23 [some (.ref a0), some (.int x1), some (.int x2), some (.int x3), some (.int x4), d5] [] h (fun v h' => xRok (xRt mX14_extreme) v ∧ v = some (.int r.1) ∧ Rl n r.2 h')) {a0 : Nat} {x1 : Int32} {x2 : Int32} {x4 : Int32} {xs0 : Int32} {σ : xσ} {h : xH} {r : Int32 × xσ} {d3 : Option Value} {d5 : Option Value} : Rl n σ h → okM a0 → b_X14_extreme_74 n k23 a0 x1 x2 x4 xs0 σ = some r → Go G mX14_extreme 74 [some (.ref a0), some (.int x1), some (.int x2), d3, some (.int x4), d5] [.int xs0] h (fun v h' => xRok (xRt mX14_extreme) v ∧ v = some (.int r.1) ∧ Rl n r.2 h') := by
  intro R g0 hf
  rw [b_X14_extreme_74] at hf
  refine go_istore_nE rfl (i := 3) (pc' := 75) dX14_extreme_74 rfl rfl (by decide) rfl ?_
  refine go_iincC (kk := 1) (pc' := 78) dX14_extreme_75 rfl rfl (by decide) (by decide) rfl ?_
  refine go_goto (pc' := 0) (tgt := 23) dX14_extreme_78 (by decide) ?_
  exact hk23 R g0 hf
def b_X14_extreme_53 (n : Nat) (k23 : Nat → Int32 → Int32 → Int32 → Int32 → xσ → Option (Int32 × xσ)) (a0 : Nat) (x1 : Int32) (x2 : Int32) (x3 : Int32) (x4 : Int32) (xs0 : Int32) (σ : xσ) : Option (Int32 × xσ) := if x2 = 0 then b_X14_extreme_74 n k23 a0 x1 x2 x4 (imax x3 xs0) σ else b_X14_extreme_74 n k23 a0 x1 x2 x4 (imin x3 xs0) σ
set_option maxRecDepth 100000 in
set_option maxHeartbeats 4000000 in
theorem t_X14_extreme_53 {G : xG} {n : Nat} {k23 : Nat → Int32 → Int32 → Int32 → Int32 → xσ → Option (Int32 × xσ)} (hk23 : ∀ {a0 : Nat} {x1 : Int32} {x2 : Int32} {x3 : Int32} {x4 : Int32} {σ : xσ} {h : xH} {r : Int32 × xσ} {d5 : Option Value}, Rl n σ h → okM a0 → k23 a0 x1 x2 x3 x4 σ = some r → Go G mX14_extreme 23 [some (.ref a0), some (.int x1), some (.int x2), some (.int x3), some (.int x4), d5] [] h (fun v h' => xRok (xRt mX14_extreme) v ∧ v = some (.int r.1) ∧ Rl n r.2 h')) {a0 : Nat} {x1 : Int32} {x2 : Int32} {x3 : Int32} {x4 : Int32} {xs0 : Int32} {σ : xσ} {h : xH} {r : Int32 × xσ} {d5 : Option Value} : Rl n σ h → okM a0 → b_X14_extreme_53 n k23 a0 x1 x2 x3 x4 xs0 σ = some r → Go G mX14_extreme 53 [some (.ref a0), some (.int x1), some (.int x2), some (.int x3), some (.int x4), d5] [.int xs0] h (fun v h' => xRok (xRt mX14_extreme) v ∧ v = some (.int r.1) ∧ Rl n r.2 h') := by
  intro R g0 hf
  rw [b_X14_extreme_53] at hf
  refine go_istoreE rfl (pc' := 55) dX14_extreme_53 rfl (by decide) rfl ?_
  refine go_iload_n (i := 2) (pc' := 56) dX14_extreme_55 rfl rfl rfl ?_
  refine go_if_eq (pc' := 59) (tgt := 68) dX14_extreme_56 (by decide) rfl (fun c101 => ?_) (fun c101 => ?_)
  · have hf := it c101 hf
    refine go_iload_n (i := 3) (pc' := 69) dX14_extreme_68 rfl rfl rfl ?_
    refine go_iload (pc' := 71) dX14_extreme_69 rfl rfl ?_
    refine go_mmax (pc' := 74) dX14_extreme_71 rfl cf_X14_extreme_53 (Nat.le_of_ble_eq_true rfl) ?_
    exact t_X14_extreme_74 @hk23 R g0 hf
  · have hf := ie c101 hf
    refine go_iload_n (i := 3) (pc' := 60) dX14_extreme_59 rfl rfl rfl ?_
    refine go_iload (pc' := 62) dX14_extreme_60 rfl rfl ?_
    refine go_mmin (pc' := 65) dX14_extreme_62 rfl cf_X14_extreme_47 (Nat.le_of_ble_eq_true rfl) ?_
    refine go_goto (pc' := 0) (tgt := 74) dX14_extreme_65 (by decide) ?_
    exact t_X14_extreme_74 @hk23 R g0 hf
def l_X14_extreme_23 (n : Nat) : Nat → Nat → Int32 → Int32 → Int32 → Int32 → xσ → Option (Int32 × xσ)
  | 0, _, _, _, _, _, _ => none
  | f + 1, a0, x1, x2, x3, x4, σ => if (sI σ a0 2) ≤ x4 then some (x3, σ) else if x1 = 0 then gd (inb x4 40) (b_X14_extreme_53 n (l_X14_extreme_23 n f) a0 x1 x2 x3 x4 (sI σ (a0 + 3) x4.toNatClampNeg) σ) else gd (inb x4 40) (b_X14_extreme_53 n (l_X14_extreme_23 n f) a0 x1 x2 x3 x4 (sI σ (a0 + 2) x4.toNatClampNeg) σ)
set_option maxRecDepth 100000 in
set_option maxHeartbeats 4000000 in
theorem t_X14_extreme_23 {G : xG} {n : Nat} : ∀ (f : Nat) {a0 : Nat} {x1 : Int32} {x2 : Int32} {x3 : Int32} {x4 : Int32} {σ : xσ} {h : xH} {r : Int32 × xσ} {d5 : Option Value}, Rl n σ h → okM a0 → l_X14_extreme_23 n f a0 x1 x2 x3 x4 σ = some r → Go G mX14_extreme 23 [some (.ref a0), some (.int x1), some (.int x2), some (.int x3), some (.int x4), d5] [] h (fun v h' => xRok (xRt mX14_extreme) v ∧ v = some (.int r.1) ∧ Rl n r.2 h') := by
  intro f
  induction f with
  | zero =>
    intros
    rename _ = some _ => hf
    rw [l_X14_extreme_23] at hf
    cases hf
  | succ f ih =>
    intro a0 x1 x2 x3 x4 σ h r d5 R g0 hf
    rw [l_X14_extreme_23] at hf
    refine go_iload (pc' := 25) dX14_extreme_23 rfl rfl ?_
    refine go_aload_n (i := 0) (pc' := 26) dX14_extreme_25 rfl rfl rfl ?_
    refine go_getS (pc' := 29) dX14_extreme_26 rfl gf_LandBaseModel_79 R (g0.at R) (by decide) rfl ?_
    refine go_icmp_ge (pc' := 32) (tgt := 81) dX14_extreme_29 (by decide) rfl (fun c101 => ?_) (fun c101 => ?_)
    · have hf := it c101 hf
      refine go_iload_n (i := 3) (pc' := 82) dX14_extreme_81 rfl rfl rfl ?_
      obtain rfl := Option.some.inj hf
      exact Go.ret (v := some (.int _)) dX14_extreme_82 ⟨_, rfl⟩ ⟨rfl, rfl, R⟩
    · have hf := ie c101 hf
      refine go_iload_n (i := 1) (pc' := 33) dX14_extreme_32 rfl rfl rfl ?_
      refine go_if_eq (pc' := 36) (tgt := 46) dX14_extreme_33 (by decide) rfl (fun c102 => ?_) (fun c102 => ?_)
      · have hf := it c102 hf
        refine go_aload_n (i := 0) (pc' := 47) dX14_extreme_46 rfl rfl rfl ?_
        refine go_getS (pc' := 50) dX14_extreme_47 rfl gf_LandBaseModel_36 R (g0.at R) (by decide) rfl ?_
        refine go_iload (pc' := 52) dX14_extreme_50 rfl rfl ?_
        obtain ⟨g103, hf⟩ := gd_some hf
        refine go_ialoadS (pc' := 53) dX14_extreme_52 rfl R (g0.y R) g103 ?_
        exact t_X14_extreme_53 @ih R g0 hf
      · have hf := ie c102 hf
        refine go_aload_n (i := 0) (pc' := 37) dX14_extreme_36 rfl rfl rfl ?_
        refine go_getS (pc' := 40) dX14_extreme_37 rfl gf_LandBaseModel_30 R (g0.at R) (by decide) rfl ?_
        refine go_iload (pc' := 42) dX14_extreme_40 rfl rfl ?_
        obtain ⟨g104, hf⟩ := gd_some hf
        refine go_ialoadS (pc' := 43) dX14_extreme_42 rfl R (g0.x R) g104 ?_
        refine go_goto (pc' := 0) (tgt := 53) dX14_extreme_43 (by decide) ?_
        exact t_X14_extreme_53 @ih R g0 hf
def b_X14_extreme_19 (n : Nat) (a0 : Nat) (x1 : Int32) (x2 : Int32) (xs0 : Int32) (σ : xσ) : Option (Int32 × xσ) := l_X14_extreme_23 n xFU a0 x1 x2 xs0 1 σ
set_option maxRecDepth 100000 in
set_option maxHeartbeats 4000000 in
theorem t_X14_extreme_19 {G : xG} {n : Nat} {a0 : Nat} {x1 : Int32} {x2 : Int32} {xs0 : Int32} {σ : xσ} {h : xH} {r : Int32 × xσ} {d3 : Option Value} {d4 : Option Value} {d5 : Option Value} : Rl n σ h → okM a0 → b_X14_extreme_19 n a0 x1 x2 xs0 σ = some r → Go G mX14_extreme 19 [some (.ref a0), some (.int x1), some (.int x2), d3, d4, d5] [.int xs0] h (fun v h' => xRok (xRt mX14_extreme) v ∧ v = some (.int r.1) ∧ Rl n r.2 h') := by
  intro R g0 hf
  rw [b_X14_extreme_19] at hf
  refine go_istore_nE rfl (i := 3) (pc' := 20) dX14_extreme_19 rfl rfl (by decide) rfl ?_
  refine go_iconst (v := 1) (pc' := 21) dX14_extreme_20 rfl (by decide) ?_
  refine go_istoreE rfl (pc' := 23) dX14_extreme_21 rfl (by decide) rfl ?_
  exact t_X14_extreme_23 xFU R g0 hf
def f_X14_extreme (n : Nat) (a0 : Nat) (x1 : Int32) (x2 : Int32) (σ : xσ) : Option (Int32 × xσ) := gd (okM a0) (if x1 = 0 then gd (inb 0 40) (b_X14_extreme_19 n a0 x1 x2 (sI σ (a0 + 3) (0 : Int32).toNatClampNeg) σ) else gd (inb 0 40) (b_X14_extreme_19 n a0 x1 x2 (sI σ (a0 + 2) (0 : Int32).toNatClampNeg) σ))
set_option maxRecDepth 100000 in
set_option maxHeartbeats 4000000 in
theorem c_X14_extreme {G : xG} {n : Nat} {σ : xσ} {h : xH} {a0 : Nat} {x1 : Int32} {x2 : Int32} {v1 : Int32} {σ1 : xσ} (R : Rl n σ h) (hf : f_X14_extreme n a0 x1 x2 σ = some (v1, σ1)) : Ca G mX14_extreme [.ref a0, .int x1, .int x2] h (fun v h' => v = some (.int v1) ∧ Rl n σ1 h') := by
  refine Ca.of rfl (Nat.le_of_ble_eq_true rfl) ?_
  generalize hr : (v1, σ1) = r at hf
  suffices q : Go G mX14_extreme 0 (xent (xMl mX14_extreme) [.ref a0, .int x1, .int x2]) [] h (fun v h' => xRok (xRt mX14_extreme) v ∧ v = some (.int r.1) ∧ Rl n r.2 h') by
    subst hr
    exact q
  clear hr
  rw [f_X14_extreme] at hf
  obtain ⟨g0, hf⟩ := gd_some hf
  refine go_iload_n (i := 1) (pc' := 1) dX14_extreme_0 rfl rfl rfl ?_
  refine go_if_eq (pc' := 4) (tgt := 13) dX14_extreme_1 (by decide) rfl (fun c101 => ?_) (fun c101 => ?_)
  · have hf := it c101 hf
    refine go_aload_n (i := 0) (pc' := 14) dX14_extreme_13 rfl rfl rfl ?_
    refine go_getS (pc' := 17) dX14_extreme_14 rfl gf_LandBaseModel_36 R (g0.at R) (by decide) rfl ?_
    refine go_iconst (v := 0) (pc' := 18) dX14_extreme_17 rfl (by decide) ?_
    obtain ⟨g102, hf⟩ := gd_some hf
    refine go_ialoadS (pc' := 19) dX14_extreme_18 rfl R (g0.y R) g102 ?_
    exact t_X14_extreme_19 R g0 hf
  · have hf := ie c101 hf
    refine go_aload_n (i := 0) (pc' := 5) dX14_extreme_4 rfl rfl rfl ?_
    refine go_getS (pc' := 8) dX14_extreme_5 rfl gf_LandBaseModel_30 R (g0.at R) (by decide) rfl ?_
    refine go_iconst (v := 0) (pc' := 9) dX14_extreme_8 rfl (by decide) ?_
    obtain ⟨g103, hf⟩ := gd_some hf
    refine go_ialoadS (pc' := 10) dX14_extreme_9 rfl R (g0.x R) g103 ?_
    refine go_goto (pc' := 0) (tgt := 19) dX14_extreme_10 (by decide) ?_
    exact t_X14_extreme_19 R g0 hf

/-! RULES WHOSE NEW HEAP HAS A NAME: what is in it, and that the rest is as it was -/
theorem go_iincC {G : xG} {M : xM} {pc pc' : Nat} {L : xL} {S : List Value} {h : xH} {P : Option Value → xH → Prop} {L' : xL} {i : Nat} {n : Int} {x kk : Int32} (d : decode (xBy M) pc = .ok (.iinc i n, 3)) (e : pc + 3 = pc') (hl : L[i]? = some (some (.int x))) (hv : Int32.ofInt n = kk) (hn : i < xMl M) (hs : xs1 (.int (x + kk)) i L = L') (k : Go G M pc' L' S h P) : Go G M pc L S h P :=
  go_iinc d e hl (by rw [hv]) hn hs k
abbrev xFr (h h1 : xH) (a : Nat) : Prop := ∀ b, b ≠ a → h1.2 b = h.2 b
theorem xput_fr (h : xH) (a : Nat) (c : xC) : xFr h (xput h a c) a := fun _ n => xput_ne h c n
theorem go_putfK {G : xG} {M : xM} {pc pc' : Nat} {L : xL} {S : List Value} {h : xH} {P : Option Value → xH → Prop} {index ci kf a : Nat} {fs : List Value} {v : Value} {ty : FieldType} {fin : Bool} (d : decode (xBy M) pc = .ok (.putfield index, 3)) (e : pc + 3 = pc') (g : xPf (xOwn M) index ci kf ty fin) (hf : fin = true → (xNm M).name = "<init>") (hh : h.2 a = some (.inr (ci, fs))) (hl0 : kf < fs.length) (hn : narrow ty (xv G v) = xv G v) (hft : fits ty (xv G v) = true)
    (k : ∀ h1 : xH, h1.1 = h.1 → h1.2 a = some (.inr (ci, fs.set kf v)) → xFr h h1 a → Go G M pc' L S h1 P) : Go G M pc L (v :: .ref a :: S) h P :=
  go_putf d e g hf hh hl0 hn hft (k _ rfl (xput_at _ _ _) (xput_fr _ _ _))
theorem go_newK {G : xG} {M : xM} {pc pc' : Nat} {L : xL} {S : List Value} {h : xH} {P : Option Value → xH → Prop} {index ci N n s : Nat} {fs : List Value} (d : decode (xBy M) pc = .ok (.new index, 3)) (e : pc + 3 = pc') (g : xNw (xOwn M) index ci N fs) (hz : h.1 = (n, s))
    (k : ∀ h1 : xH, h1.1 = (n + 1, s + N) → h1.2 n = some (.inr (ci, fs)) → xFr h h1 n → Go G M pc' L (.ref n :: S) h1 P) : Go G M pc L S h P := by
  have h1 : h.1.1 = n := by rw [hz]
  have h2 : h.1.2 = s := by rw [hz]
  subst h1; subst h2
  exact go_new d e g (k _ rfl (xnew_at _ _ _) (fun b nb => xnew_ne _ _ _ nb))
theorem go_newarrayK {G : xG} {M : xM} {pc pc' : Nat} {L : xL} {S : List Value} {h : xH} {P : Option Value → xH → Prop} {atype : ArrayType} {t N n s : Nat} {i : Int32} (d : decode (xBy M) pc = .ok (.newarray atype, 2)) (e : pc + 2 = pc') (ht : newarray.typeOf atype = xty t) (h4 : t < 4) (hw : Cond.arrayClass (xty t) ∈ xW) (hi : ¬ i < 0) (hn : i.toNatClampNeg = N) (hs : N ≤ 60000) (hz : h.1 = (n, s))
    (k : ∀ h1 : xH, h1.1 = (n + 1, s + N) → h1.2 n = some (.inl (t, xdA t N)) → xFr h h1 n → Go G M pc' L (.ref n :: S) h1 P) : Go G M pc L (.int i :: S) h P := by
  have h1 : h.1.1 = n := by rw [hz]
  have h2 : h.1.2 = s := by rw [hz]
  subst h1; subst h2
  exact go_newarray d e ht h4 hw hi hn hs (k _ rfl (xnew_at _ _ _) (fun b nb => xnew_ne _ _ _ nb))
theorem go_anewarrayK {G : xG} {M : xM} {pc pc' : Nat} {L : xL} {S : List Value} {h : xH} {P : Option Value → xH → Prop} {index t N n s : Nat} {C : String} {i : Int32} (d : decode (xBy M) pc = .ok (.anewarray index, 3)) (e : pc + 3 = pc') (ht : 4 ≤ t ∧ t < 8) (hC : xty t = .object C) (hw : Cond.classLink (xOwn M) index C ∈ xW) (hi : ¬ i < 0) (hn : i.toNatClampNeg = N) (hs : N ≤ 60000) (hz : h.1 = (n, s))
    (k : ∀ h1 : xH, h1.1 = (n + 1, s + N) → h1.2 n = some (.inl (t, xdA t N)) → xFr h h1 n → Go G M pc' L (.ref n :: S) h1 P) : Go G M pc L (.int i :: S) h P := by
  have h1 : h.1.1 = n := by rw [hz]
  have h2 : h.1.2 = s := by rw [hz]
  subst h1; subst h2
  exact go_anewarray d e ht hC hw hi hn hs (k _ rfl (xnew_at _ _ _) (fun b nb => xnew_ne _ _ _ nb))
theorem go_iastoreK {G : xG} {M : xM} {pc pc' : Nat} {L : xL} {S : List Value} {h : xH} {P : Option Value → xH → Prop} {a n : Nat} {f : Nat → Int32} {i x : Int32} (d : decode (xBy M) pc = .ok (.iastore, 1)) (e : pc + 1 = pc') (hh : h.2 a = some (.inl (0, n, .inl f))) (hin : vp_in i n) (k : ∀ h1 : xH, h1.1 = h.1 → h1.2 a = some (.inl (0, n, .inl (upd f i.toNatClampNeg x))) → xFr h h1 a → Go G M pc' L S h1 P) : Go G M pc L (.int x :: .int i :: .ref a :: S) h P :=
  go_iastore d e hh hin (k _ rfl (xput_at _ _ _) (xput_fr _ _ _))
theorem go_bastoreK {G : xG} {M : xM} {pc pc' : Nat} {L : xL} {S : List Value} {h : xH} {P : Option Value → xH → Prop} {a n : Nat} {f : Nat → Int32} {i x : Int32} (d : decode (xBy M) pc = .ok (.bastore, 1)) (e : pc + 1 = pc') (hh : h.2 a = some (.inl (1, n, .inl f))) (hin : vp_in i n) (k : ∀ h1 : xH, h1.1 = h.1 → h1.2 a = some (.inl (1, n, .inl (upd f i.toNatClampNeg (vp_nar .byte x)))) → xFr h h1 a → Go G M pc' L S h1 P) : Go G M pc L (.int x :: .int i :: .ref a :: S) h P :=
  go_bastore d e hh hin (k _ rfl (xput_at _ _ _) (xput_fr _ _ _))
theorem go_zastoreK {G : xG} {M : xM} {pc pc' : Nat} {L : xL} {S : List Value} {h : xH} {P : Option Value → xH → Prop} {a n : Nat} {f : Nat → Int32} {i x : Int32} (d : decode (xBy M) pc = .ok (.bastore, 1)) (e : pc + 1 = pc') (hh : h.2 a = some (.inl (3, n, .inl f))) (hin : vp_in i n) (k : ∀ h1 : xH, h1.1 = h.1 → h1.2 a = some (.inl (3, n, .inl (upd f i.toNatClampNeg (vp_nar .boolean x)))) → xFr h h1 a → Go G M pc' L S h1 P) : Go G M pc L (.int x :: .int i :: .ref a :: S) h P :=
  go_zastore d e hh hin (k _ rfl (xput_at _ _ _) (xput_fr _ _ _))
theorem go_lastoreK {G : xG} {M : xM} {pc pc' : Nat} {L : xL} {S : List Value} {h : xH} {P : Option Value → xH → Prop} {a n : Nat} {f : Nat → Int64} {i : Int32} {x : Int64} (d : decode (xBy M) pc = .ok (.lastore, 1)) (e : pc + 1 = pc') (hh : h.2 a = some (.inl (2, n, .inr (.inl f)))) (hin : vp_in i n) (k : ∀ h1 : xH, h1.1 = h.1 → h1.2 a = some (.inl (2, n, .inr (.inl (vp_updL f i.toNatClampNeg x)))) → xFr h h1 a → Go G M pc' L S h1 P) : Go G M pc L (.long x :: .int i :: .ref a :: S) h P :=
  go_lastore d e hh hin (k _ rfl (xput_at _ _ _) (xput_fr _ _ _))
theorem go_aastoreK {G : xG} {M : xM} {pc pc' : Nat} {L : xL} {S : List Value} {h : xH} {P : Option Value → xH → Prop} {a n t b ci N : Nat} {C : String} {T : u_T} {vs : List Value} {f : Nat → Option Nat} {i : Int32} (d : decode (xBy M) pc = .ok (.aastore, 1)) (e : pc + 1 = pc') (ht : t < 8) (hC : xty t = .object C) (hc : vwCl[ci]? = some (C, T, N)) (hh : h.2 a = some (.inl (t, n, .inr (.inr (.inr (.inr f)))))) (hb : h.2 b = some (.inr (ci, vs))) (hin : vp_in i n) (k : ∀ h1 : xH, h1.1 = h.1 → h1.2 a = some (.inl (t, n, .inr (.inr (.inr (.inr (va_up f i.toNatClampNeg (some b))))))) → xFr h h1 a → Go G M pc' L S h1 P) : Go G M pc L (.ref b :: .int i :: .ref a :: S) h P :=
  go_aastore d e ht hC hc hh hb hin (k _ rfl (xput_at _ _ _) (xput_fr _ _ _))

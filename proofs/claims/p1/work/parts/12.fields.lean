/-! OBJECTS OF MANY FIELDS: the fields as a function -/
def mkF (F : Nat → Value) (N : Nat) : List Value := (List.range N).map F
theorem mkF_get (F : Nat → Value) {N k : Nat} (h : k < N) : (mkF F N)[k]? = some (F k) := by simp [mkF, h]
theorem mkF_len (F : Nat → Value) (N : Nat) : (mkF F N).length = N := by simp [mkF]
theorem mkF_set (F : Nat → Value) {N k : Nat} (v : Value) : (mkF F N).set k v = mkF (updV F k v) N := by
  apply List.ext_getElem?
  intro i
  rw [List.getElem?_set, mkF_len]
  by_cases h : k = i
  · subst h
    by_cases hk : k < N
    · rw [if_pos rfl, if_pos hk, mkF_get _ hk]; simp [updV]
    · rw [if_pos rfl, if_neg hk]; simp [mkF, hk]
  · rw [if_neg h]
    by_cases hi : i < N
    · rw [mkF_get _ hi, mkF_get _ hi]; simp [updV, Ne.symm h]
    · simp [mkF, hi]
theorem go_getfF {G : xG} {M : xM} {pc pc' : Nat} {L : xL} {S : List Value} {h : xH} {P : Option Value → xH → Prop} {index ci kf a N : Nat} {F : Nat → Value} {v : Value} (d : decode (xBy M) pc = .ok (.getfield index, 3)) (e : pc + 3 = pc') (g : xGf (xOwn M) index ci kf) (hh : h.2 a = some (.inr (ci, mkF F N))) (hk : kf < N) (hv : F kf = v) (k : Go G M pc' L (v :: S) h P) : Go G M pc L (.ref a :: S) h P :=
  go_getf d e g hh ((mkF_get F hk).trans (congrArg some hv)) k
theorem go_putfF {G : xG} {M : xM} {pc pc' : Nat} {L : xL} {S : List Value} {h : xH} {P : Option Value → xH → Prop} {index ci kf a N : Nat} {F : Nat → Value} {v : Value} {ty : FieldType} {fin : Bool} (d : decode (xBy M) pc = .ok (.putfield index, 3)) (e : pc + 3 = pc') (g : xPf (xOwn M) index ci kf ty fin) (hf : fin = true → (xNm M).name = "<init>") (hh : h.2 a = some (.inr (ci, mkF F N))) (hk : kf < N) (hn : narrow ty (xv G v) = xv G v) (hft : fits ty (xv G v) = true)
    (k : ∀ h1 : xH, h1.1 = h.1 → h1.2 a = some (.inr (ci, mkF (updV F kf v) N)) → xFr h h1 a → Go G M pc' L S h1 P) : Go G M pc L (v :: .ref a :: S) h P :=
  go_putfK d e g hf hh (by rw [mkF_len]; exact hk) hn hft (fun h1 a1 b1 c1 => k h1 a1 (by rw [b1, mkF_set]) c1)

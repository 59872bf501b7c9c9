/-! FIELDS, ARRAYS, NEW CELLS -/
def xLink (own : String) (index : Nat) (q : String × String × String × Bool) : Prop := Cond.fieldLink own index q.1 q.2.1 q.2.2.1 ∈ xW ∨ ∃ host, Cond.fieldLinkNest own index q.1 q.2.1 q.2.2.1 host ∈ xN
/-- the pool entry is field k of the sort ci -/
def xGf (own : String) (index ci k : Nat) : Prop := ∃ (C : String) (T : u_T) (N : Nat), vwCl[ci]? = some (C, T, N) ∧ k < N ∧ (∀ w ∈ u_ws C T N, w ∈ xW) ∧ xLink own index (T k)
theorem go_getf {G : xG} {M : xM} {pc pc' : Nat} {L : xL} {S : List Value} {h : xH} {P : Option Value → xH → Prop} {index ci kf a : Nat} {fs : List Value} {v : Value} (d : decode (xBy M) pc = .ok (.getfield index, 3)) (e : pc + 3 = pc') (g : xGf (xOwn M) index ci kf) (hh : h.2 a = some (.inr (ci, fs))) (hv : fs[kf]? = some v) (k : Go G M pc' L (v :: S) h P) : Go G M pc L (.ref a :: S) h P := by
  obtain ⟨C, T, N, hc, hk, hin, hl⟩ := g
  refine k.go (fun p e0 R s m args below meth c H locs cells slots Q ls X hH hS hL w => ?_)
  subst e
  have hP : va_P (gD G) vwCl [(gB G + a, .inr (ci, fs.map (xv G)))] H := fun j q hq => by
    cases j with
    | zero => cases hq; exact hH.2 a _ hh
    | succ j => simp at hq
  have hv' : (fs.map (xv G))[kf]? = some (xv G v) := by rw [List.getElem?_map, hv]; rfl
  rcases hl with hl | ⟨host, hl⟩
  · exact va_get (D := gD G) (ws := [(gB G + a, .inr (ci, fs.map (xv G)))]) (C := C) (T := T) (N := N) X.1 X.2.1 X.2.2.2.2.1 hin X.2.2.2.1 X.2.2.2.2.2.2.1.1 hP 0 rfl hc kf hk (X.2.2.2.2.1 _ hl) (fun _ h9 => h9) hv' d (w _ hL)
  · exact va_getN (D := gD G) (ws := [(gB G + a, .inr (ci, fs.map (xv G)))]) (C := C) (T := T) (N := N) X.1 X.2.1 X.2.2.2.2.1 hin X.2.2.2.1 X.2.2.2.2.2.2.1.1 hP 0 rfl hc kf hk (va_Nw.use rfl (X.2.2.2.2.2.2.1.2.1 _ hl)) (fun _ h9 => h9) hv' d (w _ hL)
/-- the pool entry is field k of the sort ci, of type ty, and may be written here -/
def xPf (own : String) (index ci k : Nat) (ty : FieldType) (fin : Bool) : Prop := ∃ (C : String) (T : u_T) (N : Nat) (ty0 : Nat → FieldType), vwCl[ci]? = some (C, T, N) ∧ k < N ∧ (∀ w ∈ u_ws C T N, w ∈ xW) ∧ (∀ j, j < N → parseFieldDescriptor (T j).2.2.1 = some (ty0 j)) ∧ (∀ x, x < N → ∀ y, y < N → x ≠ y → (T x).2.1 ≠ (T y).2.1) ∧ (T k).2.2.2 = fin ∧ parseFieldDescriptor (T k).2.2.1 = some ty ∧ (fin = true → (T k).1 = own ∧ Cond.fieldLink own index (T k).1 (T k).2.1 (T k).2.2.1 ∈ xW) ∧ xLink own index (T k)
theorem go_putf {G : xG} {M : xM} {pc pc' : Nat} {L : xL} {S : List Value} {h : xH} {P : Option Value → xH → Prop} {index ci kf a : Nat} {fs : List Value} {v : Value} {ty : FieldType} {fin : Bool} (d : decode (xBy M) pc = .ok (.putfield index, 3)) (e : pc + 3 = pc') (g : xPf (xOwn M) index ci kf ty fin) (hf : fin = true → (xNm M).name = "<init>") (hh : h.2 a = some (.inr (ci, fs))) (hl0 : kf < fs.length) (hn : narrow ty (xv G v) = xv G v) (hft : fits ty (xv G v) = true) (k : Go G M pc' L S (xput h a (.inr (ci, fs.set kf v))) P) : Go G M pc L (v :: .ref a :: S) h P := by
  obtain ⟨C, T, N, ty0, hc, hk, hin, hty, hnm, hfin, hd, hfl, hl⟩ := g
  refine k.put (fun p e0 R s m args below meth c H locs cells slots Q ls X hH hS hL w => ?_)
  subst e
  have hts := X.2.2.2.2.1
  have hown := X.2.2.2.1
  have hKn := X.2.2.2.2.2.2.1
  have hK := hKn.1
  have hap := va_apart (own := xOwn M) hts hin ty0 hty hnm hK hc
  obtain ⟨r, h1, cell, q1, q2, q3, q4⟩ := hH.2 a _ hh
  have hr : r = (C, T, N) := Option.some.inj (h1.symm.trans hc)
  subst hr
  obtain ⟨hS9, hfc, kC, hkC, hkind⟩ := hK.1 ci _ hc
  obtain ⟨cf, kf9, fi, f, hi, hsl⟩ := hS9 kf hk
  have hlay := hts _ (hin _ (u_in_lay hk))
  have hst := (u_facts hfc hkC (u_lays hts hin hk) hi).1
  have done : ∀ H' : Heap, H'[gB G + a]? = some (cell.setSlot f.slot (xv G v)) → H'.size = H.size → (∀ q, q ≠ gB G + a → H'[q]? = H[q]?) → W p (gL G) e0 R s m args below meth c H' (locs ++ [⟨gB G + a, f.slot⟩]) cells slots Q (F0 m (pc + 3) ls (S.map (xv G))) := by
    intro H' e1 e2 e3
    have e1' : H'[gB G + a]? = some (cell.setSlot ((gD G).2 ci kf) (xv G v)) := by rw [← hsl]; exact e1
    refine w H' f.slot e2 e3 ⟨_, hc, t_OB.to (V := updV (vp_V (fs.map (xv G))) kf (xv G v)) ⟨cell.setSlot ((gD G).2 ci kf) (xv G v), e1', q2, q3, t_set q4 hap hk (xv G v)⟩ (fun j _ => ?_)⟩
    rw [vp_updV_set (by rw [List.length_map]; exact hl0), List.map_set]
  unfold u_lay at hlay
  cases fin with
  | true =>
    rw [if_pos hfin] at hlay
    obtain ⟨hdecl, hfl⟩ := hfl rfl
    have hcf : m.cls = cf := by
      obtain ⟨_, _, c', _, _, _, -, -, hf', -, -, -, hown2, -⟩ := Cond.laysFinal_spec hlay
      have e1 : c' = cf := by have := hi.symm.trans hf'; simp at this; exact this.1.symm
      rw [hdecl] at hown2
      rw [← e1]; exact Option.some.inj (hown.symm.trans hown2)
    have h6 := u_fits hfc hkC hkind (Or.inr hlay) hi hd hn hft
    exact W.putFinK X.1 X.2.1 hown (hts _ hfl) hi hst hcf (X.2.2.2.2.2.1 (hf rfl)) (by rw [q2]; exact h6) q1 q3 (by rw [hsl]; exact k2_hasslot (q4 kf hk)) rfl rfl d done
  | false =>
    rw [if_neg (by rw [hfin]; decide)] at hlay
    have h6 := u_store hfc hkC hkind hlay hi hd hn hft
    rcases hl with hl | ⟨host, hl⟩
    · exact W.putK X.1 X.2.1 (f := f) ⟨hown, hts _ hl, ⟨_, _, _, hi⟩, hst⟩ (by rw [q2]; exact h6) q1 q3 (by rw [hsl]; exact k2_hasslot (q4 kf hk)) rfl rfl d done
    · exact va_WputK X.1 X.2.1 (f := f) hown (va_Nw.use rfl (hKn.2.1 _ hl)) hi hst (by rw [q2]; exact h6) q1 q3 (by rw [hsl]; exact k2_hasslot (q4 kf hk)) rfl rfl d done
/-- a sort whose objects are made here -/
def xNw (own : String) (index ci N : Nat) (fs : List Value) : Prop := ∃ (C : String) (T : u_T) (ty0 : Nat → FieldType), vwCl[ci]? = some (C, T, N) ∧ (∀ w ∈ u_ws C T N, w ∈ xW) ∧ (∀ j, j < N → parseFieldDescriptor (T j).2.2.1 = some (ty0 j)) ∧ Cond.classLink own index C ∈ xW ∧ Cond.instantiable C N ∈ xW ∧ Cond.initialized C ∈ xW ∧ (∀ j, j < N → fs[j]? = some (defaultValue (ty0 j)))
theorem xv_def (G : xG) (ty : FieldType) : xv G (defaultValue ty) = defaultValue ty := by cases ty <;> rfl
theorem go_new {G : xG} {M : xM} {pc pc' : Nat} {L : xL} {S : List Value} {h : xH} {P : Option Value → xH → Prop} {index ci N : Nat} {fs : List Value} (d : decode (xBy M) pc = .ok (.new index, 3)) (e : pc + 3 = pc') (g : xNw (xOwn M) index ci N fs) (k : Go G M pc' L (.ref h.1.1 :: S) (xnew h N (.inr (ci, fs))) P) : Go G M pc L S h P := by
  obtain ⟨C, T, ty0, hc, hin, hty, w1, w2, w3, hfs⟩ := g
  refine k.new (fun p e0 R s m args below meth c H locs cells slots Q ls X hH hS hL r1 r2 w => ?_)
  subst e
  have hts := X.2.2.2.2.1
  have hKn := X.2.2.2.2.2.2.1.1.1 ci _ hc
  refine W.newcK X.1 X.2.1 X.2.2.2.1 (hts _ w1) (hts _ w2) (hts _ w3) rfl d r1 r2 hKn.2.1 hH.1 fun H1 kC hkC e1 z1 o1 => ?_
  refine w H1 (by rw [z1, hH.1]) (fun q hq => o1 q (by rw [← hH.1]; exact hq)) ⟨_, hc, (u_born ty0 hts hin hKn hkC e1 hty).to (fun j hj => ?_)⟩
  show defaultValue (ty0 j) = vp_V (fs.map (xv G)) j
  simp [vp_V, hfs j hj, xv_def]
/-! arrays -/
theorem go_ialoadG {G : xG} {h : xH} {H : Heap} {a : Nat} {c : xC} (hH : xHp G h H) (hh : h.2 a = some c) : va_P (gD G) vwCl [(gB G + a, xe G c)] H := fun j q hq => by
  cases j with
  | zero => cases hq; exact hH.2 a _ hh
  | succ j => simp at hq
theorem go_iaload {G : xG} {M : xM} {pc pc' : Nat} {L : xL} {S : List Value} {h : xH} {P : Option Value → xH → Prop} {a n : Nat} {f : Nat → Int32} {i : Int32} (d : decode (xBy M) pc = .ok (.iaload, 1)) (e : pc + 1 = pc') (hh : h.2 a = some (.inl (0, n, .inl f))) (hin : vp_in i n) (k : Go G M pc' L (.int (f i.toNatClampNeg) :: S) h P) : Go G M pc L (.int i :: .ref a :: S) h P :=
  k.go (fun _ _ _ _ _ _ _ _ _ _ _ _ _ _ _ X hH hS hL w => by subst e; exact va_iald (D := gD G) X.1 X.2.1 X.2.2.2.2.2.2.1.1 (go_ialoadG hH hh) 0 0 rfl rfl hin d (w _ hL))
theorem go_baload {G : xG} {M : xM} {pc pc' : Nat} {L : xL} {S : List Value} {h : xH} {P : Option Value → xH → Prop} {a n : Nat} {f : Nat → Int32} {i : Int32} (d : decode (xBy M) pc = .ok (.baload, 1)) (e : pc + 1 = pc') (hh : h.2 a = some (.inl (1, n, .inl f))) (hin : vp_in i n) (k : Go G M pc' L (.int (f i.toNatClampNeg) :: S) h P) : Go G M pc L (.int i :: .ref a :: S) h P :=
  k.go (fun _ _ _ _ _ _ _ _ _ _ _ _ _ _ _ X hH hS hL w => by subst e; exact va_bald (D := gD G) X.1 X.2.1 X.2.2.2.2.2.2.1.1 (go_ialoadG hH hh) 0 1 rfl rfl hin d (w _ hL))
theorem go_zaload {G : xG} {M : xM} {pc pc' : Nat} {L : xL} {S : List Value} {h : xH} {P : Option Value → xH → Prop} {a n : Nat} {f : Nat → Int32} {i : Int32} (d : decode (xBy M) pc = .ok (.baload, 1)) (e : pc + 1 = pc') (hh : h.2 a = some (.inl (3, n, .inl f))) (hin : vp_in i n) (k : Go G M pc' L (.int (f i.toNatClampNeg) :: S) h P) : Go G M pc L (.int i :: .ref a :: S) h P :=
  k.go (fun _ _ _ _ _ _ _ _ _ _ _ _ _ _ _ X hH hS hL w => by subst e; exact va_zald (D := gD G) X.1 X.2.1 X.2.2.2.2.2.2.1.1 (go_ialoadG hH hh) 0 3 rfl rfl hin d (w _ hL))
theorem go_laload {G : xG} {M : xM} {pc pc' : Nat} {L : xL} {S : List Value} {h : xH} {P : Option Value → xH → Prop} {a n : Nat} {f : Nat → Int64} {i : Int32} (d : decode (xBy M) pc = .ok (.laload, 1)) (e : pc + 1 = pc') (hh : h.2 a = some (.inl (2, n, .inr (.inl f)))) (hin : vp_in i n) (k : Go G M pc' L (.long (f i.toNatClampNeg) :: S) h P) : Go G M pc L (.int i :: .ref a :: S) h P :=
  k.go (fun _ _ _ _ _ _ _ _ _ _ _ _ _ _ _ X hH hS hL w => by subst e; exact va_lald (D := gD G) X.1 X.2.1 X.2.2.2.2.2.2.1.1 (go_ialoadG hH hh) 0 2 rfl rfl hin d (w _ hL))
theorem xv_rf (G : xG) (r : Option Nat) : va_rf (r.map (fun a => gB G + a)) = xv G (va_rf r) := by cases r <;> rfl
theorem go_aaload {G : xG} {M : xM} {pc pc' : Nat} {L : xL} {S : List Value} {h : xH} {P : Option Value → xH → Prop} {a n t : Nat} {f : Nat → Option Nat} {i : Int32} (d : decode (xBy M) pc = .ok (.aaload, 1)) (e : pc + 1 = pc') (ht : 4 ≤ t ∧ t < 8) (hh : h.2 a = some (.inl (t, n, .inr (.inr (.inr (.inr f)))))) (hin : vp_in i n) (k : Go G M pc' L (va_rf (f i.toNatClampNeg) :: S) h P) : Go G M pc L (.int i :: .ref a :: S) h P :=
  k.go (fun _ _ _ _ _ _ _ _ _ _ _ _ _ _ _ X hH hS hL w => by
    subst e
    obtain ⟨C, hC⟩ : ∃ C, xty t = .object C := by
      rcases (show t = 4 ∨ t = 5 ∨ t = 6 ∨ t = 7 by omega) with rfl | rfl | rfl | rfl <;> exact ⟨_, rfl⟩
    refine va_aldq (D := gD G) (C := C) X.1 X.2.1 X.2.2.2.2.2.2.1.1 (go_ialoadG hH hh) 0 t rfl (by rw [xtys_at G ht.2, hC]) hin d ?_
    rw [xv_rf]
    exact w _ hL)
theorem go_alen {G : xG} {M : xM} {pc pc' : Nat} {L : xL} {S : List Value} {h : xH} {P : Option Value → xH → Prop} {a t : Nat} {x : vp_A} {v : Int32} (d : decode (xBy M) pc = .ok (.arraylength, 1)) (e : pc + 1 = pc') (ht : t < 8) (hh : h.2 a = some (.inl (t, x))) (hv : Int32.ofNat x.1 = v) (k : Go G M pc' L (.int v :: S) h P) : Go G M pc L (.ref a :: S) h P :=
  k.go (fun _ _ _ _ _ _ _ _ _ _ _ _ _ _ _ X hH hS hL w => by
    subst e
    refine va_alen (D := gD G) X.1 X.2.1 X.2.2.2.2.2.2.1.1 (go_ialoadG hH hh) 0 t rfl (xtys_at G ht) (v := v) ?_ d (w _ hL)
    rw [← hv]
    obtain ⟨n, q⟩ := x
    rcases q with q | q | q | q | q <;> rfl)
theorem go_iastore {G : xG} {M : xM} {pc pc' : Nat} {L : xL} {S : List Value} {h : xH} {P : Option Value → xH → Prop} {a n : Nat} {f : Nat → Int32} {i x : Int32} (d : decode (xBy M) pc = .ok (.iastore, 1)) (e : pc + 1 = pc') (hh : h.2 a = some (.inl (0, n, .inl f))) (hin : vp_in i n) (k : Go G M pc' L S (xput h a (.inl (0, n, .inl (upd f i.toNatClampNeg x)))) P) : Go G M pc L (.int x :: .int i :: .ref a :: S) h P := by
  refine k.put (fun p e0 R s m args below meth c H locs cells slots Q ls X hH hS hL w => ?_)
  subst e
  have hK := X.2.2.2.2.2.2.1.1
  refine W.iast X.1 X.2.1 (hH.2 a _ hh) ((hK.2 0 _ rfl).1 n (fun j => .int (f j))) (fun q => by cases q) (by show ¬ (i < 0 ∨ (arrV _ _ _).slots.size ≤ _); rw [arrV_size]; exact hin) rfl rfl d fun H1 e z oq => ?_
  refine w H1 _ z oq ?_
  show H1[gB G + a]? = some (vp_cell _ _)
  rw [e]
  show some ((vp_cell (gA G 0) (n, .inl f)).setSlot i.toNatClampNeg (.int x)) = some (vp_cell (gA G 0) (n, .inl (upd f i.toNatClampNeg x)))
  rw [vp_cell_i, vp_cell_i, arrV_store]
  congr 2
  funext q
  by_cases hq : q = i.toNatClampNeg
  · subst hq
    simp [updV, upd]
  · simp [updV, upd, hq]
theorem go_bastore {G : xG} {M : xM} {pc pc' : Nat} {L : xL} {S : List Value} {h : xH} {P : Option Value → xH → Prop} {a n : Nat} {f : Nat → Int32} {i x : Int32} (d : decode (xBy M) pc = .ok (.bastore, 1)) (e : pc + 1 = pc') (hh : h.2 a = some (.inl (1, n, .inl f))) (hin : vp_in i n) (k : Go G M pc' L S (xput h a (.inl (1, n, .inl (upd f i.toNatClampNeg (vp_nar .byte x))))) P) : Go G M pc L (.int x :: .int i :: .ref a :: S) h P := by
  refine k.put (fun p e0 R s m args below meth c H locs cells slots Q ls X hH hS hL w => ?_)
  subst e
  have hK := X.2.2.2.2.2.2.1.1
  refine W.bast X.1 X.2.1 (hH.2 a _ hh) ((hK.2 1 _ rfl).1 n (fun j => .int (f j))) (fun q => by cases q) (by show ¬ (i < 0 ∨ (arrV _ _ _).slots.size ≤ _); rw [arrV_size]; exact hin) rfl rfl d fun H1 e z oq => ?_
  refine w H1 _ z oq ?_
  show H1[gB G + a]? = some (vp_cell _ _)
  rw [e]
  show some ((vp_cell (gA G 1) (n, .inl f)).setSlot i.toNatClampNeg _) = some (vp_cell (gA G 1) (n, .inl (upd f i.toNatClampNeg (vp_nar .byte x))))
  rw [vp_cell_i, vp_cell_i, arrV_store]
  congr 2
  funext q
  by_cases hq : q = i.toNatClampNeg
  · subst hq
    simp [updV, upd, vp_nar]
    try rfl
  · simp [updV, upd, hq]
theorem go_zastore {G : xG} {M : xM} {pc pc' : Nat} {L : xL} {S : List Value} {h : xH} {P : Option Value → xH → Prop} {a n : Nat} {f : Nat → Int32} {i x : Int32} (d : decode (xBy M) pc = .ok (.bastore, 1)) (e : pc + 1 = pc') (hh : h.2 a = some (.inl (3, n, .inl f))) (hin : vp_in i n) (k : Go G M pc' L S (xput h a (.inl (3, n, .inl (upd f i.toNatClampNeg (vp_nar .boolean x))))) P) : Go G M pc L (.int x :: .int i :: .ref a :: S) h P := by
  refine k.put (fun p e0 R s m args below meth c H locs cells slots Q ls X hH hS hL w => ?_)
  subst e
  have hK := X.2.2.2.2.2.2.1.1
  refine W.zast X.1 X.2.1 (hH.2 a _ hh) ((hK.2 3 _ rfl).1 n (fun j => .int (f j))) (fun q => by cases q) (by show ¬ (i < 0 ∨ (arrV _ _ _).slots.size ≤ _); rw [arrV_size]; exact hin) rfl rfl d fun H1 e z oq => ?_
  refine w H1 _ z oq ?_
  show H1[gB G + a]? = some (vp_cell _ _)
  rw [e]
  show some ((vp_cell (gA G 3) (n, .inl f)).setSlot i.toNatClampNeg _) = some (vp_cell (gA G 3) (n, .inl (upd f i.toNatClampNeg (vp_nar .boolean x))))
  rw [vp_cell_i, vp_cell_i, arrV_store]
  congr 2
  funext q
  by_cases hq : q = i.toNatClampNeg
  · subst hq
    simp [updV, upd, vp_nar]
    try rfl
  · simp [updV, upd, hq]
theorem go_lastore {G : xG} {M : xM} {pc pc' : Nat} {L : xL} {S : List Value} {h : xH} {P : Option Value → xH → Prop} {a n : Nat} {f : Nat → Int64} {i : Int32} {x : Int64} (d : decode (xBy M) pc = .ok (.lastore, 1)) (e : pc + 1 = pc') (hh : h.2 a = some (.inl (2, n, .inr (.inl f)))) (hin : vp_in i n) (k : Go G M pc' L S (xput h a (.inl (2, n, .inr (.inl (vp_updL f i.toNatClampNeg x))))) P) : Go G M pc L (.long x :: .int i :: .ref a :: S) h P := by
  refine k.put (fun p e0 R s m args below meth c H locs cells slots Q ls X hH hS hL w => ?_)
  subst e
  have hK := X.2.2.2.2.2.2.1.1
  refine W.last X.1 X.2.1 (hH.2 a _ hh) ((hK.2 2 _ rfl).1 n (fun j => .long (f j))) (fun q => by cases q) (by show ¬ (i < 0 ∨ (arrV _ _ _).slots.size ≤ _); rw [arrV_size]; exact hin) rfl rfl d fun H1 e z oq => ?_
  refine w H1 _ z oq ?_
  show H1[gB G + a]? = some (vp_cell _ _)
  rw [e]
  show some ((vp_cell (gA G 2) (n, .inr (.inl f))).setSlot i.toNatClampNeg _) = some (vp_cell (gA G 2) (n, .inr (.inl (vp_updL f i.toNatClampNeg x))))
  rw [vp_cell_l, vp_cell_l, arrV_store]
  congr 2
  funext q
  by_cases hq : q = i.toNatClampNeg
  · subst hq
    simp [updV, vp_updL]
  · simp [updV, vp_updL, hq]
theorem go_aastore {G : xG} {M : xM} {pc pc' : Nat} {L : xL} {S : List Value} {h : xH} {P : Option Value → xH → Prop} {a n t b ci N : Nat} {C : String} {T : u_T} {vs : List Value} {f : Nat → Option Nat} {i : Int32} (d : decode (xBy M) pc = .ok (.aastore, 1)) (e : pc + 1 = pc') (ht : t < 8) (hC : xty t = .object C) (hc : vwCl[ci]? = some (C, T, N)) (hh : h.2 a = some (.inl (t, n, .inr (.inr (.inr (.inr f)))))) (hb : h.2 b = some (.inr (ci, vs))) (hin : vp_in i n) (k : Go G M pc' L S (xput h a (.inl (t, n, .inr (.inr (.inr (.inr (va_up f i.toNatClampNeg (some b)))))))) P) : Go G M pc L (.ref b :: .int i :: .ref a :: S) h P := by
  refine k.put (fun p e0 R s m args below meth c H locs cells slots Q ls X hH hS hL w => ?_)
  subst e
  have hK := X.2.2.2.2.2.2.1.1
  have hlt : i.toNatClampNeg < n := Nat.not_le.mp fun q => hin (Or.inr q)
  have h0 : ¬ i < 0 := fun q => hin (Or.inl q)
  obtain ⟨r', hr', cellV, g1, g2, g3, -⟩ := hH.2 b _ hb
  have hcls := (hK.1 ci _ hc).2
  have hra := (hK.2 t _ (xtys_at G ht)).2
  rw [hC] at hra
  obtain ⟨kA, comp, k1, k2, k3, -⟩ := hra
  have hcomp : comp = (gD G).1 ci := Option.some.inj (k3.symm.trans hcls.1)
  subst hcomp
  obtain ⟨kC, hkC, -⟩ := hcls.2
  refine W.aast X.1 X.2.1 (hH.2 a _ hh) (fun q h => by cases h) (fun h => by cases h) k1 k2 rfl hkC ⟨h0, by show _ < (arrV _ _ _).slots.size; rw [arrV_size]; exact hlt⟩ g1 (fun q h => by rw [g3] at h; cases h) (by rw [g2]; exact hkC) (by rw [g2]; exact va_assign hcls) rfl rfl d fun H1 e z oq => ?_
  refine w H1 _ z oq ?_
  show H1[gB G + a]? = some (vp_cell _ _)
  rw [e]
  show some ((vp_cell (gA G t) (n, .inr (.inr (.inr (.inr (fun j => (f j).map (fun a => gB G + a))))))).setSlot i.toNatClampNeg _) = some (vp_cell (gA G t) (n, .inr (.inr (.inr (.inr (fun j => (va_up f i.toNatClampNeg (some b) j).map (fun a => gB G + a)))))))
  rw [vp_cell_q, vp_cell_q, arrV_store]
  congr 2
  funext q
  by_cases hq : q = i.toNatClampNeg
  · subst hq
    simp [updV, va_up, va_rf]
  · simp [updV, va_up, hq]
def xdA (t n : Nat) : vp_A := if t = 2 then (n, .inr (.inl (fun _ => 0))) else if t < 4 then (n, .inl (fun _ => 0)) else (n, .inr (.inr (.inr (.inr (fun _ => none)))))
theorem go_newarray {G : xG} {M : xM} {pc pc' : Nat} {L : xL} {S : List Value} {h : xH} {P : Option Value → xH → Prop} {atype : ArrayType} {t n : Nat} {i : Int32} (d : decode (xBy M) pc = .ok (.newarray atype, 2)) (e : pc + 2 = pc') (ht : newarray.typeOf atype = xty t) (h4 : t < 4) (hw : Cond.arrayClass (xty t) ∈ xW) (hi : ¬ i < 0) (hn : i.toNatClampNeg = n) (hs : n ≤ 60000) (k : Go G M pc' L (.ref h.1.1 :: S) (xnew h n (.inl (t, xdA t n))) P) : Go G M pc L (.int i :: S) h P := by
  refine k.new (fun p e0 R s m args below meth c H locs cells slots Q ls X hH hS hL r1 r2 w => ?_)
  subst e
  have hK := X.2.2.2.2.2.2.1.1
  have hts := X.2.2.2.2.1
  have hb : componentBytes (newarray.typeOf atype) ≤ 8 := by cases atype <;> decide
  refine va_newaK X.1 X.2.1 (by rw [ht]; exact hts _ hw) rfl d rfl hi hn (Nat.le_trans (Nat.mul_le_mul hs hb) (by decide)) r1 r2 hH.1 fun H1 cA e1 z1 o1 hAr hNm => ?_
  refine w H1 (by rw [z1, hH.1]) (fun q hq => o1 q (by rw [← hH.1]; exact hq)) ?_
  have hra := (hK.2 t _ (xtys_at G (by omega))).2
  have hcA : cA = gA G t := by
    rw [ht] at hNm
    rcases (show t = 0 ∨ t = 1 ∨ t = 2 ∨ t = 3 by omega) with rfl | rfl | rfl | rfl <;> exact Option.some.inj (hNm.symm.trans hra)
  subst hcA
  show H1[gB G + h.1.1]? = some (vp_cell (gA G t) (xa G (xdA t n)))
  rw [e1, ht]
  rcases (show t = 0 ∨ t = 1 ∨ t = 2 ∨ t = 3 by omega) with rfl | rfl | rfl | rfl <;> rfl
theorem go_anewarray {G : xG} {M : xM} {pc pc' : Nat} {L : xL} {S : List Value} {h : xH} {P : Option Value → xH → Prop} {index t n : Nat} {C : String} {i : Int32} (d : decode (xBy M) pc = .ok (.anewarray index, 3)) (e : pc + 3 = pc') (ht : 4 ≤ t ∧ t < 8) (hC : xty t = .object C) (hw : Cond.classLink (xOwn M) index C ∈ xW) (hi : ¬ i < 0) (hn : i.toNatClampNeg = n) (hs : n ≤ 60000) (k : Go G M pc' L (.ref h.1.1 :: S) (xnew h n (.inl (t, xdA t n))) P) : Go G M pc L (.int i :: S) h P := by
  refine k.new (fun p e0 R s m args below meth c H locs cells slots Q ls X hH hS hL r1 r2 w => ?_)
  subst e
  have hK := X.2.2.2.2.2.2.1.1
  have hts := X.2.2.2.2.1
  subst hn
  refine W.anew X.1 X.2.1 X.2.2.2.1 (hts _ hw) (va_AO.use (X.2.2.2.2.2.2.1.2.2.1 t ht.1 ht.2 C hC)) rfl d rfl hi (by omega) r1 r2 fun cA kA comp f1 f2 f3 f4 => ?_
  generalize hH1 : H.push ({ cls := cA, slots := Array.replicate i.toNatClampNeg .null, vm := .none } : Cell) = H1
  have z1 : H1.size = H.size + 1 := by rw [← hH1, Array.size_push]
  have e1 : H1[H.size]? = some (arrV cA i.toNatClampNeg (fun _ => .null)) := by rw [← hH1, Array.getElem?_push_size, ← arrV_new]
  have o1 : ∀ q : Nat, q < H.size → H1[q]? = H[q]? := fun q hq => by rw [← hH1, Array.getElem?_push, if_neg (Nat.ne_of_lt hq)]
  have hra := (hK.2 t _ (xtys_at G ht.2)).2
  rw [hC] at hra
  obtain ⟨kA', comp', -, -, -, k4⟩ := hra
  have hcA : cA = gA G t := Option.some.inj (f1.symm.trans k4)
  subst hcA
  have w' := w H1 z1 o1 (by
    show H1[gB G + h.1.1]? = some (vp_cell (gA G t) (xa G (xdA t i.toNatClampNeg)))
    rw [← hH.1, e1]
    have h2 : ¬ t = 2 := by omega
    have h3 : ¬ t < 4 := by omega
    simp only [xdA, if_neg h2, if_neg h3]
    rfl)
  have hz : xv G (.ref h.1.1) = .ref H.size := by rw [hH.1]; rfl
  rw [List.map_cons, hz] at w'
  exact w'

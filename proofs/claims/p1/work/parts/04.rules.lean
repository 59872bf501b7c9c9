theorem go_iconst {G : xG} {M : xM} {pc pc' : Nat} {L : xL} {S : List Value} {h : xH} {P : Option Value → xH → Prop} {n : Int} {v : Int32} (d : decode (xBy M) pc = .ok (.iconst n, 1)) (e : pc + 1 = pc') (hv : Int32.ofInt n = v) (k : Go G M pc' L (.int v :: S) h P) : Go G M pc L (S) h P :=
  k.go (fun _ _ _ _ _ _ _ _ _ _ _ _ _ _ _ C hH hS hL w => by subst e; exact lv_iconst C.1 C.2.1 d hv (w _ hL))
theorem go_bipush {G : xG} {M : xM} {pc pc' : Nat} {L : xL} {S : List Value} {h : xH} {P : Option Value → xH → Prop} {n : Int} {v : Int32} (d : decode (xBy M) pc = .ok (.bipush n, 2)) (e : pc + 2 = pc') (hv : (Int8.ofInt n).toInt32 = v) (k : Go G M pc' L (.int v :: S) h P) : Go G M pc L (S) h P :=
  k.go (fun _ _ _ _ _ _ _ _ _ _ _ _ _ _ _ C hH hS hL w => by subst e; exact lv_bipush C.1 C.2.1 d hv (w _ hL))
theorem go_sipush {G : xG} {M : xM} {pc pc' : Nat} {L : xL} {S : List Value} {h : xH} {P : Option Value → xH → Prop} {n : Int} {v : Int32} (d : decode (xBy M) pc = .ok (.sipush n, 3)) (e : pc + 3 = pc') (hv : (Int16.ofInt n).toInt32 = v) (k : Go G M pc' L (.int v :: S) h P) : Go G M pc L (S) h P :=
  k.go (fun _ _ _ _ _ _ _ _ _ _ _ _ _ _ _ C hH hS hL w => by subst e; exact lv_sipush C.1 C.2.1 d hv (w _ hL))
theorem go_lconst {G : xG} {M : xM} {pc pc' : Nat} {L : xL} {S : List Value} {h : xH} {P : Option Value → xH → Prop} {n : Fin 2} {v : Int64} (d : decode (xBy M) pc = .ok (.lconst n, 1)) (e : pc + 1 = pc') (hv : Int64.ofNat (n : Nat) = v) (k : Go G M pc' L (.long v :: S) h P) : Go G M pc L (S) h P :=
  k.go (fun _ _ _ _ _ _ _ _ _ _ _ _ _ _ _ C hH hS hL w => by subst e; exact lv_lconst C.1 C.2.1 d hv (w _ hL))
theorem go_iload_n {G : xG} {M : xM} {pc pc' : Nat} {L : xL} {S : List Value} {h : xH} {P : Option Value → xH → Prop} {k0 : Fin 4} {i : Nat} {x : Int32} (d : decode (xBy M) pc = .ok (.iload_n k0, 1)) (e : pc + 1 = pc') (hi : (k0 : Nat) = i) (hl : L[i]? = some (some (.int x))) (k : Go G M pc' L (.int x :: S) h P) : Go G M pc L (S) h P :=
  k.go (fun _ _ _ _ _ _ _ _ _ _ _ _ _ _ _ C hH hS hL w => by subst e; exact lv_iload_n C.1 C.2.1 d hi (hL.at hl) (w _ hL))
theorem go_iload {G : xG} {M : xM} {pc pc' : Nat} {L : xL} {S : List Value} {h : xH} {P : Option Value → xH → Prop} {i : Nat} {x : Int32} (d : decode (xBy M) pc = .ok (.iload i, 2)) (e : pc + 2 = pc') (hl : L[i]? = some (some (.int x))) (k : Go G M pc' L (.int x :: S) h P) : Go G M pc L (S) h P :=
  k.go (fun _ _ _ _ _ _ _ _ _ _ _ _ _ _ _ C hH hS hL w => by subst e; exact lv_iload C.1 C.2.1 d (hL.at hl) (w _ hL))
theorem go_lload_n {G : xG} {M : xM} {pc pc' : Nat} {L : xL} {S : List Value} {h : xH} {P : Option Value → xH → Prop} {k0 : Fin 4} {i : Nat} {x : Int64} (d : decode (xBy M) pc = .ok (.lload_n k0, 1)) (e : pc + 1 = pc') (hi : (k0 : Nat) = i) (hl : L[i]? = some (some (.long x))) (k : Go G M pc' L (.long x :: S) h P) : Go G M pc L (S) h P :=
  k.go (fun _ _ _ _ _ _ _ _ _ _ _ _ _ _ _ C hH hS hL w => by subst e; exact lv_lload_n C.1 C.2.1 d hi (hL.at hl) (w _ hL))
theorem go_lload {G : xG} {M : xM} {pc pc' : Nat} {L : xL} {S : List Value} {h : xH} {P : Option Value → xH → Prop} {i : Nat} {x : Int64} (d : decode (xBy M) pc = .ok (.lload i, 2)) (e : pc + 2 = pc') (hl : L[i]? = some (some (.long x))) (k : Go G M pc' L (.long x :: S) h P) : Go G M pc L (S) h P :=
  k.go (fun _ _ _ _ _ _ _ _ _ _ _ _ _ _ _ C hH hS hL w => by subst e; exact lv_lload C.1 C.2.1 d (hL.at hl) (w _ hL))
theorem go_aload_n {G : xG} {M : xM} {pc pc' : Nat} {L : xL} {S : List Value} {h : xH} {P : Option Value → xH → Prop} {k0 : Fin 4} {i : Nat} {x : Nat} (d : decode (xBy M) pc = .ok (.aload_n k0, 1)) (e : pc + 1 = pc') (hi : (k0 : Nat) = i) (hl : L[i]? = some (some (.ref x))) (k : Go G M pc' L (.ref x :: S) h P) : Go G M pc L (S) h P :=
  k.go (fun _ _ _ _ _ _ _ _ _ _ _ _ _ _ _ C hH hS hL w => by subst e; exact lv_aload_n C.1 C.2.1 d hi (hL.at hl) (w _ hL))
theorem go_aload {G : xG} {M : xM} {pc pc' : Nat} {L : xL} {S : List Value} {h : xH} {P : Option Value → xH → Prop} {i : Nat} {x : Nat} (d : decode (xBy M) pc = .ok (.aload i, 2)) (e : pc + 2 = pc') (hl : L[i]? = some (some (.ref x))) (k : Go G M pc' L (.ref x :: S) h P) : Go G M pc L (S) h P :=
  k.go (fun _ _ _ _ _ _ _ _ _ _ _ _ _ _ _ C hH hS hL w => by subst e; exact lv_aload C.1 C.2.1 d (hL.at hl) (w _ hL))
theorem go_aloadX_n {G : xG} {M : xM} {pc pc' : Nat} {L : xL} {S : List Value} {h : xH} {P : Option Value → xH → Prop} {k0 : Fin 4} {i : Nat} {x : Nat} (d : decode (xBy M) pc = .ok (.aload_n k0, 1)) (e : pc + 1 = pc') (hi : (k0 : Nat) = i) (hl : L[i]? = some (some (.retAddr x))) (k : Go G M pc' L (.retAddr x :: S) h P) : Go G M pc L (S) h P :=
  k.go (fun _ _ _ _ _ _ _ _ _ _ _ _ _ _ _ C hH hS hL w => by subst e; exact lv_aload_n C.1 C.2.1 d hi (hL.at hl) (w _ hL))
theorem go_aloadX {G : xG} {M : xM} {pc pc' : Nat} {L : xL} {S : List Value} {h : xH} {P : Option Value → xH → Prop} {i : Nat} {x : Nat} (d : decode (xBy M) pc = .ok (.aload i, 2)) (e : pc + 2 = pc') (hl : L[i]? = some (some (.retAddr x))) (k : Go G M pc' L (.retAddr x :: S) h P) : Go G M pc L (S) h P :=
  k.go (fun _ _ _ _ _ _ _ _ _ _ _ _ _ _ _ C hH hS hL w => by subst e; exact lv_aload C.1 C.2.1 d (hL.at hl) (w _ hL))
theorem go_aload_nN {G : xG} {M : xM} {pc pc' : Nat} {L : xL} {S : List Value} {h : xH} {P : Option Value → xH → Prop} {k0 : Fin 4} {i : Nat} (d : decode (xBy M) pc = .ok (.aload_n k0, 1)) (e : pc + 1 = pc') (hi : (k0 : Nat) = i) (hl : L[i]? = some (some .null)) (k : Go G M pc' L (.null :: S) h P) : Go G M pc L (S) h P :=
  k.go (fun _ _ _ _ _ _ _ _ _ _ _ _ _ _ _ C hH hS hL w => by subst e; exact lv_aload_nN C.1 C.2.1 d hi (hL.at hl) (w _ hL))
theorem go_aloadN {G : xG} {M : xM} {pc pc' : Nat} {L : xL} {S : List Value} {h : xH} {P : Option Value → xH → Prop} {i : Nat} (d : decode (xBy M) pc = .ok (.aload i, 2)) (e : pc + 2 = pc') (hl : L[i]? = some (some .null)) (k : Go G M pc' L (.null :: S) h P) : Go G M pc L (S) h P :=
  k.go (fun _ _ _ _ _ _ _ _ _ _ _ _ _ _ _ C hH hS hL w => by subst e; exact lv_aloadN C.1 C.2.1 d (hL.at hl) (w _ hL))
theorem go_istore_n {G : xG} {M : xM} {pc pc' : Nat} {L : xL} {S : List Value} {h : xH} {P : Option Value → xH → Prop} {L' : xL} {k0 : Fin 4} {i : Nat} {x : Int32} (d : decode (xBy M) pc = .ok (.istore_n k0, 1)) (e : pc + 1 = pc') (hi : (k0 : Nat) = i) (hn : i < xMl M) (hl : xs1 (.int x) i L = L') (k : Go G M pc' L' S h P) : Go G M pc L (.int x :: S) h P :=
  k.go (fun _ _ _ _ _ _ _ _ _ _ _ _ _ _ _ C hH hS hL w => by subst e; subst hl; exact lv_istore_n C.1 C.2.1 d hi hL hn rfl (fun ls' h' => w ls' (xLs.st1 (v := .int x) h')))
theorem go_istore {G : xG} {M : xM} {pc pc' : Nat} {L : xL} {S : List Value} {h : xH} {P : Option Value → xH → Prop} {L' : xL} {i : Nat} {x : Int32} (d : decode (xBy M) pc = .ok (.istore i, 2)) (e : pc + 2 = pc') (hn : i < xMl M) (hl : xs1 (.int x) i L = L') (k : Go G M pc' L' S h P) : Go G M pc L (.int x :: S) h P :=
  k.go (fun _ _ _ _ _ _ _ _ _ _ _ _ _ _ _ C hH hS hL w => by subst e; subst hl; exact lv_istore C.1 C.2.1 d hL hn rfl (fun ls' h' => w ls' (xLs.st1 (v := .int x) h')))
theorem go_lstore_n {G : xG} {M : xM} {pc pc' : Nat} {L : xL} {S : List Value} {h : xH} {P : Option Value → xH → Prop} {L' : xL} {k0 : Fin 4} {i : Nat} {x : Int64} (d : decode (xBy M) pc = .ok (.lstore_n k0, 1)) (e : pc + 1 = pc') (hi : (k0 : Nat) = i) (hn : i + 1 < xMl M) (hl : xs2 (.long x) i L = L') (k : Go G M pc' L' S h P) : Go G M pc L (.long x :: S) h P :=
  k.go (fun _ _ _ _ _ _ _ _ _ _ _ _ _ _ _ C hH hS hL w => by subst e; subst hl; exact lv_lstore_n C.1 C.2.1 d hi hL hn rfl (fun ls' h' => w ls' (xLs.st2 (v := .long x) h')))
theorem go_lstore {G : xG} {M : xM} {pc pc' : Nat} {L : xL} {S : List Value} {h : xH} {P : Option Value → xH → Prop} {L' : xL} {i : Nat} {x : Int64} (d : decode (xBy M) pc = .ok (.lstore i, 2)) (e : pc + 2 = pc') (hn : i + 1 < xMl M) (hl : xs2 (.long x) i L = L') (k : Go G M pc' L' S h P) : Go G M pc L (.long x :: S) h P :=
  k.go (fun _ _ _ _ _ _ _ _ _ _ _ _ _ _ _ C hH hS hL w => by subst e; subst hl; exact lv_lstore C.1 C.2.1 d hL hn rfl (fun ls' h' => w ls' (xLs.st2 (v := .long x) h')))
theorem go_astore_n {G : xG} {M : xM} {pc pc' : Nat} {L : xL} {S : List Value} {h : xH} {P : Option Value → xH → Prop} {L' : xL} {k0 : Fin 4} {i : Nat} {x : Nat} (d : decode (xBy M) pc = .ok (.astore_n k0, 1)) (e : pc + 1 = pc') (hi : (k0 : Nat) = i) (hn : i < xMl M) (hl : xs1 (.ref x) i L = L') (k : Go G M pc' L' S h P) : Go G M pc L (.ref x :: S) h P :=
  k.go (fun _ _ _ _ _ _ _ _ _ _ _ _ _ _ _ C hH hS hL w => by subst e; subst hl; exact lv_astore_n C.1 C.2.1 d hi hL hn rfl (fun ls' h' => w ls' (xLs.st1 (v := .ref x) h')))
theorem go_astore {G : xG} {M : xM} {pc pc' : Nat} {L : xL} {S : List Value} {h : xH} {P : Option Value → xH → Prop} {L' : xL} {i : Nat} {x : Nat} (d : decode (xBy M) pc = .ok (.astore i, 2)) (e : pc + 2 = pc') (hn : i < xMl M) (hl : xs1 (.ref x) i L = L') (k : Go G M pc' L' S h P) : Go G M pc L (.ref x :: S) h P :=
  k.go (fun _ _ _ _ _ _ _ _ _ _ _ _ _ _ _ C hH hS hL w => by subst e; subst hl; exact lv_astore C.1 C.2.1 d hL hn rfl (fun ls' h' => w ls' (xLs.st1 (v := .ref x) h')))
theorem go_astoreX_n {G : xG} {M : xM} {pc pc' : Nat} {L : xL} {S : List Value} {h : xH} {P : Option Value → xH → Prop} {L' : xL} {k0 : Fin 4} {i : Nat} {x : Nat} (d : decode (xBy M) pc = .ok (.astore_n k0, 1)) (e : pc + 1 = pc') (hi : (k0 : Nat) = i) (hn : i < xMl M) (hl : xs1 (.retAddr x) i L = L') (k : Go G M pc' L' S h P) : Go G M pc L (.retAddr x :: S) h P :=
  k.go (fun _ _ _ _ _ _ _ _ _ _ _ _ _ _ _ C hH hS hL w => by subst e; subst hl; exact lv_astore_n C.1 C.2.1 d hi hL hn rfl (fun ls' h' => w ls' (xLs.st1 (v := .retAddr x) h')))
theorem go_astoreX {G : xG} {M : xM} {pc pc' : Nat} {L : xL} {S : List Value} {h : xH} {P : Option Value → xH → Prop} {L' : xL} {i : Nat} {x : Nat} (d : decode (xBy M) pc = .ok (.astore i, 2)) (e : pc + 2 = pc') (hn : i < xMl M) (hl : xs1 (.retAddr x) i L = L') (k : Go G M pc' L' S h P) : Go G M pc L (.retAddr x :: S) h P :=
  k.go (fun _ _ _ _ _ _ _ _ _ _ _ _ _ _ _ C hH hS hL w => by subst e; subst hl; exact lv_astore C.1 C.2.1 d hL hn rfl (fun ls' h' => w ls' (xLs.st1 (v := .retAddr x) h')))
theorem go_astore_nN {G : xG} {M : xM} {pc pc' : Nat} {L : xL} {S : List Value} {h : xH} {P : Option Value → xH → Prop} {L' : xL} {k0 : Fin 4} {i : Nat} (d : decode (xBy M) pc = .ok (.astore_n k0, 1)) (e : pc + 1 = pc') (hi : (k0 : Nat) = i) (hn : i < xMl M) (hl : xs1 (.null) i L = L') (k : Go G M pc' L' S h P) : Go G M pc L (.null :: S) h P :=
  k.go (fun _ _ _ _ _ _ _ _ _ _ _ _ _ _ _ C hH hS hL w => by subst e; subst hl; exact lv_astore_nN C.1 C.2.1 d hi hL hn rfl (fun ls' h' => w ls' (xLs.st1 (v := .null) h')))
theorem go_astoreN {G : xG} {M : xM} {pc pc' : Nat} {L : xL} {S : List Value} {h : xH} {P : Option Value → xH → Prop} {L' : xL} {i : Nat} (d : decode (xBy M) pc = .ok (.astore i, 2)) (e : pc + 2 = pc') (hn : i < xMl M) (hl : xs1 (.null) i L = L') (k : Go G M pc' L' S h P) : Go G M pc L (.null :: S) h P :=
  k.go (fun _ _ _ _ _ _ _ _ _ _ _ _ _ _ _ C hH hS hL w => by subst e; subst hl; exact lv_astoreN C.1 C.2.1 d hL hn rfl (fun ls' h' => w ls' (xLs.st1 (v := .null) h')))
theorem go_iinc {G : xG} {M : xM} {pc pc' : Nat} {L : xL} {S : List Value} {h : xH} {P : Option Value → xH → Prop} {L' : xL} {i : Nat} {n : Int} {x v : Int32} (d : decode (xBy M) pc = .ok (.iinc i n, 3)) (e : pc + 3 = pc') (hl : L[i]? = some (some (.int x))) (hv : x + Int32.ofInt n = v) (hn : i < xMl M) (hs : xs1 (.int v) i L = L') (k : Go G M pc' L' S h P) : Go G M pc L S h P :=
  k.go (fun _ _ _ _ _ _ _ _ _ _ _ _ _ _ _ C hH hS hL w => by
    subst e; subst hs
    obtain ⟨j, hj⟩ := List.getElem?_of_mem ((xps_mem G L 0 (i, xv G (.int x))).mpr ⟨i, .int x, hl, by simp⟩)
    exact lv_iinc C.1 C.2.1 d hL hj hv hn rfl (fun ls' h' => w ls' (xLs.st1 (v := .int v) h')))
theorem go_iadd {G : xG} {M : xM} {pc pc' : Nat} {L : xL} {S : List Value} {h : xH} {P : Option Value → xH → Prop} {x y : Int32} (d : decode (xBy M) pc = .ok (.iadd, 1)) (e : pc + 1 = pc')  (k : Go G M pc' L (.int (x + y) :: S) h P) : Go G M pc L (.int y :: .int x :: S) h P :=
  k.go (fun _ _ _ _ _ _ _ _ _ _ _ _ _ _ _ C hH hS hL w => by subst e; exact lv_iadd C.1 C.2.1 d  (w _ hL))
theorem go_isub {G : xG} {M : xM} {pc pc' : Nat} {L : xL} {S : List Value} {h : xH} {P : Option Value → xH → Prop} {x y : Int32} (d : decode (xBy M) pc = .ok (.isub, 1)) (e : pc + 1 = pc')  (k : Go G M pc' L (.int (x - y) :: S) h P) : Go G M pc L (.int y :: .int x :: S) h P :=
  k.go (fun _ _ _ _ _ _ _ _ _ _ _ _ _ _ _ C hH hS hL w => by subst e; exact lv_isub C.1 C.2.1 d  (w _ hL))
theorem go_imul {G : xG} {M : xM} {pc pc' : Nat} {L : xL} {S : List Value} {h : xH} {P : Option Value → xH → Prop} {x y : Int32} (d : decode (xBy M) pc = .ok (.imul, 1)) (e : pc + 1 = pc')  (k : Go G M pc' L (.int (x * y) :: S) h P) : Go G M pc L (.int y :: .int x :: S) h P :=
  k.go (fun _ _ _ _ _ _ _ _ _ _ _ _ _ _ _ C hH hS hL w => by subst e; exact lv_imul C.1 C.2.1 d  (w _ hL))
theorem go_iand {G : xG} {M : xM} {pc pc' : Nat} {L : xL} {S : List Value} {h : xH} {P : Option Value → xH → Prop} {x y : Int32} (d : decode (xBy M) pc = .ok (.iand, 1)) (e : pc + 1 = pc')  (k : Go G M pc' L (.int (x &&& y) :: S) h P) : Go G M pc L (.int y :: .int x :: S) h P :=
  k.go (fun _ _ _ _ _ _ _ _ _ _ _ _ _ _ _ C hH hS hL w => by subst e; exact lv_iand C.1 C.2.1 d  (w _ hL))
theorem go_ior {G : xG} {M : xM} {pc pc' : Nat} {L : xL} {S : List Value} {h : xH} {P : Option Value → xH → Prop} {x y : Int32} (d : decode (xBy M) pc = .ok (.ior, 1)) (e : pc + 1 = pc')  (k : Go G M pc' L (.int (x ||| y) :: S) h P) : Go G M pc L (.int y :: .int x :: S) h P :=
  k.go (fun _ _ _ _ _ _ _ _ _ _ _ _ _ _ _ C hH hS hL w => by subst e; exact lv_ior C.1 C.2.1 d  (w _ hL))
theorem go_ixor {G : xG} {M : xM} {pc pc' : Nat} {L : xL} {S : List Value} {h : xH} {P : Option Value → xH → Prop} {x y : Int32} (d : decode (xBy M) pc = .ok (.ixor, 1)) (e : pc + 1 = pc')  (k : Go G M pc' L (.int (x ^^^ y) :: S) h P) : Go G M pc L (.int y :: .int x :: S) h P :=
  k.go (fun _ _ _ _ _ _ _ _ _ _ _ _ _ _ _ C hH hS hL w => by subst e; exact lv_ixor C.1 C.2.1 d  (w _ hL))
theorem go_idiv {G : xG} {M : xM} {pc pc' : Nat} {L : xL} {S : List Value} {h : xH} {P : Option Value → xH → Prop} {x y : Int32} (d : decode (xBy M) pc = .ok (.idiv, 1)) (e : pc + 1 = pc') (hne : ¬ y = 0) (k : Go G M pc' L (.int (x / y) :: S) h P) : Go G M pc L (.int y :: .int x :: S) h P :=
  k.go (fun _ _ _ _ _ _ _ _ _ _ _ _ _ _ _ C hH hS hL w => by subst e; exact lv_idiv C.1 C.2.1 d hne (w _ hL))
theorem go_irem {G : xG} {M : xM} {pc pc' : Nat} {L : xL} {S : List Value} {h : xH} {P : Option Value → xH → Prop} {x y : Int32} (d : decode (xBy M) pc = .ok (.irem, 1)) (e : pc + 1 = pc') (hne : ¬ y = 0) (k : Go G M pc' L (.int (x - x / y * y) :: S) h P) : Go G M pc L (.int y :: .int x :: S) h P :=
  k.go (fun _ _ _ _ _ _ _ _ _ _ _ _ _ _ _ C hH hS hL w => by subst e; exact lv_irem C.1 C.2.1 d hne (w _ hL))
theorem go_ineg {G : xG} {M : xM} {pc pc' : Nat} {L : xL} {S : List Value} {h : xH} {P : Option Value → xH → Prop} {x : Int32} (d : decode (xBy M) pc = .ok (.ineg, 1)) (e : pc + 1 = pc')  (k : Go G M pc' L (.int (-x) :: S) h P) : Go G M pc L (.int x :: S) h P :=
  k.go (fun _ _ _ _ _ _ _ _ _ _ _ _ _ _ _ C hH hS hL w => by subst e; exact lv_ineg C.1 C.2.1 d  (w _ hL))
theorem go_ladd {G : xG} {M : xM} {pc pc' : Nat} {L : xL} {S : List Value} {h : xH} {P : Option Value → xH → Prop} {x y : Int64} (d : decode (xBy M) pc = .ok (.ladd, 1)) (e : pc + 1 = pc')  (k : Go G M pc' L (.long (x + y) :: S) h P) : Go G M pc L (.long y :: .long x :: S) h P :=
  k.go (fun _ _ _ _ _ _ _ _ _ _ _ _ _ _ _ C hH hS hL w => by subst e; exact lv_ladd C.1 C.2.1 d  (w _ hL))
theorem go_lsub {G : xG} {M : xM} {pc pc' : Nat} {L : xL} {S : List Value} {h : xH} {P : Option Value → xH → Prop} {x y : Int64} (d : decode (xBy M) pc = .ok (.lsub, 1)) (e : pc + 1 = pc')  (k : Go G M pc' L (.long (x - y) :: S) h P) : Go G M pc L (.long y :: .long x :: S) h P :=
  k.go (fun _ _ _ _ _ _ _ _ _ _ _ _ _ _ _ C hH hS hL w => by subst e; exact lv_lsub C.1 C.2.1 d  (w _ hL))
theorem go_lmul {G : xG} {M : xM} {pc pc' : Nat} {L : xL} {S : List Value} {h : xH} {P : Option Value → xH → Prop} {x y : Int64} (d : decode (xBy M) pc = .ok (.lmul, 1)) (e : pc + 1 = pc')  (k : Go G M pc' L (.long (x * y) :: S) h P) : Go G M pc L (.long y :: .long x :: S) h P :=
  k.go (fun _ _ _ _ _ _ _ _ _ _ _ _ _ _ _ C hH hS hL w => by subst e; exact lv_lmul C.1 C.2.1 d  (w _ hL))
theorem go_land {G : xG} {M : xM} {pc pc' : Nat} {L : xL} {S : List Value} {h : xH} {P : Option Value → xH → Prop} {x y : Int64} (d : decode (xBy M) pc = .ok (.land, 1)) (e : pc + 1 = pc')  (k : Go G M pc' L (.long (x &&& y) :: S) h P) : Go G M pc L (.long y :: .long x :: S) h P :=
  k.go (fun _ _ _ _ _ _ _ _ _ _ _ _ _ _ _ C hH hS hL w => by subst e; exact lv_land C.1 C.2.1 d  (w _ hL))
theorem go_lor {G : xG} {M : xM} {pc pc' : Nat} {L : xL} {S : List Value} {h : xH} {P : Option Value → xH → Prop} {x y : Int64} (d : decode (xBy M) pc = .ok (.lor, 1)) (e : pc + 1 = pc')  (k : Go G M pc' L (.long (x ||| y) :: S) h P) : Go G M pc L (.long y :: .long x :: S) h P :=
  k.go (fun _ _ _ _ _ _ _ _ _ _ _ _ _ _ _ C hH hS hL w => by subst e; exact lv_lor C.1 C.2.1 d  (w _ hL))
theorem go_lxor {G : xG} {M : xM} {pc pc' : Nat} {L : xL} {S : List Value} {h : xH} {P : Option Value → xH → Prop} {x y : Int64} (d : decode (xBy M) pc = .ok (.lxor, 1)) (e : pc + 1 = pc')  (k : Go G M pc' L (.long (x ^^^ y) :: S) h P) : Go G M pc L (.long y :: .long x :: S) h P :=
  k.go (fun _ _ _ _ _ _ _ _ _ _ _ _ _ _ _ C hH hS hL w => by subst e; exact lv_lxor C.1 C.2.1 d  (w _ hL))
theorem go_ldiv {G : xG} {M : xM} {pc pc' : Nat} {L : xL} {S : List Value} {h : xH} {P : Option Value → xH → Prop} {x y : Int64} (d : decode (xBy M) pc = .ok (.ldiv, 1)) (e : pc + 1 = pc') (hne : ¬ y = 0) (k : Go G M pc' L (.long (x / y) :: S) h P) : Go G M pc L (.long y :: .long x :: S) h P :=
  k.go (fun _ _ _ _ _ _ _ _ _ _ _ _ _ _ _ C hH hS hL w => by subst e; exact lv_ldiv C.1 C.2.1 d hne (w _ hL))
theorem go_lrem {G : xG} {M : xM} {pc pc' : Nat} {L : xL} {S : List Value} {h : xH} {P : Option Value → xH → Prop} {x y : Int64} (d : decode (xBy M) pc = .ok (.lrem, 1)) (e : pc + 1 = pc') (hne : ¬ y = 0) (k : Go G M pc' L (.long (x - x / y * y) :: S) h P) : Go G M pc L (.long y :: .long x :: S) h P :=
  k.go (fun _ _ _ _ _ _ _ _ _ _ _ _ _ _ _ C hH hS hL w => by subst e; exact lv_lrem C.1 C.2.1 d hne (w _ hL))
theorem go_lneg {G : xG} {M : xM} {pc pc' : Nat} {L : xL} {S : List Value} {h : xH} {P : Option Value → xH → Prop} {x : Int64} (d : decode (xBy M) pc = .ok (.lneg, 1)) (e : pc + 1 = pc')  (k : Go G M pc' L (.long (-x) :: S) h P) : Go G M pc L (.long x :: S) h P :=
  k.go (fun _ _ _ _ _ _ _ _ _ _ _ _ _ _ _ C hH hS hL w => by subst e; exact lv_lneg C.1 C.2.1 d  (w _ hL))
theorem go_ishl {G : xG} {M : xM} {pc pc' : Nat} {L : xL} {S : List Value} {h : xH} {P : Option Value → xH → Prop} {x y : Int32} (d : decode (xBy M) pc = .ok (.ishl, 1)) (e : pc + 1 = pc')  (k : Go G M pc' L (.int (x <<< (y &&& 31)) :: S) h P) : Go G M pc L (.int y :: .int x :: S) h P :=
  k.go (fun _ _ _ _ _ _ _ _ _ _ _ _ _ _ _ C hH hS hL w => by subst e; exact lv_ishl C.1 C.2.1 d  (w _ hL))
theorem go_ishr {G : xG} {M : xM} {pc pc' : Nat} {L : xL} {S : List Value} {h : xH} {P : Option Value → xH → Prop} {x y : Int32} (d : decode (xBy M) pc = .ok (.ishr, 1)) (e : pc + 1 = pc')  (k : Go G M pc' L (.int (x >>> (y &&& 31)) :: S) h P) : Go G M pc L (.int y :: .int x :: S) h P :=
  k.go (fun _ _ _ _ _ _ _ _ _ _ _ _ _ _ _ C hH hS hL w => by subst e; exact lv_ishr C.1 C.2.1 d  (w _ hL))
theorem go_iushr {G : xG} {M : xM} {pc pc' : Nat} {L : xL} {S : List Value} {h : xH} {P : Option Value → xH → Prop} {x y v : Int32} (d : decode (xBy M) pc = .ok (.iushr, 1)) (e : pc + 1 = pc') (hv : (x.toUInt32 >>> (y.toUInt32 &&& Int32.toUInt32 31)).toInt32 = v) (k : Go G M pc' L (.int v :: S) h P) : Go G M pc L (.int y :: .int x :: S) h P :=
  k.go (fun _ _ _ _ _ _ _ _ _ _ _ _ _ _ _ C hH hS hL w => by subst e; exact lv_iushr C.1 C.2.1 d hv (w _ hL))
theorem go_lushr {G : xG} {M : xM} {pc pc' : Nat} {L : xL} {S : List Value} {h : xH} {P : Option Value → xH → Prop} {x v : Int64} {y : Int32} (d : decode (xBy M) pc = .ok (.lushr, 1)) (e : pc + 1 = pc') (hv : (x.toUInt64 >>> (y.toInt64.toUInt64 &&& Int64.toUInt64 63)).toInt64 = v) (k : Go G M pc' L (.long v :: S) h P) : Go G M pc L (.int y :: .long x :: S) h P :=
  k.go (fun _ _ _ _ _ _ _ _ _ _ _ _ _ _ _ C hH hS hL w => by subst e; exact lv_lushr C.1 C.2.1 d hv (w _ hL))
theorem go_lshl {G : xG} {M : xM} {pc pc' : Nat} {L : xL} {S : List Value} {h : xH} {P : Option Value → xH → Prop} {x v : Int64} {y : Int32} (d : decode (xBy M) pc = .ok (.lshl, 1)) (e : pc + 1 = pc') (hv : x <<< (y.toInt64 &&& 63) = v) (k : Go G M pc' L (.long v :: S) h P) : Go G M pc L (.int y :: .long x :: S) h P :=
  k.go (fun _ _ _ _ _ _ _ _ _ _ _ _ _ _ _ C hH hS hL w => by subst e; exact lv_lshl C.1 C.2.1 d hv (w _ hL))
theorem go_lshr {G : xG} {M : xM} {pc pc' : Nat} {L : xL} {S : List Value} {h : xH} {P : Option Value → xH → Prop} {x v : Int64} {y : Int32} (d : decode (xBy M) pc = .ok (.lshr, 1)) (e : pc + 1 = pc') (hv : x >>> (y.toInt64 &&& 63) = v) (k : Go G M pc' L (.long v :: S) h P) : Go G M pc L (.int y :: .long x :: S) h P :=
  k.go (fun _ _ _ _ _ _ _ _ _ _ _ _ _ _ _ C hH hS hL w => by subst e; exact lv_lshr C.1 C.2.1 d hv (w _ hL))
theorem go_i2l {G : xG} {M : xM} {pc pc' : Nat} {L : xL} {S : List Value} {h : xH} {P : Option Value → xH → Prop} {x : Int32} {v : Int64} (d : decode (xBy M) pc = .ok (.i2l, 1)) (e : pc + 1 = pc') (hv : x.toInt64 = v) (k : Go G M pc' L (.long v :: S) h P) : Go G M pc L (.int x :: S) h P :=
  k.go (fun _ _ _ _ _ _ _ _ _ _ _ _ _ _ _ C hH hS hL w => by subst e; exact lv_i2l C.1 C.2.1 d hv (w _ hL))
theorem go_l2i {G : xG} {M : xM} {pc pc' : Nat} {L : xL} {S : List Value} {h : xH} {P : Option Value → xH → Prop} {x : Int64} {v : Int32} (d : decode (xBy M) pc = .ok (.l2i, 1)) (e : pc + 1 = pc') (hv : x.toInt32 = v) (k : Go G M pc' L (.int v :: S) h P) : Go G M pc L (.long x :: S) h P :=
  k.go (fun _ _ _ _ _ _ _ _ _ _ _ _ _ _ _ C hH hS hL w => by subst e; exact lv_l2i C.1 C.2.1 d hv (w _ hL))
theorem go_i2b {G : xG} {M : xM} {pc pc' : Nat} {L : xL} {S : List Value} {h : xH} {P : Option Value → xH → Prop} {x v : Int32} (d : decode (xBy M) pc = .ok (.i2b, 1)) (e : pc + 1 = pc') (hv : x.toInt8.toInt32 = v) (k : Go G M pc' L (.int v :: S) h P) : Go G M pc L (.int x :: S) h P :=
  k.go (fun _ _ _ _ _ _ _ _ _ _ _ _ _ _ _ C hH hS hL w => by subst e; exact lv_i2b C.1 C.2.1 d hv (w _ hL))
theorem go_i2c {G : xG} {M : xM} {pc pc' : Nat} {L : xL} {S : List Value} {h : xH} {P : Option Value → xH → Prop} {x v : Int32} (d : decode (xBy M) pc = .ok (.i2c, 1)) (e : pc + 1 = pc') (hv : (x.toUInt32 % 65536).toInt32 = v) (k : Go G M pc' L (.int v :: S) h P) : Go G M pc L (.int x :: S) h P :=
  k.go (fun _ _ _ _ _ _ _ _ _ _ _ _ _ _ _ C hH hS hL w => by subst e; exact lv_i2c C.1 C.2.1 d hv (w _ hL))
theorem go_lcmp {G : xG} {M : xM} {pc pc' : Nat} {L : xL} {S : List Value} {h : xH} {P : Option Value → xH → Prop} {x y : Int64} (d : decode (xBy M) pc = .ok (.lcmp, 1)) (e : pc + 1 = pc')  (k : Go G M pc' L (.int (lg_cmp x y) :: S) h P) : Go G M pc L (.long y :: .long x :: S) h P :=
  k.go (fun _ _ _ _ _ _ _ _ _ _ _ _ _ _ _ C hH hS hL w => by subst e; exact W.lcmp C.1 C.2.1 d  (w _ hL))
theorem go_null {G : xG} {M : xM} {pc pc' : Nat} {L : xL} {S : List Value} {h : xH} {P : Option Value → xH → Prop}  (d : decode (xBy M) pc = .ok (.aconst_null, 1)) (e : pc + 1 = pc')  (k : Go G M pc' L (.null :: S) h P) : Go G M pc L (S) h P :=
  k.go (fun _ _ _ _ _ _ _ _ _ _ _ _ _ _ _ C hH hS hL w => by subst e; exact lv_null C.1 C.2.1 d  (w _ hL))
theorem go_dup {G : xG} {M : xM} {pc pc' : Nat} {L : xL} {S : List Value} {h : xH} {P : Option Value → xH → Prop} {a : Value} (d : decode (xBy M) pc = .ok (.dup, 1)) (e : pc + 1 = pc') (hc : a.category = 1) (k : Go G M pc' L (a :: a :: S) h P) : Go G M pc L (a :: S) h P :=
  k.go (fun _ _ _ _ _ _ _ _ _ _ _ _ _ _ _ C hH hS hL w => by subst e; exact lv_dup C.1 C.2.1 d ((xv_cat G a).trans hc) (w _ hL))
theorem go_pop {G : xG} {M : xM} {pc pc' : Nat} {L : xL} {S : List Value} {h : xH} {P : Option Value → xH → Prop} {a : Value} (d : decode (xBy M) pc = .ok (.pop, 1)) (e : pc + 1 = pc') (hc : a.category = 1) (k : Go G M pc' L (S) h P) : Go G M pc L (a :: S) h P :=
  k.go (fun _ _ _ _ _ _ _ _ _ _ _ _ _ _ _ C hH hS hL w => by subst e; exact lv_pop C.1 C.2.1 d ((xv_cat G a).trans hc) (w _ hL))
theorem go_dup_x1 {G : xG} {M : xM} {pc pc' : Nat} {L : xL} {S : List Value} {h : xH} {P : Option Value → xH → Prop} {a b : Value} (d : decode (xBy M) pc = .ok (.dup_x1, 1)) (e : pc + 1 = pc') (hc : a.category = 1) (hc2 : b.category = 1) (k : Go G M pc' L (a :: b :: a :: S) h P) : Go G M pc L (a :: b :: S) h P :=
  k.go (fun _ _ _ _ _ _ _ _ _ _ _ _ _ _ _ C hH hS hL w => by subst e; exact lv_dup_x1 C.1 C.2.1 d ((xv_cat G a).trans hc) ((xv_cat G b).trans hc2) (w _ hL))
theorem go_dup2_11 {G : xG} {M : xM} {pc pc' : Nat} {L : xL} {S : List Value} {h : xH} {P : Option Value → xH → Prop} {a b : Value} (d : decode (xBy M) pc = .ok (.dup2, 1)) (e : pc + 1 = pc') (hc : a.category = 1) (hc2 : b.category = 1) (k : Go G M pc' L (a :: b :: a :: b :: S) h P) : Go G M pc L (a :: b :: S) h P :=
  k.go (fun _ _ _ _ _ _ _ _ _ _ _ _ _ _ _ C hH hS hL w => by subst e; exact lv_dup2_11 C.1 C.2.1 d ((xv_cat G a).trans hc) ((xv_cat G b).trans hc2) (w _ hL))
theorem go_if_eq {G : xG} {M : xM} {pc pc' : Nat} {L : xL} {S : List Value} {h : xH} {P : Option Value → xH → Prop} {x : Int32} {off : Int} {tgt : Nat} (d : decode (xBy M) pc = .ok (.ifCond .eq off, 3)) (ht : (pc : Int) + off = (tgt : Int)) (e : pc + 3 = pc') (kt : (x = 0) → Go G M tgt L S h P) (kf : ¬ (x = 0) → Go G M pc' L S h P) : Go G M pc L (.int x :: S) h P := by
  subst e
  by_cases hx : (x = 0)
  · exact (kt hx).go (fun _ _ _ _ _ _ _ _ _ _ _ _ _ _ _ C hH hS hL w => lv_if_eq C.1 C.2.1 d ht (fun _ => w _ hL) (fun n => absurd hx n))
  · exact (kf hx).go (fun _ _ _ _ _ _ _ _ _ _ _ _ _ _ _ C hH hS hL w => lv_if_eq C.1 C.2.1 d ht (fun n => absurd n hx) (fun _ => w _ hL))
theorem go_icmp_eq {G : xG} {M : xM} {pc pc' : Nat} {L : xL} {S : List Value} {h : xH} {P : Option Value → xH → Prop} {x y : Int32} {off : Int} {tgt : Nat} (d : decode (xBy M) pc = .ok (.if_icmp .eq off, 3)) (ht : (pc : Int) + off = (tgt : Int)) (e : pc + 3 = pc') (kt : (x = y) → Go G M tgt L S h P) (kf : ¬ (x = y) → Go G M pc' L S h P) : Go G M pc L (.int y :: .int x :: S) h P := by
  subst e
  by_cases hx : (x = y)
  · exact (kt hx).go (fun _ _ _ _ _ _ _ _ _ _ _ _ _ _ _ C hH hS hL w => lv_icmp_eq C.1 C.2.1 d ht (fun _ => w _ hL) (fun n => absurd hx n))
  · exact (kf hx).go (fun _ _ _ _ _ _ _ _ _ _ _ _ _ _ _ C hH hS hL w => lv_icmp_eq C.1 C.2.1 d ht (fun n => absurd n hx) (fun _ => w _ hL))
theorem go_if_lt {G : xG} {M : xM} {pc pc' : Nat} {L : xL} {S : List Value} {h : xH} {P : Option Value → xH → Prop} {x : Int32} {off : Int} {tgt : Nat} (d : decode (xBy M) pc = .ok (.ifCond .lt off, 3)) (ht : (pc : Int) + off = (tgt : Int)) (e : pc + 3 = pc') (kt : (x < 0) → Go G M tgt L S h P) (kf : ¬ (x < 0) → Go G M pc' L S h P) : Go G M pc L (.int x :: S) h P := by
  subst e
  by_cases hx : (x < 0)
  · exact (kt hx).go (fun _ _ _ _ _ _ _ _ _ _ _ _ _ _ _ C hH hS hL w => lv_if_lt C.1 C.2.1 d ht (fun _ => w _ hL) (fun n => absurd hx n))
  · exact (kf hx).go (fun _ _ _ _ _ _ _ _ _ _ _ _ _ _ _ C hH hS hL w => lv_if_lt C.1 C.2.1 d ht (fun n => absurd n hx) (fun _ => w _ hL))
theorem go_icmp_lt {G : xG} {M : xM} {pc pc' : Nat} {L : xL} {S : List Value} {h : xH} {P : Option Value → xH → Prop} {x y : Int32} {off : Int} {tgt : Nat} (d : decode (xBy M) pc = .ok (.if_icmp .lt off, 3)) (ht : (pc : Int) + off = (tgt : Int)) (e : pc + 3 = pc') (kt : (x < y) → Go G M tgt L S h P) (kf : ¬ (x < y) → Go G M pc' L S h P) : Go G M pc L (.int y :: .int x :: S) h P := by
  subst e
  by_cases hx : (x < y)
  · exact (kt hx).go (fun _ _ _ _ _ _ _ _ _ _ _ _ _ _ _ C hH hS hL w => lv_icmp_lt C.1 C.2.1 d ht (fun _ => w _ hL) (fun n => absurd hx n))
  · exact (kf hx).go (fun _ _ _ _ _ _ _ _ _ _ _ _ _ _ _ C hH hS hL w => lv_icmp_lt C.1 C.2.1 d ht (fun n => absurd n hx) (fun _ => w _ hL))
theorem go_if_ge {G : xG} {M : xM} {pc pc' : Nat} {L : xL} {S : List Value} {h : xH} {P : Option Value → xH → Prop} {x : Int32} {off : Int} {tgt : Nat} (d : decode (xBy M) pc = .ok (.ifCond .ge off, 3)) (ht : (pc : Int) + off = (tgt : Int)) (e : pc + 3 = pc') (kt : (0 ≤ x) → Go G M tgt L S h P) (kf : ¬ (0 ≤ x) → Go G M pc' L S h P) : Go G M pc L (.int x :: S) h P := by
  subst e
  by_cases hx : (0 ≤ x)
  · exact (kt hx).go (fun _ _ _ _ _ _ _ _ _ _ _ _ _ _ _ C hH hS hL w => lv_if_ge C.1 C.2.1 d ht (fun _ => w _ hL) (fun n => absurd hx n))
  · exact (kf hx).go (fun _ _ _ _ _ _ _ _ _ _ _ _ _ _ _ C hH hS hL w => lv_if_ge C.1 C.2.1 d ht (fun n => absurd n hx) (fun _ => w _ hL))
theorem go_icmp_ge {G : xG} {M : xM} {pc pc' : Nat} {L : xL} {S : List Value} {h : xH} {P : Option Value → xH → Prop} {x y : Int32} {off : Int} {tgt : Nat} (d : decode (xBy M) pc = .ok (.if_icmp .ge off, 3)) (ht : (pc : Int) + off = (tgt : Int)) (e : pc + 3 = pc') (kt : (y ≤ x) → Go G M tgt L S h P) (kf : ¬ (y ≤ x) → Go G M pc' L S h P) : Go G M pc L (.int y :: .int x :: S) h P := by
  subst e
  by_cases hx : (y ≤ x)
  · exact (kt hx).go (fun _ _ _ _ _ _ _ _ _ _ _ _ _ _ _ C hH hS hL w => lv_icmp_ge C.1 C.2.1 d ht (fun _ => w _ hL) (fun n => absurd hx n))
  · exact (kf hx).go (fun _ _ _ _ _ _ _ _ _ _ _ _ _ _ _ C hH hS hL w => lv_icmp_ge C.1 C.2.1 d ht (fun n => absurd n hx) (fun _ => w _ hL))
theorem go_if_gt {G : xG} {M : xM} {pc pc' : Nat} {L : xL} {S : List Value} {h : xH} {P : Option Value → xH → Prop} {x : Int32} {off : Int} {tgt : Nat} (d : decode (xBy M) pc = .ok (.ifCond .gt off, 3)) (ht : (pc : Int) + off = (tgt : Int)) (e : pc + 3 = pc') (kt : (0 < x) → Go G M tgt L S h P) (kf : ¬ (0 < x) → Go G M pc' L S h P) : Go G M pc L (.int x :: S) h P := by
  subst e
  by_cases hx : (0 < x)
  · exact (kt hx).go (fun _ _ _ _ _ _ _ _ _ _ _ _ _ _ _ C hH hS hL w => lv_if_gt C.1 C.2.1 d ht (fun _ => w _ hL) (fun n => absurd hx n))
  · exact (kf hx).go (fun _ _ _ _ _ _ _ _ _ _ _ _ _ _ _ C hH hS hL w => lv_if_gt C.1 C.2.1 d ht (fun n => absurd n hx) (fun _ => w _ hL))
theorem go_icmp_gt {G : xG} {M : xM} {pc pc' : Nat} {L : xL} {S : List Value} {h : xH} {P : Option Value → xH → Prop} {x y : Int32} {off : Int} {tgt : Nat} (d : decode (xBy M) pc = .ok (.if_icmp .gt off, 3)) (ht : (pc : Int) + off = (tgt : Int)) (e : pc + 3 = pc') (kt : (y < x) → Go G M tgt L S h P) (kf : ¬ (y < x) → Go G M pc' L S h P) : Go G M pc L (.int y :: .int x :: S) h P := by
  subst e
  by_cases hx : (y < x)
  · exact (kt hx).go (fun _ _ _ _ _ _ _ _ _ _ _ _ _ _ _ C hH hS hL w => lv_icmp_gt C.1 C.2.1 d ht (fun _ => w _ hL) (fun n => absurd hx n))
  · exact (kf hx).go (fun _ _ _ _ _ _ _ _ _ _ _ _ _ _ _ C hH hS hL w => lv_icmp_gt C.1 C.2.1 d ht (fun n => absurd n hx) (fun _ => w _ hL))
theorem go_if_le {G : xG} {M : xM} {pc pc' : Nat} {L : xL} {S : List Value} {h : xH} {P : Option Value → xH → Prop} {x : Int32} {off : Int} {tgt : Nat} (d : decode (xBy M) pc = .ok (.ifCond .le off, 3)) (ht : (pc : Int) + off = (tgt : Int)) (e : pc + 3 = pc') (kt : (x ≤ 0) → Go G M tgt L S h P) (kf : ¬ (x ≤ 0) → Go G M pc' L S h P) : Go G M pc L (.int x :: S) h P := by
  subst e
  by_cases hx : (x ≤ 0)
  · exact (kt hx).go (fun _ _ _ _ _ _ _ _ _ _ _ _ _ _ _ C hH hS hL w => lv_if_le C.1 C.2.1 d ht (fun _ => w _ hL) (fun n => absurd hx n))
  · exact (kf hx).go (fun _ _ _ _ _ _ _ _ _ _ _ _ _ _ _ C hH hS hL w => lv_if_le C.1 C.2.1 d ht (fun n => absurd n hx) (fun _ => w _ hL))
theorem go_icmp_le {G : xG} {M : xM} {pc pc' : Nat} {L : xL} {S : List Value} {h : xH} {P : Option Value → xH → Prop} {x y : Int32} {off : Int} {tgt : Nat} (d : decode (xBy M) pc = .ok (.if_icmp .le off, 3)) (ht : (pc : Int) + off = (tgt : Int)) (e : pc + 3 = pc') (kt : (x ≤ y) → Go G M tgt L S h P) (kf : ¬ (x ≤ y) → Go G M pc' L S h P) : Go G M pc L (.int y :: .int x :: S) h P := by
  subst e
  by_cases hx : (x ≤ y)
  · exact (kt hx).go (fun _ _ _ _ _ _ _ _ _ _ _ _ _ _ _ C hH hS hL w => lv_icmp_le C.1 C.2.1 d ht (fun _ => w _ hL) (fun n => absurd hx n))
  · exact (kf hx).go (fun _ _ _ _ _ _ _ _ _ _ _ _ _ _ _ C hH hS hL w => lv_icmp_le C.1 C.2.1 d ht (fun n => absurd n hx) (fun _ => w _ hL))
theorem go_if_ne {G : xG} {M : xM} {pc pc' : Nat} {L : xL} {S : List Value} {h : xH} {P : Option Value → xH → Prop} {x : Int32} {off : Int} {tgt : Nat} (d : decode (xBy M) pc = .ok (.ifCond .ne off, 3)) (ht : (pc : Int) + off = (tgt : Int)) (e : pc + 3 = pc') (kt : ¬ (x = 0) → Go G M tgt L S h P) (kf : (x = 0) → Go G M pc' L S h P) : Go G M pc L (.int x :: S) h P := by
  subst e
  by_cases hx : x = 0
  · exact (kf hx).go (fun _ _ _ _ _ _ _ _ _ _ _ _ _ _ _ C hH hS hL w => lv_if_ne C.1 C.2.1 d ht (fun n => absurd hx n) (fun _ => w _ hL))
  · exact (kt hx).go (fun _ _ _ _ _ _ _ _ _ _ _ _ _ _ _ C hH hS hL w => lv_if_ne C.1 C.2.1 d ht (fun _ => w _ hL) (fun n => absurd n hx))
theorem go_icmp_ne {G : xG} {M : xM} {pc pc' : Nat} {L : xL} {S : List Value} {h : xH} {P : Option Value → xH → Prop} {x y : Int32} {off : Int} {tgt : Nat} (d : decode (xBy M) pc = .ok (.if_icmp .ne off, 3)) (ht : (pc : Int) + off = (tgt : Int)) (e : pc + 3 = pc') (kt : ¬ (x = y) → Go G M tgt L S h P) (kf : (x = y) → Go G M pc' L S h P) : Go G M pc L (.int y :: .int x :: S) h P := by
  subst e
  by_cases hx : x = y
  · exact (kf hx).go (fun _ _ _ _ _ _ _ _ _ _ _ _ _ _ _ C hH hS hL w => lv_icmp_ne C.1 C.2.1 d ht (fun n => absurd hx n) (fun _ => w _ hL))
  · exact (kt hx).go (fun _ _ _ _ _ _ _ _ _ _ _ _ _ _ _ C hH hS hL w => lv_icmp_ne C.1 C.2.1 d ht (fun _ => w _ hL) (fun n => absurd n hx))
theorem go_goto {G : xG} {M : xM} {pc pc' : Nat} {L : xL} {S : List Value} {h : xH} {P : Option Value → xH → Prop} {off : Int} {tgt : Nat} (d : decode (xBy M) pc = .ok (.goto off, 3)) (ht : (pc : Int) + off = (tgt : Int)) (k : Go G M tgt L S h P) : Go G M pc L S h P :=
  k.go (fun _ _ _ _ _ _ _ _ _ _ _ _ _ _ _ C hH hS hL w => lv_goto C.1 C.2.1 d ht (w _ hL))
theorem go_tableIn {G : xG} {M : xM} {pc pc' : Nat} {L : xL} {S : List Value} {h : xH} {P : Option Value → xH → Prop} {dflt lo hi : Int} {offs : Array Int} {len : Nat} {x : Int32} {off : Int} {tgt : Nat} (d : decode (xBy M) pc = .ok (.tableswitch dflt lo hi offs, len)) (h1 : ¬ x.toInt < lo) (h2 : ¬ hi < x.toInt) (ho : offs[(x.toInt - lo).toNat]? = some off) (ht : (pc : Int) + off = (tgt : Int)) (k : Go G M tgt L S h P) : Go G M pc L (.int x :: S) h P :=
  k.go (fun _ _ _ _ _ _ _ _ _ _ _ _ _ _ _ C hH hS hL w => lv_tableIn C.1 C.2.1 d h1 h2 ho ht (w _ hL))
theorem go_tableOut {G : xG} {M : xM} {pc pc' : Nat} {L : xL} {S : List Value} {h : xH} {P : Option Value → xH → Prop} {dflt lo hi : Int} {offs : Array Int} {len : Nat} {x : Int32} {tgt : Nat} (d : decode (xBy M) pc = .ok (.tableswitch dflt lo hi offs, len)) (h1 : x.toInt < lo ∨ hi < x.toInt) (ht : (pc : Int) + dflt = (tgt : Int)) (k : Go G M tgt L S h P) : Go G M pc L (.int x :: S) h P :=
  k.go (fun _ _ _ _ _ _ _ _ _ _ _ _ _ _ _ C hH hS hL w => lv_tableOut C.1 C.2.1 d h1 ht (w _ hL))
theorem go_ifnull {G : xG} {M : xM} {pc pc' : Nat} {L : xL} {S : List Value} {h : xH} {P : Option Value → xH → Prop} {a : Nat} {off : Int} (d : decode (xBy M) pc = .ok (.ifnull off, 3)) (e : pc + 3 = pc') (k : Go G M pc' L S h P) : Go G M pc L (.ref a :: S) h P :=
  k.go (fun _ _ _ _ _ _ _ _ _ _ _ _ _ _ _ C hH hS hL w => by subst e; exact lv_ifnull C.1 C.2.1 d (w _ hL))
theorem go_ifnullN {G : xG} {M : xM} {pc pc' : Nat} {L : xL} {S : List Value} {h : xH} {P : Option Value → xH → Prop} {off : Int} {tgt : Nat} (d : decode (xBy M) pc = .ok (.ifnull off, 3)) (ht : (pc : Int) + off = (tgt : Int)) (k : Go G M tgt L S h P) : Go G M pc L (.null :: S) h P :=
  k.go (fun _ _ _ _ _ _ _ _ _ _ _ _ _ _ _ C hH hS hL w => lv_ifnullN C.1 C.2.1 d ht (w _ hL))
theorem go_ifnonnull {G : xG} {M : xM} {pc pc' : Nat} {L : xL} {S : List Value} {h : xH} {P : Option Value → xH → Prop} {a : Nat} {off : Int} {tgt : Nat} (d : decode (xBy M) pc = .ok (.ifnonnull off, 3)) (ht : (pc : Int) + off = (tgt : Int)) (k : Go G M tgt L S h P) : Go G M pc L (.ref a :: S) h P :=
  k.go (fun _ _ _ _ _ _ _ _ _ _ _ _ _ _ _ C hH hS hL w => lv_ifnonnull C.1 C.2.1 d ht (w _ hL))
theorem go_ifnonnullN {G : xG} {M : xM} {pc pc' : Nat} {L : xL} {S : List Value} {h : xH} {P : Option Value → xH → Prop} {off : Int} (d : decode (xBy M) pc = .ok (.ifnonnull off, 3)) (e : pc + 3 = pc') (k : Go G M pc' L S h P) : Go G M pc L (.null :: S) h P :=
  k.go (fun _ _ _ _ _ _ _ _ _ _ _ _ _ _ _ C hH hS hL w => by subst e; exact lv_ifnonnullN C.1 C.2.1 d (w _ hL))
theorem go_ldc {G : xG} {M : xM} {pc pc' : Nat} {L : xL} {S : List Value} {h : xH} {P : Option Value → xH → Prop} {index : Nat} {v : Int32} (d : decode (xBy M) pc = .ok (.ldc index, 2)) (e : pc + 2 = pc') (hw : Cond.constant (xOwn M) index v ∈ xW) (k : Go G M pc' L (.int v :: S) h P) : Go G M pc L S h P :=
  k.go (fun _ _ _ _ _ _ _ _ _ _ _ _ _ _ _ C hH hS hL w => by subst e; exact lv_ldc C.1 C.2.1 C.2.2.2.1 (C.2.2.2.2.1 _ hw) d (w _ hL))
theorem go_ldcw {G : xG} {M : xM} {pc pc' : Nat} {L : xL} {S : List Value} {h : xH} {P : Option Value → xH → Prop} {index : Nat} {v : Int32} (d : decode (xBy M) pc = .ok (.ldc_w index, 3)) (e : pc + 3 = pc') (hw : Cond.constant (xOwn M) index v ∈ xW) (k : Go G M pc' L (.int v :: S) h P) : Go G M pc L S h P :=
  k.go (fun _ _ _ _ _ _ _ _ _ _ _ _ _ _ _ C hH hS hL w => by subst e; exact lv_ldcw C.1 C.2.1 C.2.2.2.1 (C.2.2.2.2.1 _ hw) d (w _ hL))
theorem go_ldc2 {G : xG} {M : xM} {pc pc' : Nat} {L : xL} {S : List Value} {h : xH} {P : Option Value → xH → Prop} {index : Nat} {v : Int64} (d : decode (xBy M) pc = .ok (.ldc2_w index, 3)) (e : pc + 3 = pc') (hw : Cond.constantLong (xOwn M) index v ∈ xW) (k : Go G M pc' L (.long v :: S) h P) : Go G M pc L S h P :=
  k.go (fun _ _ _ _ _ _ _ _ _ _ _ _ _ _ _ C hH hS hL w => by subst e; exact lv_ldc2 C.1 C.2.1 C.2.2.2.1 (C.2.2.2.2.1 _ hw) d (w _ hL))
theorem go_ldcS {G : xG} {M : xM} {pc pc' : Nat} {L : xL} {S : List Value} {h : xH} {P : Option Value → xH → Prop} {index j : Nat} {tx : String} (d : decode (xBy M) pc = .ok (.ldc index, 2)) (e : pc + 2 = pc') (hq : xTx[j]? = some (xOwn M, index, tx)) (k : Go G M pc' L (.retAddr j :: S) h P) : Go G M pc L S h P :=
  k.go (fun _ _ _ _ _ _ _ _ _ _ _ _ _ _ _ C hH hS hL w => by subst e; exact va_ldcS C.1 C.2.1 C.2.2.2.1 (C.2.2.2.2.2.2.1.2.2.2.1.1 j _ hq).1 d (w _ hL))

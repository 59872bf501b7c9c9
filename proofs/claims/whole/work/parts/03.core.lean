/-! THE ABSTRACT MACHINE: an object heap of our own over the kit's rows. A method is M = (its name, code, locals, answer's type, level). Ev G M pc L S h v h': from the frame of M at pc with locals L and stack S over the heap h the method ends, answers v and leaves h'. -/
abbrev xM : Type := MethodName × ByteArray × Nat × Option FieldType × Nat
abbrev xNm (M : xM) : MethodName := M.1
abbrev xOwn (M : xM) : String := M.1.cls
abbrev xBy (M : xM) : ByteArray := M.2.1
abbrev xMl (M : xM) : Nat := M.2.2.1
abbrev xRt (M : xM) : Option FieldType := M.2.2.2.1
abbrev xLv (M : xM) : Nat := M.2.2.2.2
/-- arrays: number of the type, length, contents; objects: number of the sort, fields. References inside are our own addresses -/
abbrev xC : Type := (Nat × vp_A) ⊕ (Nat × List Value)
/-- how many cells, how many slots, the cells -/
abbrev xH : Type := (Nat × Nat) × (Nat → Option xC)
/-- launch; class ids and slots; array class ids; addresses of texts and of their bytes, the script's address; the heap at the law's entry; the script's length and ints -/
abbrev xG : Type := Launch × va_G × (Nat → ClassId) × ((Nat → Nat) × (Nat → Nat)) × Heap × (Nat × (Nat → Int32))
abbrev gL (G : xG) : Launch := G.1
abbrev gD (G : xG) : va_G := G.2.1
abbrev gA (G : xG) : Nat → ClassId := G.2.2.1
abbrev gX (G : xG) : Nat → Nat := G.2.2.2.1.1
abbrev gV (G : xG) : Nat → Nat := G.2.2.2.1.2
abbrev gH (G : xG) : Heap := G.2.2.2.2.1
abbrev gN (G : xG) : Nat := G.2.2.2.2.2.1
abbrev gS (G : xG) : Nat → Int32 := G.2.2.2.2.2.2
abbrev gB (G : xG) : Nat := (gH G).size
/-- a value of ours in the machine -/
def xv (G : xG) : Value → Value
  | .ref a => .ref (gB G + a)
  | .retAddr j => .ref (gX G j)
  | v => v
theorem xv_cat (G : xG) (v : Value) : (xv G v).category = v.category := by cases v <;> rfl
def xa (G : xG) : vp_A → vp_A
  | (n, .inr (.inr (.inr (.inr f)))) => (n, .inr (.inr (.inr (.inr (fun j => (f j).map (fun a => gB G + a))))))
  | a => a
def xe (G : xG) : xC → va_E
  | .inl (t, a) => .inl (gA G t, xa G a)
  | .inr (ci, fs) => .inr (ci, fs.map (xv G))
/-- the array types -/
def xty : Nat → FieldType
  | 0 => .int
  | 1 => .byte
  | 2 => .long
  | 3 => .boolean
  | 4 => .object "LandBase$Shape"
  | 5 => .object "LandBase$Distance"
  | 6 => .object "LandBaseModel$Shape"
  | _ => .object "LandBaseModel$Distance"
def xtys (G : xG) : List (ClassId × FieldType) := [(gA G 0, xty 0), (gA G 1, xty 1), (gA G 2, xty 2), (gA G 3, xty 3), (gA G 4, xty 4), (gA G 5, xty 5), (gA G 6, xty 6), (gA G 7, xty 7)]
theorem xtys_at (G : xG) {t : Nat} (h : t < 8) : (xtys G)[t]? = some (gA G t, xty t) := by
  rcases (show t = 0 ∨ t = 1 ∨ t = 2 ∨ t = 3 ∨ t = 4 ∨ t = 5 ∨ t = 6 ∨ t = 7 by omega) with rfl | rfl | rfl | rfl | rfl | rfl | rfl | rfl <;> rfl
/-- the words that carry over by themselves, and those of nest mates -/
def xW : List Cond := lw_tbl.filter goodWord
def xIsN : Cond → Bool
  | .fieldLinkNest .. => true
  | .methodLinkNest .. => true
  | _ => false
def xN : List Cond := lw_tbl.filter xIsN
theorem xW_in {w : Cond} (h : w ∈ lw_tbl) (g : goodWord w = true) : w ∈ xW := List.mem_filter.mpr ⟨h, g⟩
theorem xN_in {w : Cond} (h : w ∈ lw_tbl) (g : xIsN w = true) : w ∈ xN := List.mem_filter.mpr ⟨h, g⟩
def xws (M : xM) : List Cond := .code (xNm M) (xBy M) (xMl M) (xRt M) :: xW
/-- the text constants: class, pool number, text -/
def xTx : List (String × Nat × String) := [("LandBase$Reader", 26, "ADD DROP MOVE FILL BEGIN COMMIT ABORT PACK SAVE FIND WINDOW NEAR JOIN"), ("LandBase$Reader", 74, "POINT LINESTRING POLYGON"), ("LandBase$Reader", 64, "POINTS LINES SQUARES"), ("LandBase$Reader", 69, "INTERSECTS DISJOINT TOUCHES WITHIN CONTAINS"), ("LandBaseModel", 494, "ADD"), ("LandBaseModel", 444, "POINT"), ("LandBaseModel", 450, "LINESTRING"), ("LandBaseModel", 452, "POLYGON"), ("LandBaseModel", 504, "DROP"), ("LandBaseModel", 509, "MOVE"), ("LandBaseModel", 514, "FILL"), ("LandBaseModel", 563, "POINTS"), ("LandBaseModel", 565, "LINES"), ("LandBaseModel", 567, "SQUARES"), ("LandBaseModel", 519, "FIND"), ("LandBaseModel", 484, "INTERSECTS"), ("LandBaseModel", 486, "DISJOINT"), ("LandBaseModel", 488, "TOUCHES"), ("LandBaseModel", 490, "WITHIN"), ("LandBaseModel", 492, "CONTAINS"), ("LandBaseModel", 527, "WINDOW"), ("LandBaseModel", 533, "NEAR"), ("LandBaseModel", 538, "JOIN"), ("LandBaseModel", 547, "BEGIN"), ("LandBaseModel", 549, "COMMIT"), ("LandBaseModel", 551, "ABORT"), ("LandBaseModel", 553, "PACK"), ("LandBaseModel", 555, "SAVE")]
/-- the bytes of a text constant -/
def xTl : List (List Int32) := [[65, 68, 68, 32, 68, 82, 79, 80, 32, 77, 79, 86, 69, 32, 70, 73, 76, 76, 32, 66, 69, 71, 73, 78, 32, 67, 79, 77, 77, 73, 84, 32, 65, 66, 79, 82, 84, 32, 80, 65, 67, 75, 32, 83, 65, 86, 69, 32, 70, 73, 78, 68, 32, 87, 73, 78, 68, 79, 87, 32, 78, 69, 65, 82, 32, 74, 79, 73, 78], [80, 79, 73, 78, 84, 32, 76, 73, 78, 69, 83, 84, 82, 73, 78, 71, 32, 80, 79, 76, 89, 71, 79, 78], [80, 79, 73, 78, 84, 83, 32, 76, 73, 78, 69, 83, 32, 83, 81, 85, 65, 82, 69, 83], [73, 78, 84, 69, 82, 83, 69, 67, 84, 83, 32, 68, 73, 83, 74, 79, 73, 78, 84, 32, 84, 79, 85, 67, 72, 69, 83, 32, 87, 73, 84, 72, 73, 78, 32, 67, 79, 78, 84, 65, 73, 78, 83], [65, 68, 68], [80, 79, 73, 78, 84], [76, 73, 78, 69, 83, 84, 82, 73, 78, 71], [80, 79, 76, 89, 71, 79, 78], [68, 82, 79, 80], [77, 79, 86, 69], [70, 73, 76, 76], [80, 79, 73, 78, 84, 83], [76, 73, 78, 69, 83], [83, 81, 85, 65, 82, 69, 83], [70, 73, 78, 68], [73, 78, 84, 69, 82, 83, 69, 67, 84, 83], [68, 73, 83, 74, 79, 73, 78, 84], [84, 79, 85, 67, 72, 69, 83], [87, 73, 84, 72, 73, 78], [67, 79, 78, 84, 65, 73, 78, 83], [87, 73, 78, 68, 79, 87], [78, 69, 65, 82], [74, 79, 73, 78], [66, 69, 71, 73, 78], [67, 79, 77, 77, 73, 84], [65, 66, 79, 82, 84], [80, 65, 67, 75], [83, 65, 86, 69]]
def xTb (j : Nat) : List Int32 := xTl.getD j []
abbrev xOut (G : xG) : Nat → Prop := fun q => gB G ≤ q
def xStr (G : xG) (U : State) : Prop :=
  (∀ (j : Nat) (q : String × Nat × String), xTx[j]? = some q → vk_R q.1 q.2.1 q.2.2 (gX G j) U ∧ va_O "java/lang/String" (gX G j) (xOut G) U (gH G) ∧ va_OF "java/lang/String" "coder" "B" (.int 0) (gX G j) (xOut G) U (gH G) ∧ va_OF "java/lang/String" "value" "[B" (.ref (gX G (200 + j))) (gX G j) (xOut G) U (gH G) ∧ va_T .byte (gX G (200 + j)) (xTb j).length (fun i => .int ((xTb j).getD i 0)) (xOut G) U (gH G)) ∧
  va_Z "java/lang/String" "COMPACT_STRINGS" "Z" (.int 1) (xOut G) U (gH G) ∧
  (va_Z "jdk/internal/util/Preconditions" "SIOOBE_FORMATTER" "Ljava/util/function/BiFunction;" .null (xOut G) U (gH G) ∨ va_Z "jdk/internal/util/Preconditions" "SIOOBE_FORMATTER" "Ljava/util/function/BiFunction;" (.ref (gX G 98)) (xOut G) U (gH G))
/-- what is known of the tables -/
def xKn (G : xG) (U : State) : Prop := va_K (gD G) vwCl (xtys G) U ∧ (∀ w ∈ xN, va_Nw w U) ∧ (∀ t, 4 ≤ t → t < 8 → ∀ C, xty t = .object C → va_AO C U) ∧ xStr G U ∧ va_X (gX G 99) (gN G) (gS G) U (gH G)
theorem xKn.warm {G : xG} {s U : State} (hW : s.WarmedH U.vm) (h : xKn G s) : xKn G U := by
  obtain ⟨h1, h2, h3, ⟨h4, h5, h6⟩, scr, g1, g2, g3⟩ := h
  refine ⟨va_K.moved hW.alike h1, fun w hw => ?_, fun t a b C e => va_AO.moved hW.alike (h3 t a b C e), ⟨fun j q hq => ?_, va_Z.moved hW.alike h5, h6.imp (va_Z.moved hW.alike) (va_Z.moved hW.alike)⟩, scr, g1, State.isArrayOf_alike hW.alike g2, g3⟩
  · have hn := (List.mem_filter.mp hw).2
    have h := h2 w hw
    cases w <;> first | (simp [xIsN] at hn; done) | exact va_Nw.warmF hW h | exact va_Nw.warmM hW h
  · obtain ⟨a, b, c, d, e⟩ := h4 j q hq
    exact ⟨vk_R.warm hW a, va_O.moved hW.alike b, va_OF.moved hW.alike c, va_OF.moved hW.alike d, va_T.moved hW.alike e⟩
/-- the machine's heap holds ours -/
def xHp (G : xG) (h : xH) (H : Heap) : Prop := H.size = gB G + h.1.1 ∧ ∀ (a : Nat) (c : xC), h.2 a = some c → va_at (gD G) vwCl (gB G + a, xe G c) H
abbrev xS (G : xG) (H : Heap) (locs : List Loc) : Prop := va_S (xOut G) (gH G) H locs
/-- put a cell in the place of another -/
def xput (h : xH) (a : Nat) (c : xC) : xH := (h.1, fun b => if b = a then some c else h.2 b)
/-- a new cell of n slots -/
def xnew (h : xH) (n : Nat) (c : xC) : xH := ((h.1.1 + 1, h.1.2 + n), fun b => if b = h.1.1 then some c else h.2 b)
theorem xput_at (h : xH) (a : Nat) (c : xC) : (xput h a c).2 a = some c := by simp [xput]
theorem xput_ne (h : xH) {a b : Nat} (c : xC) (n : b ≠ a) : (xput h a c).2 b = h.2 b := by simp [xput, n]
theorem xnew_at (h : xH) (n : Nat) (c : xC) : (xnew h n c).2 h.1.1 = some c := by simp [xnew]
theorem xnew_ne (h : xH) (n : Nat) {b : Nat} (c : xC) (e : b ≠ h.1.1) : (xnew h n c).2 b = h.2 b := by simp [xnew, e]
theorem xHp.lt {G : xG} {h : xH} {H : Heap} (hp : xHp G h H) {a : Nat} {c : xC} (e : h.2 a = some c) : a < h.1.1 := by
  have h1 := (hp.2 a c e).lt
  rw [hp.1] at h1
  exact Nat.lt_of_add_lt_add_left h1
theorem xHp.put {G : xG} {h : xH} {H H1 : Heap} (hp : xHp G h H) {a : Nat} {c : xC} (z : H1.size = H.size) (oq : ∀ q : Nat, q ≠ gB G + a → H1[q]? = H[q]?) (he : va_at (gD G) vwCl (gB G + a, xe G c) H1) : xHp G (xput h a c) H1 := by
  refine ⟨by rw [z]; exact hp.1, fun b c' e => ?_⟩
  by_cases hb : b = a
  · subst hb
    rw [xput_at] at e
    cases e
    exact he
  · rw [xput_ne _ _ hb] at e
    exact (hp.2 b c' e).kept (oq (gB G + b) (by omega))
theorem xHp.new {G : xG} {h : xH} {H H1 : Heap} (hp : xHp G h H) {n : Nat} {c : xC} (z : H1.size = H.size + 1) (oq : ∀ q : Nat, q < H.size → H1[q]? = H[q]?) (he : va_at (gD G) vwCl (gB G + h.1.1, xe G c) H1) : xHp G (xnew h n c) H1 := by
  refine ⟨by rw [z, hp.1]; exact Nat.add_assoc _ _ _, fun b c' e => ?_⟩
  by_cases hb : b = h.1.1
  · subst hb
    rw [xnew_at] at e
    cases e
    exact he
  · rw [xnew_ne _ _ _ hb] at e
    have hl := (hp.2 b c' e).lt
    exact (hp.2 b c' e).kept (oq (gB G + b) hl)
/-- locals by their places -/
abbrev xL : Type := List (Option Value)
def xps (G : xG) : Nat → xL → List (Nat × Value)
  | _, [] => []
  | i, none :: r => xps G (i + 1) r
  | i, some v :: r => (i, xv G v) :: xps G (i + 1) r
theorem xps_mem (G : xG) : ∀ (L : xL) (i : Nat) (q : Nat × Value), q ∈ xps G i L ↔ ∃ n v, L[n]? = some (some v) ∧ q = (i + n, xv G v) := by
  intro L
  induction L with
  | nil => intro i q; simp [xps]
  | cons o r ih =>
    intro i q
    cases o with
    | none =>
      rw [xps, ih]
      constructor
      · rintro ⟨n, v, h1, rfl⟩
        exact ⟨n + 1, v, by simpa using h1, by rw [Nat.add_assoc, Nat.add_comm 1 n]⟩
      · rintro ⟨n, v, h1, rfl⟩
        cases n with
        | zero => simp at h1
        | succ n => exact ⟨n, v, by simpa using h1, by rw [Nat.add_assoc, Nat.add_comm 1 n]⟩
    | some w =>
      rw [xps, List.mem_cons, ih]
      constructor
      · rintro (rfl | ⟨n, v, h1, rfl⟩)
        · exact ⟨0, w, rfl, rfl⟩
        · exact ⟨n + 1, v, by simpa using h1, by rw [Nat.add_assoc, Nat.add_comm 1 n]⟩
      · rintro ⟨n, v, h1, rfl⟩
        cases n with
        | zero => simp at h1; subst h1; exact Or.inl rfl
        | succ n => exact Or.inr ⟨n, v, by simpa using h1, by rw [Nat.add_assoc, Nat.add_comm 1 n]⟩
/-- a long or double just ahead of a place that is written is gone -/
def xcl : Option Value → Option Value
  | some (.long _) => none
  | some (.double _) => none
  | o => o
def xs1 (v : Value) : Nat → xL → xL
  | _, [] => []
  | 0, _ :: r => some v :: r
  | n + 1, o :: r => (match n with | 0 => xcl o | _ + 1 => o) :: xs1 v n r
def xs2 (v : Value) : Nat → xL → xL
  | _, [] => []
  | 0, _ :: r => some v :: (match r with | [] => [] | _ :: r' => none :: r')
  | n + 1, o :: r => (match n with | 0 => xcl o | _ + 1 => o) :: xs2 v n r
theorem xcl_get {o : Option Value} {u : Value} (h : xcl o = some u) : o = some u ∧ u.category ≠ 2 := by
  cases o with
  | none => cases h
  | some w => cases w <;> simp [xcl] at h <;> subst h <;> exact ⟨rfl, by simp [Value.category]⟩
theorem xs1_get (v : Value) : ∀ (L : xL) (i j : Nat) (u : Value), (xs1 v i L)[j]? = some (some u) → (j = i ∧ u = v) ∨ (j ≠ i ∧ L[j]? = some (some u) ∧ ¬ (j + 1 = i ∧ u.category = 2)) := by
  intro L
  induction L with
  | nil => intro i j u h; simp [xs1] at h
  | cons o r ih =>
    intro i j u h
    cases i with
    | zero =>
      cases j with
      | zero => simp [xs1] at h; exact Or.inl ⟨rfl, h.symm⟩
      | succ j => exact Or.inr ⟨by omega, by simpa [xs1] using h, by omega⟩
    | succ n =>
      cases j with
      | zero =>
        cases n with
        | zero =>
          simp [xs1] at h
          obtain ⟨h1, h2⟩ := xcl_get h
          exact Or.inr ⟨by omega, by simp [h1], fun z => h2 z.2⟩
        | succ n =>
          simp [xs1] at h
          exact Or.inr ⟨by omega, by simp [h], by omega⟩
      | succ j =>
        have h' : (xs1 v n r)[j]? = some (some u) := by simpa [xs1] using h
        rcases ih n j u h' with ⟨a, b⟩ | ⟨a, b, c⟩
        · exact Or.inl ⟨by omega, b⟩
        · exact Or.inr ⟨by omega, by simpa using b, fun z => c ⟨by omega, z.2⟩⟩
theorem xs2_get (v : Value) : ∀ (L : xL) (i j : Nat) (u : Value), (xs2 v i L)[j]? = some (some u) → (j = i ∧ u = v) ∨ (j ≠ i ∧ j ≠ i + 1 ∧ L[j]? = some (some u) ∧ ¬ (j + 1 = i ∧ u.category = 2)) := by
  intro L
  induction L with
  | nil => intro i j u h; simp [xs2] at h
  | cons o r ih =>
    intro i j u h
    cases i with
    | zero =>
      cases r with
      | nil =>
        cases j with
        | zero => simp [xs2] at h; exact Or.inl ⟨rfl, h.symm⟩
        | succ j => simp [xs2] at h
      | cons o2 r =>
        cases j with
        | zero => simp [xs2] at h; exact Or.inl ⟨rfl, h.symm⟩
        | succ j =>
          cases j with
          | zero => simp [xs2] at h
          | succ j => exact Or.inr ⟨by omega, by omega, by simpa [xs2] using h, by omega⟩
    | succ n =>
      cases j with
      | zero =>
        cases n with
        | zero =>
          simp [xs2] at h
          obtain ⟨h1, h2⟩ := xcl_get h
          exact Or.inr ⟨by omega, by omega, by simp [h1], fun z => h2 z.2⟩
        | succ n =>
          simp [xs2] at h
          exact Or.inr ⟨by omega, by omega, by simp [h], by omega⟩
      | succ j =>
        have h' : (xs2 v n r)[j]? = some (some u) := by simpa [xs2] using h
        rcases ih n j u h' with ⟨a, b⟩ | ⟨a, b, c, d⟩
        · exact Or.inl ⟨by omega, b⟩
        · exact Or.inr ⟨by omega, by omega, by simpa using c, fun z => d ⟨by omega, z.2⟩⟩
abbrev xLs (G : xG) (M : xM) (L : xL) (ls : Array Slot) : Prop := lv_has ls (xMl M) (xps G 0 L)
theorem xLs.at {G : xG} {M : xM} {L : xL} {ls : Array Slot} (h : xLs G M L ls) {i : Nat} {v : Value} (e : L[i]? = some (some v)) : ls[i]? = some (.val (xv G v)) :=
  h.2.2 (i, xv G v) ((xps_mem G L 0 _).mpr ⟨i, v, e, by simp⟩)
theorem xLs.st1 {G : xG} {M : xM} {L : xL} {ls' : Array Slot} {v : Value} {i : Nat} (h : lv_has ls' (xMl M) ((i, xv G v) :: (xps G 0 L).filter (fun q => !(q.1 == i) && !(q.1 + 1 == i && q.2.category == 2)))) : xLs G M (xs1 v i L) ls' := by
  refine ⟨h.1, h.2.1, fun q hq => ?_⟩
  obtain ⟨n, u, e, rfl⟩ := (xps_mem G _ 0 q).mp hq
  rw [Nat.zero_add]
  rcases xs1_get v L i n u e with ⟨rfl, rfl⟩ | ⟨a, b, c⟩
  · exact h.2.2 _ List.mem_cons_self
  · refine h.2.2 _ (List.mem_cons_of_mem _ (List.mem_filter.mpr ⟨(xps_mem G L 0 _).mpr ⟨n, u, b, by simp⟩, ?_⟩))
    have c' : ¬ (n + 1 = i ∧ (xv G u).category = 2) := by rw [xv_cat]; exact c
    simp only [Bool.and_eq_true, Bool.not_eq_true', beq_eq_false_iff_ne, ne_eq, Bool.and_eq_false_iff]
    exact ⟨a, by by_cases z : n + 1 = i; exact Or.inr (fun y => c' ⟨z, y⟩); exact Or.inl z⟩
theorem xLs.st2 {G : xG} {M : xM} {L : xL} {ls' : Array Slot} {v : Value} {i : Nat} (h : lv_has ls' (xMl M) ((i, xv G v) :: (xps G 0 L).filter (fun q => !(q.1 == i) && (!(q.1 == i + 1) && !(q.1 + 1 == i && q.2.category == 2))))) : xLs G M (xs2 v i L) ls' := by
  refine ⟨h.1, h.2.1, fun q hq => ?_⟩
  obtain ⟨n, u, e, rfl⟩ := (xps_mem G _ 0 q).mp hq
  rw [Nat.zero_add]
  rcases xs2_get v L i n u e with ⟨rfl, rfl⟩ | ⟨a, b, c, d⟩
  · exact h.2.2 _ List.mem_cons_self
  · refine h.2.2 _ (List.mem_cons_of_mem _ (List.mem_filter.mpr ⟨(xps_mem G L 0 _).mpr ⟨n, u, c, by simp⟩, ?_⟩))
    have c' : ¬ (n + 1 = i ∧ (xv G u).category = 2) := by rw [xv_cat]; exact d
    simp only [Bool.and_eq_true, Bool.not_eq_true', beq_eq_false_iff_ne, ne_eq, Bool.and_eq_false_iff]
    exact ⟨a, b, by by_cases z : n + 1 = i; exact Or.inr (fun y => c' ⟨z, y⟩); exact Or.inl z⟩
/-- where a method's body is walked -/
def xCx (G : xG) (M : xM) (p : Program) (R : Room) (s : State) (m : MethodId) (args : Array Value) (meth : Method) (c : Code) : Prop :=
  p.tables.exec = Jvm.exec ∧ c.code = xBy M ∧ c.maxLocals = xMl M ∧ s.vm.findClass (xOwn M) = some m.cls ∧ (∀ w ∈ xW, w.before args s = true) ∧ ((xNm M).name = "<init>" → meth.name = "<init>") ∧ xKn G s ∧ xLv M ≤ R.frames ∧ 200 * xLv M ≤ R.locals
def xRetI (v : Option Value) : Instr → Prop
  | .ireturn => ∃ x, v = some (.int x)
  | .lreturn => ∃ x, v = some (.long x)
  | .areturn => v = some .null ∨ ∃ a, v = some (.ref a)
  | .return_ => v = none
  | _ => False
def xEnd (G : xG) (M : xM) (p : Program) (e : Env) (R : Room) (s : State) (m : MethodId) (args : Array Value) (below : List Frame) (meth : Method) (c : Code) (Cf Sf : Nat) (Q : State → Prop) (v : Option Value) (h' : xH) : Prop :=
  ∀ (i : Instr) (pc : Nat) (ls : Array Slot) (H : Heap) (locs : List Loc), decode (xBy M) pc = .ok (i, 1) → xRetI v i → xHp G h' H → xS G H locs → W p (gL G) e R s m args below meth c H locs Cf Sf Q (F0 m pc ls (v.toList.map (xv G)))
def Ev (G : xG) (M : xM) (pc : Nat) (L : xL) (S : List Value) (h : xH) (v : Option Value) (h' : xH) : Prop :=
  (h.1.1 ≤ h'.1.1 ∧ h.1.2 ≤ h'.1.2) ∧ ∀ (p : Program) (e : Env) (R : Room) (s : State) (m : MethodId) (args : Array Value) (below : List Frame) (meth : Method) (c : Code) (H : Heap) (locs : List Loc) (cells slots Cf Sf : Nat) (Q : State → Prop) (ls : Array Slot),
    xCx G M p R s m args meth c → xHp G h H → xS G H locs → xLs G M L ls → cells + h'.1.1 = Cf + h.1.1 → slots + h'.1.2 = Sf + h.1.2 → Cf ≤ R.cells → Sf ≤ R.slots →
    xEnd G M p e R s m args below meth c Cf Sf Q v h' → W p (gL G) e R s m args below meth c H locs cells slots Q (F0 m pc ls (S.map (xv G)))
/-- from there the method ends with an answer and a heap of which P holds -/
def Go (G : xG) (M : xM) (pc : Nat) (L : xL) (S : List Value) (h : xH) (P : Option Value → xH → Prop) : Prop := ∃ (v : Option Value) (h' : xH), P v h' ∧ Ev G M pc L S h v h'
theorem Go.mono {G : xG} {M : xM} {pc : Nat} {L : xL} {S : List Value} {h : xH} {P P' : Option Value → xH → Prop} (k : Go G M pc L S h P) (f : ∀ v h', P v h' → P' v h') : Go G M pc L S h P' := by
  obtain ⟨v, h', a, b⟩ := k
  exact ⟨v, h', f v h' a, b⟩
/-- a step that leaves the heap -/
theorem Go.go {G : xG} {M : xM} {pc pc2 : Nat} {L L2 : xL} {S S2 : List Value} {h : xH} {P : Option Value → xH → Prop} (k : Go G M pc2 L2 S2 h P)
    (f : ∀ (p : Program) (e : Env) (R : Room) (s : State) (m : MethodId) (args : Array Value) (below : List Frame) (meth : Method) (c : Code) (H : Heap) (locs : List Loc) (cells slots : Nat) (Q : State → Prop) (ls : Array Slot), xCx G M p R s m args meth c → xHp G h H → xS G H locs → xLs G M L ls →
      (∀ ls2 : Array Slot, xLs G M L2 ls2 → W p (gL G) e R s m args below meth c H locs cells slots Q (F0 m pc2 ls2 (S2.map (xv G)))) → W p (gL G) e R s m args below meth c H locs cells slots Q (F0 m pc ls (S.map (xv G)))) : Go G M pc L S h P := by
  obtain ⟨v, h', hP, hm, hE⟩ := k
  refine ⟨v, h', hP, hm, fun p e R s m args below meth c H locs cells slots Cf Sf Q ls C hH hS hL e1 e2 r1 r2 hEnd => ?_⟩
  exact f p e R s m args below meth c H locs cells slots Q ls C hH hS hL (fun ls2 hL2 => hE p e R s m args below meth c H locs cells slots Cf Sf Q ls2 C hH hS hL2 e1 e2 r1 r2 hEnd)
/-- a step that writes one cell -/
theorem Go.put {G : xG} {M : xM} {pc pc2 : Nat} {L : xL} {S S2 : List Value} {h : xH} {P : Option Value → xH → Prop} {a : Nat} {ce : xC} (k : Go G M pc2 L S2 (xput h a ce) P)
    (f : ∀ (p : Program) (e : Env) (R : Room) (s : State) (m : MethodId) (args : Array Value) (below : List Frame) (meth : Method) (c : Code) (H : Heap) (locs : List Loc) (cells slots : Nat) (Q : State → Prop) (ls : Array Slot), xCx G M p R s m args meth c → xHp G h H → xS G H locs → xLs G M L ls →
      (∀ (H1 : Heap) (j : Nat), H1.size = H.size → (∀ q : Nat, q ≠ gB G + a → H1[q]? = H[q]?) → va_at (gD G) vwCl (gB G + a, xe G ce) H1 → W p (gL G) e R s m args below meth c H1 (locs ++ [⟨gB G + a, j⟩]) cells slots Q (F0 m pc2 ls (S2.map (xv G)))) → W p (gL G) e R s m args below meth c H locs cells slots Q (F0 m pc ls (S.map (xv G)))) : Go G M pc L S h P := by
  obtain ⟨v, h', hP, hm, hE⟩ := k
  refine ⟨v, h', hP, hm, fun p e R s m args below meth c H locs cells slots Cf Sf Q ls C hH hS hL e1 e2 r1 r2 hEnd => ?_⟩
  exact f p e R s m args below meth c H locs cells slots Q ls C hH hS hL (fun H1 j z oq he => hE p e R s m args below meth c H1 _ cells slots Cf Sf Q ls C (hH.put z oq he) (hS.put z oq (Nat.le_add_right _ _)) hL e1 e2 r1 r2 hEnd)
/-- a step that makes one cell -/
theorem Go.new {G : xG} {M : xM} {pc pc2 n : Nat} {L : xL} {S S2 : List Value} {h : xH} {P : Option Value → xH → Prop} {ce : xC} (k : Go G M pc2 L S2 (xnew h n ce) P)
    (f : ∀ (p : Program) (e : Env) (R : Room) (s : State) (m : MethodId) (args : Array Value) (below : List Frame) (meth : Method) (c : Code) (H : Heap) (locs : List Loc) (cells slots : Nat) (Q : State → Prop) (ls : Array Slot), xCx G M p R s m args meth c → xHp G h H → xS G H locs → xLs G M L ls → cells + 1 ≤ R.cells → slots + n ≤ R.slots →
      (∀ H1 : Heap, H1.size = H.size + 1 → (∀ q : Nat, q < H.size → H1[q]? = H[q]?) → va_at (gD G) vwCl (gB G + h.1.1, xe G ce) H1 → W p (gL G) e R s m args below meth c H1 locs (cells + 1) (slots + n) Q (F0 m pc2 ls (S2.map (xv G)))) → W p (gL G) e R s m args below meth c H locs cells slots Q (F0 m pc ls (S.map (xv G)))) : Go G M pc L S h P := by
  obtain ⟨v, h', hP, hm, hE⟩ := k
  have hm1 : h.1.1 + 1 ≤ h'.1.1 := hm.1
  have hm2 : h.1.2 + n ≤ h'.1.2 := hm.2
  refine ⟨v, h', hP, ⟨by omega, by omega⟩, fun p e R s m args below meth c H locs cells slots Cf Sf Q ls C hH hS hL e1 e2 r1 r2 hEnd => ?_⟩
  refine f p e R s m args below meth c H locs cells slots Q ls C hH hS hL (by omega) (by omega) (fun H1 z oq he => ?_)
  have hlo := hS.1
  refine hE p e R s m args below meth c H1 locs (cells + 1) (slots + n) Cf Sf Q ls C (hH.new z oq he) ⟨by omega, fun q a b => (oq q (Nat.lt_of_lt_of_le a hlo)).trans (hS.2.1 q a b), hS.2.2⟩ hL ?_ ?_ r1 r2 hEnd
  · show cells + 1 + h'.1.1 = Cf + (h.1.1 + 1)
    omega
  · show slots + n + h'.1.2 = Sf + (h.1.2 + n)
    omega
/-- the end -/
theorem Go.ret {G : xG} {M : xM} {pc : Nat} {L : xL} {h : xH} {P : Option Value → xH → Prop} {v : Option Value} {i : Instr} (d : decode (xBy M) pc = .ok (i, 1)) (hi : xRetI v i) (hP : P v h) : Go G M pc L v.toList h P := by
  refine ⟨v, h, hP, ⟨Nat.le_refl _, Nat.le_refl _⟩, fun p e R s m args below meth c H locs cells slots Cf Sf Q ls C hH hS hL e1 e2 r1 r2 hEnd => ?_⟩
  have f1 : cells = Cf := by omega
  have f2 : slots = Sf := by omega
  subst f1; subst f2
  exact hEnd i pc ls H locs d hi hH hS
/-- the locals at the entry -/
def xent (n : Nat) (A : List Value) : xL := let l := A.flatMap (fun v => if v.category = 2 then [some v, none] else [some v]); l ++ List.replicate (n - l.length) none
theorem xent_mem (G : xG) : ∀ (A : List Value) (i n : Nat) (q : Nat × Value), q ∈ xps G i (A.flatMap (fun v => if v.category = 2 then [some v, none] else [some v]) ++ List.replicate n none) → q ∈ lv_args i (A.map (xv G)) := by
  intro A
  induction A with
  | nil =>
    intro i n q hq
    obtain ⟨k, v, h, -⟩ := (xps_mem G _ i q).mp hq
    have := List.eq_of_mem_replicate (List.mem_of_getElem? (by simpa using h))
    cases this
  | cons a A ih =>
    intro i n q hq
    by_cases hc : a.category = 2
    · rw [List.flatMap_cons, if_pos hc] at hq
      simp only [List.cons_append, List.nil_append, xps, List.mem_cons] at hq
      rw [List.map_cons, lv_args, xv_cat, if_pos hc]
      rcases hq with rfl | hq
      · exact List.mem_cons_self
      · exact List.mem_cons_of_mem _ (ih (i + 1 + 1) n q hq)
    · rw [List.flatMap_cons, if_neg hc] at hq
      simp only [List.cons_append, List.nil_append, xps, List.mem_cons] at hq
      rw [List.map_cons, lv_args, xv_cat, if_neg hc]
      rcases hq with rfl | hq
      · exact List.mem_cons_self
      · exact List.mem_cons_of_mem _ (ih (i + 1) n q hq)
theorem xent_len (G : xG) (A : List Value) : (lg_sl (A.map (xv G))).length = (A.flatMap (fun v => if v.category = 2 then [some v, (none : Option Value)] else [some v])).length := by
  induction A with
  | nil => rfl
  | cons a A ih =>
    rw [List.map_cons, lg_sl, List.flatMap_cons, List.flatMap_cons, List.length_append, List.length_append, xv_cat]
    rw [lg_sl] at ih
    rw [ih]
    by_cases hc : a.category = 2
    · rw [if_pos hc, if_pos hc]; rfl
    · rw [if_neg hc, if_neg hc]; rfl
/-- the answer fits its type -/
def xRok : Option FieldType → Option Value → Prop
  | none, none => True
  | some .long, some (.long _) => True
  | some (.object _), some .null => True
  | some (.object _), some (.ref _) => True
  | some ty, some (.int x) => narrow ty (.int x) = .int x
  | _, _ => False
def xrm (M : xM) (h h' : xH) : Room := { frames := xLv M, cells := h'.1.1 - h.1.1, slots := h'.1.2 - h.1.2, locals := 200 * xLv M }
abbrev xLo (G : xG) (H : Heap) : Prop := gB G ≤ H.size ∧ ∀ q : Nat, q < gB G → ¬ xOut G q → H[q]? = (gH G)[q]?
def xPc (G : xG) (A : List Value) (h : xH) : Array Value → State → Prop := fun a U => a = (A.map (xv G)).toArray ∧ xHp G h U.heap ∧ xLo G U.heap ∧ xKn G U
def xQc (G : xG) (v : Option Value) (h' : xH) : Array Value → State → Outcome → State → Prop := fun _ _ o t => o = .returned (v.map (xv G)) ∧ xHp G h' t.heap ∧ xLo G t.heap
/-- the method's contract, for this heap and this outcome -/
def Mx (G : xG) (M : xM) (A : List Value) (h : xH) (v : Option Value) (h' : xH) : Prop :=
  (h.1.1 ≤ h'.1.1 ∧ h.1.2 ≤ h'.1.2) ∧ Met (gL G) (xNm M) (xws M) (xrm M h h') (xPc G A h) (xQc G v h') (h'.1.1 - h.1.1) (h'.1.2 - h.1.2) (xOut G)
/-- the method, called there, ends with an answer and a heap of which P holds -/
def Ca (G : xG) (M : xM) (A : List Value) (h : xH) (P : Option Value → xH → Prop) : Prop := ∃ (v : Option Value) (h' : xH), P v h' ∧ Mx G M A h v h'
theorem Ca.mono {G : xG} {M : xM} {A : List Value} {h : xH} {P P' : Option Value → xH → Prop} (k : Ca G M A h P) (f : ∀ v h', P v h' → P' v h') : Ca G M A h P' := by
  obtain ⟨v, h', a, b⟩ := k
  exact ⟨v, h', f v h' a, b⟩
theorem Mx.of {G : xG} {M : xM} {A : List Value} {h h' : xH} {v : Option Value} (hp : plainName (xNm M).cls = true) (hn : (A.flatMap (fun v => if v.category = 2 then [some v, (none : Option Value)] else [some v])).length ≤ xMl M) (hr : xRok (xRt M) v) (hE : Ev G M 0 (xent (xMl M) A) [] h v h') : Mx G M A h v h' := by
  refine ⟨hE.1, ?_⟩
  refine Met.ofW (cc := xBy M) (maxL := xMl M) (ret := xRt M) hp rfl ?_
  intro p e s m args below meth c s₁ B hml hv
  obtain ⟨rfl, hH, hLo, hK⟩ := hv
  have hts := atoms_spec (ws := xws M) B.pre
  have hown : s.vm.findClass (xOwn M) = some m.cls := findClass_of_methodNamed B.named
  have hlocks := B.notSynchronized
  have hret := B.returns
  have hl := lv_entry (A.map (xv G)) (n := xMl M) (by rw [xent_len]; exact hn)
  rw [lg_entry_eq]
  generalize (lg_sl (A.map (xv G)) ++ List.replicate (xMl M - (lg_sl (A.map (xv G))).length) Slot.unset).toArray = ls at hl ⊢
  have hL : xLs G M (xent (xMl M) A) ls := ⟨hl.1, hl.2.1, fun q hq => hl.2.2 q (xent_mem G A 0 _ q hq)⟩
  have hle := hE.1
  have hS : xS G s.heap [] := ⟨hLo.1, hLo.2, fun _ hq => by cases hq⟩
  refine hE.2 p e (headSpec (xws M) (xrm M h h')).room s m _ below meth c s.heap [] 0 0 (h'.1.1 - h.1.1) (h'.1.2 - h.1.2) _ ls ⟨B.exec, B.bytes, hml, hown, fun w hw => hts w (List.mem_cons_of_mem _ hw), fun h9 => (name_of_methodNamed B.named B.method).1.trans h9, hK, Nat.le_refl _, Nat.le_refl _⟩ hH hS hL (by omega) (by omega) (Nat.le_refl _) (Nat.le_refl _) ?_
  intro i pc ls' H locs d hi hH' hS'
  have hq : ∀ t : State, t.heap = H → s.WarmedH t.vm → xQc G v h' (A.map (xv G)).toArray s (.returned (v.map (xv G))) t := fun t ht _ => ⟨rfl, by rw [ht]; exact hH', by rw [ht]; exact ⟨hS'.1, hS'.2.1⟩⟩
  have ret_i : ∀ x, v = some (.int x) → i = .ireturn → W p (gL G) e (headSpec (xws M) (xrm M h h')).room s m (A.map (xv G)).toArray below meth c H locs (h'.1.1 - h.1.1) (h'.1.2 - h.1.2) (MQ below (xQc G v h') (A.map (xv G)).toArray s (h'.1.1 - h.1.1) (h'.1.2 - h.1.2) (xOut G)) (F0 m pc ls' (v.toList.map (xv G))) := by
    intro x ev ei
    subst ev; subst ei
    cases hR : xRt M with
    | none => rw [hR] at hr; exact hr.elim
    | some ty =>
      rw [hR] at hr hret
      have hn : narrow ty (.int x) = .int x := by
        cases ty <;> first | exact hr | exact hr.elim
      exact W.zret (v := x) B.exec B.bytes hret hn hq hS'.2.2 d
  cases i <;> try exact hi.elim
  case ireturn => obtain ⟨x, ev⟩ := hi; exact ret_i x ev rfl
  case lreturn =>
    obtain ⟨x, ev⟩ := hi
    subst ev
    have hR : xRt M = some .long := by
      cases hR : xRt M with
      | none => rw [hR] at hr; exact hr.elim
      | some ty => rw [hR] at hr; cases ty <;> first | rfl | exact hr.elim
    rw [hR] at hret
    exact W.lret (v := x) B.exec B.bytes hret hq hS'.2.2 d
  case areturn =>
    have hR : ∃ n, xRt M = some (.object n) := by
      cases hR : xRt M with
      | none => rw [hR] at hr; rcases hi with rfl | ⟨a, rfl⟩ <;> exact hr.elim
      | some ty => rw [hR] at hr; rcases hi with rfl | ⟨a, rfl⟩ <;> cases ty <;> first | exact ⟨_, rfl⟩ | exact hr.elim
    obtain ⟨n, hR⟩ := hR
    rw [hR] at hret
    rcases hi with rfl | ⟨a, rfl⟩
    · exact W.aret (v := .null) (rt := .object n) B.exec B.bytes hret (Or.inl ⟨_, rfl⟩) (Or.inl rfl) hq hS'.2.2 d
    · exact W.aret (v := .ref (gB G + a)) (rt := .object n) B.exec B.bytes hret (Or.inl ⟨_, rfl⟩) (Or.inr ⟨_, rfl⟩) hq hS'.2.2 d
  case return_ =>
    have ev : v = none := hi
    subst ev
    have hR : xRt M = none := by
      cases hR : xRt M with
      | none => rfl
      | some ty => rw [hR] at hr; cases ty <;> exact hr.elim
    rw [hR] at hret
    exact W.vret B.exec B.bytes hret hq hS'.2.2 d
theorem Ca.of {G : xG} {M : xM} {A : List Value} {h : xH} {P : Option Value → xH → Prop} (hp : plainName (xNm M).cls = true) (hn : (A.flatMap (fun v => if v.category = 2 then [some v, (none : Option Value)] else [some v])).length ≤ xMl M) (k : Go G M 0 (xent (xMl M) A) [] h (fun v h' => xRok (xRt M) v ∧ P v h')) : Ca G M A h P := by
  obtain ⟨v, h', ⟨hr, hP⟩, hE⟩ := k
  exact ⟨v, h', hP, Mx.of hp hn hr hE⟩

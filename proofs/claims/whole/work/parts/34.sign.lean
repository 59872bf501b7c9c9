/-! GEOMETRY, all by signs of whole numbers. Signs: 0 below, 1 none, 2 above -/
abbrev V2 : Type := Int × Int
def sg (x : Int) : Nat := if x < 0 then 0 else if x = 0 then 1 else 2
def mulS (a b : Nat) : Nat := if a = 1 ∨ b = 1 then 1 else if a = b then 2 else 0
/-- signs that a sum of three numbers that is 0 may have -/
def ok3 (a b c : Nat) : Bool := (a == 1 && b == 1 && c == 1) || ((a == 0 || b == 0 || c == 0) && (a == 2 || b == 2 || c == 2))
theorem sg_cases (x : Int) : (x < 0 ∧ sg x = 0) ∨ (x = 0 ∧ sg x = 1) ∨ (0 < x ∧ sg x = 2) := by
  unfold sg; split
  · exact Or.inl ⟨by assumption, rfl⟩
  · split
    · exact Or.inr (Or.inl ⟨by assumption, rfl⟩)
    · exact Or.inr (Or.inr ⟨by omega, rfl⟩)
theorem sg_lt (x : Int) : sg x < 3 := by rcases sg_cases x with h | h | h <;> omega
theorem sg_neg (x : Int) : sg x = 0 ↔ x < 0 := by rcases sg_cases x with h | h | h <;> omega
theorem sg_zero (x : Int) : sg x = 1 ↔ x = 0 := by rcases sg_cases x with h | h | h <;> omega
theorem sg_pos (x : Int) : sg x = 2 ↔ 0 < x := by rcases sg_cases x with h | h | h <;> omega
theorem sg_mul (x y : Int) : sg (x * y) = mulS (sg x) (sg y) := by
  rcases sg_cases x with ⟨h1, e1⟩ | ⟨h1, e1⟩ | ⟨h1, e1⟩ <;> rcases sg_cases y with ⟨h2, e2⟩ | ⟨h2, e2⟩ | ⟨h2, e2⟩ <;> rw [e1, e2]
  · exact (sg_pos _).mpr (Int.mul_pos_of_neg_of_neg h1 h2)
  · subst h2; rw [Int.mul_zero]; rfl
  · exact (sg_neg _).mpr (Int.mul_neg_of_neg_of_pos h1 h2)
  · subst h1; rw [Int.zero_mul]; rfl
  · subst h1; rw [Int.zero_mul]; rfl
  · subst h1; rw [Int.zero_mul]; rfl
  · exact (sg_neg _).mpr (Int.mul_neg_of_pos_of_neg h1 h2)
  · subst h2; rw [Int.mul_zero]; rfl
  · exact (sg_pos _).mpr (Int.mul_pos h1 h2)
def ngS (a : Nat) : Nat := if a = 0 then 2 else if a = 2 then 0 else 1
theorem sg_ng (x : Int) : sg (-x) = ngS (sg x) := by
  rcases sg_cases x with ⟨h1, e1⟩ | ⟨h1, e1⟩ | ⟨h1, e1⟩ <;> rw [e1]
  · exact (sg_pos _).mpr (by omega)
  · exact (sg_zero _).mpr (by omega)
  · exact (sg_neg _).mpr (by omega)
theorem ok3_of {x y z : Int} (h : x + y + z = 0) : ok3 (sg x) (sg y) (sg z) = true := by
  rcases sg_cases x with ⟨h1, e1⟩ | ⟨h1, e1⟩ | ⟨h1, e1⟩ <;> rcases sg_cases y with ⟨h2, e2⟩ | ⟨h2, e2⟩ | ⟨h2, e2⟩ <;> rcases sg_cases z with ⟨h3, e3⟩ | ⟨h3, e3⟩ | ⟨h3, e3⟩ <;> rw [e1, e2, e3] <;> first | rfl | (exfalso; omega)
def crs (a b : V2) : Int := a.1 * b.2 - a.2 * b.1
def dt (a b : V2) : Int := a.1 * b.1 + a.2 * b.2
/-- of nonzero vectors: the angle in [0, pi) -/
def upS (x y : Nat) : Bool := y == 2 || (y == 1 && x == 2)
/-- the angle of a is not above that of s, by signs; as = sign of a x s -/
def wS (ax ay sx sy as : Nat) : Bool := if ax == 1 && ay == 1 then false else if upS ax ay then (if upS sx sy then as != 0 else true) else (if upS sx sy then false else as != 0)
def Wd (s a : V2) : Bool := wS (sg a.1) (sg a.2) (sg s.1) (sg s.2) (sg (crs a s))
/-- the ray along s, a little to its left, meets the way from a to b: sa = sign of s x a .. -/
def cS (sa sb ab : Nat) : Bool := ((sa == 2) != (sb == 2)) && (if sb == 2 then ab == 2 else ab == 0)
def cc (s a b : V2) : Bool := cS (sg (crs s a)) (sg (crs s b)) (sg (crs a b))
/-- the same of the ray to the right, a little to its right -/
def rS (ay bY ab : Nat) : Bool := ((ay != 0) != (bY != 0)) && (if bY != 0 then ab == 2 else ab == 0)
def cr (a b : V2) : Bool := rS (sg a.2) (sg b.2) (sg (crs a b))
/-- what the way from a to b, if 0 is on it, begins with there -/
def hbS (wa wb : Bool) (az bz ab dd : Nat) : Bool := if ab == 1 && dd != 2 then (if az == 1 then wb else if bz == 1 then wa else wa != wb) else false
def isZ (a : V2) : Nat := if a.1 = 0 ∧ a.2 = 0 then 1 else 0
def hb (s a b : V2) : Bool := hbS (Wd s a) (Wd s b) (isZ a) (isZ b) (sg (crs a b)) (sg (dt a b))
def bz (x y : Nat) : Nat := if x == 1 && y == 1 then 1 else 0
theorem isZ_eq (a : V2) : isZ a = bz (sg a.1) (sg a.2) := by
  unfold isZ bz
  rcases sg_cases a.1 with ⟨h1, e1⟩ | ⟨h1, e1⟩ | ⟨h1, e1⟩ <;> rcases sg_cases a.2 with ⟨h2, e2⟩ | ⟨h2, e2⟩ | ⟨h2, e2⟩ <;> rw [e1, e2]
  all_goals first | (rw [if_pos (by omega)]; rfl) | (rw [if_neg (by omega)]; rfl)
/-- signs that a difference x - y of signs may have -/
def okD2 (x y d : Nat) : Bool := ok3 x (ngS y) (ngS d)
theorem okD2_of (x y : Int) : okD2 (sg x) (sg y) (sg (x - y)) = true := by
  unfold okD2; rw [← sg_ng, ← sg_ng]; exact ok3_of (by omega)
def okA2 (x y d : Nat) : Bool := ok3 x y (ngS d)
theorem okA2_of (x y : Int) : okA2 (sg x) (sg y) (sg (x + y)) = true := by
  unfold okA2; rw [← sg_ng]; exact ok3_of (by omega)
def s012 : List Nat := [0, 1, 2]
theorem s012_all {f : Nat → Bool} (h : s012.all f = true) {x : Nat} (hx : x < 3) : f x = true := by
  unfold s012 at h
  simp only [List.all_cons, List.all_nil, Bool.and_true, Bool.and_eq_true] at h
  rcases (show x = 0 ∨ x = 1 ∨ x = 2 by omega) with rfl | rfl | rfl
  · exact h.1
  · exact h.2.1
  · exact h.2.2
/-- the one fact of plane geometry: of two rays from one point, by signs -/
def wedS (sx sy ax ay bx bY sa sb ab dd : Nat) : Bool :=
  !(!(sx == 1 && sy == 1) && !(ax == 1 && ay == 1 && bx == 1 && bY == 1) &&
    okD2 (mulS sx ay) (mulS sy ax) sa && okD2 (mulS sx bY) (mulS sy bx) sb && okD2 (mulS ax bY) (mulS ay bx) ab && okA2 (mulS ax bx) (mulS ay bY) dd &&
    ok3 (mulS sa bY) (mulS ab sy) (ngS (mulS sb ay)) && ok3 (mulS sa bx) (mulS ab sx) (ngS (mulS sb ax))) ||
  (cS sa sb ab == ((rS ay bY ab != (wS ax ay sx sy (ngS sa) != wS bx bY sx sy (ngS sb))) != hbS (wS ax ay sx sy (ngS sa)) (wS bx bY sx sy (ngS sb)) (bz ax ay) (bz bx bY) ab dd))
def wedA : Bool := s012.all fun sx => s012.all fun sy => (sx == 1 && sy == 1) || s012.all fun ax => s012.all fun ay => s012.all fun sa => !okD2 (mulS sx ay) (mulS sy ax) sa || s012.all fun bx => s012.all fun bY => (ax == 1 && ay == 1 && bx == 1 && bY == 1) || s012.all fun sb => !okD2 (mulS sx bY) (mulS sy bx) sb || s012.all fun ab => !(okD2 (mulS ax bY) (mulS ay bx) ab && ok3 (mulS sa bY) (mulS ab sy) (ngS (mulS sb ay)) && ok3 (mulS sa bx) (mulS ab sx) (ngS (mulS sb ax))) || s012.all fun dd => !okA2 (mulS ax bx) (mulS ay bY) dd ||
  (cS sa sb ab == ((rS ay bY ab ^^ (wS ax ay sx sy (ngS sa) ^^ wS bx bY sx sy (ngS sb))) ^^ hbS (wS ax ay sx sy (ngS sa)) (wS bx bY sx sy (ngS sb)) (bz ax ay) (bz bx bY) ab dd))
theorem wedA_t : wedA = true := by decide +kernel
theorem or_r {a b : Bool} (h : (a || b) = true) (ha : a = false) : b = true := by rw [ha] at h; simpa using h
theorem crs_gp2 (s a b : V2) : crs s a * b.2 + crs a b * s.2 + -(crs s b * a.2) = 0 := by unfold crs; grind
theorem crs_gp1 (s a b : V2) : crs s a * b.1 + crs a b * s.1 + -(crs s b * a.1) = 0 := by unfold crs; grind
theorem crs_sw (a b : V2) : crs a b = -crs b a := by unfold crs; grind
def nz (a : V2) : Prop := ¬ (a.1 = 0 ∧ a.2 = 0)
theorem nz_sg {a : V2} (h : nz a) : (sg a.1 == 1 && sg a.2 == 1) = false := by
  rw [Bool.and_eq_false_iff]
  by_cases q : a.1 = 0
  · right
    have : sg a.2 ≠ 1 := fun e => h ⟨q, (sg_zero _).mp e⟩
    simpa using this
  · left
    have : sg a.1 ≠ 1 := fun e => q ((sg_zero _).mp e)
    simpa using this
theorem wed {s a b : V2} (hs : nz s) (hab : ¬ (isZ a = 1 ∧ isZ b = 1)) : cc s a b = ((cr a b ^^ (Wd s a ^^ Wd s b)) ^^ hb s a b) := by
  have h := wedA_t
  unfold wedA at h
  have h1 := s012_all h (sg_lt s.1)
  have h2 := or_r (s012_all h1 (sg_lt s.2)) (nz_sg hs)
  have h3 := s012_all (s012_all (s012_all h2 (sg_lt a.1)) (sg_lt a.2)) (sg_lt (crs s a))
  have e1 : okD2 (mulS (sg s.1) (sg a.2)) (mulS (sg s.2) (sg a.1)) (sg (crs s a)) = true := by rw [← sg_mul, ← sg_mul]; exact okD2_of _ _
  have h4 := or_r h3 (by rw [e1]; rfl)
  have h5 := s012_all (s012_all h4 (sg_lt b.1)) (sg_lt b.2)
  have e2 : (sg a.1 == 1 && sg a.2 == 1 && sg b.1 == 1 && sg b.2 == 1) = false := by
    rw [isZ_eq, isZ_eq] at hab
    unfold bz at hab
    cases q1 : (sg a.1 == 1) <;> cases q2 : (sg a.2 == 1) <;> cases q3 : (sg b.1 == 1) <;> cases q4 : (sg b.2 == 1) <;> simp_all
  have h6 := s012_all (or_r h5 e2) (sg_lt (crs s b))
  have e3 : okD2 (mulS (sg s.1) (sg b.2)) (mulS (sg s.2) (sg b.1)) (sg (crs s b)) = true := by rw [← sg_mul, ← sg_mul]; exact okD2_of _ _
  have h7 := s012_all (or_r h6 (by rw [e3]; rfl)) (sg_lt (crs a b))
  have e4 : okD2 (mulS (sg a.1) (sg b.2)) (mulS (sg a.2) (sg b.1)) (sg (crs a b)) = true := by rw [← sg_mul, ← sg_mul]; exact okD2_of _ _
  have e5 : ok3 (mulS (sg (crs s a)) (sg b.2)) (mulS (sg (crs a b)) (sg s.2)) (ngS (mulS (sg (crs s b)) (sg a.2))) = true := by rw [← sg_mul, ← sg_mul, ← sg_mul, ← sg_ng]; exact ok3_of (crs_gp2 s a b)
  have e6 : ok3 (mulS (sg (crs s a)) (sg b.1)) (mulS (sg (crs a b)) (sg s.1)) (ngS (mulS (sg (crs s b)) (sg a.1))) = true := by rw [← sg_mul, ← sg_mul, ← sg_mul, ← sg_ng]; exact ok3_of (crs_gp1 s a b)
  have h8 := s012_all (or_r h7 (by rw [e4, e5, e6]; rfl)) (sg_lt (dt a b))
  have e7 : okA2 (mulS (sg a.1) (sg b.1)) (mulS (sg a.2) (sg b.2)) (sg (dt a b)) = true := by rw [← sg_mul, ← sg_mul]; exact okA2_of _ _
  have h9 := or_r h8 (by rw [e7]; rfl)
  rw [beq_iff_eq] at h9
  unfold cc cr Wd hb
  rw [h9, isZ_eq, isZ_eq]
  unfold Wd
  rw [crs_sw a s, crs_sw b s, sg_ng, sg_ng]
/-! sums -/
def xs (f : Nat → Bool) (lo : Nat) : Nat → Bool
  | 0 => false
  | k + 1 => xs f lo k ^^ f (lo + k)
theorem xs_congr {f g : Nat → Bool} {lo m : Nat} (h : ∀ i, lo ≤ i → i < lo + m → f i = g i) : xs f lo m = xs g lo m := by
  induction m with
  | zero => rfl
  | succ k ih => rw [xs, xs, ih (fun i a b => h i a (by omega)), h (lo + k) (by omega) (by omega)]
theorem xs_xor (f g : Nat → Bool) (lo m : Nat) : xs (fun i => f i ^^ g i) lo m = (xs f lo m ^^ xs g lo m) := by
  induction m with
  | zero => rfl
  | succ k ih => rw [xs, xs, xs, ih]; cases xs f lo k <;> cases xs g lo k <;> cases f (lo + k) <;> cases g (lo + k) <;> rfl
theorem xs_tel (w : Nat → Bool) (lo m : Nat) : xs (fun i => w i ^^ w (i + 1)) lo m = (w lo ^^ w (lo + m)) := by
  induction m with
  | zero => rw [xs, Nat.add_zero]; cases w lo <;> rfl
  | succ k ih => rw [xs, ih, ← Nat.add_assoc]; cases w lo <;> cases w (lo + k) <;> cases w (lo + k + 1) <;> rfl
theorem xs_none {f : Nat → Bool} {lo m : Nat} (h : ∀ i, lo ≤ i → i < lo + m → f i = false) : xs f lo m = false := by
  induction m with
  | zero => rfl
  | succ k ih => rw [xs, ih (fun i a b => h i a (by omega)), h (lo + k) (by omega) (by omega)]; rfl
theorem xs_one {f : Nat → Bool} {lo m : Nat} (j : Nat) (h1 : lo ≤ j) (h2 : j < lo + m) (h : ∀ i, lo ≤ i → i < lo + m → i ≠ j → f i = false) : xs f lo m = f j := by
  induction m with
  | zero => omega
  | succ k ih =>
    rw [xs]
    by_cases q : j = lo + k
    · subst q
      rw [xs_none (fun i a b => h i a (by omega) (by omega))]; cases f (lo + k) <;> rfl
    · rw [ih (by omega) (fun i a b c => h i a (by omega) c), h (lo + k) (by omega) (by omega) (fun e => q e.symm)]; cases f j <;> rfl
theorem xs_two {f : Nat → Bool} {lo m : Nat} (j k : Nat) (h1 : lo ≤ j) (h2 : j < k) (h3 : k < lo + m) (h : ∀ i, lo ≤ i → i < lo + m → i ≠ j → i ≠ k → f i = false) : xs f lo m = (f j ^^ f k) := by
  have e : xs f lo m = xs (fun i => (if i = j then f i else false) ^^ (if i = j then false else f i)) lo m := xs_congr (fun i _ _ => by by_cases q : i = j <;> simp [q])
  rw [e, xs_xor, xs_one j h1 (by omega) (fun i _ _ q => by simp [q]), xs_one k (by omega) h3 (fun i a b q => by
    by_cases r : i = j
    · simp [r]
    · simpa [r] using h i a b r q)]
  have : k ≠ j := by omega
  simp [this]
def par (A : Nat → V2) (s : V2) (lo m : Nat) : Bool := xs (fun i => cc s (A i) (A (i + 1))) lo m
def rfp (A : Nat → V2) (lo m : Nat) : Bool := xs (fun i => cr (A i) (A (i + 1))) lo m
def hfs (A : Nat → V2) (s : V2) (lo m : Nat) : Bool := xs (fun i => hb s (A i) (A (i + 1))) lo m
/-- the parity just to the left of a direction at a point, by the half-ways that begin there -/
theorem wedge {A : Nat → V2} {s : V2} {lo m : Nat} (hs : nz s) (hA : ∀ i, lo ≤ i → i < lo + m → ¬ (isZ (A i) = 1 ∧ isZ (A (i + 1)) = 1)) (hc : A (lo + m) = A lo) : par A s lo m = (rfp A lo m ^^ hfs A s lo m) := by
  unfold par
  rw [xs_congr (g := fun i => ((cr (A i) (A (i + 1)) ^^ (Wd s (A i) ^^ Wd s (A (i + 1)))) ^^ hb s (A i) (A (i + 1)))) (fun i a b => wed hs (hA i a b))]
  rw [xs_xor, xs_xor, xs_tel (fun i => Wd s (A i)), hc]
  unfold rfp hfs
  cases xs (fun i => cr (A i) (A (i + 1))) lo m <;> cases xs (fun i => hb s (A i) (A (i + 1))) lo m <;> cases Wd s (A lo) <;> rfl

noncomputable section
def sumI (a : Int) : Nat → (Int → Int) → Int
  | 0, _ => 0
  | n + 1, f => sumI a n f + f (a + n)
theorem sumI_s (a : Int) (n : Nat) (f : Int → Int) : sumI a (n + 1) f = sumI a n f + f (a + n) := rfl
theorem sumI_b {a M : Int} {n : Nat} {f : Int → Int} (h : ∀ i, 0 ≤ f i ∧ f i ≤ M) : 0 ≤ sumI a n f ∧ sumI a n f ≤ n * M := by
  induction n with
  | zero => simp [sumI]
  | succ n ih =>
    have := h (a + n)
    rw [sumI_s, Int.natCast_add, Int.add_mul]
    omega
theorem sumI_c {a : Int} {n : Nat} {f g : Int → Int} (h : ∀ i, a ≤ i → i < a + n → f i = g i) : sumI a n f = sumI a n g := by
  induction n with
  | zero => rfl
  | succ n ih => rw [sumI_s, sumI_s, ih (fun i h1 h2 => h i h1 (by omega)), h (a + n) (by omega) (by omega)]
def cSold (s : am_Z) (l bk b k : Int) : Int := if rA s 53 k = l ∧ rA s 55 k ≤ 2 ∧ bk ≤ rA s 54 k then rA s 45 b else 0
def bSold (s : am_Z) (l bk b : Int) : Int := if rA s 47 b ≤ 1 then sumI (10 * b) (rA s 52 b).toNat (cSold s l bk b) else 0
def sold (s : am_Z) (l bk : Int) : Int := sumI 0 (rI s 44).toNat (bSold s l bk)
theorem bSold_b {s : am_Z} (B : in_S s) (l bk b : Int) : 0 ≤ bSold s l bk b ∧ bSold s l bk b ≤ 90 := by
  unfold bSold
  split
  · have h1 := B.1 45 b 0 9 rfl
    have h2 := B.1 52 b 0 10 rfl
    have := sumI_b (a := 10 * b) (n := (rA s 52 b).toNat) (f := cSold s l bk b) (M := 9) (fun i => by unfold cSold; split <;> omega)
    omega
  · omega
theorem sold_b {s : am_Z} (B : in_S s) (l bk : Int) : 0 ≤ sold s l bk ∧ sold s l bk ≤ 3600 := by
  have h2 := B.2.1 44 0 40 rfl
  have := sumI_b (a := 0) (n := (rI s 44).toNat) (f := bSold s l bk) (M := 90) (bSold_b B l bk)
  unfold sold
  omega
def minL (s : am_Z) (l : Int) : Nat → Int
  | 0 => rA s 14 (4 * (l / 100)) - sold s l 0
  | n + 1 => min (minL s l n) (rA s 14 (4 * (l / 100) + ((n : Int) + 1)) - sold s l ((n : Int) + 1))
def openS (s : am_Z) (l b : Int) : Int := if freeP s l then (if minL s l b.toNat < 0 then 0 else minL s l b.toNat) else 0
theorem minL_b {s : am_Z} (B : in_S s) (l : Int) (n : Nat) : -3600 ≤ minL s l n ∧ minL s l n ≤ 70 := by
  induction n with
  | zero =>
    have h1 := B.1 14 (4 * (l / 100)) 0 70 rfl
    have h2 := sold_b B l 0
    simp only [minL]
    omega
  | succ n ih =>
    have h1 := B.1 14 (4 * (l / 100) + ((n : Int) + 1)) 0 70 rfl
    have h2 := sold_b B l ((n : Int) + 1)
    simp only [minL]
    omega
theorem openS_b {s : am_Z} (B : in_S s) (l b : Int) : 0 ≤ openS s l b ∧ openS s l b ≤ 70 := by
  have := minL_b B l b.toNat
  unfold openS
  split
  · split <;> omega
  · omega
/-- seats depend on these arrays alone -/
def uSeat (j : Nat) : Bool := Nat.beq j 1 || Nat.beq j 5 || Nat.beq j 7 || Nat.beq j 14 || Nat.beq j 17 || Nat.beq j 18 || Nat.beq j 45 || Nat.beq j 47 || Nat.beq j 52 || Nat.beq j 53 || Nat.beq j 54 || Nat.beq j 55
theorem dep_cg {s s' : am_Z} (h : ∀ j i, uSeat j = true → rA s' j i = rA s j i) (l : Int) : dep s' l = dep s l := by
  unfold dep
  rw [h 7 _ rfl, h 1 _ rfl, h 5 _ rfl, h 17 _ rfl]
theorem sold_cg {s s' : am_Z} (h : ∀ j i, uSeat j = true → rA s' j i = rA s j i) (h4 : rI s' 44 = rI s 44) (l bk : Int) : sold s' l bk = sold s l bk := by
  unfold sold
  rw [h4]
  refine sumI_c (fun b _ _ => ?_)
  unfold bSold
  rw [h 47 _ rfl, h 52 _ rfl]
  have e : sumI (10 * b) (rA s 52 b).toNat (cSold s' l bk b) = sumI (10 * b) (rA s 52 b).toNat (cSold s l bk b) := by
    refine sumI_c (fun k _ _ => ?_)
    unfold cSold
    rw [h 53 _ rfl, h 55 _ rfl, h 54 _ rfl, h 45 _ rfl]
  rw [e]
theorem minL_cg {s s' : am_Z} (h : ∀ j i, uSeat j = true → rA s' j i = rA s j i) (h4 : rI s' 44 = rI s 44) (l : Int) (n : Nat) : minL s' l n = minL s l n := by
  induction n with
  | zero => simp only [minL]; rw [h 14 _ rfl, sold_cg h h4]
  | succ n ih => simp only [minL]; rw [ih, h 14 _ rfl, sold_cg h h4]
theorem openS_cg {s s' : am_Z} (h : ∀ j i, uSeat j = true → rA s' j i = rA s j i) (h4 : rI s' 44 = rI s 44) (h0 : rI s' 0 = rI s 0) (l b : Int) : openS s' l b = openS s l b := by
  unfold openS
  rw [minL_cg h h4]
  unfold freeP
  rw [h 18 _ rfl, dep_cg h, h0]
end


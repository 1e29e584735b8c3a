noncomputable section
theorem mul_b {a b A B : Int} (ha : 0 ≤ a ∧ a ≤ A) (hb : 0 ≤ b ∧ b ≤ B) : 0 ≤ a * b ∧ a * b ≤ A * B := ⟨Int.mul_nonneg ha.1 hb.1, Int.mul_le_mul ha.2 hb.2 hb.1 (Int.le_trans ha.1 ha.2)⟩
theorem div_b {a b A : Int} (ha : 0 ≤ a ∧ a ≤ A) (hb : 0 < b) : 0 ≤ a / b ∧ a / b ≤ A := ⟨Int.ediv_nonneg ha.1 (Int.le_of_lt hb), Int.le_trans (Int.ediv_le_self b ha.1) ha.2⟩
def itX (g : Nat → am_X → am_X) : Nat → am_X → am_X
  | 0, X => X
  | n + 1, X => g n (itX g n X)
def fLen (s : am_Z) (k : Int) : Int := rA s 8 (rA s 36 k / 100)
/-- a coupon is made: stretch t with fare f, legs from a on, n of them, al hours in all -/
def bkC (b t f a n al : Int) (i : Nat) (X : am_X) : am_X :=
  (wA (wA (wA (wA (wA (wA (wA X.1 53 (10 * b + (a + i)) (rA X.1 36 (a + i))) 54 (10 * b + (a + i)) (rA X.1 24 f)) 55 (10 * b + (a + i)) 0) 56 (10 * b + (a + i)) t) 58 (10 * b + (a + i)) (taxAt X.1 (a + i))) 49 b (rA X.1 49 b + taxAt X.1 (a + i))) 57 (10 * b + (a + i)) (if a + i = a + n - 1 then X.2 else rA X.1 25 f * fLen X.1 (a + i) / al),
   X.2 - (if a + i = a + n - 1 then X.2 else rA X.1 25 f * fLen X.1 (a + i) / al))
def bkS (s : am_Z) (b t : Int) : am_Z := wA (wA s 59 (4 * b + t) (rA s 25 (rA s 40 t))) 60 (4 * b + t) (rA s 25 (rA s 40 t) * rA s 32 (rA s 40 t) / 100)
def bkB (b : Int) (i : Nat) (X : am_X) : am_X := ((itX (bkC b i (rA X.1 40 i) X.2 (rA X.1 39 i) (sumI X.2 (rA X.1 39 i).toNat (fLen X.1))) (rA X.1 39 i).toNat (bkS X.1 b i, rA X.1 25 (rA X.1 40 i))).1, X.2 + rA X.1 39 i)
def bk0 (s : am_Z) (b n m h : Int) : am_Z := wA (wA (wA (wA (wA (wA (wA (wA (wI s 44 (b + 1)) 45 b n) 46 b m) 47 b 0) 48 b (rI s 0 + h)) 49 b (rI s 37)) 50 b (rA s 4 (rA s 36 0 / 100))) 51 b 0) 52 b (rI s 35)
def bkT (s : am_Z) (n m h : Int) : am_Z := (itX (bkB (rI s 44)) (rI s 38).toNat (bk0 s (rI s 44) n m h, 0)).1
/-- arrays that are not touched by the coupons' making -/
def unT (j : Nat) : Bool := !(Nat.beq j 49 || Nat.beq j 53 || Nat.beq j 54 || Nat.beq j 55 || Nat.beq j 56 || Nat.beq j 57 || Nat.beq j 58 || Nat.beq j 59 || Nat.beq j 60)
theorem unT_ne {j j' : Nat} (h : unT j = true) (h' : unT j' = false) : j ≠ j' := fun z => by rw [z, h'] at h; cases h
theorem bkC_u {b t f a n al : Int} {i : Nat} {X : am_X} : (∀ j x, unT j = true → rA (bkC b t f a n al i X).1 j x = rA X.1 j x) ∧ (bkC b t f a n al i X).1.2 = X.1.2 := by
  refine ⟨fun j x h => ?_, rfl⟩
  unfold bkC
  dsimp only
  rw [wA_A, if_neg (fun z => unT_ne h rfl z.1), wA_A, if_neg (fun z => unT_ne h rfl z.1), wA_A, if_neg (fun z => unT_ne h rfl z.1), wA_A, if_neg (fun z => unT_ne h rfl z.1), wA_A, if_neg (fun z => unT_ne h rfl z.1), wA_A, if_neg (fun z => unT_ne h rfl z.1), wA_A, if_neg (fun z => unT_ne h rfl z.1)]
theorem taxAt_b {s : am_Z} (B : in_S s) (k : Int) : 0 ≤ taxAt s k ∧ taxAt s k ≤ 500 := by
  have := B.1 2 (rA s 5 (rA s 36 k / 100)) 0 500 rfl
  unfold taxAt
  split <;> omega
theorem fLen_b {s : am_Z} (B : in_S s) (k : Int) : 0 ≤ fLen s k ∧ fLen s k ≤ 20 := B.1 8 _ 0 20 rfl
theorem sumI_p {a : Int} {n : Nat} {f : Int → Int} (h : ∀ i, 0 ≤ i - a → i < a + n → 1 ≤ f i) : (n : Int) ≤ sumI a n f := by
  induction n with
  | zero => simp [sumI]
  | succ n ih =>
    have h1 := ih (fun i h2 h3 => h i h2 (by omega))
    have h2 := h (a + n) (by omega) (by omega)
    rw [sumI_s, Int.natCast_add]
    omega
theorem itX_u {g : Nat → am_X → am_X} (h : ∀ i X, (∀ j x, unT j = true → rA (g i X).1 j x = rA X.1 j x) ∧ (g i X).1.2 = X.1.2) (n : Nat) (X : am_X) : (∀ j x, unT j = true → rA (itX g n X).1 j x = rA X.1 j x) ∧ (itX g n X).1.2 = X.1.2 := by
  induction n with
  | zero => exact ⟨fun _ _ _ => rfl, rfl⟩
  | succ n ih => exact ⟨fun j x hj => ((h n _).1 j x hj).trans (ih.1 j x hj), (h n _).2.trans ih.2⟩
theorem bkB_u {b : Int} {i : Nat} {X : am_X} : (∀ j x, unT j = true → rA (bkB b i X).1 j x = rA X.1 j x) ∧ (bkB b i X).1.2 = X.1.2 := by
  have h := itX_u (g := bkC b i (rA X.1 40 i) X.2 (rA X.1 39 i) (sumI X.2 (rA X.1 39 i).toNat (fLen X.1))) (fun _ _ => bkC_u) (rA X.1 39 i).toNat (bkS X.1 b i, rA X.1 25 (rA X.1 40 i))
  refine ⟨fun j x hj => (h.1 j x hj).trans ?_, h.2⟩
  show rA (bkS X.1 b i) j x = rA X.1 j x
  unfold bkS
  rw [wA_A, if_neg (fun z => unT_ne hj rfl z.1), wA_A, if_neg (fun z => unT_ne hj rfl z.1)]
end


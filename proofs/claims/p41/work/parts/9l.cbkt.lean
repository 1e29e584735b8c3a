noncomputable section
/-- what a new booking b does not touch -/
def bkU (b : Int) (j : Nat) (x : Int) : Prop := (j < 45 ∨ 60 < j) ∨ (45 ≤ j ∧ j ≤ 52 ∧ x ≠ b) ∨ (53 ≤ j ∧ j ≤ 58 ∧ x < 10 * b) ∨ ((j = 59 ∨ j = 60) ∧ x < 4 * b)
theorem unT_i {j : Nat} (h : j < 49 ∨ (50 ≤ j ∧ j ≤ 52) ∨ 60 < j) : unT j = true := by
  have z : ∀ k : Nat, j ≠ k → Nat.beq j k = false := fun k hk => by
    cases hb : Nat.beq j k
    · rfl
    · exact absurd (Nat.eq_of_beq_eq_true hb) hk
  unfold unT
  rw [z 49 (by omega), z 53 (by omega), z 54 (by omega), z 55 (by omega), z 56 (by omega), z 57 (by omega), z 58 (by omega), z 59 (by omega), z 60 (by omega)]
  rfl
section BKT
variable {b t f a n al : Int} {i j : Nat} {x : Int} {X : am_X} {s : am_Z}
theorem bkC_U (h0 : 0 ≤ a) (h : bkU b j x) : rA (bkC b t f a n al i X).1 j x = rA X.1 j x := by
  unfold bkC
  dsimp only
  rw [wA_A, if_neg (by rintro ⟨rfl, rfl⟩; unfold bkU at h; omega)]
  rw [wA_A, if_neg (by rintro ⟨rfl, rfl⟩; unfold bkU at h; omega)]
  rw [wA_A, if_neg (by rintro ⟨rfl, rfl⟩; unfold bkU at h; omega)]
  rw [wA_A, if_neg (by rintro ⟨rfl, rfl⟩; unfold bkU at h; omega)]
  rw [wA_A, if_neg (by rintro ⟨rfl, rfl⟩; unfold bkU at h; omega)]
  rw [wA_A, if_neg (by rintro ⟨rfl, rfl⟩; unfold bkU at h; omega)]
  rw [wA_A, if_neg (by rintro ⟨rfl, rfl⟩; unfold bkU at h; omega)]
theorem bkS_U (h0 : 0 ≤ t) (h : bkU b j x) : rA (bkS s b t) j x = rA s j x := by
  unfold bkS
  rw [wA_A, if_neg (by rintro ⟨rfl, rfl⟩; unfold bkU at h; omega)]
  rw [wA_A, if_neg (by rintro ⟨rfl, rfl⟩; unfold bkU at h; omega)]
theorem itC_U (h0 : 0 ≤ a) (h : bkU b j x) (k : Nat) : rA (itX (bkC b t f a n al) k X).1 j x = rA X.1 j x := by
  induction k with
  | zero => rfl
  | succ k ih => exact (bkC_U h0 h).trans ih
theorem bkB_U (h0 : 0 ≤ X.2) (h : bkU b j x) : rA (bkB b i X).1 j x = rA X.1 j x := by
  unfold bkB
  exact (itC_U h0 h _).trans (bkS_U (by omega) h)
theorem bk0_U {p m hh : Int} (h : bkU b j x) : rA (bk0 s b p m hh) j x = rA s j x := by
  unfold bk0
  rw [wA_A, if_neg (by rintro ⟨rfl, rfl⟩; unfold bkU at h; omega)]
  rw [wA_A, if_neg (by rintro ⟨rfl, rfl⟩; unfold bkU at h; omega)]
  rw [wA_A, if_neg (by rintro ⟨rfl, rfl⟩; unfold bkU at h; omega)]
  rw [wA_A, if_neg (by rintro ⟨rfl, rfl⟩; unfold bkU at h; omega)]
  rw [wA_A, if_neg (by rintro ⟨rfl, rfl⟩; unfold bkU at h; omega)]
  rw [wA_A, if_neg (by rintro ⟨rfl, rfl⟩; unfold bkU at h; omega)]
  rw [wA_A, if_neg (by rintro ⟨rfl, rfl⟩; unfold bkU at h; omega)]
  rw [wA_A, if_neg (by rintro ⟨rfl, rfl⟩; unfold bkU at h; omega)]
  rfl
/-- the counts of legs of the stretches -/
theorem itB_2 (k : Nat) : (itX (bkB b) k X).2 = X.2 + sumI 0 k (rA X.1 39) := by
  induction k with
  | zero => show X.2 = X.2 + 0; omega
  | succ k ih =>
    have e : ∀ y, rA (itX (bkB b) k X).1 39 y = rA X.1 39 y := fun y => (itX_u (g := bkB b) (fun i X => bkB_u) k X).1 39 y rfl
    show (itX (bkB b) k X).2 + rA (itX (bkB b) k X).1 39 k = X.2 + (sumI 0 k (rA X.1 39) + rA X.1 39 (0 + k))
    rw [ih, e, Int.zero_add]
    omega
theorem itB_U {b : Int} {k : Nat} (h0 : 0 ≤ X.2) (hS : ∀ i : Nat, i < k → 0 ≤ sumI 0 i (rA X.1 39)) (h : bkU b j x) : rA (itX (bkB b) k X).1 j x = rA X.1 j x := by
  induction k with
  | zero => rfl
  | succ k ih =>
    have e := itB_2 (b := b) (X := X) k
    have := hS k (by omega)
    exact (bkB_U (by omega) h).trans (ih (fun i hi => hS i (by omega)))
theorem bkC_B (B : in_S X.1) (hb : 0 ≤ b ∧ b < 40) (ht : 0 ≤ t ∧ t ≤ 3) (h49 : -1 ≤ rA X.1 49 b ∧ rA X.1 49 b ≤ 20000 + 500 * (a + i)) (hlf : -100000 * (i : Int) ≤ X.2 ∧ X.2 ≤ 5000) (hi : a + i ≤ 4 ∧ i ≤ 4) (hal : 0 ≤ al) : in_S (bkC b t f a n al i X).1 ∧ (-1 ≤ rA (bkC b t f a n al i X).1 49 b ∧ rA (bkC b t f a n al i X).1 49 b ≤ 20000 + 500 * (a + (i + 1 : Nat))) ∧ (-100000 * ((i + 1 : Nat) : Int) ≤ (bkC b t f a n al i X).2 ∧ (bkC b t f a n al i X).2 ≤ 5000) := by
  have b36 := B.1 36 (a + i) 0 1160 rfl
  have b24 := B.1 24 f 0 3 rfl
  have bt := taxAt_b B (a + i)
  have bm := mul_b (B.1 25 f 0 5000 rfl) (fLen_b B (a + i))
  have bd : 0 ≤ rA X.1 25 f * fLen X.1 (a + i) / al ∧ rA X.1 25 f * fLen X.1 (a + i) / al ≤ 100000 := by
    by_cases e : al = 0
    · rw [e, Int.ediv_zero]
      omega
    · exact div_b bm (by omega)
  have e49 : rA (bkC b t f a n al i X).1 49 b = rA X.1 49 b + taxAt X.1 (a + i) := by
    unfold bkC
    dsimp only
    rw [wA_A, if_neg (fun z => by have := z.1; omega), wA_A, if_pos ⟨rfl, rfl⟩]
  refine ⟨?_, by rw [e49]; omega, ?_⟩
  · unfold bkC
    dsimp only
    have B6 : in_S (wA (wA (wA (wA (wA (wA X.1 53 (10 * b + (a + i)) (rA X.1 36 (a + i))) 54 (10 * b + (a + i)) (rA X.1 24 f)) 55 (10 * b + (a + i)) 0) 56 (10 * b + (a + i)) t) 58 (10 * b + (a + i)) (taxAt X.1 (a + i))) 49 b (rA X.1 49 b + taxAt X.1 (a + i))) := by
      refine in_S_A (in_S_A (in_S_A (in_S_A (in_S_A (in_S_A B ?_ (fun _ => B.2.2 36 (a + i) rfl)) ?_ ?_) ?_ ?_) ?_ ?_) ?_ ?_) ?_ ?_
      all_goals first | (intro lo hi h; cases h; omega) | (intro h; cases h)
    refine in_S_A B6 ?_ ?_
    · intro lo hi h
      cases h
      split <;> omega
    · intro h
      cases h
  · show -100000 * ((i + 1 : Nat) : Int) ≤ X.2 - (if a + i = a + n - 1 then X.2 else rA X.1 25 f * fLen X.1 (a + i) / al) ∧ X.2 - (if a + i = a + n - 1 then X.2 else rA X.1 25 f * fLen X.1 (a + i) / al) ≤ 5000
    split <;> omega
theorem itC_B (B : in_S X.1) (hb : 0 ≤ b ∧ b < 40) (ht : 0 ≤ t ∧ t ≤ 3) (h49 : -1 ≤ rA X.1 49 b ∧ rA X.1 49 b ≤ 20000 + 500 * a) (hlf : 0 ≤ X.2 ∧ X.2 ≤ 5000) (ha : 0 ≤ a) (hal : 0 ≤ al) : ∀ k : Nat, a + k ≤ 4 → in_S (itX (bkC b t f a n al) k X).1 ∧ (-1 ≤ rA (itX (bkC b t f a n al) k X).1 49 b ∧ rA (itX (bkC b t f a n al) k X).1 49 b ≤ 20000 + 500 * (a + k)) ∧ (-100000 * (k : Int) ≤ (itX (bkC b t f a n al) k X).2 ∧ (itX (bkC b t f a n al) k X).2 ≤ 5000) := by
  intro k
  induction k with
  | zero => intro _; exact ⟨B, by show -1 ≤ rA X.1 49 b ∧ rA X.1 49 b ≤ 20000 + 500 * (a + (0 : Nat)); omega, by show -100000 * ((0 : Nat) : Int) ≤ X.2 ∧ X.2 ≤ 5000; omega⟩
  | succ k ih =>
    intro hk
    obtain ⟨i1, i2, i3⟩ := ih (by omega)
    exact bkC_B i1 hb ht i2 i3 (by omega) hal
theorem bkS_B (B : in_S s) (t b : Int) : in_S (bkS s b t) := by
  unfold bkS
  have b25 := B.1 25 (rA s 40 t) 0 5000 rfl
  have bm := mul_b b25 (B.1 32 (rA s 40 t) 0 100 rfl)
  have bd := div_b (b := 100) bm (by omega)
  refine in_S_A (in_S_A B ?_ ?_) ?_ ?_
  all_goals first | (intro lo hi h; cases h; omega) | (intro h; cases h)
theorem fLs_b (B : in_S s) (a : Int) (k : Nat) : 0 ≤ sumI a k (fLen s) ∧ sumI a k (fLen s) ≤ k * 20 := sumI_b (M := 20) (fun i => fLen_b B i)
theorem bkB_B (B : in_S X.1) (hb : 0 ≤ b ∧ b < 40) (hi : i ≤ 3) (h49 : -1 ≤ rA X.1 49 b ∧ rA X.1 49 b ≤ 20000 + 500 * X.2) (h0 : 0 ≤ X.2) (h39 : 0 ≤ rA X.1 39 i ∧ X.2 + rA X.1 39 i ≤ 4) : in_S (bkB b i X).1 ∧ (-1 ≤ rA (bkB b i X).1 49 b ∧ rA (bkB b i X).1 49 b ≤ 20000 + 500 * (bkB b i X).2) := by
  have b25 := B.1 25 (rA X.1 40 i) 0 5000 rfl
  have z := itC_B (X := (bkS X.1 b i, rA X.1 25 (rA X.1 40 i))) (b := b) (t := i) (f := rA X.1 40 i) (a := X.2) (n := rA X.1 39 i) (al := sumI X.2 (rA X.1 39 i).toNat (fLen X.1)) (bkS_B B i b) hb (by omega) (by
    show -1 ≤ rA (bkS X.1 b i) 49 b ∧ rA (bkS X.1 b i) 49 b ≤ _
    have e : rA (bkS X.1 b i) 49 b = rA X.1 49 b := by
      unfold bkS
      rw [wA_A, if_neg (fun z => by have := z.1; omega), wA_A, if_neg (fun z => by have := z.1; omega)]
    rw [e]
    exact h49) b25 h0 (fLs_b B _ _).1 (rA X.1 39 i).toNat (by omega)
  refine ⟨z.1, ?_⟩
  have e2 : (bkB b i X).2 = X.2 + rA X.1 39 i := rfl
  rw [e2]
  have z2 := z.2.1
  rw [show (((rA X.1 39 i).toNat : Nat) : Int) = rA X.1 39 i by omega] at z2
  exact z2
theorem itB_B (B : in_S X.1) (hb : 0 ≤ b ∧ b < 40) (h49 : -1 ≤ rA X.1 49 b ∧ rA X.1 49 b ≤ 20000) (h0 : X.2 = 0) : ∀ k : Nat, k ≤ 4 → (∀ i : Nat, i < k → 0 ≤ rA X.1 39 i ∧ 0 ≤ sumI 0 i (rA X.1 39) ∧ sumI 0 i (rA X.1 39) + rA X.1 39 i ≤ 4) → in_S (itX (bkB b) k X).1 ∧ (-1 ≤ rA (itX (bkB b) k X).1 49 b ∧ rA (itX (bkB b) k X).1 49 b ≤ 20000 + 500 * (itX (bkB b) k X).2) := by
  intro k
  induction k with
  | zero => intro _ _; exact ⟨B, by show -1 ≤ rA X.1 49 b ∧ rA X.1 49 b ≤ 20000 + 500 * X.2; omega⟩
  | succ k ih =>
    intro hk hS
    obtain ⟨i1, i2⟩ := ih (by omega) (fun i hi => hS i (by omega))
    have e2 := itB_2 (b := b) (X := X) k
    have e : rA (itX (bkB b) k X).1 39 k = rA X.1 39 k := (itX_u (g := bkB b) (fun i X => bkB_u) k X).1 39 k rfl
    have z := hS k (by omega)
    exact bkB_B i1 hb (by omega) i2 (by omega) (by rw [e]; omega)
theorem bk0_B {p m hh : Int} (B : in_S s) (h44 : rI s 44 < 40) (hp : 0 ≤ p ∧ p ≤ 9) (hm : -1 ≤ m ∧ m ≤ 4) (hh1 : 1 ≤ hh ∧ hh ≤ 72) : in_S (bk0 s (rI s 44) p m hh) := by
  have b44 := B.2.1 44 0 40 rfl
  have b0 := B.2.1 0 0 60000 rfl
  have b37 := B.2.1 37 (-1) 20000 rfl
  have b35 := B.2.1 35 0 4 rfl
  have b4 := B.1 4 (rA s 36 0 / 100) 0 2 rfl
  unfold bk0
  refine in_S_A (in_S_A (in_S_A (in_S_A (in_S_A (in_S_A (in_S_A (in_S_A (in_S_I B ?_) ?_ ?_) ?_ ?_) ?_ ?_) ?_ ?_) ?_ ?_) ?_ ?_) ?_ ?_) ?_ ?_
  all_goals first | (intro lo hi h; cases h; omega) | (intro h; cases h)
end BKT
section BKT2
variable {s : am_Z} {p m hh : Int}
theorem bk0_39 (j : Nat) (x : Int) (h : j < 45 ∨ 52 < j) : rA (bk0 s (rI s 44) p m hh) j x = rA s j x := by
  unfold bk0
  rw [wA_A, if_neg (fun z => by have := z.1; omega)]
  rw [wA_A, if_neg (fun z => by have := z.1; omega)]
  rw [wA_A, if_neg (fun z => by have := z.1; omega)]
  rw [wA_A, if_neg (fun z => by have := z.1; omega)]
  rw [wA_A, if_neg (fun z => by have := z.1; omega)]
  rw [wA_A, if_neg (fun z => by have := z.1; omega)]
  rw [wA_A, if_neg (fun z => by have := z.1; omega)]
  rw [wA_A, if_neg (fun z => by have := z.1; omega)]
  rfl
theorem bkT_U (hS : ∀ i : Nat, (i : Int) < rI s 38 → 0 ≤ sumI 0 i (rA s 39)) {j : Nat} {x : Int} (h : bkU (rI s 44) j x) : rA (bkT s p m hh) j x = rA s j x := by
  have e39 : rA (bk0 s (rI s 44) p m hh) 39 = rA s 39 := funext (fun x => bk0_39 39 x (by omega))
  unfold bkT
  exact (itB_U (X := (bk0 s (rI s 44) p m hh, 0)) (Int.le_refl _) (fun i hi => by show 0 ≤ sumI 0 i (rA (bk0 s (rI s 44) p m hh) 39); rw [e39]; exact hS i (by omega)) h).trans (bk0_U h)
theorem bkT_I (j : Nat) : rI (bkT s p m hh) j = if j = 44 then rI s 44 + 1 else rI s j := by
  have z := (itX_u (g := bkB (rI s 44)) (fun i X => bkB_u) (rI s 38).toNat (bk0 s (rI s 44) p m hh, 0)).2
  show (bkT s p m hh).2 j = _
  unfold bkT
  rw [z]
  rfl
theorem bkT_B (B : in_S s) (h44 : rI s 44 < 40) (hp : 0 ≤ p ∧ p ≤ 9) (hm : -1 ≤ m ∧ m ≤ 4) (hh1 : 1 ≤ hh ∧ hh ≤ 72) (hq : ∀ i : Nat, (i : Int) < rI s 38 → 1 ≤ rA s 39 i) (hS : ∀ i : Nat, (i : Int) < rI s 38 → 0 ≤ sumI 0 i (rA s 39) ∧ sumI 0 i (rA s 39) + rA s 39 i ≤ 4) : in_S (bkT s p m hh) := by
  have e39 : ∀ x, rA (bk0 s (rI s 44) p m hh) 39 x = rA s 39 x := fun x => bk0_39 39 x (by omega)
  have e39f : rA (bk0 s (rI s 44) p m hh) 39 = rA s 39 := funext e39
  have b44 := B.2.1 44 0 40 rfl
  have b38 := B.2.1 38 0 4 rfl
  have b37 := B.2.1 37 (-1) 20000 rfl
  have e49 : rA (bk0 s (rI s 44) p m hh) 49 (rI s 44) = rI s 37 := by
    unfold bk0
    rw [wA_A, if_neg (fun z => by have := z.1; omega), wA_A, if_neg (fun z => by have := z.1; omega), wA_A, if_neg (fun z => by have := z.1; omega), wA_A, if_pos ⟨rfl, rfl⟩]
  unfold bkT
  exact (itB_B (X := (bk0 s (rI s 44) p m hh, 0)) (bk0_B B h44 hp hm hh1) (by omega) (by show -1 ≤ rA (bk0 s (rI s 44) p m hh) 49 (rI s 44) ∧ rA (bk0 s (rI s 44) p m hh) 49 (rI s 44) ≤ 20000; rw [e49]; exact b37) rfl (rI s 38).toNat (by omega) (fun i hi => by
    show 0 ≤ rA (bk0 s (rI s 44) p m hh) 39 i ∧ 0 ≤ sumI 0 i (rA (bk0 s (rI s 44) p m hh) 39) ∧ sumI 0 i (rA (bk0 s (rI s 44) p m hh) 39) + rA (bk0 s (rI s 44) p m hh) 39 i ≤ 4
    rw [e39f]
    have z1 := hq i (by omega)
    have z2 := hS i (by omega)
    omega)).1
end BKT2
end

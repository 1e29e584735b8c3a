noncomputable section
abbrev canH0 (s : am_Z) (p c f : Int) : Prop := rA s 22 f = rA s 5 (rA s 36 p / 100) ∧ rA s 23 f = rA s 6 (rA s 36 (p + c - 1) / 100) ∧ (rA s 26 f ≤ (dep s (rA s 36 p) + rA s 1 (rA s 5 (rA s 36 p / 100))) / 24 ∧ (dep s (rA s 36 p) + rA s 1 (rA s 5 (rA s 36 p / 100))) / 24 ≤ rA s 27 f) ∧ 24 * rA s 28 f ≤ dep s (rA s 36 p) - rI s 0
abbrev canK (s : am_Z) (p f n k : Int) : Prop := (rA s 21 f = -1 ∨ rA s 4 (rA s 36 k / 100) = rA s 21 f) ∧ n ≤ openS s (rA s 36 k) (rA s 24 f) ∧ (k = p ∨ dep s (rA s 36 k) - arv s (rA s 36 (k - 1)) < 24)
def fCh (s : am_Z) (p f n : Int) (k : Nat) : Int := if canK s p f n (p + k) then 1 else 0
def canH (s : am_Z) (p c f n : Int) : Int := andN (if canH0 s p c f then 1 else 0) (fCh s p f n) c.toNat
theorem andN_0 {f : Nat → Int} {n : Nat} : andN 0 f n = 0 := by
  induction n with
  | zero => rfl
  | succ n ih => simp only [andN, ih]; rw [if_neg (fun z => z.1 rfl)]
theorem andN_z {g : Int} {f : Nat → Int} {n m : Nat} (h : andN g f n = 0) (hm : n ≤ m) : andN g f m = 0 := by
  induction m with
  | zero => rw [show n = 0 by omega] at h; exact h
  | succ m ih =>
    by_cases hn : n = m + 1
    · rw [← hn]; exact h
    · simp only [andN]
      rw [if_neg (fun z => z.1 (ih (by omega)))]
abbrev rndP (s : am_Z) (n : Int) : Prop := n = 2 ∧ rA s 5 (rA s 36 0 / 100) = rA s 6 (rA s 36 (rI s 35 - 1) / 100)
abbrev rest (s : am_Z) : Int := dep s (rA s 36 (rA s 41 0)) - arv s (rA s 36 (rA s 41 0 - 1))
def fGt (s : am_Z) (f : Int) (j : Nat) : Int := if (rA s 31 f = 0 ∨ rA s 21 (rA s 42 j) = rA s 21 f) ∧ (rA s 29 f = 0 ∨ rA s 29 (rA s 42 j) ≠ 0) then 1 else 0
def gtN (s : am_Z) (n : Int) : Nat → Int
  | 0 => 1
  | k + 1 => if rA s 29 (rA s 42 k) = 0 then andN (gtN s n k) (fGt s (rA s 42 k)) n.toNat else if andN (gtN s n k) (fGt s (rA s 42 k)) n.toNat ≠ 0 ∧ rndP s n ∧ 24 * rA s 30 (rA s 42 k) ≤ rest s then 1 else 0
theorem gtN_b (s : am_Z) (n : Int) (k : Nat) : 0 ≤ gtN s n k ∧ gtN s n k ≤ 1 := by
  induction k with
  | zero => simp [gtN]
  | succ k ih =>
    simp only [gtN]
    split
    · exact andN_b ih _ _
    · split <;> omega
def tkSum (s : am_Z) (n : Nat) : Int := sumI 0 n (fun k => rA s 25 (rA s 42 k))
def tkF (i : Nat) (t : am_Z) : am_Z := wA (wA t 39 i (rA t 41 i)) 40 i (rA t 42 i)
abbrev tkP (s : am_Z) (n : Int) : Prop := (rI s 37 = -1 ∨ tkSum s n.toNat < rI s 37) ∧ gtN s n n.toNat ≠ 0
def takeS (s : am_Z) (n : Int) : am_Z := if tkP s n then itS tkF n.toNat (wI (wI s 37 (tkSum s n.toNat)) 38 n) else s
theorem tkSum_b {s : am_Z} (B : in_S s) {n : Nat} (hn : n ≤ 4) : 0 ≤ tkSum s n ∧ tkSum s n ≤ 20000 := by
  have := sumI_b (a := 0) (n := n) (f := fun k => rA s 25 (rA s 42 k)) (M := 5000) (fun i => B.1 25 _ 0 5000 rfl)
  unfold tkSum
  omega
end


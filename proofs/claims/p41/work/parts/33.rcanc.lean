noncomputable section
def itS (f : Nat → am_Z → am_Z) : Nat → am_Z → am_Z
  | 0, s => s
  | n + 1, s => f n (itS f n s)
theorem itS_s (f : Nat → am_Z → am_Z) (n : Nat) (s : am_Z) : itS f (n + 1) s = f n (itS f n s) := rfl
theorem wB_n (s : am_Z) (j : Nat) (a : Int) (n : Nat) (g : Int → Int) : rA (wB s j a n g) j (a + n) = rA s j (a + n) := if_neg (fun h => by have := h.2.2; omega)
def gVoid (s : am_Z) (i : Int) : Int := if rA s 55 i ≤ 1 then 5 else rA s 55 i
def voidS (s : am_Z) (b : Int) : am_Z := wB s 55 (10 * b) (rA s 52 b).toNat (gVoid s)
def hasN (s : am_Z) (l b : Int) : Nat → Int
  | 0 => 0
  | n + 1 => if hasN s l b n ≠ 0 ∨ rA s 53 (10 * b + n) = l then 1 else 0
theorem hasN_b (s : am_Z) (l b : Int) (n : Nat) : 0 ≤ hasN s l b n ∧ hasN s l b n ≤ 1 := by
  cases n with
  | zero => simp [hasN]
  | succ n => simp only [hasN]; split <;> omega
def cancF (l : Int) (b : Nat) (t : am_Z) : am_Z := if hasN t l b (rA t 52 b).toNat ≠ 0 ∧ rA t 47 b = 0 then voidS (wA t 47 b 3) b else t
def cancS (s : am_Z) (l : Int) : am_Z := itS (cancF l) (rI s 44).toNat (wA s 18 (61 * (l / 100) + l % 100) 1)
end


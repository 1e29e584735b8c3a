noncomputable section
def kSetZone (s : am_Z) (i v : Int) : Int := if ¬ (0 ≤ i ∧ i ≤ 5) then 1 else if ¬ (-12 ≤ v ∧ v ≤ 14) then 2 else if 0 < rI s 3 then 3 else 0
def kSetTax (s : am_Z) (i v : Int) : Int := if ¬ (0 ≤ i ∧ i ≤ 5) then 1 else if 0 ≤ v ∧ v ≤ 500 then 0 else 2
def kLimit (s : am_Z) (f b v : Int) : Int := if ¬ ((0 ≤ f ∧ f < rI s 3) ∧ 0 ≤ b ∧ b ≤ 3) then 1 else if 0 ≤ v ∧ v ≤ rA s 9 f + 10 then 0 else 2
def kLink (s : am_Z) (f g : Int) : Int := if ¬ ((0 ≤ f ∧ f < rI s 3) ∧ (g = -1 ∨ 0 ≤ g ∧ g < rI s 3)) then 1 else if g = -1 ∨ rA s 5 g = rA s 6 f then 0 else 2
def kFare (s : am_Z) (c a b k v : Int) : Int := if ¬ ((-1 ≤ c ∧ c ≤ 2) ∧ (0 ≤ a ∧ a ≤ 5) ∧ (0 ≤ b ∧ b ≤ 5) ∧ 0 ≤ k ∧ k ≤ 3) then 1 else if a = b ∨ ¬ (1 ≤ v ∧ v ≤ 5000) then 2 else if rI s 20 = 16 then 3 else 0
def kRules (s : am_Z) (f a b ad st : Int) : Int := if ¬ (0 ≤ f ∧ f < rI s 20) then 1 else if (-1 ≤ a ∧ a ≤ 61) ∧ (a ≤ b ∧ b ≤ 61) ∧ (0 ≤ ad ∧ ad ≤ 30) ∧ 0 ≤ st ∧ st ≤ 30 then 0 else 2
def kBack (s : am_Z) (f v : Int) : Int := if ¬ (0 ≤ f ∧ f < rI s 20) then 1 else if 0 ≤ v ∧ v ≤ 100 then 0 else 2
def kLeg1 (s : am_Z) (l : Int) : Int := if legP s l then 0 else 1
def kOpen (s : am_Z) (l b : Int) : Int := if legP s l ∧ 0 ≤ b ∧ b ≤ 3 then 0 else 1
def standing (s : am_Z) (l : Int) : Int := 10 * rA s 17 (61 * (l / 100) + l % 100) + (if rA s 18 (61 * (l / 100) + l % 100) ≠ 0 then 2 else if goneP s l then 1 else 0)
/-- a block of an array written -/
def wB (s : am_Z) (j : Nat) (a : Int) (n : Nat) (g : Int → Int) : am_Z := (fun j' i' => if j' = j ∧ a ≤ i' ∧ i' < a + n then g i' else s.1 j' i', s.2)
theorem wB_A (s : am_Z) (j : Nat) (a : Int) (n : Nat) (g : Int → Int) (j' : Nat) (i' : Int) : rA (wB s j a n g) j' i' = if j' = j ∧ a ≤ i' ∧ i' < a + n then g i' else rA s j' i' := rfl
theorem wB_I (s : am_Z) (j : Nat) (a : Int) (n : Nat) (g : Int → Int) (j' : Nat) : rI (wB s j a n g) j' = rI s j' := rfl
theorem wB_0 (s : am_Z) (j : Nat) (a : Int) (g : Int → Int) : wB s j a 0 g = s := by
  unfold wB
  refine Prod.ext (funext fun j' => funext fun i' => ?_) rfl
  exact if_neg (fun h => by have := h.2; omega)
theorem wB_s (s : am_Z) (j : Nat) (a : Int) (n : Nat) (g : Int → Int) : wA (wB s j a n g) j (a + n) (g (a + n)) = wB s j a (n + 1) g := by
  unfold wA wB
  refine Prod.ext (funext fun j' => funext fun i' => ?_) rfl
  show (if j' = j ∧ i' = a + n then g (a + n) else if j' = j ∧ a ≤ i' ∧ i' < a + n then g i' else s.1 j' i') = if j' = j ∧ a ≤ i' ∧ i' < a + (n + 1 : Nat) then g i' else s.1 j' i'
  by_cases h1 : j' = j
  · by_cases h2 : i' = a + n
    · rw [if_pos ⟨h1, h2⟩, if_pos ⟨h1, by omega, by omega⟩, h2]
    · rw [if_neg (fun h => h2 h.2)]
      by_cases h3 : a ≤ i' ∧ i' < a + n
      · rw [if_pos ⟨h1, h3⟩, if_pos ⟨h1, by omega, by omega⟩]
      · rw [if_neg (fun h => h3 h.2), if_neg (fun h => h3 ⟨h.2.1, by omega⟩)]
  · rw [if_neg (fun h => h1 h.1), if_neg (fun h => h1 h.1), if_neg (fun h => h1 h.1)]
def kFlight (s : am_Z) (c a b t w n : Int) : Int := if ¬ ((0 ≤ c ∧ c ≤ 2) ∧ (0 ≤ a ∧ a ≤ 5) ∧ 0 ≤ b ∧ b ≤ 5) then 1 else if ¬ (a ≠ b ∧ (0 ≤ t ∧ t ≤ 23) ∧ (1 ≤ w ∧ w ≤ 20) ∧ 1 ≤ n ∧ n ≤ 60) then 2 else if rI s 3 = 12 then 3 else 0
def kDays (s : am_Z) (f a b n : Int) : Int := if ¬ (0 ≤ f ∧ f < rI s 3) then 1 else if ¬ ((0 ≤ a ∧ a ≤ 60) ∧ (a ≤ b ∧ b ≤ 60) ∧ 1 ≤ n ∧ n ≤ 127) then 2 else if rA s 10 f ≠ 0 then 3 else 0
def nThere (s : am_Z) (f t : Int) : Int := if thereP s f t then 1 else 0
theorem nThere_b {s : am_Z} (f t : Int) : 0 ≤ nThere s f t ∧ nThere s f t ≤ 1 := by unfold nThere; split <;> omega
end


noncomputable section
def andN (g : Int) (f : Nat → Int) : Nat → Int
  | 0 => g
  | n + 1 => if andN g f n ≠ 0 ∧ f n ≠ 0 then 1 else 0
def orN (f : Nat → Int) : Nat → Int
  | 0 => 0
  | n + 1 => if orN f n ≠ 0 ∨ f n ≠ 0 then 1 else 0
theorem andN_b {g : Int} (hg : 0 ≤ g ∧ g ≤ 1) (f : Nat → Int) (n : Nat) : 0 ≤ andN g f n ∧ andN g f n ≤ 1 := by
  cases n with
  | zero => exact hg
  | succ n => simp only [andN]; split <;> omega
theorem orN_b (f : Nat → Int) (n : Nat) : 0 ≤ orN f n ∧ orN f n ≤ 1 := by
  cases n with
  | zero => simp [orN]
  | succ n => simp only [orN]; split <;> omega
theorem andN_iff {g : Int} {f : Nat → Int} {n : Nat} : andN g f n ≠ 0 ↔ g ≠ 0 ∧ ∀ k, k < n → f k ≠ 0 := by
  induction n with
  | zero => exact ⟨fun h => ⟨h, fun k hk => absurd hk (Nat.not_lt_zero k)⟩, fun h => h.1⟩
  | succ n ih =>
    simp only [andN]
    constructor
    · intro h
      have h2 : andN g f n ≠ 0 ∧ f n ≠ 0 := Classical.byContradiction fun z => h (if_neg z)
      refine ⟨(ih.mp h2.1).1, fun k hk => ?_⟩
      by_cases hk2 : k = n
      · rw [hk2]; exact h2.2
      · exact (ih.mp h2.1).2 k (by omega)
    · intro h
      rw [if_pos ⟨ih.mpr ⟨h.1, fun k hk => h.2 k (by omega)⟩, h.2 n (by omega)⟩]
      omega
theorem orN_iff {f : Nat → Int} {n : Nat} : orN f n ≠ 0 ↔ ∃ k, k < n ∧ f k ≠ 0 := by
  induction n with
  | zero => exact ⟨fun h => absurd rfl h, fun ⟨k, h, _⟩ => absurd h (Nat.not_lt_zero k)⟩
  | succ n ih =>
    simp only [orN]
    constructor
    · intro h
      have h2 : orN f n ≠ 0 ∨ f n ≠ 0 := Classical.byContradiction fun z => h (if_neg z)
      rcases h2 with h2 | h2
      · obtain ⟨k, h3, h4⟩ := ih.mp h2
        exact ⟨k, by omega, h4⟩
      · exact ⟨n, by omega, h2⟩
    · rintro ⟨k, h1, h2⟩
      rw [if_pos]
      · omega
      · by_cases hk2 : k = n
        · exact Or.inr (hk2 ▸ h2)
        · exact Or.inl (ih.mpr ⟨k, by omega, h2⟩)
def fDrf (s : am_Z) (l : Int) (k : Nat) : Int := if rA s 34 k ≠ l then 1 else 0
abbrev connP (s : am_Z) (l : Int) : Prop := rA s 5 (l / 100) = rA s 6 (rA s 34 (rI s 33 - 1) / 100) ∧ arv s (rA s 34 (rI s 33 - 1)) + 1 ≤ dep s l
def canL (s : am_Z) (l : Int) : Int := andN (if rI s 33 < 4 ∧ (rI s 33 = 0 ∨ connP s l) then 1 else 0) (fDrf s l) (rI s 33).toNat
def kLegA (s : am_Z) (l : Int) : Int := if ¬ legP s l then 1 else if canL s l ≠ 0 then 0 else 2
/-- refunds -/
def fHas (s : am_Z) (b t : Int) (k : Nat) : Int := if rA s 56 (10 * b + k) = t then 1 else 0
def fNot (s : am_Z) (b t : Int) (k : Nat) : Int := if rA s 56 (10 * b + k) ≠ t ∨ (rA s 55 (10 * b + k) ≠ 2 ∧ rA s 55 (10 * b + k) ≠ 3) then 1 else 0
def gbS (s : am_Z) (b t : Int) : Int := if orN (fHas s b t) (rA s 52 b).toNat ≠ 0 ∧ andN 1 (fNot s b t) (rA s 52 b).toNat ≠ 0 then rA s 60 (4 * b + t) else 0
def gbT (s : am_Z) (i : Int) : Int := if rA s 55 i ≤ 1 ∨ rA s 55 i = 5 then rA s 58 i else 0
def gbV (s : am_Z) (b : Int) : Int := sumI 0 4 (gbS s b) + sumI (10 * b) (rA s 52 b).toNat (gbT s)
def taxAt (s : am_Z) (k : Int) : Int := if k = 0 ∨ 6 ≤ dep s (rA s 36 k) - arv s (rA s 36 (k - 1)) then rA s 2 (rA s 5 (rA s 36 k / 100)) else 0
def taxD (s : am_Z) (k : Int) : Int := if k = 0 ∨ 6 ≤ dep s (rA s 34 k) - arv s (rA s 34 (k - 1)) then rA s 2 (rA s 5 (rA s 34 k / 100)) else 0
def fCan (s : am_Z) (l b : Int) (k : Nat) : Int := if rA s 53 (10 * b + k) ≠ l ∨ 4 ≤ rA s 55 (10 * b + k) then 1 else 0
def canGo (s : am_Z) (l b own : Int) : Int := andN (if l ≠ own ∧ freeP s l ∧ rA s 45 b ≤ openS s l 0 then 1 else 0) (fCan s l b) (rA s 52 b).toNat
def nbR (s : am_Z) (b t : Int) : Nat → Int → Int
  | 0, _ => -1
  | n + 1, k => if 0 ≤ k ∧ k < rA s 52 b then (if 4 ≤ rA s 55 (10 * b + k) then nbR s b t n (k + t) else k) else -1
def nbS (s : am_Z) (b c t : Int) : Int := nbR s b t 12 (c + t)
theorem nbR_b (s : am_Z) (b t : Int) (n : Nat) (k : Int) : nbR s b t n k = -1 ∨ (0 ≤ nbR s b t n k ∧ nbR s b t n k < rA s 52 b) := by
  induction n generalizing k with
  | zero => exact Or.inl rfl
  | succ n ih =>
    rw [nbR]
    split
    · split
      · exact ih _
      · omega
    · exact Or.inl rfl
abbrev betP (s : am_Z) (w t a b : Int) : Prop := rI s 72 = -1 ∨ w < t ∨ (w = t ∧ ((b = -1 ∧ rI s 73 ≠ -1) ∨ ((b = -1 ↔ rI s 73 = -1) ∧ (a < rI s 72 ∨ (a = rI s 72 ∧ b < rI s 73)))))
abbrev lateP (s : am_Z) (b c : Int) : Prop := nbS s b c (-1) ≠ -1 ∧ dep s (rA s 53 (10 * b + c)) < arv s (rA s 53 (10 * b + nbS s b c (-1))) + 1
abbrev brkP (s : am_Z) (b c : Int) : Prop := rA s 55 (10 * b + c) ≤ 1 ∧ (rA s 18 (61 * (rA s 53 (10 * b + c) / 100) + rA s 53 (10 * b + c) % 100) ≠ 0 ∨ lateP s b c)
def cfN (s : am_Z) (b l : Int) : Nat → Int
  | 0 => -1
  | n + 1 => if rA s 53 (10 * b + n) = l ∧ rA s 55 (10 * b + n) = 1 then n else cfN s b l n
def cfS (s : am_Z) (b l : Int) : Int := if rA s 47 b = 1 then cfN s b l (rA s 52 b).toNat else -1
theorem cfN_b (s : am_Z) (b l : Int) (n : Nat) : -1 ≤ cfN s b l n ∧ cfN s b l n < n := by
  induction n with
  | zero => simp [cfN]
  | succ n ih => simp only [cfN]; split <;> omega
def flyS (s : am_Z) (b k l : Int) : am_Z :=
  if rA s 46 b = -1 then wA (wA s 55 k 2) 70 (3 * rA s 50 b + rA s 4 (l / 100)) (rA s 70 (3 * rA s 50 b + rA s 4 (l / 100)) + rA s 45 b * rA s 57 k)
  else wA (wA (wA s 55 k 2) 70 (3 * rA s 50 b + rA s 4 (l / 100)) (rA s 70 (3 * rA s 50 b + rA s 4 (l / 100)) + rA s 45 b * rA s 57 k)) 69 (rA s 46 b) (rA s 69 (rA s 46 b) + 10 * rA s 45 b * rA s 8 (l / 100))
def nwN (s : am_Z) : Nat → Int
  | 0 => -1
  | n + 1 => if (waitP s n ∧ rA s 67 n = 0) ∧ (nwN s n = -1 ∨ tierS s (rA s 63 (nwN s n)) < tierS s (rA s 63 n)) then n else nwN s n
theorem nwN_b (s : am_Z) (n : Nat) : -1 ≤ nwN s n ∧ nwN s n < n := by
  induction n with
  | zero => simp [nwN]
  | succ n ih => simp only [nwN]; split <;> omega
abbrev ndP (s : am_Z) (f b : Int) : Prop := (f = -1 ∨ (rA s 51 b ≠ 0 ∧ rA s 51 f = 0)) ∨ (f ≠ -1 ∧ rA s 51 b = rA s 51 f ∧ tierS s (rA s 46 b) ≤ tierS s (rA s 46 f))
def ndN (s : am_Z) (l : Int) : Nat → Int
  | 0 => -1
  | n + 1 => if cfS s n l ≠ -1 ∧ rA s 67 n = 0 ∧ ndP s (ndN s l n) n then n else ndN s l n
theorem ndN_b (s : am_Z) (l : Int) (n : Nat) : -1 ≤ ndN s l n ∧ ndN s l n < n := by
  induction n with
  | zero => simp [ndN]
  | succ n ih => simp only [ndN]; split <;> omega
theorem taxAt_D {s : am_Z} {n : Nat} {k : Int} (h0 : 0 ≤ k) (hk : k < n) : taxAt (wB s 36 0 n (fun i => rA s 34 i)) k = taxD s k := by
  have e : ∀ i : Int, 0 ≤ i → i < n → rA (wB s 36 0 n (fun i => rA s 34 i)) 36 i = rA s 34 i := fun i h1 h2 => if_pos ⟨rfl, h1, by omega⟩
  have ed : ∀ l, dep (wB s 36 0 n (fun i => rA s 34 i)) l = dep s l := fun l => rfl
  have ea : ∀ l, arv (wB s 36 0 n (fun i => rA s 34 i)) l = arv s l := fun l => rfl
  have e2 : ∀ i, rA (wB s 36 0 n (fun i => rA s 34 i)) 2 i = rA s 2 i := fun _ => rfl
  have e5 : ∀ i, rA (wB s 36 0 n (fun i => rA s 34 i)) 5 i = rA s 5 i := fun _ => rfl
  unfold taxAt taxD
  rw [e k h0 hk, ed, ea, e2, e5]
  by_cases hz : k = 0
  · rw [if_pos (Or.inl hz), if_pos (Or.inl hz)]
  · rw [e (k - 1) (by omega) (by omega)]
end


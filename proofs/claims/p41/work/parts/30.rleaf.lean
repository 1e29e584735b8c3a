noncomputable section
/-! The reference: what its small methods answer, as functions of its state. -/
abbrev legR (l : Int) : Prop := 0 ≤ l ∧ l ≤ 1160 ∧ l % 100 ≤ 60
abbrev atL (l : Int) : Int := 61 * (l / 100) + l % 100
abbrev thereP (s : am_Z) (f d : Int) : Prop := rA s 10 f ≠ 0 ∧ rA s 11 f ≤ d ∧ d ≤ rA s 12 f ∧ iAnd (iShr (rA s 13 f) (d % 7)) 1 = 1
abbrev legP (s : am_Z) (l : Int) : Prop := 0 ≤ l ∧ l / 100 < rI s 3 ∧ l % 100 < 61 ∧ thereP s (l / 100) (l % 100)
def dep (s : am_Z) (l : Int) : Int := 24 * (l % 100) + rA s 7 (l / 100) - rA s 1 (rA s 5 (l / 100)) + rA s 17 (61 * (l / 100) + l % 100)
def arv (s : am_Z) (l : Int) : Int := dep s l + rA s 8 (l / 100)
abbrev goneP (s : am_Z) (l : Int) : Prop := rA s 18 (61 * (l / 100) + l % 100) = 0 ∧ dep s l ≤ rI s 0
abbrev freeP (s : am_Z) (l : Int) : Prop := rA s 18 (61 * (l / 100) + l % 100) = 0 ∧ rI s 0 < dep s l
abbrev inR (v : Int) : Prop := -20 ≤ v ∧ v ≤ 1600
end


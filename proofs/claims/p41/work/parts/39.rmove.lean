noncomputable section
theorem dep_b {s : am_Z} (B : in_S s) {l : Int} (_hl : legR l) : -14 ≤ dep s l ∧ dep s l ≤ 1500 := by
  have h1 := B.1 7 (l / 100) 0 23 rfl
  have h2 := B.1 1 (rA s 5 (l / 100)) (-12) 14 rfl
  have h3 := B.1 17 (61 * (l / 100) + l % 100) 0 8 rfl
  unfold dep
  omega
abbrev okL (W : am_Y) : Prop := (W.2.1 = -1 ∨ legR W.2.1) ∧ (W.2.2 = -1 ∨ legR W.2.2)
theorem it2_ok {s : am_Z} (B : in_S s) {b own N g a : Int} (ha : legR a) {W : am_Y} (hW : okL W) (n : Nat) : okL (it2 s b own N g a n W) := by
  induction n with
  | zero => exact hW
  | succ n ih =>
    rw [it2]
    unfold stp2
    split
    · rename_i h
      exact ⟨Or.inr ha, Or.inr (legP_R B h.1.1)⟩
    · exact ih
theorem itA_ok {s : am_Z} (B : in_S s) {b own E L N g : Int} (n : Nat) : okL (itA s b own E L N g n (0, -1, -1)) := by
  induction n with
  | zero => exact ⟨Or.inl rfl, Or.inl rfl⟩
  | succ n ih =>
    have h1 : okL (stp1 s b own E L N g n (itA s b own E L N g n (0, -1, -1))) := by
      unfold stp1
      split
      · rename_i h
        exact ⟨Or.inr (legP_R B h.1.1), Or.inl rfl⟩
      · exact ih
    rw [itA]
    unfold stpA
    split
    · rename_i h
      exact it2_ok B (legP_R B h.1.1) h1 _
    · exact h1
theorem wayS_ok {s : am_Z} (B : in_S s) (b c : Int) : okL (wayS s b c) := itA_ok B _
def nWay (s : am_Z) (b c : Int) : Int := if (wayS s b c).2.1 = -1 then 0 else if (wayS s b c).2.2 = -1 then 1 else 2
def shF (top n : Int) (i : Nat) (t : am_Z) : am_Z := cpyS t (top - i) (top - i + n)
def mvF (k : Int) (i : Nat) (t : am_Z) : am_Z := wA (wA (wA (wA (wA (wA t 53 (k + ((i : Int) + 1)) (if (i : Int) + 1 = 1 then rI t 72 else rI t 73)) 54 (k + ((i : Int) + 1)) 0) 55 (k + ((i : Int) + 1)) 0) 56 (k + ((i : Int) + 1)) (rA t 56 k)) 57 (k + ((i : Int) + 1)) (if (i : Int) + 1 = 1 then rA t 57 k else 0)) 58 (k + ((i : Int) + 1)) (if (i : Int) + 1 = 1 then rA t 58 k else 0)
abbrev mvP (s : am_Z) (b c : Int) : Prop := nWay s b c ≠ 0 ∧ rA s 52 b + nWay s b c ≤ 10
def moveS (s : am_Z) (b c : Int) : am_Z :=
  if mvP s b c then wA (wA (wA (itS (mvF (10 * b + c)) (nWay s b c).toNat (wA (itS (shF (10 * b + rA s 52 b - 1) (nWay s b c)) (rA s 52 b - 1 - c).toNat (findS s b c)) 52 b (rA s 52 b + nWay s b c))) 55 (10 * b + c) 4) 57 (10 * b + c) 0) 58 (10 * b + c) 0
  else wA (findS s b c) 55 (10 * b + c) 5
theorem itS_I {f : Nat → am_Z → am_Z} (h : ∀ i t, (f i t).2 = t.2) (n : Nat) (s : am_Z) : (itS f n s).2 = s.2 := by
  induction n with
  | zero => rfl
  | succ n ih => rw [itS_s, h, ih]
theorem itS_A {f : Nat → am_Z → am_Z} {j : Nat} (h : ∀ i t x, rA (f i t) j x = rA t j x) (n : Nat) (s : am_Z) (x : Int) : rA (itS f n s) j x = rA s j x := by
  induction n with
  | zero => rfl
  | succ n ih => rw [itS_s, h, ih]
end


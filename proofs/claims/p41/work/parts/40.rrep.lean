noncomputable section
theorem cpyS_I (t : am_Z) (a b : Int) : (cpyS t a b).2 = t.2 := rfl
theorem moveS_I {s : am_Z} {b c : Int} {j : Nat} (h2 : j ≠ 72) (h3 : j ≠ 73) : rI (moveS s b c) j = rI s j := by
  have e : rI (findS s b c) j = rI s j := by
    show (if j = 73 then _ else if j = 72 then _ else s.2 j) = s.2 j
    rw [if_neg h3, if_neg h2]
  unfold moveS
  split
  · refine Eq.trans ?_ e
    refine (congrFun (itS_I (f := mvF (10 * b + c)) (fun _ _ => rfl) _ _) j).trans ?_
    exact congrFun (itS_I (f := shF (10 * b + rA s 52 b - 1) (nWay s b c)) (fun _ _ => rfl) _ _) j
  · exact e
abbrev am_X : Type := am_Z × Int
theorem ite_n {α : Type} {P : Prop} [Decidable P] (x y : α) : (if (if P then (1 : Int) else 0) ≠ 0 then x else y) = if P then x else y := by
  by_cases hp : P
  · rw [if_pos (by rw [if_pos hp]; omega), if_pos hp]
  · rw [if_neg (fun z => z (if_neg hp)), if_neg hp]
def rpr3 (b : Int) : Nat → Int → am_X → am_X
  | 0, _, X => X
  | m + 1, k, X => if k < rA X.1 52 b then (if brkP X.1 b k then rpr3 b m (k + 1) (moveS X.1 b k, X.2 + (if mvP X.1 b k then 100 else 1)) else rpr3 b m (k + 1) X) else X
def rprB (t b : Int) (X : am_X) : am_X := if rA X.1 47 b = 1 ∧ tierS X.1 (rA X.1 46 b) = t then rpr3 b 12 0 X else X
def rpr2 (t : Int) : Nat → am_X → am_X
  | 0, X => X
  | n + 1, X => rprB t n (rpr2 t n X)
def rpr1 (nb : Nat) : Nat → am_X → am_X
  | 0, X => X
  | i + 1, X => rpr2 (3 - i) nb (rpr1 nb i X)
theorem rpr3_I {b : Int} {m : Nat} {k : Int} {X : am_X} {j : Nat} (h2 : j ≠ 72) (h3 : j ≠ 73) : rI (rpr3 b m k X).1 j = rI X.1 j := by
  induction m generalizing k X with
  | zero => rfl
  | succ m ih =>
    rw [rpr3]
    split
    · split
      · rw [ih, moveS_I h2 h3]
      · exact ih
    · rfl
theorem rprB_I {t b : Int} {X : am_X} {j : Nat} (h2 : j ≠ 72) (h3 : j ≠ 73) : rI (rprB t b X).1 j = rI X.1 j := by
  unfold rprB
  split
  · exact rpr3_I h2 h3
  · rfl
theorem rpr2_I {t : Int} {n : Nat} {X : am_X} {j : Nat} (h2 : j ≠ 72) (h3 : j ≠ 73) : rI (rpr2 t n X).1 j = rI X.1 j := by
  induction n with
  | zero => rfl
  | succ n ih => rw [rpr2, rprB_I h2 h3, ih]
end


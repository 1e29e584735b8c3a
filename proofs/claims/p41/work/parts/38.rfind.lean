noncomputable section
theorem canGo_cg {s s' : am_Z} (h : s'.1 = s.1) (h4 : rI s' 44 = rI s 44) (h0 : rI s' 0 = rI s 0) (l b w : Int) : canGo s' l b w = canGo s l b w := by
  have hA : ∀ j i, rA s' j i = rA s j i := fun j i => by unfold rA; rw [h]
  unfold canGo
  rw [openS_cg (fun j i _ => hA j i) h4 h0, hA 52, hA 45]
  unfold freeP
  rw [dep_cg (fun j i _ => hA j i), h0, hA 18]
  have e : fCan s' l b = fCan s l b := by
    funext k
    unfold fCan
    rw [hA, hA]
  rw [e]
section WV
variable {d : Nat} {s s0 : am_Z}
abbrev betW (w1 w2 w t a b : Int) : Prop := w1 = -1 ∨ w < t ∨ (w = t ∧ ((b = -1 ∧ w2 ≠ -1) ∨ ((b = -1 ↔ w2 = -1) ∧ (a < w1 ∨ (a = w1 ∧ b < w2)))))
end WV
theorem wI_72 (s : am_Z) (x y a b : Int) : wI (wI (wI (wI s 72 x) 73 y) 72 a) 73 b = wI (wI s 72 a) 73 b := by
  refine Prod.ext rfl (funext fun j => ?_)
  show (if j = 73 then b else if j = 72 then a else if j = 73 then y else if j = 72 then x else s.2 j) = if j = 73 then b else if j = 72 then a else s.2 j
  by_cases h1 : j = 73
  · rw [if_pos h1, if_pos h1]
  · rw [if_neg h1, if_neg h1, if_neg h1]
    by_cases h2 : j = 72
    · rw [if_pos h2, if_pos h2]
    · rw [if_neg h2, if_neg h2, if_neg h2]
abbrev am_Y : Type := Int × Int × Int
abbrev canA (s : am_Z) (b own E L a : Int) : Prop := legP s a ∧ rA s 5 (a / 100) = rA s 5 (own / 100) ∧ (E ≤ dep s a ∧ dep s a ≤ L) ∧ canGo s a b own ≠ 0
abbrev goOn (s : am_Z) (N g a k : Int) : Prop := legP s k ∧ rA s 5 (k / 100) = rA s 6 (a / 100) ∧ rA s 6 (k / 100) = g ∧ arv s a + 1 ≤ dep s k ∧ arv s k ≤ N
def stp1 (s : am_Z) (b own E L N g a : Int) (W : am_Y) : am_Y := if canA s b own E L a ∧ rA s 6 (a / 100) = g ∧ arv s a ≤ N ∧ betW W.2.1 W.2.2 (arv s a) W.1 a (-1) then (arv s a, a, -1) else W
def stp2 (s : am_Z) (b own N g a k : Int) (W : am_Y) : am_Y := if goOn s N g a k ∧ canGo s k b own ≠ 0 ∧ betW W.2.1 W.2.2 (arv s k) W.1 a k then (arv s k, a, k) else W
def it2 (s : am_Z) (b own N g a : Int) : Nat → am_Y → am_Y
  | 0, W => W
  | n + 1, W => stp2 s b own N g a n (it2 s b own N g a n W)
def stpA (s : am_Z) (b own E L N g a : Int) (W : am_Y) : am_Y := if canA s b own E L a ∧ rA s 6 (a / 100) ≠ g then it2 s b own N g a (100 * rI s 3).toNat (stp1 s b own E L N g a W) else stp1 s b own E L N g a W
def itA (s : am_Z) (b own E L N g : Int) : Nat → am_Y → am_Y
  | 0, W => W
  | n + 1, W => stpA s b own E L N g n (itA s b own E L N g n W)
abbrev okY (W : am_Y) : Prop := (-20 ≤ W.1 ∧ W.1 ≤ 1600) ∧ (-1 ≤ W.2.1 ∧ W.2.1 ≤ 1160) ∧ (-1 ≤ W.2.2 ∧ W.2.2 ≤ 1160)
def earS (s : am_Z) (b c : Int) : Int := if nbS s b c (-1) ≠ -1 ∧ rI s 0 + 1 < arv s (rA s 53 (10 * b + nbS s b c (-1))) + 1 then arv s (rA s 53 (10 * b + nbS s b c (-1))) + 1 else rI s 0 + 1
def endS (s : am_Z) (b c : Int) : Int := if nbS s b c 1 = -1 then 100000 else dep s (rA s 53 (10 * b + nbS s b c 1)) - 1
def wayS (s : am_Z) (b c : Int) : am_Y := itA s b (rA s 53 (10 * b + c)) (earS s b c) (dep s (rA s 53 (10 * b + c)) + 48) (endS s b c) (rA s 6 (rA s 53 (10 * b + c) / 100)) (100 * rI s 3).toNat (0, -1, -1)
def findS (s : am_Z) (b c : Int) : am_Z := wI (wI s 72 (wayS s b c).2.1) 73 (wayS s b c).2.2
theorem ite_c {α : Type} {P Q : Prop} [Decidable P] [Decidable Q] (x y : α) : (if (if P then (1 : Int) else 0) ≠ 0 ∧ Q then x else y) = if P ∧ Q then x else y := by
  by_cases hp : P
  · by_cases hq : Q
    · rw [if_pos ⟨by rw [if_pos hp]; omega, hq⟩, if_pos ⟨hp, hq⟩]
    · rw [if_neg (fun z => hq z.2), if_neg (fun z => hq z.2)]
  · rw [if_neg (fun z => z.1 (if_neg hp)), if_neg (fun z => hp z.1)]
theorem legP_R {s : am_Z} (B : in_S s) {l : Int} (h : legP s l) : legR l := by
  have b3 := B.2.1 3 0 12 rfl
  omega
end


noncomputable section
theorem itA_lg {s : am_Z} {b own E L N g : Int} : ∀ n : Nat, ((itA s b own E L N g n (0, -1, -1)).2.1 = -1 ∨ legP s (itA s b own E L N g n (0, -1, -1)).2.1) ∧ ((itA s b own E L N g n (0, -1, -1)).2.2 = -1 ∨ legP s (itA s b own E L N g n (0, -1, -1)).2.2) := by
  have h2 : ∀ (a : Int) (W : am_Y), legP s a → (W.2.1 = -1 ∨ legP s W.2.1) ∧ (W.2.2 = -1 ∨ legP s W.2.2) → ∀ n : Nat, ((it2 s b own N g a n W).2.1 = -1 ∨ legP s (it2 s b own N g a n W).2.1) ∧ ((it2 s b own N g a n W).2.2 = -1 ∨ legP s (it2 s b own N g a n W).2.2) := by
    intro a W ha hW n
    induction n with
    | zero => exact hW
    | succ n ih =>
      rw [it2_s]
      unfold stp2
      split
      · rename_i z
        exact ⟨Or.inr ha, Or.inr z.1.1⟩
      · exact ih
  intro n
  induction n with
  | zero => exact ⟨Or.inl rfl, Or.inl rfl⟩
  | succ n ih =>
    rw [itA_s]
    have h1 : ((stp1 s b own E L N g n (itA s b own E L N g n (0, -1, -1))).2.1 = -1 ∨ legP s (stp1 s b own E L N g n (itA s b own E L N g n (0, -1, -1))).2.1) ∧ ((stp1 s b own E L N g n (itA s b own E L N g n (0, -1, -1))).2.2 = -1 ∨ legP s (stp1 s b own E L N g n (itA s b own E L N g n (0, -1, -1))).2.2) := by
      unfold stp1
      split
      · rename_i z
        exact ⟨Or.inr z.1.1, Or.inl rfl⟩
      · exact ih
    unfold stpA
    split
    · rename_i z
      exact h2 n _ z.1.1 h1 _
    · exact h1
theorem way_lg {s : am_Z} {b c : Int} : ((wayS s b c).2.1 = -1 ∨ legP s (wayS s b c).2.1) ∧ ((wayS s b c).2.2 = -1 ∨ legP s (wayS s b c).2.2) := itA_lg _
theorem way_n {s : am_Z} (B : in_S s) {b c : Int} : (wayS s b c).2.1 = -1 → (wayS s b c).2.2 = -1 := (itA_inv B _).1
theorem find_A {s : am_Z} {b c : Int} : (findS s b c).1 = s.1 := rfl
theorem find_B {s : am_Z} (B : in_S s) {b c : Int} : in_S (findS s b c) := by
  have h := wayS_ok B b c
  refine in_S_I (in_S_I B (fun lo hi e => ?_)) (fun lo hi e => ?_)
  · cases e
    rcases h.1 with z | z <;> omega
  · cases e
    rcases h.2 with z | z <;> omega
theorem cpy_A {t : am_Z} {a c : Int} {j : Nat} {x : Int} : rA (cpyS t a c) j x = if (53 ≤ j ∧ j ≤ 58) ∧ x = c then rA t j a else rA t j x := by
  unfold cpyS
  simp only [wA_A]
  by_cases hx : x = c
  · by_cases hj : 53 ≤ j ∧ j ≤ 58
    · rw [if_pos (c := (53 ≤ j ∧ j ≤ 58) ∧ x = c) ⟨hj, hx⟩]
      have e : j = 53 ∨ j = 54 ∨ j = 55 ∨ j = 56 ∨ j = 57 ∨ j = 58 := by omega
      rcases e with rfl | rfl | rfl | rfl | rfl | rfl <;> simp [hx]
    · rw [if_neg (c := (53 ≤ j ∧ j ≤ 58) ∧ x = c) (fun z => hj z.1), if_neg (by omega), if_neg (by omega), if_neg (by omega), if_neg (by omega), if_neg (by omega), if_neg (by omega)]
  · rw [if_neg (fun z => hx z.2), if_neg (fun z => hx z.2), if_neg (fun z => hx z.2), if_neg (fun z => hx z.2), if_neg (fun z => hx z.2), if_neg (fun z => hx z.2), if_neg (fun z => hx z.2)]
theorem sh_cf {s : am_Z} {top n : Int} (hn : 1 ≤ n) {j : Nat} {x : Int} : ∀ m : Nat, rA (itS (shF top n) m s) j x = if (53 ≤ j ∧ j ≤ 58) ∧ top - m + n < x ∧ x ≤ top + n then rA s j (x - n) else rA s j x := by
  intro m
  induction m generalizing x with
  | zero => rw [if_neg (by omega)]; rfl
  | succ m ih =>
    rw [itS_s, show shF top n m (itS (shF top n) m s) = cpyS (itS (shF top n) m s) (top - m) (top - m + n) from rfl, cpy_A, ih, ih, if_neg (c := (53 ≤ j ∧ j ≤ 58) ∧ top - m + n < top - m ∧ top - m ≤ top + n) (by omega)]
    by_cases hx : (53 ≤ j ∧ j ≤ 58) ∧ x = top - m + n
    · rw [if_pos hx, if_pos (by omega), hx.2]
      exact congrArg (rA s j) (by omega)
    · rw [if_neg hx]
      by_cases hc : (53 ≤ j ∧ j ≤ 58) ∧ top - m + n < x ∧ x ≤ top + n
      · rw [if_pos hc, if_pos (by omega)]
      · rw [if_neg hc, if_neg (by omega)]
theorem sh_I {s : am_Z} {top n : Int} (m : Nat) : (itS (shF top n) m s).2 = s.2 := itS_I (f := shF top n) (fun i t => rfl) m s
/-- what the class makes of a booking that moves on, with one leg or two -/
def mv1S (s : am_Z) (b c : Int) : am_Z := wA (wA (wA (insC s b (c + 1) (wayS s b c).2.1 (rA s 57 (10 * b + c)) (rA s 58 (10 * b + c)) (rA s 56 (10 * b + c))) 55 (10 * b + c) 4) 57 (10 * b + c) 0) 58 (10 * b + c) 0
def mv2S (s : am_Z) (b c : Int) : am_Z := wA (wA (wA (insC (insC s b (c + 1) (wayS s b c).2.1 (rA s 57 (10 * b + c)) (rA s 58 (10 * b + c)) (rA s 56 (10 * b + c))) b (c + 2) (wayS s b c).2.2 0 0 (rA s 56 (10 * b + c))) 55 (10 * b + c) 4) 57 (10 * b + c) 0) 58 (10 * b + c) 0
section MV
variable {s : am_Z} {b c : Int}
theorem mv_1 (hc : 0 ≤ c ∧ c < rA s 52 b) (h : mvP s b c) (h1 : nWay s b c = 1) (j : Nat) (x : Int) : rA (moveS s b c) j x = rA (mv1S s b c) j x := by
  unfold moveS mv1S
  rw [if_pos h, h1]
  have eT : rI (wA (itS (shF (10 * b + rA s 52 b - 1) 1) (rA s 52 b - 1 - c).toNat (findS s b c)) 52 b (rA s 52 b + 1)) 72 = (wayS s b c).2.1 := by
    show (itS (shF (10 * b + rA s 52 b - 1) 1) (rA s 52 b - 1 - c).toNat (findS s b c)).2 72 = _
    rw [sh_I]
    rfl
  have eS : ∀ (j : Nat) (x : Int), rA (itS (shF (10 * b + rA s 52 b - 1) 1) (rA s 52 b - 1 - c).toNat (findS s b c)) j x = if (53 ≤ j ∧ j ≤ 58) ∧ 10 * b + c + 1 < x ∧ x ≤ 10 * b + rA s 52 b then rA s j (x - 1) else rA s j x := fun j x => by
    rw [sh_cf (by omega)]
    by_cases z : (53 ≤ j ∧ j ≤ 58) ∧ 10 * b + c + 1 < x ∧ x ≤ 10 * b + rA s 52 b
    · rw [if_pos z, if_pos (by omega)]
      rfl
    · rw [if_neg z, if_neg (by omega)]
      rfl
  have em : itS (mvF (10 * b + c)) (1 : Int).toNat (wA (itS (shF (10 * b + rA s 52 b - 1) 1) (rA s 52 b - 1 - c).toNat (findS s b c)) 52 b (rA s 52 b + 1)) = mvF (10 * b + c) 0 (wA (itS (shF (10 * b + rA s 52 b - 1) 1) (rA s 52 b - 1 - c).toNat (findS s b c)) 52 b (rA s 52 b + 1)) := rfl
  rw [em]
  unfold mvF
  simp only [wA_A, ins_A, eT, eS]
  by_cases hj : 52 ≤ j ∧ j ≤ 58
  · have e : j = 52 ∨ j = 53 ∨ j = 54 ∨ j = 55 ∨ j = 56 ∨ j = 57 ∨ j = 58 := by omega
    rcases e with rfl | rfl | rfl | rfl | rfl | rfl | rfl <;> simp <;> repeat' split
    all_goals first | rfl | omega | (exact congrArg (rA s _) (by omega))
  · repeat rw [if_neg (by omega)]
theorem mvF_A0 {k : Int} {t : am_Z} {j : Nat} {x : Int} : rA (mvF k 0 t) j x = if j = 58 ∧ x = k + 1 then rA t 58 k else if j = 57 ∧ x = k + 1 then rA t 57 k else if j = 56 ∧ x = k + 1 then rA t 56 k else if j = 55 ∧ x = k + 1 then 0 else if j = 54 ∧ x = k + 1 then 0 else if j = 53 ∧ x = k + 1 then rI t 72 else rA t j x := rfl
theorem mvF_A1 {k : Int} {t : am_Z} {j : Nat} {x : Int} : rA (mvF k 1 t) j x = if j = 58 ∧ x = k + 2 then 0 else if j = 57 ∧ x = k + 2 then 0 else if j = 56 ∧ x = k + 2 then rA t 56 k else if j = 55 ∧ x = k + 2 then 0 else if j = 54 ∧ x = k + 2 then 0 else if j = 53 ∧ x = k + 2 then rI t 73 else rA t j x := rfl
theorem mv_2 (hc : 0 ≤ c ∧ c < rA s 52 b) (h : mvP s b c) (h1 : nWay s b c = 2) (j : Nat) (x : Int) : rA (moveS s b c) j x = rA (mv2S s b c) j x := by
  unfold moveS mv2S
  rw [if_pos h, h1]
  have eS : ∀ (j : Nat) (x : Int), rA (itS (shF (10 * b + rA s 52 b - 1) 2) (rA s 52 b - 1 - c).toNat (findS s b c)) j x = if (53 ≤ j ∧ j ≤ 58) ∧ 10 * b + c + 2 < x ∧ x ≤ 10 * b + rA s 52 b + 1 then rA s j (x - 2) else rA s j x := fun j x => by
    rw [sh_cf (by omega)]
    by_cases z : (53 ≤ j ∧ j ≤ 58) ∧ 10 * b + c + 2 < x ∧ x ≤ 10 * b + rA s 52 b + 1
    · rw [if_pos z, if_pos (by omega)]
      rfl
    · rw [if_neg z, if_neg (by omega)]
      rfl
  generalize hT : wA (itS (shF (10 * b + rA s 52 b - 1) 2) (rA s 52 b - 1 - c).toNat (findS s b c)) 52 b (rA s 52 b + 2) = T
  have e72 : rI T 72 = (wayS s b c).2.1 := by
    rw [← hT]
    show (itS (shF (10 * b + rA s 52 b - 1) 2) (rA s 52 b - 1 - c).toNat (findS s b c)).2 72 = _
    rw [sh_I]
    rfl
  have e73 : rI (mvF (10 * b + c) 0 T) 73 = (wayS s b c).2.2 := by
    show rI T 73 = _
    rw [← hT]
    show (itS (shF (10 * b + rA s 52 b - 1) 2) (rA s 52 b - 1 - c).toNat (findS s b c)).2 73 = _
    rw [sh_I]
    rfl
  have eT : ∀ (j : Nat) (x : Int), rA T j x = if j = 52 ∧ x = b then rA s 52 b + 2 else if (53 ≤ j ∧ j ≤ 58) ∧ 10 * b + c + 2 < x ∧ x ≤ 10 * b + rA s 52 b + 1 then rA s j (x - 2) else rA s j x := fun j x => by rw [← hT, wA_A, eS]
  have em : itS (mvF (10 * b + c)) (2 : Int).toNat T = mvF (10 * b + c) 1 (mvF (10 * b + c) 0 T) := rfl
  rw [em]
  have e52 : rA (insC s b (c + 1) (wayS s b c).2.1 (rA s 57 (10 * b + c)) (rA s 58 (10 * b + c)) (rA s 56 (10 * b + c))) 52 b = rA s 52 b + 1 := ins_52
  have eO : ∀ (j : Nat) (x : Int), rA (insC (insC s b (c + 1) (wayS s b c).2.1 (rA s 57 (10 * b + c)) (rA s 58 (10 * b + c)) (rA s 56 (10 * b + c))) b (c + 2) (wayS s b c).2.2 0 0 (rA s 56 (10 * b + c))) j x = if (53 ≤ j ∧ j ≤ 58) ∧ 10 * b + (c + 2) ≤ x ∧ x ≤ 10 * b + (rA s 52 b + 1) then (if x = 10 * b + (c + 2) then (if j = 53 then (wayS s b c).2.2 else if j = 56 then rA s 56 (10 * b + c) else if j = 57 then 0 else if j = 58 then 0 else 0) else rA (insC s b (c + 1) (wayS s b c).2.1 (rA s 57 (10 * b + c)) (rA s 58 (10 * b + c)) (rA s 56 (10 * b + c))) j (x - 1)) else if j = 52 ∧ x = b then rA s 52 b + 1 + 1 else rA (insC s b (c + 1) (wayS s b c).2.1 (rA s 57 (10 * b + c)) (rA s 58 (10 * b + c)) (rA s 56 (10 * b + c))) j x := fun j x => by rw [ins_A, e52]
  have eI : ∀ (j : Nat) (x : Int), rA (insC s b (c + 1) (wayS s b c).2.1 (rA s 57 (10 * b + c)) (rA s 58 (10 * b + c)) (rA s 56 (10 * b + c))) j x = if (53 ≤ j ∧ j ≤ 58) ∧ 10 * b + (c + 1) ≤ x ∧ x ≤ 10 * b + rA s 52 b then (if x = 10 * b + (c + 1) then (if j = 53 then (wayS s b c).2.1 else if j = 56 then rA s 56 (10 * b + c) else if j = 57 then rA s 57 (10 * b + c) else if j = 58 then rA s 58 (10 * b + c) else 0) else rA s j (x - 1)) else if j = 52 ∧ x = b then rA s 52 b + 1 else rA s j x := fun j x => ins_A j x
  generalize hI1 : insC s b (c + 1) (wayS s b c).2.1 (rA s 57 (10 * b + c)) (rA s 58 (10 * b + c)) (rA s 56 (10 * b + c)) = I1 at *
  generalize hI2 : insC I1 b (c + 2) (wayS s b c).2.2 0 0 (rA s 56 (10 * b + c)) = I2 at *
  simp only [wA_A, mvF_A1, mvF_A0, eO, eI, e73, e72, eT]
  by_cases hj : 52 ≤ j ∧ j ≤ 58
  · have e : j = 52 ∨ j = 53 ∨ j = 54 ∨ j = 55 ∨ j = 56 ∨ j = 57 ∨ j = 58 := by omega
    rcases e with rfl | rfl | rfl | rfl | rfl | rfl | rfl <;> simp <;> repeat' split
    all_goals first | rfl | omega | (exact congrArg (rA s _) (by omega))
  · repeat rw [if_neg (by omega)]
end MV
end

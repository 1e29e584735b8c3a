noncomputable section
/-- ranges that the flying needs -/
def am_jr (t : am_Z) : Prop := h52P t ∧ (∀ x, 0 ≤ rA t 50 x ∧ rA t 50 x ≤ 2) ∧ (∀ x, 0 ≤ rA t 4 x ∧ rA t 4 x ≤ 2) ∧ ∀ x, -1 ≤ rA t 46 x
theorem jr_B {t : am_Z} (B : in_S t) : am_jr t := ⟨fun x => B.1 52 x 0 10 rfl, fun x => B.1 50 x 0 2 rfl, fun x => B.1 4 x 0 2 rfl, fun x => (B.1 46 x (-1) 4 rfl).1⟩
theorem jr_cg {t t' : am_Z} (R : am_jr t) (m : ∀ j x, (j = 4 ∨ j = 46 ∨ j = 50 ∨ j = 52) → rA t' j x = rA t j x) : am_jr t' := ⟨fun x => by rw [m 52 _ (by omega)]; exact R.1 x, fun x => by rw [m 50 _ (by omega)]; exact R.2.1 x, fun x => by rw [m 4 _ (by omega)]; exact R.2.2.1 x, fun x => by rw [m 46 _ (by omega)]; exact R.2.2.2 x⟩
section FLY
variable {t : am_Z} {b k l : Int}
theorem fly_55 {x : Int} : rA (flyS t b x l) 55 x = 2 := by
  unfold flyS
  split
  · rw [wA_A, if_neg (fun z => absurd z.1 (by omega)), wA_A, if_pos ⟨rfl, rfl⟩]
  · rw [wA_A, if_neg (fun z => absurd z.1 (by omega)), wA_A, if_neg (fun z => absurd z.1 (by omega)), wA_A, if_pos ⟨rfl, rfl⟩]
theorem fly_70 {x i : Int} : rA (flyS t b x l) 70 i = rA t 70 i + (if 3 * rA t 50 b + rA t 4 (l / 100) = i then rA t 45 b * rA t 57 x else 0) := by
  have e : rA (flyS t b x l) 70 i = if i = 3 * rA t 50 b + rA t 4 (l / 100) then rA t 70 (3 * rA t 50 b + rA t 4 (l / 100)) + rA t 45 b * rA t 57 x else rA t 70 i := by
    unfold flyS
    split
    · rw [wA_A]
      by_cases h : i = 3 * rA t 50 b + rA t 4 (l / 100)
      · rw [if_pos ⟨rfl, h⟩, if_pos h]
      · rw [if_neg (fun z => h z.2), if_neg h]
        rfl
    · rw [wA_A, if_neg (fun z => absurd z.1 (by omega)), wA_A]
      by_cases h : i = 3 * rA t 50 b + rA t 4 (l / 100)
      · rw [if_pos ⟨rfl, h⟩, if_pos h]
      · rw [if_neg (fun z => h z.2), if_neg h]
        rfl
  rw [e]
  by_cases h : i = 3 * rA t 50 b + rA t 4 (l / 100)
  · rw [if_pos h, if_pos h.symm, h]
  · rw [if_neg h, if_neg (fun z => h z.symm)]
    omega
theorem fly_69 {x i : Int} (hi : 0 ≤ i) (h46 : -1 ≤ rA t 46 b) : rA (flyS t b x l) 69 i = rA t 69 i + (if rA t 46 b = i then 10 * rA t 45 b * rA t 8 (l / 100) else 0) := by
  unfold flyS
  split
  · rename_i h
    rw [wA_A, if_neg (fun z => absurd z.1 (by omega)), wA_A, if_neg (fun z => absurd z.1 (by omega)), if_neg (by omega)]
    omega
  · rename_i h
    rw [wA_A]
    by_cases e : i = rA t 46 b
    · rw [if_pos ⟨rfl, e⟩, if_pos e.symm, e]
    · rw [if_neg (fun z => e z.2), if_neg (fun z => e z.symm), wA_A, if_neg (fun z => absurd z.1 (by omega)), wA_A, if_neg (fun z => absurd z.1 (by omega))]
      omega
theorem JA_fly (J : am_JA t) (R : am_jr t) (hb : 0 ≤ b ∧ b < rI t 44) (hk : 0 ≤ k ∧ k < rA t 52 b) (h53 : rA t 53 (10 * b + k) = l) (h55 : rA t 55 (10 * b + k) = 1) : am_JA (flyS t b (10 * b + k) l) := by
  obtain ⟨jb, js, jw, jl⟩ := J
  have u := flyS_u t b (10 * b + k) l
  have v2 := fly_55 (t := t) (b := b) (l := l) (x := 10 * b + k)
  have n : ∀ j, rI (flyS t b (10 * b + k) l) j = rI t j := fun j => congrFun u.2.2 j
  have m : ∀ j x, j ≠ 55 → j ≠ 69 → j ≠ 70 → rA (flyS t b (10 * b + k) l) j x = rA t j x := u.1
  have ff := fun w => fF_fly (s := t) (s' := flyS t b (10 * b + k) l) (u := w) R.1 hb hk (by omega) (n 44) (fun j x h => m j x (by omega) (by omega) (by omega)) u.2.1 v2
  have r50 := R.2.1 b
  have r4 := R.2.2.1 (l / 100)
  have r46 := R.2.2.2 b
  refine ⟨fun b' h1 h2 => ?_, ⟨fun i h1 h2 => ?_, fun i h1 h2 => ?_⟩, jw_cg jw (fun j x h => m j x (by omega) (by omega) (by omega)) (n 61) (n 44), jl_cg jl (fun j x h => m j x (by omega) (by omega) (by omega)) (n 61) (n 33) (by rw [n 3]; exact Int.le_refl _)⟩
  · obtain ⟨⟨a1, a2, a3⟩, a4, a5⟩ := jb b' h1 (by rw [n 44] at h2; exact h2)
    refine ⟨⟨?_, ?_, ?_⟩, ?_, fun k' k1 k2 => ?_⟩
    · rw [m 52 _ (by omega) (by omega) (by omega)]; exact a1
    · rw [m 46 _ (by omega) (by omega) (by omega)]; exact a2
    · rw [m 50 _ (by omega) (by omega) (by omega), m 53 _ (by omega) (by omega) (by omega), m 4 _ (by omega) (by omega) (by omega)]; exact a3
    · rw [m 52 _ (by omega) (by omega) (by omega), show rA (flyS t b (10 * b + k) l) 57 = rA t 57 from funext (fun x => m 57 x (by omega) (by omega) (by omega)), show rA (flyS t b (10 * b + k) l) 59 = rA t 59 from funext (fun x => m 59 x (by omega) (by omega) (by omega))]
      exact a4
    · rw [m 52 _ (by omega) (by omega) (by omega)] at k2
      rw [m 53 _ (by omega) (by omega) (by omega), m 47 _ (by omega) (by omega) (by omega), m 57 _ (by omega) (by omega) (by omega), n 3]
      have z := a5 k' k1 k2
      by_cases e : 10 * b' + k' = 10 * b + k
      · rw [e, v2]
        rw [e] at z
        exact ⟨z.1, fun _ => by omega, fun y => by omega⟩
      · rw [u.2.1 _ e]
        exact z
  · rw [fly_70, js.1 i h1 h2, show rA (flyS t b (10 * b + k) l) 4 = rA t 4 from funext (fun x => m 4 x (by omega) (by omega) (by omega)), ff]
    unfold uO
    rw [h53]
    split
    · rfl
    · rw [Int.mul_zero]
  · rw [fly_69 h1 r46, js.2 i h1 h2, show rA (flyS t b (10 * b + k) l) 8 = rA t 8 from funext (fun x => m 8 x (by omega) (by omega) (by omega)), ff]
    unfold uP
    rw [h53]
    split
    · rw [Int.mul_comm 10 (rA t 45 b), Int.mul_assoc]
    · rw [Int.mul_zero]
theorem JA_miss (J : am_JA t) (h55 : rA t 55 k = 0) : am_JA (wA t 55 k 3) := by
  have m : ∀ j x, j ≠ 55 → rA (wA t 55 k 3) j x = rA t j x := fun j x h => if_neg (fun z => h z.1)
  have e55 : ∀ x, rA (wA t 55 k 3) 55 x = if x = k then 3 else rA t 55 x := fun x => by
    rw [wA_A]
    by_cases e : x = k
    · rw [if_pos ⟨rfl, e⟩, if_pos e]
    · rw [if_neg (fun z => e z.2), if_neg e]
  refine JA_w J rfl (Int.le_refl _) (fun j x h => m j x (by omega)) (fun f _ => ⟨rfl, rfl⟩) (fun x => ?_) (fun b k' h1 h2 h3 h4 h5 => ?_) J.2.2.1 J.2.2.2
  · rw [e55]
    by_cases e : x = k
    · rw [if_pos e, e, h55]; omega
    · rw [if_neg e]; omega
  · rw [e55]
    split
    · omega
    · exact ((J.1 b h1 h2).2.2 k' h3 h4).2.1 h5
theorem glI_JA (J : am_JA t) (R : am_jr t) (hb : 0 ≤ b ∧ b < rI t 44) : ∀ n : Nat, (n : Int) ≤ rA t 52 b → am_JA (itS (glC l b) n t)
  | 0, _ => J
  | n + 1, hn => by
    have ih := glI_JA J R hb n (by omega)
    have u := glI_u l b n t
    have R2 : am_jr (itS (glC l b) n t) := jr_cg R (fun j x h => u.1 j x (by omega) (by omega) (by omega))
    have e52 := u.1 52 b (by omega) (by omega) (by omega)
    have e44 : rI (itS (glC l b) n t) 44 = rI t 44 := congrFun u.2.2.1 44
    rw [itS_s]
    generalize itS (glC l b) n t = X at *
    unfold glC
    split
    · rename_i h
      exact JA_fly ih R2 (by omega) (by omega) h.1 h.2.1
    · split
      · rename_i h
        exact JA_miss ih h.2
      · exact ih
theorem glN_JA (J : am_JA t) (R : am_jr t) : ∀ n : Nat, (n : Int) ≤ rI t 44 → am_JA (itS (glB l) n t)
  | 0, _ => J
  | n + 1, hn => by
    have ih := glN_JA J R n (by omega)
    have u := glN_u (l := l) (fun b => (R.1 b).2) n
    have R2 : am_jr (itS (glB l) n t) := jr_cg R (fun j x h => u.1 j x (by omega) (by omega) (by omega))
    have e44 : rI (itS (glB l) n t) 44 = rI t 44 := congrFun u.2.1 44
    have c52 := R2.1 n
    rw [itS_s]
    generalize itS (glB l) n t = X at *
    unfold glB
    split
    · exact glI_JA ih R2 (by omega) _ (by omega)
    · exact ih
end FLY
theorem sumI_add {a : Int} {f : Int → Int} (p : Nat) : ∀ q : Nat, sumI a (p + q) f = sumI a p f + sumI (a + p) q f
  | 0 => by show sumI a p f = sumI a p f + 0; omega
  | q + 1 => by
    rw [show p + (q + 1) = (p + q) + 1 by omega, sumI_s, sumI_s, sumI_add p q, show a + ((p + q : Nat) : Int) = a + (p : Int) + (q : Int) by omega]
    omega
theorem sumI_shf {a d : Int} {f g : Int → Int} : ∀ r : Nat, (∀ i : Int, a ≤ i → i < a + r → g (i + d) = f i) → sumI (a + d) r g = sumI a r f
  | 0, _ => rfl
  | r + 1, h => by
    rw [sumI_s, sumI_s, sumI_shf r (fun i h1 h2 => h i h1 (by omega)), show a + d + (r : Int) = a + r + d by omega, h (a + r) (by omega) (by omega)]
/-- a sum in which an element has made room for more -/
theorem sum_ins {a : Int} {f g : Int → Int} {c r n : Nat} (h1 : ∀ i : Int, a ≤ i → i < a + c → g i = f i) (h2 : sumI (a + c) (n + 1) g = f (a + c)) (h3 : ∀ i : Int, a + c < i → i < a + c + 1 + r → g (i + n) = f i) : sumI a (c + (n + 1) + r) g = sumI a (c + 1 + r) f := by
  rw [sumI_add (c + (n + 1)) r, sumI_add c (n + 1), sumI_add (c + 1) r, sumI_s a c f, h2, sumI_c h1, show a + ((c + (n + 1) : Nat) : Int) = (a + ((c + 1 : Nat) : Int)) + n by omega, sumI_shf r (fun i i1 i2 => h3 i (by omega) (by omega))]
end

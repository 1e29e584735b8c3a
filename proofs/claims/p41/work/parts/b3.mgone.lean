noncomputable section
/-- what is flown, or missed, behind a step was so ahead of it -/
def am_cp (s s' : am_Z) : Prop := ∀ x : Int, rA s' 55 x = 2 ∨ rA s' 55 x = 3 → ∃ y : Int, rA s' 53 x = rA s 53 y ∧ rA s' 55 x = rA s 55 y
theorem wA_ne {s : am_Z} {j j' : Nat} {i v x : Int} (h : j' ≠ j) : rA (wA s j i v) j' x = rA s j' x := if_neg (fun z => h z.1)
section CP
variable {s s' s2 t : am_Z}
theorem cp_t (a : am_cp s s') (b : am_cp s' s2) : am_cp s s2 := fun x hx => by
  obtain ⟨y, y1, y2⟩ := b x hx
  obtain ⟨z, z1, z2⟩ := a y (by omega)
  exact ⟨z, y1.trans z1, y2.trans z2⟩
theorem cp_o (a : ∀ x, rA s' 53 x = rA s 53 x) (b : ∀ x, rA s' 55 x = rA s 55 x) : am_cp s s' := fun x _ => ⟨x, a x, b x⟩
theorem cp_w {x v : Int} (hv : v ≠ 2 ∧ v ≠ 3) : am_cp t (wA t 55 x v) := fun y hy => by
  rw [wA_A] at hy
  by_cases e : y = x
  · rw [if_pos ⟨rfl, e⟩] at hy
    omega
  · refine ⟨y, rfl, ?_⟩
    rw [wA_A, if_neg (fun z => e z.2)]
theorem cp_cpy {a c : Int} : am_cp t (cpyS t a c) := fun x hx => by
  by_cases e : x = c
  · refine ⟨a, ?_, ?_⟩
    · rw [cpy_A, if_pos ⟨by omega, e⟩]
    · rw [cpy_A, if_pos ⟨by omega, e⟩]
  · refine ⟨x, ?_, ?_⟩
    · rw [cpy_A, if_neg (fun z => e z.2)]
    · rw [cpy_A, if_neg (fun z => e z.2)]
theorem cp_it {f : Nat → am_Z → am_Z} (h : ∀ i t, am_cp t (f i t)) : ∀ n : Nat, am_cp s (itS f n s)
  | 0 => cp_o (fun _ => rfl) (fun _ => rfl)
  | n + 1 => cp_t (cp_it h n) (h n _)
theorem cp_mvF {k : Int} {i : Nat} : am_cp t (mvF k i t) := fun x hx => by
  by_cases e : x = k + ((i : Int) + 1)
  · have z : rA (mvF k i t) 55 x = 0 := by
      unfold mvF
      rw [wA_A, if_neg (fun z => absurd z.1 (by omega)), wA_A, if_neg (fun z => absurd z.1 (by omega)), wA_A, if_neg (fun z => absurd z.1 (by omega)), wA_A, if_pos ⟨rfl, e⟩]
    omega
  · exact ⟨x, mvF_A (by omega), mvF_A (by omega)⟩
theorem cp_move {b c : Int} : am_cp t (moveS t b c) := by
  unfold moveS
  split
  · refine cp_t (s' := itS (mvF (10 * b + c)) (nWay t b c).toNat (wA (itS (shF (10 * b + rA t 52 b - 1) (nWay t b c)) (rA t 52 b - 1 - c).toNat (findS t b c)) 52 b (rA t 52 b + nWay t b c))) ?_ (cp_t (cp_w (x := 10 * b + c) (v := 4) (by omega)) (cp_o (fun x => ?_) (fun x => ?_)))
    · refine cp_t (s' := itS (shF (10 * b + rA t 52 b - 1) (nWay t b c)) (rA t 52 b - 1 - c).toNat (findS t b c)) ?_ (cp_t (cp_o (s' := wA (itS (shF (10 * b + rA t 52 b - 1) (nWay t b c)) (rA t 52 b - 1 - c).toNat (findS t b c)) 52 b (rA t 52 b + nWay t b c)) (fun x => wA_ne (by omega)) (fun x => wA_ne (by omega))) (cp_it (fun i t => cp_mvF) _))
      exact cp_t (cp_o (s' := findS t b c) (fun _ => rfl) (fun _ => rfl)) (cp_it (fun i t => cp_cpy) _)
    · rw [wA_A, if_neg (fun z => absurd z.1 (by omega)), wA_A, if_neg (fun z => absurd z.1 (by omega))]
    · rw [wA_A, if_neg (fun z => absurd z.1 (by omega)), wA_A, if_neg (fun z => absurd z.1 (by omega))]
  · exact cp_t (cp_o (s' := findS t b c) (fun _ => rfl) (fun _ => rfl)) (cp_w (by omega))
theorem dep_m {l : Int} (m : ∀ j x, (j = 1 ∨ j = 5 ∨ j = 7 ∨ j = 17) → rA s' j x = rA s j x) : dep s' l = dep s l := by
  unfold dep
  rw [m 7 _ (by omega), m 1 _ (by omega), m 5 _ (by omega), m 17 _ (by omega)]
theorem gone_m {l : Int} (m : ∀ j x, (j = 1 ∨ j = 5 ∨ j = 7 ∨ j = 17 ∨ j = 18) → rA s' j x = rA s j x) (n0 : rI s 0 ≤ rI s' 0) (g : goneP s l) : goneP s' l := by
  obtain ⟨g1, g2⟩ := g
  refine ⟨?_, ?_⟩
  · rw [m 18 _ (by omega)]; exact g1
  · rw [dep_m (fun j x h => m j x (by omega))]; omega
theorem JG_cp (J : am_JG s) (c : am_cp s s') (m : ∀ j x, (j = 1 ∨ j = 5 ∨ j = 7 ∨ j = 17 ∨ j = 18) → rA s' j x = rA s j x) (n0 : rI s 0 ≤ rI s' 0) (n3 : rI s 3 ≤ rI s' 3) : am_JG s' := fun x hx => by
  obtain ⟨y, y1, y2⟩ := c x hx
  have z := J y (by omega)
  rw [y1]
  exact ⟨by omega, gone_m m n0 z.2⟩
theorem JG_move {b c : Int} (J : am_JG t) : am_JG (moveS t b c) := JG_cp J cp_move (fun j x h => mv_any (by omega)) (by rw [mv_I (by omega)]; exact Int.le_refl _) (by rw [mv_I (by omega)]; exact Int.le_refl _)
theorem rpr_P {P : am_Z → Prop} (h : ∀ t b c, P t → P (moveS t b c)) {nb : Nat} : ∀ (i : Nat) (X : am_X), P X.1 → P (rpr1 nb i X).1 := by
  have h3 : ∀ (b : Int) (m : Nat) (k : Int) (X : am_X), P X.1 → P (rpr3 b m k X).1 := fun b m => by
    induction m with
    | zero => intro k X hX; exact hX
    | succ m ih =>
      intro k X hX
      rw [rpr3]
      split
      · split
        · exact ih _ _ (h _ _ _ hX)
        · exact ih _ _ hX
      · exact hX
  have h2 : ∀ (t : Int) (n : Nat) (X : am_X), P X.1 → P (rpr2 t n X).1 := fun t n => by
    induction n with
    | zero => intro X hX; exact hX
    | succ n ih =>
      intro X hX
      rw [rpr2]
      unfold rprB
      split
      · exact h3 _ _ _ _ (ih X hX)
      · exact ih X hX
  intro i
  induction i with
  | zero => intro X hX; exact hX
  | succ i ih =>
    intro X hX
    rw [rpr1]
    exact h2 _ _ _ (ih X hX)
/-- what the law's own arrays are of, and what only grows -/
def am_KF (s s' : am_Z) : Prop := (∀ j, (j = 3 ∨ j = 20 ∨ j = 33 ∨ j = 44 ∨ j = 61) → rI s' j = rI s j) ∧ (∀ j x, (j ≤ 14 ∨ j = 25 ∨ j = 45 ∨ j = 46 ∨ j = 59 ∨ j = 63) → rA s' j x = rA s j x) ∧ rI s 68 ≤ rI s' 68
theorem KF_r : am_KF s s := ⟨fun _ _ => rfl, fun _ _ _ => rfl, Int.le_refl _⟩
theorem KF_t (a : am_KF s s') (b : am_KF s' s2) : am_KF s s2 := ⟨fun j h => (b.1 j h).trans (a.1 j h), fun j x h => (b.2.1 j x h).trans (a.2.1 j x h), Int.le_trans a.2.2 b.2.2⟩
theorem KF_cg (m : ∀ j x, (j ≤ 14 ∨ j = 25 ∨ j = 45 ∨ j = 46 ∨ j = 59 ∨ j = 63) → rA s' j x = rA s j x) (n : ∀ j, (j = 3 ∨ j = 20 ∨ j = 33 ∨ j = 44 ∨ j = 61 ∨ j = 68) → rI s' j = rI s j) : am_KF s s' := ⟨fun j h => n j (by omega), m, by rw [n 68 (by omega)]; exact Int.le_refl _⟩
theorem KF_move {b c : Int} : am_KF t (moveS t b c) := KF_cg (fun j x h => mv_any (by omega)) (fun j h => mv_I (by omega))
/-- the way of a pass -/
def am_PH (s t : am_Z) : Prop := am_JG t ∧ am_KF s t ∧ (∀ x, 0 ≤ rA s 45 x)
def am_PL2 (l : Int) (s t : am_Z) : Prop := am_PH s t ∧ goneP t l ∧ l / 100 < rI t 3
theorem PL2_move {l b c : Int} (H : am_PL2 l s t) : am_PL2 l s (moveS t b c) := ⟨⟨JG_move H.1.1, KF_t H.1.2.1 KF_move, H.1.2.2⟩, gone_m (fun j x h => mv_any (by omega)) (by rw [mv_I (by omega)]; exact Int.le_refl _) H.2.1, by rw [mv_I (by omega)]; exact H.2.2⟩
theorem PL2_o {l : Int} (H : am_PL2 l s t) (a : ∀ x, rA s' 53 x = rA t 53 x) (b : ∀ x, rA s' 55 x = rA t 55 x ∨ (rA s' 55 x ≠ 2 ∧ rA s' 55 x ≠ 3) ∨ rA s' 53 x = l) (m : ∀ j x, (j ≤ 25 ∨ j = 45 ∨ j = 46 ∨ j = 59 ∨ j = 63) → rA s' j x = rA t j x) (n : ∀ j, (j = 0 ∨ j = 3 ∨ j = 20 ∨ j = 33 ∨ j = 44 ∨ j = 61) → rI s' j = rI t j) (n68 : rI t 68 ≤ rI s' 68) : am_PL2 l s s' := by
  have g : goneP s' l := gone_m (fun j x h => m j x (by omega)) (by rw [n 0 (by omega)]; exact Int.le_refl _) H.2.1
  refine ⟨⟨fun x hx => ?_, KF_t H.1.2.1 ⟨fun j h => n j (by omega), fun j x h => m j x (by omega), n68⟩, H.1.2.2⟩, g, by rw [n 3 (by omega)]; exact H.2.2⟩
  rw [n 3 (by omega)]
  rcases b x with z | z | z
  · rw [z] at hx
    have y := H.1.1 x hx
    rw [a]
    exact ⟨y.1, gone_m (fun j x h => m j x (by omega)) (by rw [n 0 (by omega)]; exact Int.le_refl _) y.2⟩
  · omega
  · rw [z]
    exact ⟨H.2.2, g⟩
theorem PL2_glC {l b : Int} {i : Nat} (H : am_PL2 l s t) : am_PL2 l s (glC l b i t) := by
  unfold glC
  split
  · rename_i h
    have u := flyS_u t b (10 * b + i) l
    have n : ∀ j, rI (flyS t b (10 * b + i) l) j = rI t j := fun j => congrFun u.2.2 j
    refine PL2_o H (fun x => u.1 53 x (by omega) (by omega) (by omega)) (fun x => ?_) (fun j x hj => u.1 j x (by omega) (by omega) (by omega)) (fun j _ => n j) (by rw [n 68]; exact Int.le_refl _)
    by_cases e : x = 10 * b + i
    · refine Or.inr (Or.inr ?_)
      rw [u.1 53 x (by omega) (by omega) (by omega), e]
      exact h.1
    · exact Or.inl (u.2.1 x e)
  · split
    · rename_i h
      refine PL2_o H (fun x => wA_ne (by omega)) (fun x => ?_) (fun j x hj => if_neg (fun z => by have := z.1; omega)) (fun _ _ => rfl) (Int.le_refl _)
      by_cases e : x = 10 * b + i
      · refine Or.inr (Or.inr ?_)
        rw [wA_A, if_neg (fun z => absurd z.1 (by omega)), e]
        exact h.1
      · exact Or.inl (if_neg (fun z => e z.2))
    · exact H
theorem PL2_it {l : Int} {f : Nat → am_Z → am_Z} (h : ∀ i t, am_PL2 l s t → am_PL2 l s (f i t)) (H : am_PL2 l s t) : ∀ n : Nat, am_PL2 l s (itS f n t)
  | 0 => H
  | n + 1 => h n _ (PL2_it h H n)
theorem PL2_glB {l : Int} {b : Nat} (H : am_PL2 l s t) : am_PL2 l s (glB l b t) := by
  unfold glB
  split
  · exact PL2_it (fun i t h => PL2_glC h) H _
  · exact H
theorem PL2_gd {l : Int} : ∀ (f : Nat) (t : am_Z) (a n : Int), am_PL2 l s t → am_PL2 l s (gdS l f t a n).1
  | 0, _, _, _, H => H
  | f + 1, t, a, n, H => by
    rw [gdS]
    split
    · refine PL2_gd f _ _ _ (PL2_o H (fun x => dn_A _ _ _ (by omega) (by omega) x) (fun x => Or.inl (dn_A _ _ _ (by omega) (by omega) x)) (fun j x h => dn_A _ _ _ (by omega) (by omega) x) (fun j h => dn_I _ _ _ (by omega)) ?_)
      have z := H.1.2.2 (ndN t l (rI t 44).toNat)
      have y := H.1.2.1.2.1 45 (ndN t l (rI t 44).toNat) (by omega)
      show rI t 68 ≤ rI t 68 + rA t 45 (ndN t l (rI t 44).toNat)
      omega
    · exact H
theorem PH_go {l : Int} (H : am_PH s t) (g : goneP t l) (h3 : l / 100 < rI t 3) : am_PH s (goS t l) := by
  have h0 : am_PL2 l s (gl0 t) := PL2_o (t := t) ⟨H, g, h3⟩ (fun x => (gl0_S t).1 53 x (by omega)) (fun x => Or.inl ((gl0_S t).1 55 x (by omega))) (fun j x h => (gl0_S t).1 j x (by omega)) (fun j _ => (gl0_S t).2 j) (by rw [(gl0_S t).2 68]; exact Int.le_refl _)
  have h1 : am_PL2 l s (glX t l).1 := PL2_gd _ _ _ _ h0
  exact (PL2_it (f := gmF l) (fun i t h => PL2_move h) (PL2_it (f := glB l) (fun i t h => PL2_glB h) h1 _) _).1
theorem PH_lg {i : Nat} (H : am_PH s t) : am_PH s (lgF i t) := by
  unfold lgF
  split
  · rename_i h
    exact PH_go H ⟨h.2.1, by omega⟩ h.1.2.1
  · exact H
theorem PH_lap {i : Nat} (H : am_PH s t) : am_PH s (lapF i t) := by
  unfold lapF
  split
  · refine ⟨JG_w H.1 (fun x => vd_A (by omega)) (fun x => ?_) (Int.le_refl _) (fun l _ g => gone_m (fun j x h => vd_A (by omega)) (Int.le_refl _) g), KF_t H.2.1 (KF_cg (fun j x h => vd_A (by omega)) (fun _ _ => rfl)), H.2.2⟩
    unfold voidS
    rw [wB_A]
    split
    · have e : gVoid (wA t 47 i 2) x = if rA t 55 x ≤ 1 then 5 else rA t 55 x := rfl
      rw [e]
      split
      · exact Or.inr (by omega)
      · exact Or.inl rfl
    · exact Or.inl rfl
  · exact H
theorem PH_it {f : Nat → am_Z → am_Z} (h : ∀ i t, am_PH s t → am_PH s (f i t)) (H : am_PH s t) : ∀ n : Nat, am_PH s (itS f n t)
  | 0 => H
  | n + 1 => h n _ (PH_it h H n)
theorem PH_hr (H : am_PH s t) : am_PH s (hrS t) := by
  have h0 : am_PH s (wI t 0 (rI t 0 + 1)) := ⟨JG_w H.1 (fun _ => rfl) (fun _ => Or.inl rfl) (Int.le_refl _) (fun l _ g => gone_m (s := t) (s' := wI t 0 (rI t 0 + 1)) (fun _ _ _ => rfl) (by show rI t 0 ≤ rI t 0 + 1; omega) g), KF_t H.2.1 (KF_cg (fun _ _ _ => rfl) (fun j h => if_neg (by omega))), H.2.2⟩
  exact PH_it (fun i t h => PH_lg h) (PH_it (fun i t h => PH_lap h) h0 _) _
theorem PH_pass {n : Nat} (J : am_JG s) (h45 : ∀ x, 0 ≤ rA s 45 x) : am_PH s (itS (fun _ => hrS) n s) := PH_it (fun _ _ h => PH_hr h) ⟨J, KF_r, h45⟩ n
theorem it_I {f : Nat → am_Z → am_Z} {j : Nat} (h : ∀ i t, rI (f i t) j = rI t j) : ∀ n : Nat, rI (itS f n t) j = rI t j
  | 0 => rfl
  | n + 1 => (h n _).trans (it_I h n)
theorem hr_0 : rI (hrS t) 0 = rI t 0 + 1 := (it_I (f := lgF) (fun i t => lgF_I (by omega) (by omega) (by omega)) _).trans ((it_I (f := lapF) (fun i t => congrFun (lapF_2 i t) 0) _).trans rfl)
theorem pass_0 : ∀ n : Nat, rI (itS (fun _ => hrS) n s) 0 = rI s 0 + n
  | 0 => by show rI s 0 = rI s 0 + 0; omega
  | n + 1 => by
    rw [itS_s, hr_0, pass_0 n]
    omega
end CP
end

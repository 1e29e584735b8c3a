noncomputable section
def glC (l b : Int) (i : Nat) (t : am_Z) : am_Z := if rA t 53 (10 * b + i) = l ∧ rA t 55 (10 * b + i) = 1 ∧ rA t 67 b = 0 then flyS t b (10 * b + i) l else if rA t 53 (10 * b + i) = l ∧ rA t 55 (10 * b + i) = 0 then wA t 55 (10 * b + i) 3 else t
def glB (l : Int) (b : Nat) (t : am_Z) : am_Z := if rA t 47 b = 1 then itS (glC l b) (rA t 52 b).toNat t else t
def gmF (l : Int) (i : Nat) (t : am_Z) : am_Z := moveS t (rA t 71 i) (cfS t (rA t 71 i) l)
theorem flyS_u (t : am_Z) (b k l : Int) : (∀ j x, j ≠ 55 → j ≠ 69 → j ≠ 70 → rA (flyS t b k l) j x = rA t j x) ∧ (∀ x, x ≠ k → rA (flyS t b k l) 55 x = rA t 55 x) ∧ (flyS t b k l).2 = t.2 := by
  unfold flyS
  split
  · refine ⟨fun j x h1 h2 h3 => ?_, fun x h => ?_, rfl⟩
    · rw [wA_A, if_neg (fun z => h3 z.1), wA_A, if_neg (fun z => h1 z.1)]
    · rw [wA_A, if_neg (fun z => by omega), wA_A, if_neg (fun z => h z.2)]
  · refine ⟨fun j x h1 h2 h3 => ?_, fun x h => ?_, rfl⟩
    · rw [wA_A, if_neg (fun z => h2 z.1), wA_A, if_neg (fun z => h3 z.1), wA_A, if_neg (fun z => h1 z.1)]
    · rw [wA_A, if_neg (fun z => by omega), wA_A, if_neg (fun z => by omega), wA_A, if_neg (fun z => h z.2)]
theorem glC_u (l b : Int) (i : Nat) (t : am_Z) : (∀ j x, j ≠ 55 → j ≠ 69 → j ≠ 70 → rA (glC l b i t) j x = rA t j x) ∧ (∀ x, x ≠ 10 * b + i → rA (glC l b i t) 55 x = rA t 55 x) ∧ (glC l b i t).2 = t.2 ∧ (rA t 67 b ≠ 0 → (rA (glC l b i t) 55 (10 * b + i) = 1 ↔ rA t 55 (10 * b + i) = 1)) := by
  unfold glC
  split
  · rename_i h
    have hu := flyS_u t b (10 * b + i) l
    exact ⟨hu.1, hu.2.1, hu.2.2, fun z => absurd h.2.2 z⟩
  · split
    · rename_i h
      refine ⟨fun j x h1 h2 h3 => if_neg (fun z => h1 z.1), fun x h1 => if_neg (fun z => h1 z.2), rfl, fun _ => ?_⟩
      rw [wA_A, if_pos ⟨rfl, rfl⟩]
      omega
    · exact ⟨fun _ _ _ _ _ => rfl, fun _ _ => rfl, rfl, fun _ => Iff.rfl⟩
/-- n steps of glC -/
theorem glI_u (l b : Int) (n : Nat) (t : am_Z) : (∀ j x, j ≠ 55 → j ≠ 69 → j ≠ 70 → rA (itS (glC l b) n t) j x = rA t j x) ∧ (∀ x, (x < 10 * b ∨ 10 * b + n ≤ x) → rA (itS (glC l b) n t) 55 x = rA t 55 x) ∧ (itS (glC l b) n t).2 = t.2 ∧ (rA t 67 b ≠ 0 → ∀ x, rA (itS (glC l b) n t) 55 x = 1 ↔ rA t 55 x = 1) := by
  induction n with
  | zero => exact ⟨fun _ _ _ _ _ => rfl, fun _ _ => rfl, rfl, fun _ _ => Iff.rfl⟩
  | succ n ih =>
    have h := glC_u l b n (itS (glC l b) n t)
    refine ⟨fun j x h1 h2 h3 => (h.1 j x h1 h2 h3).trans (ih.1 j x h1 h2 h3), fun x hx => (h.2.1 x (by omega)).trans (ih.2.1 x (by omega)), h.2.2.1.trans ih.2.2.1, fun z x => ?_⟩
    by_cases hx : x = 10 * b + n
    · rw [hx]
      exact (h.2.2.2 (by rw [ih.1 67 b (by omega) (by omega) (by omega)]; exact z)).trans (ih.2.2.2 z _)
    · rw [itS_s, h.2.1 x hx]
      exact ih.2.2.2 z x
theorem glB_u {l : Int} {b : Nat} {t : am_Z} (hc : rA t 52 b ≤ 10) : (∀ j x, j ≠ 55 → j ≠ 69 → j ≠ 70 → rA (glB l b t) j x = rA t j x) ∧ (glB l b t).2 = t.2 ∧ (∀ b' : Int, 0 ≤ b' → rA t 67 b' ≠ 0 → ∀ k : Nat, k < 10 → (rA (glB l b t) 55 (10 * b' + k) = 1 ↔ rA t 55 (10 * b' + k) = 1)) := by
  unfold glB
  split
  · have h := glI_u l b (rA t 52 b).toNat t
    refine ⟨h.1, h.2.2.1, fun b' h1 h2 k hk => ?_⟩
    by_cases hb : b' = b
    · subst hb; exact h.2.2.2 h2 _
    · rw [h.2.1 _ (by omega)]
  · exact ⟨fun _ _ _ _ _ => rfl, rfl, fun _ _ _ _ _ => Iff.rfl⟩
theorem glN_u {l : Int} {t : am_Z} (hc : ∀ b, rA t 52 b ≤ 10) (n : Nat) : (∀ j x, j ≠ 55 → j ≠ 69 → j ≠ 70 → rA (itS (glB l) n t) j x = rA t j x) ∧ (itS (glB l) n t).2 = t.2 ∧ (∀ b' : Int, 0 ≤ b' → rA t 67 b' ≠ 0 → ∀ k : Nat, k < 10 → (rA (itS (glB l) n t) 55 (10 * b' + k) = 1 ↔ rA t 55 (10 * b' + k) = 1)) := by
  induction n with
  | zero => exact ⟨fun _ _ _ _ _ => rfl, rfl, fun _ _ _ _ _ => Iff.rfl⟩
  | succ n ih =>
    have h := glB_u (l := l) (b := n) (t := itS (glB l) n t) (by rw [ih.1 52 _ (by omega) (by omega) (by omega)]; exact hc _)
    refine ⟨fun j x h1 h2 h3 => (h.1 j x h1 h2 h3).trans (ih.1 j x h1 h2 h3), h.2.1.trans ih.2.1, fun b' h1 h2 k hk => ?_⟩
    exact (h.2.2 b' h1 (by rw [ih.1 67 _ (by omega) (by omega) (by omega)]; exact h2) k hk).trans (ih.2.2 b' h1 h2 k hk)
theorem glN_cf {l : Int} {t : am_Z} (hc : ∀ b, rA t 52 b ≤ 10) (n : Nat) {b : Int} (hb : 0 ≤ b) (hd : rA t 67 b ≠ 0) : cfS (itS (glB l) n t) b l = cfS t b l := by
  have h := glN_u (l := l) hc n
  refine cfS_cg (h.1 47 _ (by omega) (by omega) (by omega)) (h.1 52 _ (by omega) (by omega) (by omega)) (fun k hk => ⟨h.1 53 _ (by omega) (by omega) (by omega), h.2.2 b hb hd k (by have := hc b; omega)⟩) l
/-- what moves leaves alone -/
def unM (b : Int) (j : Nat) (x : Int) : Prop := j < 52 ∨ 58 < j ∨ (j = 52 ∧ x ≠ b) ∨ (53 ≤ j ∧ (x < 10 * b ∨ 10 * b + 10 ≤ x))
theorem itS_An {f : Nat → am_Z → am_Z} {n : Nat} {j : Nat} {x : Int} (h : ∀ i t, i < n → rA (f i t) j x = rA t j x) (s : am_Z) : rA (itS f n s) j x = rA s j x := by
  induction n with
  | zero => rfl
  | succ n ih => rw [itS_s, h n _ (by omega), ih (fun i t hi => h i t (by omega))]
theorem cpyS_A {t : am_Z} {a b x : Int} {j : Nat} (h : j < 53 ∨ 58 < j ∨ x ≠ b) : rA (cpyS t a b) j x = rA t j x := by
  unfold cpyS
  rw [wA_A, if_neg (fun z => by omega), wA_A, if_neg (fun z => by omega), wA_A, if_neg (fun z => by omega), wA_A, if_neg (fun z => by omega), wA_A, if_neg (fun z => by omega), wA_A, if_neg (fun z => by omega)]
theorem mvF_A {t : am_Z} {k x : Int} {i j : Nat} (h : j < 53 ∨ 58 < j ∨ x ≠ k + (i + 1)) : rA (mvF k i t) j x = rA t j x := by
  unfold mvF
  rw [wA_A, if_neg (fun z => by omega), wA_A, if_neg (fun z => by omega), wA_A, if_neg (fun z => by omega), wA_A, if_neg (fun z => by omega), wA_A, if_neg (fun z => by omega), wA_A, if_neg (fun z => by omega)]
theorem moveS_A {t : am_Z} {b c x : Int} {j : Nat} (hc : 0 ≤ c ∧ c < rA t 52 b) (h10 : rA t 52 b ≤ 10) (h : unM b j x) : rA (moveS t b c) j x = rA t j x := by
  unfold unM at h
  have hn : 0 ≤ nWay t b c ∧ nWay t b c ≤ 2 := by unfold nWay; split <;> first | omega | (split <;> omega)
  unfold moveS
  split
  · rename_i hm
    rw [wA_A, if_neg (fun z => by omega), wA_A, if_neg (fun z => by omega), wA_A, if_neg (fun z => by omega)]
    rw [itS_An (fun i t' hi => mvF_A (by omega)), wA_A, if_neg (fun z => by omega)]
    rw [itS_An (f := shF (10 * b + rA t 52 b - 1) (nWay t b c)) (fun i t' hi => cpyS_A (by omega))]
    rfl
  · rw [wA_A, if_neg (fun z => by omega)]
    rfl
theorem moveS_cf {t : am_Z} {b c b' : Int} (hc : 0 ≤ c ∧ c < rA t 52 b) (h10 : ∀ b, rA t 52 b ≤ 10) (hb : b' ≠ b) (l : Int) : cfS (moveS t b c) b' l = cfS t b' l := by
  refine cfS_cg (moveS_A hc (h10 b) (Or.inl (by omega))) (moveS_A hc (h10 b) (Or.inr (Or.inr (Or.inl ⟨rfl, hb⟩)))) (fun k hk => ?_) l
  have h1 := h10 b'
  have hx : 10 * b' + k < 10 * b ∨ 10 * b + 10 ≤ 10 * b' + k := by omega
  rw [moveS_A hc (h10 b) (Or.inr (Or.inr (Or.inr ⟨by omega, hx⟩))), moveS_A hc (h10 b) (Or.inr (Or.inr (Or.inr ⟨by omega, hx⟩)))]
  exact ⟨rfl, Iff.rfl⟩
theorem cntD_all {s : am_Z} {n : Nat} (h : ∀ i : Int, 0 ≤ i → i < n → rA s 67 i = 0) : cntD s n = n := by
  unfold cntD
  have e : sumI 0 n (fDone s) = sumI 0 n (fun _ => 1) := sumI_c (fun i h1 h2 => if_pos (h i h1 (by omega)))
  have e2 : ∀ m : Nat, sumI 0 m (fun _ => (1 : Int)) = m := fun m => by
    induction m with
    | zero => rfl
    | succ m ih => rw [sumI_s, ih]; rfl
  rw [e, e2]
  omega
def gl0 (s : am_Z) : am_Z := wB s 67 0 (rI s 44).toNat (fun _ => 0)
def glX (s : am_Z) (l : Int) : am_Z × Int := gdS l ((rI s 44).toNat + 1) (gl0 s) (nTc (gl0 s) l) 0
def goS (s : am_Z) (l : Int) : am_Z := itS (gmF l) (glX s l).2.toNat (itS (glB l) (rI s 44).toNat (glX s l).1)
end


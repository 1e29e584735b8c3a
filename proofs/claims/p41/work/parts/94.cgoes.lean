noncomputable section
theorem itS_one {f : Nat → am_Z → am_Z} {t : am_Z} {k N : Nat} (h1 : ∀ i, i < N → i ≠ k → f i t = t) (h2 : ∀ i, i < N → i ≠ k → f i (f k t) = f k t) : ∀ n, n ≤ N → itS f n t = if k < n then f k t else t := by
  intro n
  induction n with
  | zero => intro _; exact (if_neg (Nat.not_lt_zero k)).symm
  | succ n ih =>
    intro hn
    rw [itS_s, ih (by omega)]
    by_cases a : k < n
    · rw [if_pos a, if_pos (by omega), h2 n (by omega) (by omega)]
    · rw [if_neg a]
      by_cases e : k = n
      · subst e
        rw [if_pos (by omega)]
      · rw [if_neg (by omega), h1 n (by omega) (fun z => e z.symm)]
theorem itS_id {f : Nat → am_Z → am_Z} {t : am_Z} : ∀ n : Nat, (∀ i, i < n → f i t = t) → itS f n t = t := by
  intro n
  induction n with
  | zero => intro _; rfl
  | succ n ih =>
    intro h
    rw [itS_s, ih (fun i hi => h i (by omega)), h n (by omega)]
theorem gc_id {l b : Int} {i : Nat} {t : am_Z} (h : ¬ pfM t b l i) : glC l b i t = t := by
  unfold glC
  rw [if_neg (fun z => h ⟨z.1, Or.inr z.2.1⟩), if_neg (fun z => h ⟨z.1, Or.inl z.2⟩)]
theorem gc_k {l fl : Int} {b k : Nat} {t : am_Z} (h : pfM t b l k) (hf : fl ≠ 0 ↔ (rA t 55 (10 * b + k) = 1 ∧ rA t 67 b ≠ 0)) : glC l b k t = fmS t b k fl := by
  have h1 : rA t 53 (10 * (b : Int) + (k : Int)) = l := h.1
  unfold glC
  by_cases h0 : rA t 55 (10 * (b : Int) + (k : Int)) = 0
  · rw [if_neg (fun z => by have := z.2.1; omega), if_pos ⟨h1, h0⟩, fm_0 (fun z => by have := (hf.mp z).1; omega) h0]
  · have h55 : rA t 55 (10 * (b : Int) + (k : Int)) = 1 := by rcases h.2 with z | z; exact absurd z h0; exact z
    by_cases h67 : rA t 67 b = 0
    · rw [if_pos ⟨h1, h55, h67⟩, fm_2 (fun z => (hf.mp z).2 h67) h0, h1]
    · rw [if_neg (fun z => h67 z.2.2), if_neg (fun z => h0 z.2), fm_1 (hf.mpr ⟨h55, h67⟩)]
theorem hU_ne {t : am_Z} (U : am_UQ t) {b : Nat} (hb : (b : Int) < rI t 44) {i j : Nat} (hi : (0 : Int) ≤ i) (hij : i < j) (hj : (j : Int) < rA t 52 b) (h1 : rA t 55 (10 * (b : Int) + (i : Int)) ≤ 3) (h2 : rA t 55 (10 * (b : Int) + (j : Int)) ≤ 3) (h : rA t 53 (10 * (b : Int) + (i : Int)) = rA t 53 (10 * (b : Int) + (j : Int))) : False := U b (by omega) hb i j hi (by omega) hj h1 h2 h
theorem glB_1 {l fl : Int} {b : Nat} {t : am_Z} (B : in_S t) (U : am_UQ t) (hb : (b : Int) < rI t 44) (h47 : rA t 47 b = 1) (hp : pfS t b l ≠ -1) (hf : fl ≠ 0 ↔ (rA t 55 (10 * b + ((pfS t b l).toNat : Nat)) = 1 ∧ rA t 67 b ≠ 0)) : glB l b t = fmS t b (pfS t b l).toNat fl := by
  have b52 := B.1 52 b 0 10 rfl
  have hpb := pfR_b t b l 12 0 (by omega)
  have epf : pfS t b l = pfR t b l 12 0 := rfl
  rw [← epf] at hpb
  rcases hpb with hpb | ⟨p1, p2, p3⟩
  · exact absurd hpb hp
  · have ek : (((pfS t b l).toNat : Nat) : Int) = pfS t b l := by omega
    rw [← ek] at p3
    have hne : ∀ i : Nat, i < (rA t 52 b).toNat → i ≠ (pfS t b l).toNat → ¬ pfM t b l i := by
      intro i i1 i2 z
      have s1 : rA t 55 (10 * (b : Int) + (i : Int)) ≤ 3 := by rcases z.2 with y | y <;> omega
      have s2 : rA t 55 (10 * (b : Int) + ((pfS t b l).toNat : Nat)) ≤ 3 := by rcases p3.2 with y | y <;> omega
      rcases Nat.lt_or_gt_of_ne i2 with y | y
      · exact hU_ne U hb (by omega) y (by omega) s1 s2 (z.1.trans p3.1.symm)
      · exact hU_ne U hb (by omega) y (by omega) s2 s1 (p3.1.trans z.1.symm)
    have hu := glC_u l b (pfS t b l).toNat t
    have hne2 : ∀ i : Nat, i < (rA t 52 b).toNat → i ≠ (pfS t b l).toNat → ¬ pfM (glC l b (pfS t b l).toNat t) b l i := by
      intro i i1 i2 z
      have z1 := z.1
      have z2 := z.2
      rw [hu.1 53 _ (by omega) (by omega) (by omega)] at z1
      rw [hu.2.1 _ (by omega)] at z2
      exact hne i i1 i2 ⟨z1, z2⟩
    unfold glB
    rw [if_pos h47, itS_one (k := (pfS t b l).toNat) (N := (rA t 52 b).toNat) (fun i i1 i2 => gc_id (hne i i1 i2)) (fun i i1 i2 => gc_id (hne2 i i1 i2)) _ (Nat.le_refl _), if_pos (by omega), gc_k p3 hf]
theorem glB_0 {l : Int} {b : Nat} {t : am_Z} (B : in_S t) (h : rA t 47 b = 1 → pfS t b l = -1) : glB l b t = t := by
  have b52 := B.1 52 b 0 10 rfl
  unfold glB
  split
  · rename_i h47
    have hp : pfR t b l 12 0 = -1 := h h47
    exact itS_id _ (fun i hi => gc_id (fun z => pfR_ex 12 0 i (by omega) (by omega) (by omega) (by omega) z hp))
  · rfl
theorem glC_1 (l b : Int) (i : Nat) (t : am_Z) (x : Int) (h : rA (glC l b i t) 55 x = 1) : rA t 55 x = 1 := by
  by_cases hx : x = 10 * b + i
  · subst hx
    unfold glC at h
    split at h
    · rename_i hc; exact hc.2.1
    · split at h
      · rw [wA_A, if_pos ⟨rfl, rfl⟩] at h
        omega
      · exact h
  · rw [(glC_u l b i t).2.1 x hx] at h
    exact h
theorem glN_1 (l : Int) (n : Nat) (t : am_Z) (x : Int) (h : rA (itS (glB l) n t) 55 x = 1) : rA t 55 x = 1 := by
  induction n with
  | zero => exact h
  | succ n ih =>
    rw [itS_s] at h
    refine ih ?_
    unfold glB at h
    split at h
    · have : ∀ m, rA (itS (glC l n) m (itS (glB l) n t)) 55 x = 1 → rA (itS (glB l) n t) 55 x = 1 := by
        intro m
        induction m with
        | zero => exact fun z => z
        | succ m ihm => exact fun z => ihm (glC_1 l n m _ x z)
      exact this _ h
    · exact h
theorem CK_gl {l : Int} {s : am_Z} (B : in_S s) (C : am_CK s) (n : Nat) : am_CK (itS (glB l) n s) := fun b k h1 h2 h3 => by
  have hu := glN_u (l := l) (t := s) (fun b => (B.1 52 b 0 10 rfl).2) n
  have e44 : rI (itS (glB l) n s) 44 = rI s 44 := congrFun hu.2.1 44
  rw [e44] at h1
  rw [hu.1 52 _ (by omega) (by omega) (by omega)] at h2
  rw [hu.1 47 _ (by omega) (by omega) (by omega)]
  exact C b k h1 h2 (glN_1 l n s _ h3)
theorem UQ_gl {l : Int} {s : am_Z} (B : in_S s) (U : am_UQ s) (n : Nat) : am_UQ (itS (glB l) n s) := by
  have hu := glN_u (l := l) (t := s) (fun b => (B.1 52 b 0 10 rfl).2) n
  exact UQ_cg (congrFun hu.2.1 44) (fun b => hu.1 52 b (by omega) (by omega) (by omega)) (fun b => hu.1 53 b (by omega) (by omega) (by omega)) (fun b z => glN_3 _ _ _ _ z) U
theorem CK_move {t : am_Z} (B : in_S t) (C : am_CK t) {b c : Int} (h47 : rA t 47 b = 1) (hc : 0 ≤ c ∧ c < rA t 52 b) : am_CK (moveS t b c) := fun b' k h1 h2 h3 => by
  have h10 : rA t 52 b ≤ 10 := (B.1 52 b 0 10 rfl).2
  rw [mv_o hc (by omega)]
  by_cases e : (b' : Int) = b
  · rw [e]; exact h47
  · rw [mv_I (by omega)] at h1
    rw [moveS_A hc h10 (Or.inr (Or.inr (Or.inl ⟨rfl, e⟩)))] at h2
    have c52 := B.1 52 b' 0 10 rfl
    rw [moveS_A hc h10 (Or.inr (Or.inr (Or.inr ⟨by omega, by omega⟩)))] at h3
    exact C b' k h1 h2 h3
end

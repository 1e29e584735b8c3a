noncomputable section
/-- the legs of a booking's coupons that are not replaced are different -/
def am_UQb (s : am_Z) (b : Int) : Prop := ∀ i j : Int, 0 ≤ i → i < j → j < rA s 52 b → rA s 55 (10 * b + i) ≤ 3 → rA s 55 (10 * b + j) ≤ 3 → rA s 53 (10 * b + i) ≠ rA s 53 (10 * b + j)
def am_UQ (s : am_Z) : Prop := ∀ b, 0 ≤ b → b < rI s 44 → am_UQb s b
theorem sumI_pos {a : Int} {n : Nat} {f : Int → Int} (hs : 0 < sumI a n f) : ∃ i, a ≤ i ∧ i < a + n ∧ 0 < f i := by
  induction n with
  | zero => simp [sumI] at hs
  | succ n ih =>
    rw [sumI_s] at hs
    by_cases h : 0 < f (a + n)
    · exact ⟨a + n, by omega, by omega, h⟩
    · obtain ⟨i, h1, h2, h3⟩ := ih (by omega)
      exact ⟨i, h1, by omega, h3⟩
abbrev mtC (s : am_Z) (b l k : Int) : Prop := rA s 53 (10 * b + k) = l ∧ rA s 55 (10 * b + k) = 1
theorem cfN_ne {s : am_Z} {b l : Int} {n : Nat} (h : cfN s b l n ≠ -1) : 0 ≤ cfN s b l n ∧ mtC s b l (cfN s b l n) := by
  induction n with
  | zero => exact absurd rfl h
  | succ n ih =>
    simp only [cfN] at h ⊢
    by_cases hc : rA s 53 (10 * b + n) = l ∧ rA s 55 (10 * b + n) = 1
    · rw [if_pos hc]
      exact ⟨by omega, hc⟩
    · rw [if_neg hc] at h ⊢
      exact ih h
theorem cfN_ex {s : am_Z} {b l : Int} {n k : Nat} (hk : k < n) (hm : mtC s b l k) : cfN s b l n ≠ -1 := by
  induction n with
  | zero => omega
  | succ n ih =>
    simp only [cfN]
    by_cases hc : rA s 53 (10 * b + n) = l ∧ rA s 55 (10 * b + n) = 1
    · rw [if_pos hc]; omega
    · rw [if_neg hc]
      by_cases hkn : k = n
      · subst hkn; exact absurd hm hc
      · exact ih (by omega)
theorem cTc_sum {s : am_Z} {b l : Int} (hU : am_UQb s b) {n : Nat} (hn : (n : Int) ≤ rA s 52 b) : sumI (10 * b) n (cTc s l b) = if cfN s b l n ≠ -1 then rA s 45 b else 0 := by
  induction n with
  | zero => simp [sumI, cfN]
  | succ n ih =>
    rw [sumI_s, ih (by omega)]
    by_cases hc : rA s 53 (10 * b + n) = l ∧ rA s 55 (10 * b + n) = 1
    · have h0 : cfN s b l n = -1 := Classical.byContradiction fun z => by
        have hz := cfN_ne z
        have hb := cfN_b s b l n
        exact hU (cfN s b l n) n hz.1 hb.2 (by omega) (by have := hz.2.2; omega) (by omega) (hz.2.1.trans hc.1.symm)
      have e1 : cfN s b l (n + 1) = (n : Int) := by simp only [cfN]; rw [if_pos hc]
      have e2 : cTc s l b (10 * b + n) = rA s 45 b := if_pos hc
      rw [if_neg (fun z => z h0), if_pos (show cfN s b l (n + 1) ≠ -1 by omega), e2]
      omega
    · have e1 : cfN s b l (n + 1) = cfN s b l n := by simp only [cfN]; rw [if_neg hc]
      have e2 : cTc s l b (10 * b + n) = 0 := if_neg hc
      rw [e2]
      by_cases h0 : cfN s b l n = -1
      · rw [if_neg (fun z => z h0), if_neg (fun z => z (e1.trans h0))]; omega
      · rw [if_pos h0, if_pos (fun z => h0 (e1.symm.trans z))]; omega
theorem bTc_cf {s : am_Z} (B : in_S s) {b l : Int} (hU : am_UQb s b) : bTc s l b = if cfS s b l ≠ -1 then rA s 45 b else 0 := by
  have h := B.1 52 b 0 10 rfl
  unfold bTc cfS
  by_cases h1 : rA s 47 b = 1
  · rw [if_pos h1, if_pos h1]
    exact cTc_sum hU (by omega)
  · rw [if_neg h1, if_neg h1, if_neg (fun z => z rfl)]
theorem cfS_cg {s s' : am_Z} {b : Int} (h47 : rA s' 47 b = rA s 47 b) (h52 : rA s' 52 b = rA s 52 b) (h : ∀ k : Nat, (k : Int) < rA s 52 b → rA s' 53 (10 * b + k) = rA s 53 (10 * b + k) ∧ (rA s' 55 (10 * b + k) = 1 ↔ rA s 55 (10 * b + k) = 1)) (l : Int) : cfS s' b l = cfS s b l := by
  unfold cfS
  rw [h47, h52]
  have e : ∀ n : Nat, (n : Int) ≤ rA s 52 b → cfN s' b l n = cfN s b l n := by
    intro n hn
    induction n with
    | zero => rfl
    | succ n ih =>
      simp only [cfN]
      have h1 := h n (by omega)
      rw [ih (by omega), h1.1]
      simp only [h1.2]
  by_cases h1 : rA s 47 b = 1
  · rw [if_pos h1, if_pos h1]
    by_cases h2 : 0 ≤ rA s 52 b
    · exact e _ (by omega)
    · rw [show (rA s 52 b).toNat = 0 by omega]; rfl
  · rw [if_neg h1, if_neg h1]
theorem ndN_w {s : am_Z} {l : Int} {n : Nat} (h : ndN s l n ≠ -1) : cfS s (ndN s l n) l ≠ -1 ∧ rA s 67 (ndN s l n) = 0 := by
  induction n with
  | zero => exact absurd rfl h
  | succ n ih =>
    simp only [ndN] at h ⊢
    by_cases hc : cfS s n l ≠ -1 ∧ rA s 67 n = 0 ∧ ndP s (ndN s l n) n
    · rw [if_pos hc]
      exact ⟨hc.1, hc.2.1⟩
    · rw [if_neg hc] at h ⊢
      exact ih h
theorem ndN_ex {s : am_Z} {l : Int} {n k : Nat} (hk : k < n) (h1 : cfS s k l ≠ -1) (h2 : rA s 67 k = 0) : ndN s l n ≠ -1 := by
  induction n with
  | zero => omega
  | succ n ih =>
    simp only [ndN]
    by_cases hc : cfS s n l ≠ -1 ∧ rA s 67 n = 0 ∧ ndP s (ndN s l n) n
    · rw [if_pos hc]; omega
    · rw [if_neg hc]
      by_cases hkn : k = n
      · subst hkn
        intro hz
        exact hc ⟨h1, h2, Or.inl (Or.inl hz)⟩
      · exact ih (by omega)
def fLv (s : am_Z) (l b : Int) : Int := if rA s 67 b = 0 then (if cfS s b l ≠ -1 then rA s 45 b else 0) else 0
def dnS (s : am_Z) (d n : Int) : am_Z := wI (wA (wA s 67 d 1) 71 n d) 68 (rI s 68 + rA s 45 d)
def gdS (l : Int) : Nat → am_Z → Int → Int → am_Z × Int
  | 0, s, _, n => (s, n)
  | f + 1, s, a, n => if rA s 9 (l / 100) < a then gdS l f (dnS s (ndN s l (rI s 44).toNat) n) (a - rA s 45 (ndN s l (rI s 44).toNat)) (n + 1) else (s, n)
def am_HO (s : am_Z) (l nb n : Int) : Prop := (∀ i, 0 ≤ i → i < n → (0 ≤ rA s 71 i ∧ rA s 71 i < nb) ∧ rA s 67 (rA s 71 i) ≠ 0 ∧ cfS s (rA s 71 i) l ≠ -1) ∧ ∀ i j, 0 ≤ i → i < j → j < n → rA s 71 i ≠ rA s 71 j
theorem dn_67 (s : am_Z) (d n i : Int) : rA (dnS s d n) 67 i = if i = d then 1 else rA s 67 i := by
  show (if (67 : Nat) = 71 ∧ i = n then d else if (67 : Nat) = 67 ∧ i = d then 1 else rA s 67 i) = _
  rw [if_neg (fun z => by omega)]
  by_cases hi : i = d
  · rw [if_pos ⟨rfl, hi⟩, if_pos hi]
  · rw [if_neg (fun z => hi z.2), if_neg hi]
theorem dn_71 (s : am_Z) (d n i : Int) : rA (dnS s d n) 71 i = if i = n then d else rA s 71 i := by
  show (if (71 : Nat) = 71 ∧ i = n then d else if (71 : Nat) = 67 ∧ i = d then 1 else rA s 71 i) = _
  by_cases hi : i = n
  · rw [if_pos ⟨rfl, hi⟩, if_pos hi]
  · rw [if_neg (fun z => hi z.2), if_neg hi, if_neg (fun z => by omega)]
theorem dn_A (s : am_Z) (d n : Int) {j : Nat} (h1 : j ≠ 67) (h2 : j ≠ 71) (i : Int) : rA (dnS s d n) j i = rA s j i := (if_neg (fun z => h2 z.1)).trans (if_neg (fun z => h1 z.1))
theorem dn_I (s : am_Z) (d n : Int) {j : Nat} (h : j ≠ 68) : rI (dnS s d n) j = rI s j := if_neg h
theorem dn_cf (s : am_Z) (d n b l : Int) : cfS (dnS s d n) b l = cfS s b l := cfS_cg (dn_A s d n (by omega) (by omega) _) (dn_A s d n (by omega) (by omega) _) (fun k _ => ⟨dn_A s d n (by omega) (by omega) _, by rw [dn_A s d n (by omega) (by omega) _]⟩) l
theorem HO_s {s : am_Z} {l nb n d : Int} (h : am_HO s l nb n) (hn : 0 ≤ n) (hd : 0 ≤ d ∧ d < nb) (h0 : rA s 67 d = 0) (hc : cfS s d l ≠ -1) : am_HO (dnS s d n) l nb (n + 1) := by
  constructor
  · intro i h1 h2
    rw [dn_71]
    by_cases hi : i = n
    · rw [if_pos hi, dn_67, if_pos rfl, dn_cf]
      exact ⟨hd, by omega, hc⟩
    · rw [if_neg hi, dn_67, dn_cf]
      have h3 := h.1 i h1 (by omega)
      refine ⟨h3.1, ?_, h3.2.2⟩
      split
      · omega
      · exact h3.2.1
  · intro i j h1 h2 h3
    rw [dn_71, dn_71, if_neg (by omega)]
    by_cases hj : j = n
    · rw [if_pos hj]
      intro hz
      have h4 := (h.1 i h1 (by omega)).2.1
      rw [hz] at h4
      exact h4 h0
    · rw [if_neg hj]
      exact h.2 i j h1 h2 (by omega)
end


noncomputable section
abbrev cndP (s : am_Z) (k : Int) : Prop := waitP s k ∧ rA s 67 k = 0
abbrev tiW (s : am_Z) (k : Int) : Int := tierS s (rA s 63 k)
theorem nwN_max (s : am_Z) : ∀ n : Nat, (nwN s n = -1 → ∀ k : Nat, k < n → ¬ cndP s k) ∧ (nwN s n ≠ -1 → ∀ k : Nat, k < n → cndP s k → tiW s k < tiW s (nwN s n) ∨ (tiW s k = tiW s (nwN s n) ∧ nwN s n ≤ k)) := by
  intro n
  induction n with
  | zero => exact ⟨fun _ k hk => absurd hk (Nat.not_lt_zero k), fun h => absurd rfl h⟩
  | succ n ih =>
    have hb := nwN_b s n
    by_cases h : cndP s n ∧ (nwN s n = -1 ∨ tiW s (nwN s n) < tiW s n)
    · have e : nwN s (n + 1) = n := if_pos h
      rw [e]
      refine ⟨fun z => by omega, fun _ k hk hc => ?_⟩
      by_cases ek : k = n
      · subst ek
        exact Or.inr ⟨rfl, Int.le_refl _⟩
      · rcases h.2 with h2 | h2
        · exact absurd hc (ih.1 h2 k (by omega))
        · have z := ih.2 (fun y => by
            have := ih.1 y k (by omega)
            exact this hc) k (by omega) hc
          exact Or.inl (by omega)
    · have e : nwN s (n + 1) = nwN s n := if_neg h
      rw [e]
      refine ⟨fun z k hk hc => ?_, fun z k hk hc => ?_⟩
      · by_cases ek : k = n
        · subst ek
          exact h ⟨hc, Or.inl z⟩
        · exact ih.1 z k (by omega) hc
      · by_cases ek : k = n
        · subst ek
          have h2 : ¬ tiW s (nwN s k) < tiW s k := fun y => h ⟨hc, Or.inr y⟩
          omega
        · exact ih.2 z k (by omega) hc
theorem nw_is {s : am_Z} {n w : Nat} (hw : w < n) (hc : cndP s w) (h : ∀ k : Nat, k < n → cndP s k → tiW s k < tiW s w ∨ (tiW s k = tiW s w ∧ w ≤ k)) : nwN s n = w := by
  have z := nwN_max s n
  have hb := nwN_b s n
  have hne : nwN s n ≠ -1 := fun y => z.1 y w hw hc
  have h1 := z.2 hne w hw hc
  have hc2 := nwN_w hne
  have e : ((nwN s n).toNat : Int) = nwN s n := by omega
  have h2 := h (nwN s n).toNat (by omega) (by rw [e]; exact hc2)
  rw [e] at h2
  omega
theorem nw_no {s : am_Z} {n : Nat} (h : ∀ k : Nat, k < n → ¬ cndP s k) : nwN s n = -1 := by
  by_cases hne : nwN s n = -1
  · exact hne
  · have hb := nwN_b s n
    have hc := nwN_w hne
    have e : ((nwN s n).toNat : Int) = nwN s n := by omega
    exact absurd (by rw [e]; exact hc) (h (nwN s n).toNat (by omega))
/-- a wish has legs and persons -/
def am_WO (s : am_Z) : Prop := ∀ w : Nat, (w : Int) < rI s 61 → 1 ≤ rA s 64 w ∧ 1 ≤ rA s 62 w
abbrev am_V4 (s : am_Z) : Prop := ∀ i, 4 * rI s 44 ≤ i → rA s 59 i = 0 ∧ rA s 60 i = 0
def am_CQ (e : Nat) (q0 q1 : am_A) (s s2 : am_Z) (n v : Int) (F : Nat) : Prop := clQ F s n s2 v ∧ am_CI e q1 s ∧ am_CG q0 q1 ∧ hWL s ∧ am_WO s ∧ am_PN s ∧ am_V4 s
/-- the wishes up to here were looked at -/
def am_DW (s : am_Z) (t i : Int) : Prop := ∀ k : Nat, (k : Int) < rI s 61 → waitP s k → (rA s 67 k ≠ 0 ↔ (t < tiW s k ∨ (tiW s k = t ∧ (k : Int) < i)))
section CLR
variable {s s3 s4 : am_Z} {w t i : Int} {p m hh : Int}
theorem tiW_b (B : in_S s) (P : am_PN s) (k : Int) : 0 ≤ tiW s k ∧ tiW s k ≤ 3 := by
  have b := B.1 63 k (-1) 4 rfl
  show 0 ≤ tierS s (rA s 63 k) ∧ tierS s (rA s 63 k) ≤ 3
  unfold tierS
  split
  · omega
  · have h := P (rA s 63 k) (by omega) (by omega)
    have e : 0 ≤ iDiv (rA s 69 (rA s 63 k)) 500 := by
      unfold iDiv
      rw [zI_divn ⟨h.1, by omega⟩ (by omega), zI_toInt (by unfold in32; omega)]
      omega
    omega
theorem DN_next (D : am_DW s t i) (h : ¬ waitP s i ∨ tiW s i ≠ t) : am_DW s t (i + 1) := fun k hk hw => by
  rw [D k hk hw]
  constructor
  · rintro (z | z)
    · exact Or.inl z
    · exact Or.inr (by omega)
  · rintro (z | z)
    · exact Or.inl z
    · by_cases e : (k : Int) = i
      · rw [e] at hw z
        rcases h with h | h
        · exact absurd hw h
        · exact absurd z.1 h
      · exact Or.inr (by omega)
theorem DN_tier (D : am_DW s t i) (h : rI s 61 ≤ i) : am_DW s (t - 1) 0 := fun k hk hw => by
  rw [D k hk hw]
  omega
theorem DN_nw (B : in_S s) (D : am_DW s t i) (h0 : 0 ≤ i) (hi : i < rI s 61) (hw : waitP s i) (ht : tiW s i = t) : nwS s = i := by
  have b61 := B.2.1 61 0 20 rfl
  have e : ((i.toNat : Nat) : Int) = i := by omega
  have z := nw_is (s := s) (n := (rI s 61).toNat) (w := i.toNat) (by omega) (by
    rw [e]
    refine ⟨hw, Classical.byContradiction (fun y => ?_)⟩
    have := (D i.toNat (by omega) (by rw [e]; exact hw)).mp (by rw [e]; exact y)
    rw [e] at this
    omega) (fun k hk hc => by
    have d := D k (by omega) hc.1
    rw [e]
    have : ¬ (t < tiW s k ∨ (tiW s k = t ∧ (k : Int) < i)) := fun y => (d.mpr y) hc.2
    omega)
  rw [e] at z
  exact z
theorem BR_jw (R : am_BR (jw s w) s3) : (∀ j x, (j < 36 ∨ 43 < j) → j ≠ 67 → rA s3 j x = rA s j x) ∧ (∀ x, rA s3 67 x = if x = w then 1 else rA s 67 x) ∧ (∀ j, j ≠ 35 → j ≠ 37 → j ≠ 38 → rI s3 j = rI s j) := by
  refine ⟨fun j x h h7 => (R.1 j x (scr_o (by omega))).trans ?_, fun x => (R.1 67 x (scr_o (by omega))).trans jw_67, fun j h1 h2 h3 => (R.2 j h2 h3).trans (if_neg h1)⟩
  show (if j = 36 ∧ _ then _ else if j = 67 ∧ x = w then 1 else rA s j x) = _
  rw [if_neg (fun z => by have := z.1; omega), if_neg (fun z => h7 z.1)]
theorem wt_cg (m : ∀ j x, (j < 36 ∨ (61 < j ∧ j ≠ 66 ∧ j ≠ 67)) → rA s3 j x = rA s j x) (n0 : rI s3 0 = rI s 0) (k : Int) : tiW s3 k = tiW s k ∧ (goneP s3 (rA s3 65 (4 * k)) ↔ goneP s (rA s 65 (4 * k))) := by
  have ed : ∀ l, dep s3 l = dep s l := fun l => by unfold dep; rw [m 7 _ (by omega), m 5 _ (by omega), m 1 _ (by omega), m 17 _ (by omega)]
  refine ⟨?_, ?_⟩
  · show tierS s3 (rA s3 63 k) = tierS s (rA s 63 k)
    rw [m 63 k (by omega)]
    unfold tierS
    rw [m 69 _ (by omega)]
  · rw [m 65 _ (by omega)]
    unfold goneP
    rw [m 18 _ (by omega), ed, n0]
theorem DN_none (D : am_DW s t i) (ht : tiW s i = t) (R : am_BR (jw s i) s3) : am_DW s3 t (i + 1) := fun k hk hw => by
  have z := BR_jw R
  have y := wt_cg (s := s) (s3 := s3) (fun j x h => z.1 j x (by omega) (by omega)) (z.2.2 0 (by omega) (by omega) (by omega)) k
  rw [y.1, z.2.1]
  have hw2 : waitP s k := ⟨by have := hw.1; rw [z.1 66 _ (by omega) (by omega)] at this; exact this, fun g => hw.2 (y.2.mpr g)⟩
  rw [z.2.2 61 (by omega) (by omega) (by omega)] at hk
  have d := D k hk hw2
  by_cases e : (k : Int) = i
  · rw [if_pos e, e]
    exact ⟨fun _ => Or.inr ⟨ht, by omega⟩, fun _ => by omega⟩
  · rw [if_neg e, d]
    omega
theorem bkS_hi {b t : Int} {Z : am_Z} (ht : t ≤ 3) {j : Nat} {x : Int} (h : x ≥ 4 * b + 4 ∨ (j ≠ 59 ∧ j ≠ 60)) : rA (bkS Z b t) j x = rA Z j x := by
  unfold bkS
  rw [wA_A, if_neg (by omega), wA_A, if_neg (by omega)]
theorem bkB_hi {b : Int} {i : Nat} {X : am_X} (hi : i ≤ 3) {j : Nat} {x : Int} (hj : j = 59 ∨ j = 60) (h : x ≥ 4 * b + 4) : rA (bkB b i X).1 j x = rA X.1 j x := by
  unfold bkB
  have z : ∀ (t f a n al : Int) (k : Nat) (Y : am_X), rA (itX (bkC b t f a n al) k Y).1 j x = rA Y.1 j x := fun t f a n al k Y => by
    induction k with
    | zero => rfl
    | succ k ih => exact (bkC_c (by omega) (Or.inr hj)).trans ih
  exact (z _ _ _ _ _ _ _).trans (bkS_hi (by omega) (Or.inl h))
theorem bkT_hi (h4 : rI s 38 ≤ 4) {j : Nat} {x : Int} (hj : j = 59 ∨ j = 60) (h : x ≥ 4 * rI s 44 + 4) : rA (bkT s p m hh) j x = rA s j x := by
  have z : ∀ k : Nat, k ≤ 4 → rA (itX (bkB (rI s 44)) k (bk0 s (rI s 44) p m hh, 0)).1 j x = rA s j x := fun k hk => by
    induction k with
    | zero => exact bk0_39 j x (by omega)
    | succ k ih => exact (bkB_hi (by omega) hj h).trans (ih (by omega))
  unfold bkT
  exact z _ (by omega)
end CLR
end

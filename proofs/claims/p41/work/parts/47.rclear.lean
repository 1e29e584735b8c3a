noncomputable section
theorem sumI_upd {a : Int} {n : Nat} {f g : Int → Int} {i0 : Int} (h0 : a ≤ i0 ∧ i0 < a + n) (h : ∀ i, i ≠ i0 → f i = g i) : sumI a n g = sumI a n f - f i0 + g i0 := by
  induction n with
  | zero => omega
  | succ n ih =>
    rw [sumI_s, sumI_s]
    by_cases hi : i0 = a + n
    · rw [← hi, sumI_c (f := g) (g := f) (fun i h1 h2 => (h i (by omega)).symm)]
      omega
    · rw [ih (by omega), h (a + n) (fun z => hi z.symm)]
      omega
def fDone (s : am_Z) (k : Int) : Int := if rA s 67 k = 0 then 1 else 0
def cntD (s : am_Z) (n : Nat) : Nat := (sumI 0 n (fDone s)).toNat
theorem cntD_lt {s s' : am_Z} {n : Nat} {w : Int} (hw : 0 ≤ w ∧ w < n) (h0 : rA s 67 w = 0) (h1 : rA s' 67 w ≠ 0) (h : ∀ i, i ≠ w → rA s' 67 i = rA s 67 i) : cntD s' n < cntD s n := by
  have e := sumI_upd (a := 0) (n := n) (f := fDone s) (g := fDone s') (i0 := w) (by omega) (fun i hi => by unfold fDone; rw [h i hi])
  have e1 : fDone s w = 1 := if_pos h0
  have e2 : fDone s' w = 0 := if_neg h1
  have hb := sumI_b (a := 0) (n := n) (f := fDone s') (M := 1) (fun i => by unfold fDone; split <;> omega)
  unfold cntD
  omega
theorem nwN_w {s : am_Z} {n : Nat} (h : nwN s n ≠ -1) : waitP s (nwN s n) ∧ rA s 67 (nwN s n) = 0 := by
  induction n with
  | zero => exact absurd rfl h
  | succ n ih =>
    simp only [nwN] at h ⊢
    split
    · rename_i hc
      exact hc.1
    · rename_i hc
      rw [if_neg hc] at h
      exact ih h
def jw (s : am_Z) (w : Int) : am_Z := wB (wI (wA s 67 w 1) 35 (rA s 64 w)) 36 0 (rA s 64 w).toNat (fun i => rA s 65 (4 * w + i))
theorem jw_67 {s : am_Z} {w i : Int} : rA (jw s w) 67 i = if i = w then 1 else rA s 67 i := by
  show (if (67 : Nat) = 36 ∧ 0 ≤ i ∧ i < 0 + (((rA s 64 w).toNat : Nat) : Int) then rA s 65 (4 * w + i) else (if (67 : Nat) = 67 ∧ i = w then 1 else rA s 67 i)) = if i = w then 1 else rA s 67 i
  rw [if_neg (fun z => by omega)]
  by_cases hi : i = w
  · rw [if_pos ⟨rfl, hi⟩, if_pos hi]
  · rw [if_neg (fun z => hi z.2), if_neg hi]
abbrev nwS (s : am_Z) : Int := nwN s (rI s 61).toNat
def clP : Nat → am_Z → Int → am_Z → Int → Prop
  | 0, _, _, _, _ => False
  | f + 1, s, n, s', n' => ((nwS s = -1 ∨ 40 ≤ rI s 44) ∧ s' = s ∧ n' = n) ∨ ((nwS s ≠ -1 ∧ rI s 44 < 40) ∧ ∃ s3, am_BR (jw s (nwS s)) s3 ∧ am_WQ s3 (bestW (jw s (nwS s)) (rA s 62 (nwS s))) ∧
      (((bestW (jw s (nwS s)) (rA s 62 (nwS s))).1 = -1 ∧ clP f s3 n s' n') ∨ ((bestW (jw s (nwS s)) (rA s 62 (nwS s))).1 ≠ -1 ∧ clP f (wA (bkT s3 (rA s 62 (nwS s)) (rA s 63 (nwS s)) 24) 66 (nwS s) (rI s 44)) (n + 1) s' n')))
theorem bkT_u {s : am_Z} {n m h : Int} : (∀ j x, unT j = true → (j < 45 ∨ 52 < j) → rA (bkT s n m h) j x = rA s j x) ∧ (∀ j, j ≠ 44 → rI (bkT s n m h) j = rI s j) ∧ rI (bkT s n m h) 44 = rI s 44 + 1 := by
  have hu := itX_u (g := bkB (rI s 44)) (fun _ _ => bkB_u) (rI s 38).toNat (bk0 s (rI s 44) n m h, 0)
  refine ⟨fun j x hj h2 => (hu.1 j x hj).trans ?_, fun j hj => (congrFun hu.2 j).trans ?_, (congrFun hu.2 44).trans ?_⟩
  · show rA (bk0 s (rI s 44) n m h) j x = rA s j x
    unfold bk0
    rw [wA_A, if_neg (fun z => by omega), wA_A, if_neg (fun z => by omega), wA_A, if_neg (fun z => by omega), wA_A, if_neg (fun z => by omega), wA_A, if_neg (fun z => by omega), wA_A, if_neg (fun z => by omega), wA_A, if_neg (fun z => by omega), wA_A, if_neg (fun z => by omega)]
    rfl
  · exact if_neg hj
  · show (if 44 = 44 then rI s 44 + 1 else s.2 44) = rI s 44 + 1
    rw [if_pos rfl]
abbrev hWL (s : am_Z) : Prop := ∀ w k, 0 ≤ w → w < rI s 61 → 0 ≤ k → k < rA s 64 w → 1 ≤ rA s 8 (rA s 65 (4 * w + k) / 100)
theorem jw_in {s : am_Z} (B : in_S s) (w : Int) : in_S (jw s w) := by
  refine ⟨fun j i lo hi h => ?_, fun j lo hi h => ?_, fun j i h => ?_⟩
  · show lo ≤ (if j = 36 ∧ 0 ≤ i ∧ i < 0 + _ then rA s 65 (4 * w + i) else if j = 67 ∧ i = w then 1 else s.1 j i) ∧ (if j = 36 ∧ 0 ≤ i ∧ i < 0 + _ then rA s 65 (4 * w + i) else if j = 67 ∧ i = w then 1 else s.1 j i) ≤ hi
    split
    · rename_i hc
      rw [hc.1] at h
      cases h
      exact B.1 65 _ 0 1160 rfl
    · split
      · rename_i hc
        rw [hc.1] at h
        cases h
        omega
      · exact B.1 j i lo hi h
  · show lo ≤ (if j = 35 then rA s 64 w else s.2 j) ∧ (if j = 35 then rA s 64 w else s.2 j) ≤ hi
    split
    · rename_i hc
      rw [hc] at h
      cases h
      exact B.1 64 w 0 4 rfl
    · exact B.2.1 j lo hi h
  · show (if j = 36 ∧ 0 ≤ i ∧ i < 0 + _ then rA s 65 (4 * w + i) else if j = 67 ∧ i = w then 1 else s.1 j i) % 100 ≤ 60
    split
    · exact B.2.2 65 _ rfl
    · split
      · rename_i hc
        rw [hc.1] at h
        cases h
      · exact B.2.2 j i h
end


noncomputable section
theorem sumI_upd {a : Int} {n : Nat} {f g : Int → Int} {i0 : Int} (h0 : a ≤ i0 ∧ i0 < a + n) (h : ∀ i, i ≠ i0 → f i = g i) : sumI a n g = sumI a n f - f i0 + g i0 := by
  induction n with
  | zero => omega
  | succ n ih =>
    rw [sumI_s, sumI_s]
    by_cases hi : i0 = a + n
    · rw [← hi, sumI_c (f := g) (g := f) (fun i h1 h2 => (h i (by omega)).symm)]
      omega
    · rw [ih (by omega), h (a + n) (fun z => hi z.symm)]
      omega
def fDone (s : am_Z) (k : Int) : Int := if rA s 67 k = 0 then 1 else 0
def cntD (s : am_Z) (n : Nat) : Nat := (sumI 0 n (fDone s)).toNat
theorem cntD_lt {s s' : am_Z} {n : Nat} {w : Int} (hw : 0 ≤ w ∧ w < n) (h0 : rA s 67 w = 0) (h1 : rA s' 67 w ≠ 0) (h : ∀ i, i ≠ w → rA s' 67 i = rA s 67 i) : cntD s' n < cntD s n := by
  have e := sumI_upd (a := 0) (n := n) (f := fDone s) (g := fDone s') (i0 := w) (by omega) (fun i hi => by unfold fDone; rw [h i hi])
  have e1 : fDone s w = 1 := if_pos h0
  have e2 : fDone s' w = 0 := if_neg h1
  have hb := sumI_b (a := 0) (n := n) (f := fDone s') (M := 1) (fun i => by unfold fDone; split <;> omega)
  unfold cntD
  omega
theorem nwN_w {s : am_Z} {n : Nat} (h : nwN s n ≠ -1) : waitP s (nwN s n) ∧ rA s 67 (nwN s n) = 0 := by
  induction n with
  | zero => exact absurd rfl h
  | succ n ih =>
    simp only [nwN] at h ⊢
    split
    · rename_i hc
      exact hc.1
    · rename_i hc
      rw [if_neg hc] at h
      exact ih h
def jw (s : am_Z) (w : Int) : am_Z := wB (wI (wA s 67 w 1) 35 (rA s 64 w)) 36 0 (rA s 64 w).toNat (fun i => rA s 65 (4 * w + i))
theorem jw_67 {s : am_Z} {w i : Int} : rA (jw s w) 67 i = if i = w then 1 else rA s 67 i := by
  show (if (67 : Nat) = 36 ∧ 0 ≤ i ∧ i < 0 + (((rA s 64 w).toNat : Nat) : Int) then rA s 65 (4 * w + i) else (if (67 : Nat) = 67 ∧ i = w then 1 else rA s 67 i)) = if i = w then 1 else rA s 67 i
  rw [if_neg (fun z => by omega)]
  by_cases hi : i = w
  · rw [if_pos ⟨rfl, hi⟩, if_pos hi]
  · rw [if_neg (fun z => hi z.2), if_neg hi]
abbrev nwS (s : am_Z) : Int := nwN s (rI s 61).toNat
def clP : Nat → am_Z → Int → am_Z → Int → Prop
  | 0, _, _, _, _ => False
  | f + 1, s, n, s', n' => ((nwS s = -1 ∨ 40 ≤ rI s 44) ∧ s' = s ∧ n' = n) ∨ ((nwS s ≠ -1 ∧ rI s 44 < 40) ∧ ∃ s3, am_BR (jw s (nwS s)) s3 ∧ am_WQ s3 (bestW (jw s (nwS s)) (rA s 62 (nwS s))) ∧
      (((bestW (jw s (nwS s)) (rA s 62 (nwS s))).1 = -1 ∧ clP f s3 n s' n') ∨ ((bestW (jw s (nwS s)) (rA s 62 (nwS s))).1 ≠ -1 ∧ clP f (wA (bkT s3 (rA s 62 (nwS s)) (rA s 63 (nwS s)) 24) 66 (nwS s) (rI s 44)) (n + 1) s' n')))
theorem bkT_u {s : am_Z} {n m h : Int} : (∀ j x, unT j = true → (j < 45 ∨ 52 < j) → rA (bkT s n m h) j x = rA s j x) ∧ (∀ j, j ≠ 44 → rI (bkT s n m h) j = rI s j) ∧ rI (bkT s n m h) 44 = rI s 44 + 1 := by
  have hu := itX_u (g := bkB (rI s 44)) (fun _ _ => bkB_u) (rI s 38).toNat (bk0 s (rI s 44) n m h, 0)
  refine ⟨fun j x hj h2 => (hu.1 j x hj).trans ?_, fun j hj => (congrFun hu.2 j).trans ?_, (congrFun hu.2 44).trans ?_⟩
  · show rA (bk0 s (rI s 44) n m h) j x = rA s j x
    unfold bk0
    rw [wA_A, if_neg (fun z => by omega), wA_A, if_neg (fun z => by omega), wA_A, if_neg (fun z => by omega), wA_A, if_neg (fun z => by omega), wA_A, if_neg (fun z => by omega), wA_A, if_neg (fun z => by omega), wA_A, if_neg (fun z => by omega), wA_A, if_neg (fun z => by omega)]
    rfl
  · exact if_neg hj
  · show (if 44 = 44 then rI s 44 + 1 else s.2 44) = rI s 44 + 1
    rw [if_pos rfl]
abbrev hWL (s : am_Z) : Prop := ∀ w k, 0 ≤ w → w < rI s 61 → 0 ≤ k → k < rA s 64 w → 1 ≤ rA s 8 (rA s 65 (4 * w + k) / 100)
theorem jw_in {s : am_Z} (B : in_S s) (w : Int) : in_S (jw s w) := by
  refine ⟨fun j i lo hi h => ?_, fun j lo hi h => ?_, fun j i h => ?_⟩
  · show lo ≤ (if j = 36 ∧ 0 ≤ i ∧ i < 0 + _ then rA s 65 (4 * w + i) else if j = 67 ∧ i = w then 1 else s.1 j i) ∧ (if j = 36 ∧ 0 ≤ i ∧ i < 0 + _ then rA s 65 (4 * w + i) else if j = 67 ∧ i = w then 1 else s.1 j i) ≤ hi
    split
    · rename_i hc
      rw [hc.1] at h
      cases h
      exact B.1 65 _ 0 1160 rfl
    · split
      · rename_i hc
        rw [hc.1] at h
        cases h
        omega
      · exact B.1 j i lo hi h
  · show lo ≤ (if j = 35 then rA s 64 w else s.2 j) ∧ (if j = 35 then rA s 64 w else s.2 j) ≤ hi
    split
    · rename_i hc
      rw [hc] at h
      cases h
      exact B.1 64 w 0 4 rfl
    · exact B.2.1 j lo hi h
  · show (if j = 36 ∧ 0 ≤ i ∧ i < 0 + _ then rA s 65 (4 * w + i) else if j = 67 ∧ i = w then 1 else s.1 j i) % 100 ≤ 60
    split
    · exact B.2.2 65 _ rfl
    · split
      · rename_i hc
        rw [hc.1] at h
        cases h
      · exact B.2.2 j i h
theorem lp_cl0 {d : Nat} {s : am_Z} {q0 : am_A} {Q : Option am_V → am_Z → Prop}  : ∀ (m : Nat) (j : Nat) (k : Int) (s1 : am_Z) (x2 x3 : Option am_V), 20 - j < m → (k = j ∧ j ≤ 20 ∧ s1 = wB s 67 0 j (fun _ => 0)) → (∀ x1, am_WR d m_M_clear 26 [some (aR 9 0), x1, x2, x3] [] q0 (wB s 67 0 20 (fun _ => 0)) Q) → am_WR d m_M_clear 7 [some (aR 9 0), some (aI (zI k)), x2, x3] [] q0 (s1) Q := by
  intro m
  induction m with
  | zero => intro j k s1 x2 x3 hm; exact absurd hm (Nat.not_lt_zero _)
  | succ m ih =>
    intro j k s1 x2 x3 hm ⟨hj, hj2, hs1⟩ K
    subst hj
    subst hs1
    refine rr_iload_n rfl rfl ?_
    refine rr_bipush (x := 20) rfl rfl ?_
    refine rr_icmp_ge rfl rfl (by omega) (by omega) (fun h10 => ?_) (fun h10 => ?_)
    · rw [show j = 20 by omega]
      exact K _
    · refine rr_aload_n rfl rfl ?_
      refine rr_gfA 67 rfl rfl (by omega) rfl ?_
      refine rr_iload_n rfl rfl ?_
      refine rr_iconst rfl ?_
      refine rr_bas 67 40 rfl rfl rfl (by omega) (by omega) rfl rfl (by omega) (by omega) ?_
      refine rr_inc1 rfl ?_
      refine rr_goto rfl rfl ?_
      have e := wB_s s 67 0 j (fun _ => 0)
      rw [Int.zero_add] at e
      rw [e]
      exact ih (j + 1) _ _ _ _ (by omega) ⟨by omega, by omega, rfl⟩ K
theorem lp_cl1 {d : Nat} {s : am_Z} {q0 : am_A} {Q : Option am_V → am_Z → Prop} {n w : Int} (hw : 0 ≤ w ∧ w < 20) (hl : 0 ≤ rI s 35 ∧ rI s 35 ≤ 4) : ∀ (m : Nat) (j : Nat) (k : Int) (s1 : am_Z), (rI s 35).toNat - j < m → (k = j ∧ (j : Int) ≤ rI s 35 ∧ s1 = wB s 36 0 j (fun i => rA s 65 (4 * w + i))) → (∀ x3, am_WR d m_M_clear 96 [some (aR 9 0), some (aI (zI n)), some (aI (zI w)), x3] [] q0 (wB s 36 0 (rI s 35).toNat (fun i => rA s 65 (4 * w + i))) Q) → am_WR d m_M_clear 66 [some (aR 9 0), some (aI (zI n)), some (aI (zI w)), some (aI (zI k))] [] q0 (s1) Q := by
  intro m
  induction m with
  | zero => intro j k s1 hm; exact absurd hm (Nat.not_lt_zero _)
  | succ m ih =>
    intro j k s1 hm ⟨hj, hj2, hs1⟩ K
    subst hj
    subst hs1
    refine rr_iload_n rfl rfl ?_
    refine rr_aload_n rfl rfl ?_
    refine rr_gfIv 35 (s) rfl rfl rfl (by omega) rfl (fun b68 => ?_)
    refine rr_icmp_ge rfl rfl (by omega) (by omega) (fun h71 => ?_) (fun h71 => ?_)
    · rw [show j = (rI s 35).toNat by omega]
      exact K _
    · refine rr_aload_n rfl rfl ?_
      refine rr_gfA 36 rfl rfl (by omega) rfl ?_
      refine rr_iload_n rfl rfl ?_
      refine rr_aload_n rfl rfl ?_
      refine rr_gfA 65 rfl rfl (by omega) rfl ?_
      refine rr_iconst rfl ?_
      refine rr_iload_n rfl rfl ?_
      refine rr_imul rfl ?_
      refine rr_iload_n rfl rfl ?_
      refine rr_iadd rfl ?_
      refine rr_iaL 65 80 (s) (fun _ => rfl) rfl rfl rfl rfl rfl (by omega) (by omega) (fun b88 => ?_)
      refine rr_iasL 36 4 rfl ⟨rfl, by omega⟩ rfl (by omega) (by omega) rfl (by omega) (by omega) ?_
      refine rr_inc3 rfl ?_
      refine rr_goto rfl rfl ?_
      have e := wB_s s 36 0 j (fun i => rA s 65 (4 * w + i))
      rw [Int.zero_add] at e
      rw [e]
      exact ih (j + 1) _ _ (by omega) ⟨by omega, by omega, rfl⟩ K
theorem lp_cl2 {d : Nat} {s : am_Z} {q0 : am_A} {Q : Option am_V → am_Z → Prop}  : ∀ (m : Nat) (n w : Int) (s1 : am_Z) (x3 : Option am_V), cntD s1 (rI s1 61).toNat < m → (w = nwS s1 ∧ hWL s1) → (∀ s2 n2 x2 x3, clP m s1 n s2 n2 → am_WR (d + 6) m_M_clear 149 [some (aR 9 0), some (aI (zI n2)), x2, x3] [] q0 (s2) Q) → am_WR (d + 6) m_M_clear 33 [some (aR 9 0), some (aI (zI n)), some (aI (zI w)), x3] [] q0 (s1) Q := by
  intro m
  induction m with
  | zero => intro n w s1 x3 hm; exact absurd hm (Nat.not_lt_zero _)
  | succ m ih =>
    intro n w s1 x3 hm ⟨hw, hwl⟩ K
    subst hw
    refine rr_inS (fun B => ?_)
    have b61 := B.2.1 61 0 20 rfl
    have bw : -1 ≤ nwS s1 ∧ nwS s1 < ((rI s1 61).toNat : Int) := nwN_b s1 (rI s1 61).toNat
    refine rr_iload_n rfl rfl ?_
    refine rr_iconst rfl ?_
    refine rr_icmp_eq rfl rfl (by omega) (by omega) (fun h35 => ?_) (fun h35 => ?_)
    · exact K s1 n _ _ (Or.inl ⟨by omega, rfl, rfl⟩)
    · refine rr_aload_n rfl rfl ?_
      refine rr_gfI 44 rfl rfl (by omega) rfl (fun b39 => ?_)
      refine rr_bipush (x := 40) rfl rfl ?_
      refine rr_icmp_ge rfl rfl (by omega) (by omega) (fun h44 => ?_) (fun h44 => ?_)
      · exact K s1 n _ _ (Or.inl ⟨by omega, rfl, rfl⟩)
      · have hnw : waitP s1 (nwS s1) ∧ rA s1 67 (nwS s1) = 0 := nwN_w (s := s1) (n := (rI s1 61).toNat) (show nwS s1 ≠ -1 by omega)
        refine rr_aload_n rfl rfl ?_
        refine rr_gfA 67 rfl rfl (by omega) rfl ?_
        refine rr_iload_n rfl rfl ?_
        refine rr_iconst rfl ?_
        refine rr_bas 67 40 rfl rfl rfl (by omega) (by omega) rfl rfl (by omega) (by omega) ?_
        refine rr_aload_n rfl rfl ?_
        refine rr_aload_n rfl rfl ?_
        refine rr_gfA 64 rfl rfl (by omega) rfl ?_
        refine rr_iload_n rfl rfl ?_
        refine rr_iav 64 20 (s1) (fun _ => rfl) rfl rfl rfl rfl (by omega) (by omega) (fun b60 => ?_)
        refine rr_pfI 35 rfl rfl rfl rfl (by omega) rfl (by omega) ?_
        refine rr_iconst rfl ?_
        refine rr_stI3 rfl ?_
        refine lp_cl1 (d := d + 6) (s := wI (wA s1 67 (nwS s1) 1) 35 (rA s1 64 (nwS s1))) (by omega) (by show 0 ≤ rA s1 64 (nwS s1) ∧ rA s1 64 (nwS s1) ≤ 4; omega) ((rA s1 64 (nwS s1)).toNat + 1) 0 0 _ (by show (rA s1 64 (nwS s1)).toNat - 0 < _; omega) ⟨rfl, by show ((0 : Nat) : Int) ≤ rA s1 64 (nwS s1); omega, (wB_0 ..).symm⟩ (fun x3 => ?_)
        refine rr_aload_n rfl rfl ?_
        refine rr_aload_n rfl rfl ?_
        refine rr_gfA 62 rfl rfl (by omega) rfl ?_
        refine rr_iload_n rfl rfl ?_
        refine rr_iav 62 20 (s1) (fun _ => rfl) rfl rfl rfl rfl (by omega) (by omega) (fun b102 => ?_)
        refine rr_cv1V rfl rfl rfl (Nat.le_of_ble_eq_true rfl) (sr_builds (d := 0) (by omega)) (by omega) (fun s103 q103 => ?_)
        have q103 : am_BR (jw s1 (nwS s1)) s103 ∧ am_WQ s103 (bestW (jw s1 (nwS s1)) (rA s1 62 (nwS s1))) := q103
        have g37 := q103.2.1
        have e44 : rI s103 44 = rI s1 44 := q103.1.2 44 (by omega) (by omega)
        have e61 : rI s103 61 = rI s1 61 := q103.1.2 61 (by omega) (by omega)
        have k1 : ∀ j i, scr j = false → j ≠ 36 → j ≠ 67 → rA s103 j i = rA s1 j i := fun j i a b c => (q103.1.1 j i a).trans ((if_neg (fun z => b z.1)).trans (if_neg (fun z => c z.1)))
        have k67 : ∀ i, rA s103 67 i = if i = nwS s1 then 1 else rA s1 67 i := fun i => (q103.1.1 67 i rfl).trans jw_67
        have w1 : hWL s103 := by
          intro w k h1 h2 h3 h4
          rw [k1 64 _ rfl (by omega) (by omega)] at h4
          rw [k1 8 _ rfl (by omega) (by omega), k1 65 _ rfl (by omega) (by omega)]
          exact hwl w k h1 (by omega) h3 h4
        have c1 : cntD s103 (rI s103 61).toNat < m := by
          have z := cntD_lt (s := s1) (s' := s103) (n := (rI s1 61).toNat) (w := nwS s1) (by omega) hnw.2 (by rw [k67, if_pos rfl]; omega) (fun i hi => by rw [k67, if_neg hi])
          rw [e61]
          omega
        have e62 : rA s103 62 (nwS s1) = rA s1 62 (nwS s1) := k1 62 _ rfl (by omega) (by omega)
        have e63 : rA s103 63 (nwS s1) = rA s1 63 (nwS s1) := k1 63 _ rfl (by omega) (by omega)
        refine rr_aload_n rfl rfl ?_
        refine rr_gfI 37 rfl rfl (by omega) rfl (fun b107 => ?_)
        refine rr_iconst rfl ?_
        refine rr_icmp_eq rfl rfl (by omega) (by omega) (fun h111 => ?_) (fun h111 => ?_)
        · refine rr_aload_n rfl rfl ?_
          refine rr_cv0P rfl rfl rfl (Nat.le_of_ble_eq_true rfl) (sr_nextWish (d := 0)) (by omega) (fun b142 => ?_)
          refine rr_stI2 rfl ?_
          refine rr_goto rfl rfl ?_
          exact ih _ _ _ _ (by assumption) ⟨rfl, by assumption⟩ (fun s2 n2 x2 x3 hc => K s2 n2 x2 x3 (Or.inr ⟨⟨by omega, by omega⟩, s103, q103.1, q103.2, by first | exact Or.inl ⟨by omega, hc⟩ | exact Or.inr ⟨by omega, hc⟩⟩))
        · refine rr_aload_n rfl rfl ?_
          refine rr_gfA 66 rfl rfl (by omega) rfl ?_
          refine rr_iload_n rfl rfl ?_
          have hbo := bestW_ok (jw_in B (nwS s1)) (rA s1 62 (nwS s1)) (by omega)
          have hL35 : rI (jw s1 (nwS s1)) 35 = rA s1 64 (nwS s1) := rfl
          have hbk := wq_bk q103.2 hbo.1 hbo.2.1 (by omega)
          have hFl : ∀ k, 0 ≤ k → k < 4 → (∃ i : Nat, (i : Int) < rI s103 38 ∧ k < sumI 0 i (rA s103 39) + rA s103 39 i) → 1 ≤ fLen s103 k := by
            rintro k h1 h2 ⟨i, h3, h4⟩
            have h5 := hbk.2 i h3
            have h6 := hwl (nwS s1) k (by omega) (by omega) h1 (by omega)
            unfold fLen
            rw [q103.1.1 36 _ rfl, k1 8 _ rfl (by omega) (by omega)]
            have e36 : rA (jw s1 (nwS s1)) 36 k = rA s1 65 (4 * nwS s1 + k) := if_pos ⟨rfl, h1, by omega⟩
            rw [e36]
            exact h6
          refine rr_aload_n rfl rfl ?_
          refine rr_aload_n rfl rfl ?_
          refine rr_gfA 62 rfl rfl (by omega) rfl ?_
          refine rr_iload_n rfl rfl ?_
          refine rr_ia 62 20 rfl rfl rfl rfl (by omega) (by omega) (fun b125 => ?_)
          rw [e62]
          refine rr_aload_n rfl rfl ?_
          refine rr_gfA 63 rfl rfl (by omega) rfl ?_
          refine rr_iload_n rfl rfl ?_
          refine rr_ia 63 20 rfl rfl rfl rfl (by omega) (by omega) (fun b131 => ?_)
          rw [e63]
          refine rr_bipush (x := 24) rfl rfl ?_
          refine rr_cv3P rfl rfl rfl (Nat.le_of_ble_eq_true rfl) (sr_books (d := 0) (by omega) (by omega) (by omega) (by omega) hbk.1 (fun i z => by have := hbk.2 i z; omega) hFl) (by omega) (fun b134 => ?_)
          rw [e44]
          refine rr_ias 66 20 rfl ⟨rfl, by omega⟩ rfl (by omega) (by omega) rfl rfl (by omega) (by omega) ?_
          have hT := bkT_u (s := s103) (n := rA s1 62 (nwS s1)) (m := rA s1 63 (nwS s1)) (h := 24)
          have k2 : ∀ j i, unT j = true → (j < 45 ∨ 52 < j) → j ≠ 66 → rA (wA (bkT s103 (rA s1 62 (nwS s1)) (rA s1 63 (nwS s1)) 24) 66 (nwS s1) (rI s1 44)) j i = rA s103 j i := fun j i a b c => (if_neg (fun z => c z.1)).trans (hT.1 j i a b)
          have k61 : rI (wA (bkT s103 (rA s1 62 (nwS s1)) (rA s1 63 (nwS s1)) 24) 66 (nwS s1) (rI s1 44)) 61 = rI s103 61 := hT.2.1 61 (by omega)
          have w2 : hWL (wA (bkT s103 (rA s1 62 (nwS s1)) (rA s1 63 (nwS s1)) 24) 66 (nwS s1) (rI s1 44)) := by
            intro w k h1 h2 h3 h4
            rw [k2 64 _ rfl (by omega) (by omega)] at h4
            rw [k2 8 _ rfl (by omega) (by omega), k2 65 _ rfl (by omega) (by omega)]
            exact w1 w k h1 (by omega) h3 h4
          have c2 : cntD (wA (bkT s103 (rA s1 62 (nwS s1)) (rA s1 63 (nwS s1)) 24) 66 (nwS s1) (rI s1 44)) (rI (wA (bkT s103 (rA s1 62 (nwS s1)) (rA s1 63 (nwS s1)) 24) 66 (nwS s1) (rI s1 44)) 61).toNat < m := by
            rw [k61]
            refine Nat.lt_of_le_of_lt (Nat.le_of_eq ?_) c1
            exact congrArg Int.toNat (sumI_c (fun i _ _ => by { unfold fDone; rw [k2 67 _ rfl (by omega) (by omega)] }))
          refine rr_inc1 rfl ?_
          refine rr_aload_n rfl rfl ?_
          refine rr_cv0P rfl rfl rfl (Nat.le_of_ble_eq_true rfl) (sr_nextWish (d := 0)) (by omega) (fun b142 => ?_)
          refine rr_stI2 rfl ?_
          refine rr_goto rfl rfl ?_
          exact ih _ _ _ _ (by assumption) ⟨rfl, by assumption⟩ (fun s2 n2 x2 x3 hc => K s2 n2 x2 x3 (Or.inr ⟨⟨by omega, by omega⟩, s103, q103.1, q103.2, by first | exact Or.inl ⟨by omega, hc⟩ | exact Or.inr ⟨by omega, hc⟩⟩))
theorem sr_clear {d : Nat} {s : am_Z}  (hwl : hWL s) : am_CR (d + 6) m_M_clear [aR 9 0] s (isG (fun v s2 => ∃ f, clP f (wB (wI s 74 0) 67 0 20 (fun _ => 0)) 0 s2 v)) := by
  refine am_CR_i (ls := [some (aR 9 0), none, none, none]) rfl (fun q0 => ?_)
  refine rr_aload_n rfl rfl ?_
  refine rr_iconst rfl ?_
  refine rr_pfI 74 rfl rfl rfl rfl (by omega) rfl (by omega) ?_
  refine rr_iconst rfl ?_
  refine rr_stI1 rfl ?_
  refine lp_cl0 (d := d + 6) (s := wI s 74 0) 21 0 0 _ _ _ (by omega) ⟨rfl, by omega, (wB_0 ..).symm⟩ (fun x1 => ?_)
  refine rr_iconst rfl ?_
  refine rr_stI1 rfl ?_
  refine rr_aload_n rfl rfl ?_
  refine rr_cv0P rfl rfl rfl (Nat.le_of_ble_eq_true rfl) (sr_nextWish (d := 0)) (by omega) (fun b29 => ?_)
  refine rr_stI2 rfl ?_
  refine lp_cl2 (d := d) (s := s) (cntD (wB (wI s 74 0) 67 0 20 (fun _ => 0)) (rI s 61).toNat + 1) 0 _ _ _ (by show cntD _ (rI s 61).toNat < _; omega) ⟨rfl, hwl⟩ (fun s2 n2 x2 x3 hc => ?_)
  refine rr_iload_n rfl rfl ?_
  refine rr_iret rfl (Or.inl rfl) ?_
  exact ⟨_, rfl, _, hc⟩
end

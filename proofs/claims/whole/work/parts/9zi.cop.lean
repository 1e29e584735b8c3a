noncomputable section
/-- what holds behind every operation, and how far the clock may have gone -/
def am_IJ (s s' : am_Z) : Prop := am_INV s' ∧ rI s' 0 ≤ rI s 0 + 100
section HM
variable {D y : Nat} {as : List am_V} {s sR sC : am_Z} {vM vC k : Int} {J : am_Z → Prop}
theorem hM_P (C : am_CR D y as s (isP sR vM True)) (h74 : rI sR 74 = k) (hv : k = 0 → vM = vC) (hJ : J sR) (m : ∀ j x, usA j → rA sR j x = rA sC j x) (n : ∀ j, usI j → rI sR j = rI sC j) (q1 : am_A) (R : am_RV q1 q1 s) : am_C2 D y as q1 (fun o q' => ∃ b s2, o = .inl (some (aI (zI b))) ∧ am_RV q1 q' s2 ∧ (k = 0 → b = vC) ∧ am_SD J k sC s2) := am_C2_imp (C q1 q1 R) (fun o q' h => by
  obtain ⟨v, s', e, R', e1, e2, _⟩ := h
  subst e1
  subst e2
  exact ⟨vM, s', e, R', hv, h74, hJ, m, n⟩)
theorem hM_0 (C : am_CR D y as s (isP sR vM True)) (h74 : rI sR 74 = 0) (hv : vM = vC) (hJ : J sR) (m : ∀ j x, usA j → rA sR j x = rA sC j x) (n : ∀ j, usI j → rI sR j = rI sC j) (q1 : am_A) (R : am_RV q1 q1 s) : am_C2 D y as q1 (fun o q' => ∃ b s2, o = .inl (some (aI (zI b))) ∧ am_RV q1 q' s2 ∧ b = vC ∧ am_SD J 0 sC s2) := am_C2_imp (C q1 q1 R) (fun o q' h => by
  obtain ⟨v, s', e, R', e1, e2, _⟩ := h
  subst e1
  subst e2
  exact ⟨vM, s', e, R', hv, h74, hJ, m, n⟩)
theorem hM_W (C : am_CR D y as s (isW sR)) (h74 : rI sR 74 = k) (hJ : J sR) (m : ∀ j x, usA j → rA sR j x = rA sC j x) (n : ∀ j, usI j → rI sR j = rI sC j) (q1 : am_A) (R : am_RV q1 q1 s) : am_C2 D y as q1 (fun o q' => ∃ s2, o = .inl none ∧ am_RV q1 q' s2 ∧ am_SD J k sC s2) := am_C2_imp (C q1 q1 R) (fun o q' h => by
  obtain ⟨v, s', e, R', e1, e2⟩ := h
  subst e1
  subst e2
  exact ⟨s', e, R', h74, hJ, m, n⟩)
/-- what a state is like by its parts -/
theorem usI_c {s s' : am_Z} (h : s'.2 = s.2) (j : Nat) (_ : usI j) : rI s' j = rI s j := congrFun h j
theorem us74 {s : am_Z} {k : Int} {j : Nat} (h : usI j) : rI (wI s 74 k) j = rI s j := if_neg (by omega)
end HM
section LX
variable {d e : Nat} {q : am_A} {Q : am_O → am_A → Prop} {s : am_Z} {L : Nat} {X : Nat → Int} {i : Int} {x6 x7 : Option am_V}
theorem bool01 (z : Int) : (if z = 0 then (0 : Int) else 1) = 0 ∨ (if z = 0 then (0 : Int) else 1) = 1 := by
  split
  · exact Or.inl rfl
  · exact Or.inr rfl
theorem k01 {P : Prop} [Decidable P] : ((if P then (0 : Int) else 1) = 0) ↔ P := by
  by_cases h : P
  · rw [if_pos h]; exact ⟨fun _ => h, fun _ => rfl⟩
  · rw [if_neg h]; exact ⟨fun z => absurd z (by omega), fun z => absurd z h⟩
theorem lx_setZone (P : am_LP e q s s L X) (I : am_INV s) (hL : L ≤ 4096) (hX : ∀ k, in32 (X k)) (hi : 0 ≤ i ∧ i + 8 ≤ L) (K : ∀ q' s' x6 x7, am_LP (e + 1) q' s' s' L X → am_IJ s s' → am_W2 (d + 22) m_L_law 2620 [some (aR 31 0), some (aR 8 0), some (aR 9 0), some (aR 26 0), some (aR 27 0), some (aI (zI i)), x6, x7] [] q' Q) : am_W2 (d + 22) m_L_law 212 [some (aR 31 0), some (aR 8 0), some (aR 9 0), some (aR 26 0), some (aR 27 0), some (aI (zI i)), x6, x7] [] q Q := by
  have B := CV_B P.1.1
  have bk : 0 ≤ kSetZone s (X (i + 1).toNat) (X (i + 2).toNat) ∧ kSetZone s (X (i + 1).toNat) (X (i + 2).toNat) ≤ 3 := by
    unfold kSetZone
    repeat' split
    all_goals omega
  refine lw_setZone (J := am_IJ s) P hL hX hi bk rfl rfl rfl  (am_C2_imp ((co_setZone (d := 18) P.1 (hX _) (hX _))) (fun o q' h => OQ_OP P.2.2.1 h)) (hM_P (sr_setZone (d := 18) (hX _) (hX _)) ?_ ?_ ?_ ?_ ?_) K
  · split <;> rfl
  · exact fun hk => if_pos hk
  · by_cases hk : kSetZone s (X (i + 1).toNat) (X (i + 2).toNat) = 0
    · rw [if_pos hk]
      have IJ := INV_I (j := 74) (v := kSetZone s (X (i + 1).toNat) (X (i + 2).toNat)) I (by unfold ivI; omega)
      refine ⟨?_, by show rI s 0 ≤ _; omega⟩
      exact INV_A IJ (by unfold ivA; omega)
    · rw [if_neg hk]
      exact ⟨INV_I I (by unfold ivI; omega), by show rI s 0 ≤ _; omega⟩
  · by_cases hk : kSetZone s (X (i + 1).toNat) (X (i + 2).toNat) = 0
    · rw [if_pos hk, if_pos hk]
      exact fun j x hj => rfl
    · rw [if_neg hk, if_neg hk]
      exact fun j x hj => rfl
  · intro j hj
    by_cases hk : kSetZone s (X (i + 1).toNat) (X (i + 2).toNat) = 0
    · rw [if_pos hk, if_pos hk]
      rcases hj with rfl | rfl | rfl | rfl | rfl | rfl | rfl <;> rfl
    · rw [if_neg hk, if_neg hk]
      exact us74 hj
theorem lx_setTax (P : am_LP e q s s L X) (I : am_INV s) (hL : L ≤ 4096) (hX : ∀ k, in32 (X k)) (hi : 0 ≤ i ∧ i + 8 ≤ L) (K : ∀ q' s' x6 x7, am_LP (e + 1) q' s' s' L X → am_IJ s s' → am_W2 (d + 22) m_L_law 2620 [some (aR 31 0), some (aR 8 0), some (aR 9 0), some (aR 26 0), some (aR 27 0), some (aI (zI i)), x6, x7] [] q' Q) : am_W2 (d + 22) m_L_law 280 [some (aR 31 0), some (aR 8 0), some (aR 9 0), some (aR 26 0), some (aR 27 0), some (aI (zI i)), x6, x7] [] q Q := by
  have B := CV_B P.1.1
  have bk : 0 ≤ kSetTax s (X (i + 1).toNat) (X (i + 2).toNat) ∧ kSetTax s (X (i + 1).toNat) (X (i + 2).toNat) ≤ 2 := by
    unfold kSetTax
    repeat' split
    all_goals omega
  refine lw_setTax (J := am_IJ s) P hL hX hi bk rfl rfl  (am_C2_imp ((co_setTax (d := 18) P.1 (hX _) (hX _))) (fun o q' h => OQ_OP P.2.2.1 h)) (hM_P (sr_setTax (d := 18) (hX _) (hX _)) ?_ ?_ ?_ ?_ ?_) K
  · split <;> rfl
  · exact fun hk => if_pos hk
  · by_cases hk : kSetTax s (X (i + 1).toNat) (X (i + 2).toNat) = 0
    · rw [if_pos hk]
      have IJ := INV_I (j := 74) (v := kSetTax s (X (i + 1).toNat) (X (i + 2).toNat)) I (by unfold ivI; omega)
      refine ⟨?_, by show rI s 0 ≤ _; omega⟩
      exact INV_A IJ (by unfold ivA; omega)
    · rw [if_neg hk]
      exact ⟨INV_I I (by unfold ivI; omega), by show rI s 0 ≤ _; omega⟩
  · by_cases hk : kSetTax s (X (i + 1).toNat) (X (i + 2).toNat) = 0
    · rw [if_pos hk, if_pos hk]
      exact fun j x hj => rfl
    · rw [if_neg hk, if_neg hk]
      exact fun j x hj => rfl
  · intro j hj
    by_cases hk : kSetTax s (X (i + 1).toNat) (X (i + 2).toNat) = 0
    · rw [if_pos hk, if_pos hk]
      rcases hj with rfl | rfl | rfl | rfl | rfl | rfl | rfl <;> rfl
    · rw [if_neg hk, if_neg hk]
      exact us74 hj
theorem lx_flight (P : am_LP e q s s L X) (I : am_INV s) (hL : L ≤ 4096) (hX : ∀ k, in32 (X k)) (hi : 0 ≤ i ∧ i + 8 ≤ L) (K : ∀ q' s' x6 x7, am_LP (e + 1) q' s' s' L X → am_IJ s s' → am_W2 (d + 22) m_L_law 2620 [some (aR 31 0), some (aR 8 0), some (aR 9 0), some (aR 26 0), some (aR 27 0), some (aI (zI i)), x6, x7] [] q' Q) : am_W2 (d + 22) m_L_law 348 [some (aR 31 0), some (aR 8 0), some (aR 9 0), some (aR 26 0), some (aR 27 0), some (aI (zI i)), x6, x7] [] q Q := by
  have B := CV_B P.1.1
  have bk : 0 ≤ kFlight s (X (i + 1).toNat) (X (i + 2).toNat) (X (i + 3).toNat) (X (i + 4).toNat) (X (i + 5).toNat) (X (i + 6).toNat) ∧ kFlight s (X (i + 1).toNat) (X (i + 2).toNat) (X (i + 3).toNat) (X (i + 4).toNat) (X (i + 5).toNat) (X (i + 6).toNat) ≤ 3 := by
    unfold kFlight
    repeat' split
    all_goals omega
  refine lw_flight (J := am_IJ s) P hL hX hi bk rfl rfl rfl  (am_C2_imp ((co_flight (d := 14) P.1 (INV_VG I) (hX _) (hX _) (hX _) (hX _) (hX _) (hX _))) (fun o q' h => OQ_OP P.2.2.1 h)) (hM_P (sr_flight (d := 18) (hX _) (hX _) (hX _) (hX _) (hX _) (hX _)) ?_ ?_ ?_ ?_ ?_) K
  · split <;> rfl
  · exact fun hk => if_pos hk
  · by_cases hk : kFlight s (X (i + 1).toNat) (X (i + 2).toNat) (X (i + 3).toNat) (X (i + 4).toNat) (X (i + 5).toNat) (X (i + 6).toNat) = 0
    · rw [if_pos hk]
      have IJ := INV_I (j := 74) (v := kFlight s (X (i + 1).toNat) (X (i + 2).toNat) (X (i + 3).toNat) (X (i + 4).toNat) (X (i + 5).toNat) (X (i + 6).toNat)) I (by unfold ivI; omega)
      refine ⟨?_, by show rI s 0 ≤ _; omega⟩
      unfold kFlight at hk
      split at hk
      · omega
      · split at hk
        · omega
        · rename_i h1 h2
          have h2 := Decidable.not_not.mp h2
          exact INV_flight IJ h2.2.2.1.1 h2.2.2.2.1
    · rw [if_neg hk]
      exact ⟨INV_I I (by unfold ivI; omega), by show rI s 0 ≤ _; omega⟩
  · by_cases hk : kFlight s (X (i + 1).toNat) (X (i + 2).toNat) (X (i + 3).toNat) (X (i + 4).toNat) (X (i + 5).toNat) (X (i + 6).toNat) = 0
    · rw [if_pos hk, if_pos hk]
      exact fun j x hj => rfl
    · rw [if_neg hk, if_neg hk]
      exact fun j x hj => rfl
  · intro j hj
    by_cases hk : kFlight s (X (i + 1).toNat) (X (i + 2).toNat) (X (i + 3).toNat) (X (i + 4).toNat) (X (i + 5).toNat) (X (i + 6).toNat) = 0
    · rw [if_pos hk, if_pos hk]
      rcases hj with rfl | rfl | rfl | rfl | rfl | rfl | rfl <;> rfl
    · rw [if_neg hk, if_neg hk]
      exact us74 hj
theorem lx_days (P : am_LP e q s s L X) (I : am_INV s) (hL : L ≤ 4096) (hX : ∀ k, in32 (X k)) (hi : 0 ≤ i ∧ i + 8 ≤ L) (K : ∀ q' s' x6 x7, am_LP (e + 1) q' s' s' L X → am_IJ s s' → am_W2 (d + 22) m_L_law 2620 [some (aR 31 0), some (aR 8 0), some (aR 9 0), some (aR 26 0), some (aR 27 0), some (aI (zI i)), x6, x7] [] q' Q) : am_W2 (d + 22) m_L_law 466 [some (aR 31 0), some (aR 8 0), some (aR 9 0), some (aR 26 0), some (aR 27 0), some (aI (zI i)), x6, x7] [] q Q := by
  have B := CV_B P.1.1
  have bk : 0 ≤ kDays s (X (i + 1).toNat) (X (i + 2).toNat) (X (i + 3).toNat) (X (i + 4).toNat) ∧ kDays s (X (i + 1).toNat) (X (i + 2).toNat) (X (i + 3).toNat) (X (i + 4).toNat) ≤ 3 := by
    unfold kDays
    repeat' split
    all_goals omega
  refine lw_days (J := am_IJ s) P hL hX hi bk rfl rfl rfl  (am_C2_imp ((co_days (d := 16) P.1 (INV_VG I) (hX _) (hX _) (hX _) (hX _))) (fun o q' h => OQ_OP P.2.2.1 h)) (hM_P (sr_days (d := 18) (hX _) (hX _) (hX _) (hX _)) ?_ ?_ ?_ ?_ ?_) K
  · split <;> rfl
  · exact fun hk => if_pos hk
  · by_cases hk : kDays s (X (i + 1).toNat) (X (i + 2).toNat) (X (i + 3).toNat) (X (i + 4).toNat) = 0
    · rw [if_pos hk]
      have IJ := INV_I (j := 74) (v := kDays s (X (i + 1).toNat) (X (i + 2).toNat) (X (i + 3).toNat) (X (i + 4).toNat)) I (by unfold ivI; omega)
      refine ⟨?_, by show rI s 0 ≤ _; omega⟩
      unfold kDays at hk
      split at hk
      · omega
      · split at hk
        · omega
        · split at hk
          · omega
          · rename_i h1 h2 h3
            have h1 := Decidable.not_not.mp h1
            exact INV_days IJ h1.2 (Decidable.not_not.mp h3)
    · rw [if_neg hk]
      exact ⟨INV_I I (by unfold ivI; omega), by show rI s 0 ≤ _; omega⟩
  · by_cases hk : kDays s (X (i + 1).toNat) (X (i + 2).toNat) (X (i + 3).toNat) (X (i + 4).toNat) = 0
    · rw [if_pos hk, if_pos hk]
      exact fun j x hj => rfl
    · rw [if_neg hk, if_neg hk]
      exact fun j x hj => rfl
  · intro j hj
    by_cases hk : kDays s (X (i + 1).toNat) (X (i + 2).toNat) (X (i + 3).toNat) (X (i + 4).toNat) = 0
    · rw [if_pos hk, if_pos hk]
      rcases hj with rfl | rfl | rfl | rfl | rfl | rfl | rfl <;> rfl
    · rw [if_neg hk, if_neg hk]
      exact us74 hj
theorem lx_limit (P : am_LP e q s s L X) (I : am_INV s) (hL : L ≤ 4096) (hX : ∀ k, in32 (X k)) (hi : 0 ≤ i ∧ i + 8 ≤ L) (K : ∀ q' s' x6 x7, am_LP (e + 1) q' s' s' L X → am_IJ s s' → am_W2 (d + 22) m_L_law 2620 [some (aR 31 0), some (aR 8 0), some (aR 9 0), some (aR 26 0), some (aR 27 0), some (aI (zI i)), x6, x7] [] q' Q) : am_W2 (d + 22) m_L_law 558 [some (aR 31 0), some (aR 8 0), some (aR 9 0), some (aR 26 0), some (aR 27 0), some (aI (zI i)), x6, x7] [] q Q := by
  have B := CV_B P.1.1
  have bk : 0 ≤ kLimit s (X (i + 1).toNat) (X (i + 2).toNat) (X (i + 3).toNat) ∧ kLimit s (X (i + 1).toNat) (X (i + 2).toNat) (X (i + 3).toNat) ≤ 2 := by
    unfold kLimit
    repeat' split
    all_goals omega
  refine lw_limit (J := am_IJ s) P hL hX hi bk rfl rfl  (am_C2_imp ((co_limit (d := 16) P.1 (hX _) (hX _) (hX _))) (fun o q' h => OQ_OP P.2.2.1 h)) (hM_P (sr_limit (d := 18) (hX _) (hX _) (hX _)) ?_ ?_ ?_ ?_ ?_) K
  · split <;> rfl
  · exact fun hk => if_pos hk
  · by_cases hk : kLimit s (X (i + 1).toNat) (X (i + 2).toNat) (X (i + 3).toNat) = 0
    · rw [if_pos hk]
      have IJ := INV_I (j := 74) (v := kLimit s (X (i + 1).toNat) (X (i + 2).toNat) (X (i + 3).toNat)) I (by unfold ivI; omega)
      refine ⟨?_, by show rI s 0 ≤ _; omega⟩
      exact INV_A IJ (by unfold ivA; omega)
    · rw [if_neg hk]
      exact ⟨INV_I I (by unfold ivI; omega), by show rI s 0 ≤ _; omega⟩
  · by_cases hk : kLimit s (X (i + 1).toNat) (X (i + 2).toNat) (X (i + 3).toNat) = 0
    · rw [if_pos hk, if_pos hk]
      exact fun j x hj => rfl
    · rw [if_neg hk, if_neg hk]
      exact fun j x hj => rfl
  · intro j hj
    by_cases hk : kLimit s (X (i + 1).toNat) (X (i + 2).toNat) (X (i + 3).toNat) = 0
    · rw [if_pos hk, if_pos hk]
      rcases hj with rfl | rfl | rfl | rfl | rfl | rfl | rfl <;> rfl
    · rw [if_neg hk, if_neg hk]
      exact us74 hj
theorem lx_link (P : am_LP e q s s L X) (I : am_INV s) (hL : L ≤ 4096) (hX : ∀ k, in32 (X k)) (hi : 0 ≤ i ∧ i + 8 ≤ L) (K : ∀ q' s' x6 x7, am_LP (e + 1) q' s' s' L X → am_IJ s s' → am_W2 (d + 22) m_L_law 2620 [some (aR 31 0), some (aR 8 0), some (aR 9 0), some (aR 26 0), some (aR 27 0), some (aI (zI i)), x6, x7] [] q' Q) : am_W2 (d + 22) m_L_law 638 [some (aR 31 0), some (aR 8 0), some (aR 9 0), some (aR 26 0), some (aR 27 0), some (aI (zI i)), x6, x7] [] q Q := by
  have B := CV_B P.1.1
  have bk : 0 ≤ kLink s (X (i + 1).toNat) (X (i + 2).toNat) ∧ kLink s (X (i + 1).toNat) (X (i + 2).toNat) ≤ 2 := by
    unfold kLink
    repeat' split
    all_goals omega
  refine lw_link (J := am_IJ s) P hL hX hi bk rfl rfl  (am_C2_imp ((co_link (d := 16) P.1 (hX _) (hX _) (bool01 _))) (fun o q' h => OQ_OP P.2.2.1 h)) (hM_P (sr_link (d := 18) (hX _) (hX _) (bool01 _)) ?_ ?_ ?_ ?_ ?_) K
  · split <;> rfl
  · exact fun hk => if_pos hk
  · by_cases hk : kLink s (X (i + 1).toNat) (X (i + 2).toNat) = 0
    · rw [if_pos hk]
      have IJ := INV_I (j := 74) (v := kLink s (X (i + 1).toNat) (X (i + 2).toNat)) I (by unfold ivI; omega)
      refine ⟨?_, by show rI s 0 ≤ _; omega⟩
      unfold kLink at hk
      split at hk
      · omega
      · rename_i h1
        have h1 := Decidable.not_not.mp h1
        exact INV_link IJ h1.1.2
    · rw [if_neg hk]
      exact ⟨INV_I I (by unfold ivI; omega), by show rI s 0 ≤ _; omega⟩
  · by_cases hk : kLink s (X (i + 1).toNat) (X (i + 2).toNat) = 0
    · rw [if_pos hk, if_pos hk]
      exact fun j x hj => rfl
    · rw [if_neg hk, if_neg hk]
      exact fun j x hj => rfl
  · intro j hj
    by_cases hk : kLink s (X (i + 1).toNat) (X (i + 2).toNat) = 0
    · rw [if_pos hk, if_pos hk]
      rcases hj with rfl | rfl | rfl | rfl | rfl | rfl | rfl <;> rfl
    · rw [if_neg hk, if_neg hk]
      exact us74 hj
theorem lx_fare (P : am_LP e q s s L X) (I : am_INV s) (hL : L ≤ 4096) (hX : ∀ k, in32 (X k)) (hi : 0 ≤ i ∧ i + 8 ≤ L) (K : ∀ q' s' x6 x7, am_LP (e + 1) q' s' s' L X → am_IJ s s' → am_W2 (d + 22) m_L_law 2620 [some (aR 31 0), some (aR 8 0), some (aR 9 0), some (aR 26 0), some (aR 27 0), some (aI (zI i)), x6, x7] [] q' Q) : am_W2 (d + 22) m_L_law 734 [some (aR 31 0), some (aR 8 0), some (aR 9 0), some (aR 26 0), some (aR 27 0), some (aI (zI i)), x6, x7] [] q Q := by
  have B := CV_B P.1.1
  have bk : 0 ≤ kFare s (X (i + 1).toNat) (X (i + 2).toNat) (X (i + 3).toNat) (X (i + 4).toNat) (X (i + 5).toNat) ∧ kFare s (X (i + 1).toNat) (X (i + 2).toNat) (X (i + 3).toNat) (X (i + 4).toNat) (X (i + 5).toNat) ≤ 3 := by
    unfold kFare
    repeat' split
    all_goals omega
  refine lw_fare (J := am_IJ s) P hL hX hi bk rfl rfl rfl  (am_C2_imp ((co_fare (d := 14) P.1 (INV_VG I) (hX _) (hX _) (hX _) (hX _) (hX _))) (fun o q' h => OQ_OP P.2.2.1 h)) (hM_P (sr_fare (d := 18) (hX _) (hX _) (hX _) (hX _) (hX _)) ?_ ?_ ?_ ?_ ?_) K
  · split <;> rfl
  · exact fun hk => if_pos hk
  · by_cases hk : kFare s (X (i + 1).toNat) (X (i + 2).toNat) (X (i + 3).toNat) (X (i + 4).toNat) (X (i + 5).toNat) = 0
    · rw [if_pos hk]
      have IJ := INV_I (j := 74) (v := kFare s (X (i + 1).toNat) (X (i + 2).toNat) (X (i + 3).toNat) (X (i + 4).toNat) (X (i + 5).toNat)) I (by unfold ivI; omega)
      refine ⟨?_, by show rI s 0 ≤ _; omega⟩
      exact INV_fare IJ
    · rw [if_neg hk]
      exact ⟨INV_I I (by unfold ivI; omega), by show rI s 0 ≤ _; omega⟩
  · by_cases hk : kFare s (X (i + 1).toNat) (X (i + 2).toNat) (X (i + 3).toNat) (X (i + 4).toNat) (X (i + 5).toNat) = 0
    · rw [if_pos hk, if_pos hk]
      exact fun j x hj => rfl
    · rw [if_neg hk, if_neg hk]
      exact fun j x hj => rfl
  · intro j hj
    by_cases hk : kFare s (X (i + 1).toNat) (X (i + 2).toNat) (X (i + 3).toNat) (X (i + 4).toNat) (X (i + 5).toNat) = 0
    · rw [if_pos hk, if_pos hk]
      rcases hj with rfl | rfl | rfl | rfl | rfl | rfl | rfl <;> rfl
    · rw [if_neg hk, if_neg hk]
      exact us74 hj
theorem lx_back (P : am_LP e q s s L X) (I : am_INV s) (hL : L ≤ 4096) (hX : ∀ k, in32 (X k)) (hi : 0 ≤ i ∧ i + 8 ≤ L) (K : ∀ q' s' x6 x7, am_LP (e + 1) q' s' s' L X → am_IJ s s' → am_W2 (d + 22) m_L_law 2620 [some (aR 31 0), some (aR 8 0), some (aR 9 0), some (aR 26 0), some (aR 27 0), some (aI (zI i)), x6, x7] [] q' Q) : am_W2 (d + 22) m_L_law 982 [some (aR 31 0), some (aR 8 0), some (aR 9 0), some (aR 26 0), some (aR 27 0), some (aI (zI i)), x6, x7] [] q Q := by
  have B := CV_B P.1.1
  have bk : 0 ≤ kBack s (X (i + 1).toNat) (X (i + 2).toNat) ∧ kBack s (X (i + 1).toNat) (X (i + 2).toNat) ≤ 2 := by
    unfold kBack
    repeat' split
    all_goals omega
  refine lw_back (J := am_IJ s) P hL hX hi bk rfl rfl  (am_C2_imp ((co_back (d := 16) P.1 (hX _) (hX _))) (fun o q' h => OQ_OP P.2.2.1 h)) (hM_P (sr_back (d := 18) (hX _) (hX _)) ?_ ?_ ?_ ?_ ?_) K
  · split <;> rfl
  · exact fun hk => if_pos hk
  · by_cases hk : kBack s (X (i + 1).toNat) (X (i + 2).toNat) = 0
    · rw [if_pos hk]
      have IJ := INV_I (j := 74) (v := kBack s (X (i + 1).toNat) (X (i + 2).toNat)) I (by unfold ivI; omega)
      refine ⟨?_, by show rI s 0 ≤ _; omega⟩
      exact INV_A IJ (by unfold ivA; omega)
    · rw [if_neg hk]
      exact ⟨INV_I I (by unfold ivI; omega), by show rI s 0 ≤ _; omega⟩
  · by_cases hk : kBack s (X (i + 1).toNat) (X (i + 2).toNat) = 0
    · rw [if_pos hk, if_pos hk]
      exact fun j x hj => rfl
    · rw [if_neg hk, if_neg hk]
      exact fun j x hj => rfl
  · intro j hj
    by_cases hk : kBack s (X (i + 1).toNat) (X (i + 2).toNat) = 0
    · rw [if_pos hk, if_pos hk]
      rcases hj with rfl | rfl | rfl | rfl | rfl | rfl | rfl <;> rfl
    · rw [if_neg hk, if_neg hk]
      exact us74 hj
theorem lx_departure (P : am_LP e q s s L X) (I : am_INV s) (hL : L ≤ 4096) (hX : ∀ k, in32 (X k)) (hi : 0 ≤ i ∧ i + 8 ≤ L) (K : ∀ q' s' x6 x7, am_LP (e + 1) q' s' s' L X → am_IJ s s' → am_W2 (d + 22) m_L_law 2620 [some (aR 31 0), some (aR 8 0), some (aR 9 0), some (aR 26 0), some (aR 27 0), some (aI (zI i)), x6, x7] [] q' Q) : am_W2 (d + 22) m_L_law 1050 [some (aR 31 0), some (aR 8 0), some (aR 9 0), some (aR 26 0), some (aR 27 0), some (aI (zI i)), x6, x7] [] q Q := by
  have B := CV_B P.1.1
  have bk : 0 ≤ kLeg1 s (X (i + 1).toNat) ∧ kLeg1 s (X (i + 1).toNat) ≤ 1 := by
    unfold kLeg1
    repeat' split
    all_goals omega
  refine lw_departure (J := am_IJ s) P hL hX hi bk rfl  (am_C2_imp ((cs_departure (d := 16) P.1.1 (hX _))) (fun o q' h => OQ_T2 P.2.2.1 P.1 (k01) h)) (hM_P (sr_departure (d := 17) (hX _)) ?_ ?_ ?_ ?_ ?_) K
  · split <;> rfl
  · exact fun hk => if_pos hk
  · rw [ite_self]
    exact ⟨INV_I I (by unfold ivI; omega), by show rI s 0 ≤ _; omega⟩
  · rw [ite_self]
    exact fun j x hj => rfl
  · rw [ite_self]
    exact fun j hj => us74 hj
theorem lx_standing (P : am_LP e q s s L X) (I : am_INV s) (hL : L ≤ 4096) (hX : ∀ k, in32 (X k)) (hi : 0 ≤ i ∧ i + 8 ≤ L) (K : ∀ q' s' x6 x7, am_LP (e + 1) q' s' s' L X → am_IJ s s' → am_W2 (d + 22) m_L_law 2620 [some (aR 31 0), some (aR 8 0), some (aR 9 0), some (aR 26 0), some (aR 27 0), some (aI (zI i)), x6, x7] [] q' Q) : am_W2 (d + 22) m_L_law 1106 [some (aR 31 0), some (aR 8 0), some (aR 9 0), some (aR 26 0), some (aR 27 0), some (aI (zI i)), x6, x7] [] q Q := by
  have B := CV_B P.1.1
  have bk : 0 ≤ kLeg1 s (X (i + 1).toNat) ∧ kLeg1 s (X (i + 1).toNat) ≤ 1 := by
    unfold kLeg1
    repeat' split
    all_goals omega
  refine lw_standing (J := am_IJ s) P hL hX hi bk rfl  (am_C2_imp ((cs_standing (d := 16) P.1.1 (hX _))) (fun o q' h => OQ_T2 P.2.2.1 P.1 (k01) h)) (hM_P (sr_standing (d := 17) (hX _)) ?_ ?_ ?_ ?_ ?_) K
  · split <;> rfl
  · exact fun hk => if_pos hk
  · rw [ite_self]
    exact ⟨INV_I I (by unfold ivI; omega), by show rI s 0 ≤ _; omega⟩
  · rw [ite_self]
    exact fun j x hj => rfl
  · rw [ite_self]
    exact fun j hj => us74 hj
theorem lx_open (P : am_LP e q s s L X) (I : am_INV s) (hL : L ≤ 4096) (hX : ∀ k, in32 (X k)) (hi : 0 ≤ i ∧ i + 8 ≤ L) (K : ∀ q' s' x6 x7, am_LP (e + 1) q' s' s' L X → am_IJ s s' → am_W2 (d + 22) m_L_law 2620 [some (aR 31 0), some (aR 8 0), some (aR 9 0), some (aR 26 0), some (aR 27 0), some (aI (zI i)), x6, x7] [] q' Q) : am_W2 (d + 22) m_L_law 1162 [some (aR 31 0), some (aR 8 0), some (aR 9 0), some (aR 26 0), some (aR 27 0), some (aI (zI i)), x6, x7] [] q Q := by
  have B := CV_B P.1.1
  have bk : 0 ≤ kOpen s (X (i + 1).toNat) (X (i + 2).toNat) ∧ kOpen s (X (i + 1).toNat) (X (i + 2).toNat) ≤ 1 := by
    unfold kOpen
    repeat' split
    all_goals omega
  refine lw_open (J := am_IJ s) P hL hX hi bk rfl  (am_C2_imp ((cs_open (d := 15) P.1.1 (hX _) (hX _))) (fun o q' h => OQ_T2 P.2.2.1 P.1 (k01) h)) (hM_P (sr_open (d := 16) (hX _) (hX _)) ?_ ?_ ?_ ?_ ?_) K
  · split <;> rfl
  · exact fun hk => if_pos hk
  · rw [ite_self]
    exact ⟨INV_I I (by unfold ivI; omega), by show rI s 0 ≤ _; omega⟩
  · rw [ite_self]
    exact fun j x hj => rfl
  · rw [ite_self]
    exact fun j hj => us74 hj
theorem lx_leg (P : am_LP e q s s L X) (I : am_INV s) (hL : L ≤ 4096) (hX : ∀ k, in32 (X k)) (hi : 0 ≤ i ∧ i + 8 ≤ L) (K : ∀ q' s' x6 x7, am_LP (e + 1) q' s' s' L X → am_IJ s s' → am_W2 (d + 22) m_L_law 2620 [some (aR 31 0), some (aR 8 0), some (aR 9 0), some (aR 26 0), some (aR 27 0), some (aI (zI i)), x6, x7] [] q' Q) : am_W2 (d + 22) m_L_law 1445 [some (aR 31 0), some (aR 8 0), some (aR 9 0), some (aR 26 0), some (aR 27 0), some (aI (zI i)), x6, x7] [] q Q := by
  have B := CV_B P.1.1
  have bk : 0 ≤ kLegA s (X (i + 1).toNat) ∧ kLegA s (X (i + 1).toNat) ≤ 2 := by
    unfold kLegA
    repeat' split
    all_goals omega
  refine lw_leg (J := am_IJ s) P hL hX hi bk rfl rfl  (am_C2_imp ((co_leg (d := 14) P.1 (hX _))) (fun o q' h => OQ_OP P.2.2.1 h)) (hM_P (sr_leg (d := 17) (hX _)) ?_ ?_ ?_ ?_ ?_) K
  · split <;> rfl
  · exact fun hk => if_pos hk
  · by_cases hk : kLegA s (X (i + 1).toNat) = 0
    · rw [if_pos hk]
      have IJ := INV_I (j := 74) (v := kLegA s (X (i + 1).toNat)) I (by unfold ivI; omega)
      refine ⟨?_, by show rI s 0 ≤ _; omega⟩
      unfold kLegA at hk
      split at hk
      · omega
      · split at hk
        · rename_i h1 h2
          have b33 := B.2.1 33 0 4 rfl
          exact INV_leg IJ b33.1 (fun i i1 i2 => by
            have z := (canL_iff.mp h2).2 i.toNat (by have i2 : i < rI s 33 := i2; omega)
            rw [show ((i.toNat : Nat) : Int) = i by omega] at z
            exact z)
        · omega
    · rw [if_neg hk]
      exact ⟨INV_I I (by unfold ivI; omega), by show rI s 0 ≤ _; omega⟩
  · by_cases hk : kLegA s (X (i + 1).toNat) = 0
    · rw [if_pos hk, if_pos hk]
      exact fun j x hj => rfl
    · rw [if_neg hk, if_neg hk]
      exact fun j x hj => rfl
  · intro j hj
    by_cases hk : kLegA s (X (i + 1).toNat) = 0
    · rw [if_pos hk, if_pos hk]
      rcases hj with rfl | rfl | rfl | rfl | rfl | rfl | rfl <;> rfl
    · rw [if_neg hk, if_neg hk]
      exact us74 hj
theorem lx_dropLegs (P : am_LP e q s s L X) (I : am_INV s) (hL : L ≤ 4096) (hX : ∀ k, in32 (X k)) (hi : 0 ≤ i ∧ i + 8 ≤ L) (K : ∀ q' s' x6 x7, am_LP (e + 1) q' s' s' L X → am_IJ s s' → am_W2 (d + 22) m_L_law 2620 [some (aR 31 0), some (aR 8 0), some (aR 9 0), some (aR 26 0), some (aR 27 0), some (aI (zI i)), x6, x7] [] q' Q) : am_W2 (d + 22) m_L_law 1501 [some (aR 31 0), some (aR 8 0), some (aR 9 0), some (aR 26 0), some (aR 27 0), some (aI (zI i)), x6, x7] [] q Q := by
  have B := CV_B P.1.1
  refine lw_dropLegs (J := am_IJ s) P hL hX hi  (by have := B.2.1 33 0 4 rfl; unfold in32; omega) (am_C2_imp ((co_dropLegs (d := 19) P.1 )) (fun o q' h => OQ_OP P.2.2.1 h)) (hM_0 (sr_dropLegs (d := 20) ) ?_ ?_ ?_ ?_ ?_) K
  · rfl
  · rfl
  · exact ⟨INV_drop (INV_I I (by unfold ivI; omega)), by show rI s 0 ≤ _; omega⟩
  · exact fun j x hj => rfl
  · intro j hj
    rcases hj with rfl | rfl | rfl | rfl | rfl | rfl | rfl <;> rfl
theorem lx_wish (P : am_LP e q s s L X) (I : am_INV s) (hL : L ≤ 4096) (hX : ∀ k, in32 (X k)) (hi : 0 ≤ i ∧ i + 8 ≤ L) (K : ∀ q' s' x6 x7, am_LP (e + 1) q' s' s' L X → am_IJ s s' → am_W2 (d + 22) m_L_law 2620 [some (aR 31 0), some (aR 8 0), some (aR 9 0), some (aR 26 0), some (aR 27 0), some (aI (zI i)), x6, x7] [] q' Q) : am_W2 (d + 22) m_L_law 1787 [some (aR 31 0), some (aR 8 0), some (aR 9 0), some (aR 26 0), some (aR 27 0), some (aI (zI i)), x6, x7] [] q Q := by
  have B := CV_B P.1.1
  have bk : 0 ≤ kWish s (X (i + 1).toNat) (X (i + 2).toNat) ∧ kWish s (X (i + 1).toNat) (X (i + 2).toNat) ≤ 3 := by
    unfold kWish
    repeat' split
    all_goals omega
  refine lw_wish (J := am_IJ s) P hL hX hi bk rfl rfl rfl  (am_C2_imp ((co_wish (d := 14) P.1 (hX _) (hX _))) (fun o q' h => OQ_OP P.2.2.1 h)) (hM_P (sr_wish (d := 18) (hX _) (hX _)) ?_ ?_ ?_ ?_ ?_) K
  · split <;> rfl
  · exact fun hk => if_pos hk
  · by_cases hk : kWish s (X (i + 1).toNat) (X (i + 2).toNat) = 0
    · rw [if_pos hk]
      have IJ := INV_I (j := 74) (v := kWish s (X (i + 1).toNat) (X (i + 2).toNat)) I (by unfold ivI; omega)
      refine ⟨?_, by show rI s 0 ≤ _; omega⟩
      unfold kWish at hk
      split at hk
      · omega
      · split at hk
        · omega
        · split at hk
          · omega
          · rename_i h1 h2 h3
            have h2 := Decidable.not_not.mp h2
            have b33 := B.2.1 33 0 4 rfl
            exact INV_wish IJ h2.1 (by show 1 ≤ rI s 33; omega) (B.2.1 61 0 20 rfl).1 (fun w => B.1 64 w 0 4 rfl)
    · rw [if_neg hk]
      exact ⟨INV_I I (by unfold ivI; omega), by show rI s 0 ≤ _; omega⟩
  · by_cases hk : kWish s (X (i + 1).toNat) (X (i + 2).toNat) = 0
    · rw [if_pos hk, if_pos hk]
      exact fun j x hj => rfl
    · rw [if_neg hk, if_neg hk]
      exact fun j x hj => rfl
  · intro j hj
    by_cases hk : kWish s (X (i + 1).toNat) (X (i + 2).toNat) = 0
    · rw [if_pos hk, if_pos hk]
      rcases hj with rfl | rfl | rfl | rfl | rfl | rfl | rfl <;> rfl
    · rw [if_neg hk, if_neg hk]
      exact us74 hj
theorem lx_wished (P : am_LP e q s s L X) (I : am_INV s) (hL : L ≤ 4096) (hX : ∀ k, in32 (X k)) (hi : 0 ≤ i ∧ i + 8 ≤ L) (K : ∀ q' s' x6 x7, am_LP (e + 1) q' s' s' L X → am_IJ s s' → am_W2 (d + 22) m_L_law 2620 [some (aR 31 0), some (aR 8 0), some (aR 9 0), some (aR 26 0), some (aR 27 0), some (aI (zI i)), x6, x7] [] q' Q) : am_W2 (d + 22) m_L_law 1868 [some (aR 31 0), some (aR 8 0), some (aR 9 0), some (aR 26 0), some (aR 27 0), some (aI (zI i)), x6, x7] [] q Q := by
  have B := CV_B P.1.1
  have bk : 0 ≤ kWished s (X (i + 1).toNat) ∧ kWished s (X (i + 1).toNat) ≤ 1 := by
    unfold kWished
    repeat' split
    all_goals omega
  refine lw_wished (J := am_IJ s) P hL hX hi bk rfl  (am_C2_imp ((cs_wished (d := 16) P.1.1 (hX _) (fun w h1 h2 => by have z := (I.2.2.1 w.toNat (by omega)).1; rw [show ((w.toNat : Nat) : Int) = w by omega] at z; exact z))) (fun o q' h => OQ_T2 P.2.2.1 P.1 (k01) h)) (hM_P (sr_wished (d := 16) (hX _)) ?_ ?_ ?_ ?_ ?_) K
  · split <;> rfl
  · exact fun hk => if_pos hk
  · rw [ite_self]
    exact ⟨INV_I I (by unfold ivI; omega), by show rI s 0 ≤ _; omega⟩
  · rw [ite_self]
    exact fun j x hj => rfl
  · rw [ite_self]
    exact fun j hj => us74 hj
theorem lx_booking (P : am_LP e q s s L X) (I : am_INV s) (hL : L ≤ 4096) (hX : ∀ k, in32 (X k)) (hi : 0 ≤ i ∧ i + 8 ≤ L) (K : ∀ q' s' x6 x7, am_LP (e + 1) q' s' s' L X → am_IJ s s' → am_W2 (d + 22) m_L_law 2620 [some (aR 31 0), some (aR 8 0), some (aR 9 0), some (aR 26 0), some (aR 27 0), some (aI (zI i)), x6, x7] [] q' Q) : am_W2 (d + 22) m_L_law 2104 [some (aR 31 0), some (aR 8 0), some (aR 9 0), some (aR 26 0), some (aR 27 0), some (aI (zI i)), x6, x7] [] q Q := by
  have B := CV_B P.1.1
  have bk : 0 ≤ kBooking s (X (i + 1).toNat) ∧ kBooking s (X (i + 1).toNat) ≤ 1 := by
    unfold kBooking
    repeat' split
    all_goals omega
  refine lw_booking (J := am_IJ s) P hL hX hi bk rfl  (am_C2_imp ((cs_booking (d := 16) P.1.1 (hX _))) (fun o q' h => OQ_T2 P.2.2.1 P.1 (k01) h)) (hM_P (sr_booking (d := 18) (hX _)) ?_ ?_ ?_ ?_ ?_) K
  · split <;> rfl
  · exact fun hk => if_pos hk
  · rw [ite_self]
    exact ⟨INV_I I (by unfold ivI; omega), by show rI s 0 ≤ _; omega⟩
  · rw [ite_self]
    exact fun j x hj => rfl
  · rw [ite_self]
    exact fun j hj => us74 hj
theorem lx_coupon (P : am_LP e q s s L X) (I : am_INV s) (hL : L ≤ 4096) (hX : ∀ k, in32 (X k)) (hi : 0 ≤ i ∧ i + 8 ≤ L) (K : ∀ q' s' x6 x7, am_LP (e + 1) q' s' s' L X → am_IJ s s' → am_W2 (d + 22) m_L_law 2620 [some (aR 31 0), some (aR 8 0), some (aR 9 0), some (aR 26 0), some (aR 27 0), some (aI (zI i)), x6, x7] [] q' Q) : am_W2 (d + 22) m_L_law 2160 [some (aR 31 0), some (aR 8 0), some (aR 9 0), some (aR 26 0), some (aR 27 0), some (aI (zI i)), x6, x7] [] q Q := by
  have B := CV_B P.1.1
  have bk : 0 ≤ kCoupon s (X (i + 1).toNat) (X (i + 2).toNat) ∧ kCoupon s (X (i + 1).toNat) (X (i + 2).toNat) ≤ 1 := by
    unfold kCoupon
    repeat' split
    all_goals omega
  refine lw_coupon (J := am_IJ s) P hL hX hi bk rfl  (am_C2_imp ((cs_coupon (d := 15) P.1.1 (hX _) (hX _))) (fun o q' h => OQ_T2 P.2.2.1 P.1 (k01) h)) (hM_P (sr_coupon (d := 17) (hX _) (hX _)) ?_ ?_ ?_ ?_ ?_) K
  · split <;> rfl
  · exact fun hk => if_pos hk
  · rw [ite_self]
    exact ⟨INV_I I (by unfold ivI; omega), by show rI s 0 ≤ _; omega⟩
  · rw [ite_self]
    exact fun j x hj => rfl
  · rw [ite_self]
    exact fun j hj => us74 hj
theorem lx_share (P : am_LP e q s s L X) (I : am_INV s) (hL : L ≤ 4096) (hX : ∀ k, in32 (X k)) (hi : 0 ≤ i ∧ i + 8 ≤ L) (K : ∀ q' s' x6 x7, am_LP (e + 1) q' s' s' L X → am_IJ s s' → am_W2 (d + 22) m_L_law 2620 [some (aR 31 0), some (aR 8 0), some (aR 9 0), some (aR 26 0), some (aR 27 0), some (aI (zI i)), x6, x7] [] q' Q) : am_W2 (d + 22) m_L_law 2228 [some (aR 31 0), some (aR 8 0), some (aR 9 0), some (aR 26 0), some (aR 27 0), some (aI (zI i)), x6, x7] [] q Q := by
  have B := CV_B P.1.1
  have bk : 0 ≤ kCoupon s (X (i + 1).toNat) (X (i + 2).toNat) ∧ kCoupon s (X (i + 1).toNat) (X (i + 2).toNat) ≤ 1 := by
    unfold kCoupon
    repeat' split
    all_goals omega
  refine lw_share (J := am_IJ s) P hL hX hi bk rfl  (am_C2_imp ((cs_share (d := 15) P.1.1 (hX _) (hX _))) (fun o q' h => OQ_T2 P.2.2.1 P.1 (k01) h)) (hM_P (sr_share (d := 17) (hX _) (hX _)) ?_ ?_ ?_ ?_ ?_) K
  · split <;> rfl
  · exact fun hk => if_pos hk
  · rw [ite_self]
    exact ⟨INV_I I (by unfold ivI; omega), by show rI s 0 ≤ _; omega⟩
  · rw [ite_self]
    exact fun j x hj => rfl
  · rw [ite_self]
    exact fun j hj => us74 hj
theorem lx_volunteer (P : am_LP e q s s L X) (I : am_INV s) (hL : L ≤ 4096) (hX : ∀ k, in32 (X k)) (hi : 0 ≤ i ∧ i + 8 ≤ L) (K : ∀ q' s' x6 x7, am_LP (e + 1) q' s' s' L X → am_IJ s s' → am_W2 (d + 22) m_L_law 2620 [some (aR 31 0), some (aR 8 0), some (aR 9 0), some (aR 26 0), some (aR 27 0), some (aI (zI i)), x6, x7] [] q' Q) : am_W2 (d + 22) m_L_law 2364 [some (aR 31 0), some (aR 8 0), some (aR 9 0), some (aR 26 0), some (aR 27 0), some (aI (zI i)), x6, x7] [] q Q := by
  have B := CV_B P.1.1
  have bk : 0 ≤ kBooking s (X (i + 1).toNat) ∧ kBooking s (X (i + 1).toNat) ≤ 1 := by
    unfold kBooking
    repeat' split
    all_goals omega
  refine lw_volunteer (J := am_IJ s) P hL hX hi bk rfl (by have := B.1 51 (X (i + 1).toNat) 0 1 rfl; omega) (am_C2_imp ((co_volunteer (d := 16) P.1 (hX _))) (fun o q' h => OQ_OP P.2.2.1 h)) (hM_P (sr_volunteer (d := 18) (hX _)) ?_ ?_ ?_ ?_ ?_) K
  · split <;> rfl
  · exact fun hk => if_pos hk
  · by_cases hk : kBooking s (X (i + 1).toNat) = 0
    · rw [if_pos hk]
      have IJ := INV_I (j := 74) (v := kBooking s (X (i + 1).toNat)) I (by unfold ivI; omega)
      refine ⟨?_, by show rI s 0 ≤ _; omega⟩
      exact INV_A IJ (by unfold ivA; omega)
    · rw [if_neg hk]
      exact ⟨INV_I I (by unfold ivI; omega), by show rI s 0 ≤ _; omega⟩
  · by_cases hk : kBooking s (X (i + 1).toNat) = 0
    · rw [if_pos hk, if_pos hk]
      exact fun j x hj => rfl
    · rw [if_neg hk, if_neg hk]
      exact fun j x hj => rfl
  · intro j hj
    by_cases hk : kBooking s (X (i + 1).toNat) = 0
    · rw [if_pos hk, if_pos hk]
      rcases hj with rfl | rfl | rfl | rfl | rfl | rfl | rfl <;> rfl
    · rw [if_neg hk, if_neg hk]
      exact us74 hj
theorem zI_self (x : Int) : zI (zI x).toInt = zI x ∧ in32 (zI x).toInt := by
  refine ⟨?_, ?_⟩
  · unfold zI
    exact Int32.ofInt_toInt _
  · have h1 := Int32.le_toInt (zI x)
    have h2 := Int32.toInt_lt (zI x)
    unfold in32
    omega
theorem lx_denied (P : am_LP e q s s L X) (I : am_INV s) (hL : L ≤ 4096) (hX : ∀ k, in32 (X k)) (hi : 0 ≤ i ∧ i + 8 ≤ L) (K : ∀ q' s' x6 x7, am_LP (e + 1) q' s' s' L X → am_IJ s s' → am_W2 (d + 22) m_L_law 2620 [some (aR 31 0), some (aR 8 0), some (aR 9 0), some (aR 26 0), some (aR 27 0), some (aI (zI i)), x6, x7] [] q' Q) : am_W2 (d + 22) m_L_law 2483 [some (aR 31 0), some (aR 8 0), some (aR 9 0), some (aR 26 0), some (aR 27 0), some (aI (zI i)), x6, x7] [] q Q := by
  have z := zI_self (rI s 68)
  refine lw_denied (J := am_IJ s) P hL hX hi (v := (zI (rI s 68)).toInt) z.2 (am_C2_imp (cs_denied (d := 20) P.1.1) (fun o q' h => OQ_is P.2.2.1 P.1 (by rw [z.1]; exact h))) (fun q1 R => am_C2_imp (sr_denied (d := 19) q1 q1 R) (fun o q' h => ?_)) K
  obtain ⟨v, s', h1, R', h2, h3, _⟩ := h
  subst h2
  subst h3
  refine ⟨_, _, ?_, R', rfl, rfl, ⟨INV_I I (by unfold ivI; omega), by show rI s 0 ≤ _; omega⟩, fun _ _ _ => rfl, fun j hj => us74 hj⟩
  rw [z.1]
  exact h1
theorem lx_points (P : am_LP e q s s L X) (I : am_INV s) (hL : L ≤ 4096) (hX : ∀ k, in32 (X k)) (hi : 0 ≤ i ∧ i + 8 ≤ L) (K : ∀ q' s' x6 x7, am_LP (e + 1) q' s' s' L X → am_IJ s s' → am_W2 (d + 22) m_L_law 2620 [some (aR 31 0), some (aR 8 0), some (aR 9 0), some (aR 26 0), some (aR 27 0), some (aI (zI i)), x6, x7] [] q' Q) : am_W2 (d + 22) m_L_law 2496 [some (aR 31 0), some (aR 8 0), some (aR 9 0), some (aR 26 0), some (aR 27 0), some (aI (zI i)), x6, x7] [] q Q := by
  have B := CV_B P.1.1
  have bk : 0 ≤ kPoints (X (i + 1).toNat) ∧ kPoints (X (i + 1).toNat) ≤ 1 := by
    unfold kPoints
    repeat' split
    all_goals omega
  refine lw_points (J := am_IJ s) P hL hX hi bk rfl  (am_C2_imp ((cs_points (d := 19) P.1.1 (hX _))) (fun o q' h => OQ_T2 P.2.2.1 P.1 (by unfold kPoints; rw [k01]; omega) h)) (hM_P (sr_points (d := 19) (hX _)) ?_ ?_ ?_ ?_ ?_) K
  · split <;> rfl
  · exact fun hk => if_pos hk
  · rw [ite_self]
    exact ⟨INV_I I (by unfold ivI; omega), by show rI s 0 ≤ _; omega⟩
  · rw [ite_self]
    exact fun j x hj => rfl
  · rw [ite_self]
    exact fun j hj => us74 hj
theorem lx_owed (P : am_LP e q s s L X) (I : am_INV s) (hL : L ≤ 4096) (hX : ∀ k, in32 (X k)) (hi : 0 ≤ i ∧ i + 8 ≤ L) (K : ∀ q' s' x6 x7, am_LP (e + 1) q' s' s' L X → am_IJ s s' → am_W2 (d + 22) m_L_law 2620 [some (aR 31 0), some (aR 8 0), some (aR 9 0), some (aR 26 0), some (aR 27 0), some (aI (zI i)), x6, x7] [] q' Q) : am_W2 (d + 22) m_L_law 2552 [some (aR 31 0), some (aR 8 0), some (aR 9 0), some (aR 26 0), some (aR 27 0), some (aI (zI i)), x6, x7] [] q Q := by
  have B := CV_B P.1.1
  have bk : 0 ≤ kOwed (X (i + 1).toNat) (X (i + 2).toNat) ∧ kOwed (X (i + 1).toNat) (X (i + 2).toNat) ≤ 1 := by
    unfold kOwed
    repeat' split
    all_goals omega
  refine lw_owed (J := am_IJ s) P hL hX hi bk rfl  (am_C2_imp ((cs_owed (d := 19) P.1.1 (hX _) (hX _))) (fun o q' h => OQ_T2 P.2.2.1 P.1 (by unfold kOwed; rw [k01]; omega) h)) (hM_P (sr_owed (d := 19) (hX _) (hX _)) ?_ ?_ ?_ ?_ ?_) K
  · split <;> rfl
  · exact fun hk => (if_pos hk).trans (congrArg (rA s 70) (by omega))
  · rw [ite_self]
    exact ⟨INV_I I (by unfold ivI; omega), by show rI s 0 ≤ _; omega⟩
  · rw [ite_self]
    exact fun j x hj => rfl
  · rw [ite_self]
    exact fun j hj => us74 hj
theorem lx_rules (P : am_LP e q s s L X) (I : am_INV s) (hL : L ≤ 4096) (hX : ∀ k, in32 (X k)) (hi : 0 ≤ i ∧ i + 8 ≤ L) (K : ∀ q' s' x6 x7, am_LP (e + 1) q' s' s' L X → am_IJ s s' → am_W2 (d + 22) m_L_law 2620 [some (aR 31 0), some (aR 8 0), some (aR 9 0), some (aR 26 0), some (aR 27 0), some (aI (zI i)), x6, x7] [] q' Q) : am_W2 (d + 22) m_L_law 838 [some (aR 31 0), some (aR 8 0), some (aR 9 0), some (aR 26 0), some (aR 27 0), some (aI (zI i)), x6, x7] [] q Q := by
  have B := CV_B P.1.1
  have bk : 0 ≤ kRules s (X (i + 1).toNat) (X (i + 2).toNat) (X (i + 3).toNat) (X (i + 4).toNat) (X (i + 6).toNat) ∧ kRules s (X (i + 1).toNat) (X (i + 2).toNat) (X (i + 3).toNat) (X (i + 4).toNat) (X (i + 6).toNat) ≤ 2 := by
    unfold kRules
    repeat' split
    all_goals omega
  refine lw_rules (J := am_IJ s) P hL hX hi bk rfl rfl  (am_C2_imp ((co_rules (d := 16) P.1 (hX _) (hX _) (hX _) (hX _) (hX _) (bool01 _) (bool01 _))) (fun o q' h => OQ_OP P.2.2.1 h)) (hM_W (sr_rules (d := 18) (hX _) (hX _) (hX _) (hX _) (hX _) (bool01 _) (bool01 _)) ?_ ?_ ?_ ?_) K
  · split <;> rfl
  · by_cases hk : kRules s (X (i + 1).toNat) (X (i + 2).toNat) (X (i + 3).toNat) (X (i + 4).toNat) (X (i + 6).toNat) = 0
    · rw [if_pos hk]
      have IJ := INV_I (j := 74) (v := kRules s (X (i + 1).toNat) (X (i + 2).toNat) (X (i + 3).toNat) (X (i + 4).toNat) (X (i + 6).toNat)) I (by unfold ivI; omega)
      refine ⟨?_, by show rI s 0 ≤ _; omega⟩
      unfold kRules at hk
      split at hk
      · omega
      · rename_i h1
        have h1 := Decidable.not_not.mp h1
        exact INV_rules IJ h1.2
    · rw [if_neg hk]
      exact ⟨INV_I I (by unfold ivI; omega), by show rI s 0 ≤ _; omega⟩
  · by_cases hk : kRules s (X (i + 1).toNat) (X (i + 2).toNat) (X (i + 3).toNat) (X (i + 4).toNat) (X (i + 6).toNat) = 0
    · rw [if_pos hk, if_pos hk]
      exact fun j x hj => rfl
    · rw [if_neg hk, if_neg hk]
      exact fun j x hj => rfl
  · intro j hj
    by_cases hk : kRules s (X (i + 1).toNat) (X (i + 2).toNat) (X (i + 3).toNat) (X (i + 4).toNat) (X (i + 6).toNat) = 0
    · rw [if_pos hk, if_pos hk]
      rcases hj with rfl | rfl | rfl | rfl | rfl | rfl | rfl <;> rfl
    · rw [if_neg hk, if_neg hk]
      exact us74 hj
end LX
end

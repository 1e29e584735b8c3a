noncomputable section
theorem fl_A {s : am_Z} {c a b t w n : Int} : (rA (flightS s c a b t w n) 4 (rI s 3) = c ∧ rA (flightS s c a b t w n) 5 (rI s 3) = a ∧ rA (flightS s c a b t w n) 6 (rI s 3) = b ∧ rA (flightS s c a b t w n) 8 (rI s 3) = w ∧ rA (flightS s c a b t w n) 9 (rI s 3) = n) ∧ (∀ j x, (j < 4 ∨ 9 < j ∨ x < rI s 3) → j ≠ 14 → rA (flightS s c a b t w n) j x = rA s j x) ∧ (∀ x, x < 4 * rI s 3 → rA (flightS s c a b t w n) 14 x = rA s 14 x) ∧ ∀ k : Int, 0 ≤ k → k < 4 → rA (flightS s c a b t w n) 14 (4 * rI s 3 + k) = n := by
  refine ⟨⟨?_, ?_, ?_, ?_, ?_⟩, fun j x h h2 => ?_, fun x h => ?_, fun k h1 h2 => ?_⟩
  · unfold flightS; simp [wI_A, wB_A, wA_A]
  · unfold flightS; simp [wI_A, wB_A, wA_A]
  · unfold flightS; simp [wI_A, wB_A, wA_A]
  · unfold flightS; simp [wI_A, wB_A, wA_A]
  · unfold flightS; simp [wI_A, wB_A, wA_A]
  · unfold flightS
    simp only [wI_A, wB_A, wA_A]
    rw [if_neg (by omega), if_neg (by omega), if_neg (by omega), if_neg (by omega), if_neg (by omega), if_neg (by omega), if_neg (by omega)]
  · unfold flightS
    simp only [wI_A, wB_A, wA_A]
    rw [if_neg (by omega), if_neg (by omega), if_neg (by omega), if_neg (by omega), if_neg (by omega), if_neg (by omega), if_neg (by omega)]
  · unfold flightS
    rw [wI_A, wB_A, if_pos ⟨rfl, by omega, by omega⟩]
theorem PL_flight {s : am_Z} {T T' : am_LT} {c a b t w n f0 f1 v : Int} (P : am_PL s T) (b3 : 0 ≤ rI s 3) (e5 : T' 5 0 = rI s 3 + 1) (en : T' 0 (5 * rI s 3) = c ∧ T' 0 (5 * rI s 3 + 1) = a ∧ T' 0 (5 * rI s 3 + 2) = b ∧ T' 0 (5 * rI s 3 + 3) = w ∧ T' 0 (5 * rI s 3 + 4) = n) (em : ∀ k : Int, 0 ≤ k → k < 4 → T' 1 (4 * rI s 3 + k) = n) (eo : ∀ (i : Nat) (x : Int), (i ≠ 0 ∨ x < 5 * rI s 3) → (i ≠ 1 ∨ x < 4 * rI s 3) → (i ≠ 5 ∨ x ≠ 0) → T' i x = T i x) : am_PL (daysS (flightS s c a b t w n) (rI s 3) f0 f1 v) T' := by
  obtain ⟨⟨p0, p1, p2, p3, p4, p5, p6⟩, pn, pm, pf, pb, px⟩ := P
  obtain ⟨⟨g4, g5, g6, g8, g9⟩, go, gm, gm2⟩ := fl_A (s := s) (c := c) (a := a) (b := b) (t := t) (w := w) (n := n)
  have dd : ∀ j x, (j < 10 ∨ 13 < j) → rA (daysS (flightS s c a b t w n) (rI s 3) f0 f1 v) j x = rA (flightS s c a b t w n) j x := fun j x h => (wA_ne (by omega)).trans ((wA_ne (by omega)).trans ((wA_ne (by omega)).trans (wA_ne (by omega))))
  have n3 : rI (daysS (flightS s c a b t w n) (rI s 3) f0 f1 v) 3 = rI s 3 + 1 := rfl
  have nn : ∀ j, j ≠ 3 → rI (daysS (flightS s c a b t w n) (rI s 3) f0 f1 v) j = rI s j := fun j h => if_neg h
  refine ⟨⟨by rw [n3]; exact e5, by rw [nn 20 (by omega), eo 5 1 (by omega) (by omega) (by omega)]; exact p1, by rw [nn 0 (by omega), eo 5 2 (by omega) (by omega) (by omega)]; exact p2, by rw [nn 33 (by omega), eo 5 3 (by omega) (by omega) (by omega)]; exact p3, by rw [nn 44 (by omega), eo 5 4 (by omega) (by omega) (by omega)]; exact p4, by rw [nn 61 (by omega), eo 5 5 (by omega) (by omega) (by omega)]; exact p5, P6_cg p6 (nn 68 (by omega)) (nn 0 (by omega)) (eo 5 6 (by omega) (by omega) (by omega))⟩, fun f h1 h2 => ?_, fun f k h1 h2 h3 h4 => ?_, fun i h1 h2 => ?_, fun k h1 h2 => ?_, fun k h1 h2 => ?_⟩
  · rw [n3] at h2
    rw [dd 4 _ (by omega), dd 5 _ (by omega), dd 6 _ (by omega), dd 8 _ (by omega), dd 9 _ (by omega)]
    by_cases e : f = rI s 3
    · rw [e, g4, g5, g6, g8, g9]
      exact en
    · rw [go 4 _ (by omega) (by omega), go 5 _ (by omega) (by omega), go 6 _ (by omega) (by omega), go 8 _ (by omega) (by omega), go 9 _ (by omega) (by omega), eo 0 _ (by omega) (by omega) (by omega), eo 0 _ (by omega) (by omega) (by omega), eo 0 _ (by omega) (by omega) (by omega), eo 0 _ (by omega) (by omega) (by omega), eo 0 _ (by omega) (by omega) (by omega)]
      exact pn f h1 (by omega)
  · rw [n3] at h2
    rw [dd 14 _ (by omega)]
    by_cases e : f = rI s 3
    · rw [e, gm2 k h3 h4]
      exact em k h3 h4
    · rw [gm _ (by omega), eo 1 _ (by omega) (by omega) (by omega)]
      exact pm f k h1 (by omega) h3 h4
  · rw [nn 20 (by omega)] at h2
    rw [dd 25 _ (by omega), go 25 _ (by omega) (by omega), eo 2 _ (by omega) (by omega) (by omega)]
    exact pf i h1 h2
  · rw [nn 44 (by omega)] at h2
    rw [dd 46 _ (by omega), go 46 _ (by omega) (by omega), show rA (daysS (flightS s c a b t w n) (rI s 3) f0 f1 v) 59 = rA s 59 from funext (fun x => (dd 59 x (by omega)).trans (go 59 x (by omega) (by omega))), eo 3 _ (by omega) (by omega) (by omega), eo 4 _ (by omega) (by omega) (by omega)]
    exact pb k h1 h2
  · rw [nn 61 (by omega)] at h2
    rw [dd 63 _ (by omega), go 63 _ (by omega) (by omega), eo 7 _ (by omega) (by omega) (by omega)]
    exact px k h1 h2
theorem cs_isFlight0 {d : Nat} {q : am_A} {e : Nat} {s : am_Z} {T : am_LT} (I : am_CI e q s) (L : am_LS q s T) {o1 o2 : Int} (b1 : 0 ≤ o1 ∧ o1 ≤ 100000) (b2 : 0 ≤ o2 ∧ o2 ≤ 100000) (ha : o2 % 4 = o2 / 4 % 5) : am_C2 (d + 22) m_L_isFlight [aR 8 0, aR 24 0, aR 24 1, aR 24 5, aI (zI o1), aI (zI o2)] q (am_LR 10 e q s) := by
  refine am_C2_i (ls := [some (aR 8 0), some (aR 24 0), some (aR 24 1), some (aR 24 5), some (aI (zI o1)), some (aI (zI o2)), none, none, none, none, none, none]) rfl ?_
  obtain ⟨F, J, H, P⟩ := L
  have B := CV_B I.1
  have b3 := B.2.1 3 0 12 rfl
  obtain ⟨⟨p0, p1, p2, p3, p4, p5, p6⟩, pn, pm, pf, pb, px⟩ := id P
  have hk : kFlight s (o1 % 3) (o2 % 4) (o2 / 4 % 5) (o1 / 3 % 24) (1 + o1 % 9) (1 + o1 / 60 % 14) = 2 := by { unfold kFlight; rw [if_neg (by omega), if_pos (by omega)] }
  refine ar_iload rfl rfl ?_
  refine ar_iconst rfl ?_
  refine ar_irem rfl (by omega) (by omega) ?_
  refine ar_stI6 rfl ?_
  refine ar_iload rfl rfl ?_
  refine ar_iconst rfl ?_
  refine ar_idiv rfl (by omega) (by omega) ?_
  refine ar_iconst rfl ?_
  refine ar_irem rfl (by omega) (by omega) ?_
  refine ar_stI7 rfl ?_
  refine ar_iconst rfl ?_
  refine ar_iload rfl rfl ?_
  refine ar_bipush (x := 60) rfl rfl ?_
  refine ar_idiv rfl (by omega) (by omega) ?_
  refine ar_bipush (x := 14) rfl rfl ?_
  refine ar_irem rfl (by omega) (by omega) ?_
  refine ar_iadd rfl ?_
  refine ar_stI8 rfl ?_
  refine ar_aload_n rfl rfl ?_
  refine ar_iconst rfl ?_
  refine ar_iload rfl rfl ?_
  refine ar_iconst rfl ?_
  refine ar_irem rfl (by omega) (by omega) ?_
  refine ar_iload rfl rfl ?_
  refine ar_iload rfl rfl ?_
  refine ar_iload rfl rfl ?_
  refine ar_iconst rfl ?_
  refine ar_idiv rfl (by omega) (by omega) ?_
  refine ar_bipush (x := 24) rfl rfl ?_
  refine ar_irem rfl (by omega) (by omega) ?_
  refine ar_iconst rfl ?_
  refine ar_iload rfl rfl ?_
  refine ar_bipush (x := 9) rfl rfl ?_
  refine ar_irem rfl (by omega) (by omega) ?_
  refine ar_iadd rfl ?_
  refine ar_iload rfl rfl ?_
  refine ar_cs8 rfl rfl (Nat.le_of_ble_eq_true rfl) (dx_flight (d := 0) (R := -2000000) I F J (by omega) (by omega) (by omega) (by omega) (by omega) (by omega) hk (by omega) rfl) (by omega) (fun o q52 hq => ?_)
  obtain ⟨rfl, I52, Y52, F52⟩ := hq
  have H52 := LA_CY H Y52
  refine ar_stI9 rfl ?_
  refine ar_iload rfl rfl ?_
  refine ar_iload rfl rfl ?_
  refine ar_icmp_ne rfl rfl (by omega) (by omega) (fun ht => by omega) (fun h61 => ?_)
  refine ar_ldc (x := -2000000) rfl rfl ?_
  refine ar_goto rfl rfl ?_
  refine ar_stI10 rfl ?_
  refine ar_iload rfl rfl ?_
  refine ar_if_ge rfl rfl (by omega) (fun ht => by omega) (fun h89 => ?_)
  refine ar_iload rfl rfl ?_
  refine ar_iload rfl rfl ?_
  refine ar_icmp_ne rfl rfl (by omega) (by omega) (fun ht => by omega) (fun h96 => ?_)
  refine ar_iconst rfl ?_
  refine ar_goto rfl rfl ?_
  exact ar_iret rfl (Or.inr ⟨rfl, by first | omega | (split <;> omega)⟩) (⟨rfl, s, T, CI_le I52 (by omega), ⟨F52, J, H52, P⟩, S31_CY Y52, rfl⟩)
theorem cs_isFlight1 {d : Nat} {q : am_A} {e : Nat} {s : am_Z} {T : am_LT} (I : am_CI e q s) (L : am_LS q s T) {o1 o2 : Int} (b1 : 0 ≤ o1 ∧ o1 ≤ 100000) (b2 : 0 ≤ o2 ∧ o2 ≤ 100000) (ha : o2 % 4 ≠ o2 / 4 % 5) (h3 : rI s 3 = 12) : am_C2 (d + 22) m_L_isFlight [aR 8 0, aR 24 0, aR 24 1, aR 24 5, aI (zI o1), aI (zI o2)] q (am_LR 10 e q s) := by
  refine am_C2_i (ls := [some (aR 8 0), some (aR 24 0), some (aR 24 1), some (aR 24 5), some (aI (zI o1)), some (aI (zI o2)), none, none, none, none, none, none]) rfl ?_
  obtain ⟨F, J, H, P⟩ := L
  have B := CV_B I.1
  have b3 := B.2.1 3 0 12 rfl
  obtain ⟨⟨p0, p1, p2, p3, p4, p5, p6⟩, pn, pm, pf, pb, px⟩ := id P
  have hk : kFlight s (o1 % 3) (o2 % 4) (o2 / 4 % 5) (o1 / 3 % 24) (1 + o1 % 9) (1 + o1 / 60 % 14) = 3 := by { unfold kFlight; rw [if_neg (by omega), if_neg (by omega), if_pos h3] }
  refine ar_iload rfl rfl ?_
  refine ar_iconst rfl ?_
  refine ar_irem rfl (by omega) (by omega) ?_
  refine ar_stI6 rfl ?_
  refine ar_iload rfl rfl ?_
  refine ar_iconst rfl ?_
  refine ar_idiv rfl (by omega) (by omega) ?_
  refine ar_iconst rfl ?_
  refine ar_irem rfl (by omega) (by omega) ?_
  refine ar_stI7 rfl ?_
  refine ar_iconst rfl ?_
  refine ar_iload rfl rfl ?_
  refine ar_bipush (x := 60) rfl rfl ?_
  refine ar_idiv rfl (by omega) (by omega) ?_
  refine ar_bipush (x := 14) rfl rfl ?_
  refine ar_irem rfl (by omega) (by omega) ?_
  refine ar_iadd rfl ?_
  refine ar_stI8 rfl ?_
  refine ar_aload_n rfl rfl ?_
  refine ar_iconst rfl ?_
  refine ar_iload rfl rfl ?_
  refine ar_iconst rfl ?_
  refine ar_irem rfl (by omega) (by omega) ?_
  refine ar_iload rfl rfl ?_
  refine ar_iload rfl rfl ?_
  refine ar_iload rfl rfl ?_
  refine ar_iconst rfl ?_
  refine ar_idiv rfl (by omega) (by omega) ?_
  refine ar_bipush (x := 24) rfl rfl ?_
  refine ar_irem rfl (by omega) (by omega) ?_
  refine ar_iconst rfl ?_
  refine ar_iload rfl rfl ?_
  refine ar_bipush (x := 9) rfl rfl ?_
  refine ar_irem rfl (by omega) (by omega) ?_
  refine ar_iadd rfl ?_
  refine ar_iload rfl rfl ?_
  refine ar_cs8 rfl rfl (Nat.le_of_ble_eq_true rfl) (dx_flight (d := 0) (R := -1000000) I F J (by omega) (by omega) (by omega) (by omega) (by omega) (by omega) hk (by omega) rfl) (by omega) (fun o q52 hq => ?_)
  obtain ⟨rfl, I52, Y52, F52⟩ := hq
  have H52 := LA_CY H Y52
  refine ar_stI9 rfl ?_
  refine ar_iload rfl rfl ?_
  refine ar_iload rfl rfl ?_
  refine ar_icmp_ne rfl rfl (by omega) (by omega) (fun h61 => ?_) (fun hf => by omega)
  refine ar_aload_n rfl rfl ?_
  refine ar_iconst rfl ?_
  refine ar_ial24 (n := 7) rfl H52 (by omega) rfl (by omega) ?_
  refine ar_bipush (x := 12) rfl rfl ?_
  refine ar_icmp_ne rfl rfl (by omega) (by omega) (fun ht => by omega) (fun h74 => ?_)
  refine ar_ldc (x := -1000000) rfl rfl ?_
  refine ar_goto rfl rfl ?_
  refine ar_stI10 rfl ?_
  refine ar_iload rfl rfl ?_
  refine ar_if_ge rfl rfl (by omega) (fun ht => by omega) (fun h89 => ?_)
  refine ar_iload rfl rfl ?_
  refine ar_iload rfl rfl ?_
  refine ar_icmp_ne rfl rfl (by omega) (by omega) (fun ht => by omega) (fun h96 => ?_)
  refine ar_iconst rfl ?_
  refine ar_goto rfl rfl ?_
  exact ar_iret rfl (Or.inr ⟨rfl, by first | omega | (split <;> omega)⟩) (⟨rfl, s, T, CI_le I52 (by omega), ⟨F52, J, H52, P⟩, S31_CY Y52, rfl⟩)
theorem lp_fl {d : Nat} {q : am_A} {Q : am_O → am_A → Prop} {o1 o2 w D : Int} {x6 x7 x9 : Option am_V} {T0 : am_LT} (bD : 0 ≤ D ∧ D ≤ 11) : ∀ (m : Nat) (j : Nat) (k : Int) (q1 : am_A) (T1 : am_LT), 5 - j < m → (k = j ∧ j ≤ 4 ∧ am_LA q1 T1 ∧ am_W24 q q1 ∧ (∀ b : Int, 0 ≤ b → b < j → T1 1 (4 * D + b) = w) ∧ ∀ (i : Nat) (x : Int), (i ≠ 1 ∨ x < 4 * D ∨ 4 * D + j ≤ x) → T1 i x = T0 i x) → (∀ x11 q1 T1, am_LA q1 T1 → am_W24 q q1 → (∀ b : Int, 0 ≤ b → b < 4 → T1 1 (4 * D + b) = w) → (∀ (i : Nat) (x : Int), (i ≠ 1 ∨ x < 4 * D ∨ 4 * D + 4 ≤ x) → T1 i x = T0 i x) → am_W2 d m_L_isFlight 186 [some (aR 8 0), some (aR 24 0), some (aR 24 1), some (aR 24 5), some (aI (zI o1)), some (aI (zI o2)), x6, x7, some (aI (zI w)), x9, some (aI (zI D)), x11] [] (q1) Q) → am_W2 d m_L_isFlight 163 [some (aR 8 0), some (aR 24 0), some (aR 24 1), some (aR 24 5), some (aI (zI o1)), some (aI (zI o2)), x6, x7, some (aI (zI w)), x9, some (aI (zI D)), some (aI (zI k))] [] (q1) Q := by
  intro m
  induction m with
  | zero => intro j k q1 T1 hm; exact absurd hm (Nat.not_lt_zero _)
  | succ m ih =>
    intro j k q1 T1 hm ⟨hj, hj2, hH, hW, h1, h2⟩ K
    subst hj
    refine ar_iload rfl rfl ?_
    refine ar_iconst rfl ?_
    refine ar_icmp_ge rfl rfl (by omega) (by omega) (fun h166 => ?_) (fun h166 => ?_)
    · have e4 : j = 4 := by omega
      subst e4
      exact K _ _ _ hH hW (fun b c1 c2 => h1 b c1 c2) (fun i x hx => h2 i x hx)
    · refine ar_aload_n rfl rfl ?_
      refine ar_iconst rfl ?_
      refine ar_iload rfl rfl ?_
      refine ar_imul rfl ?_
      refine ar_iload rfl rfl ?_
      refine ar_iadd rfl ?_
      refine ar_iload rfl rfl ?_
      refine ar_ias24 (n := 48) rfl hH (by omega) rfl (by omega) (fun q179 H179 W179 => ?_)
      refine ar_inc11 rfl ?_
      refine ar_goto rfl rfl ?_
      refine ih (j + 1) _ _ _ (by omega) ⟨by omega, by omega, H179, W24_t hW W179, fun b c1 c2 => ?_, fun i x hx => ?_⟩ K
      · by_cases e : b = j
        · rw [e]; exact uT_e
        · rw [uT_n (Or.inr (by omega))]; exact h1 b c1 (by omega)
      · rw [uT_n (by omega)]; exact h2 i x (by omega)
theorem cs_isFlight2 {d : Nat} {q : am_A} {e : Nat} {s : am_Z} {T : am_LT} (I : am_CI e q s) (L : am_LS q s T) {o1 o2 : Int} (b1 : 0 ≤ o1 ∧ o1 ≤ 100000) (b2 : 0 ≤ o2 ∧ o2 ≤ 100000) (ha : o2 % 4 ≠ o2 / 4 % 5) (h3 : rI s 3 ≠ 12) : am_C2 (d + 22) m_L_isFlight [aR 8 0, aR 24 0, aR 24 1, aR 24 5, aI (zI o1), aI (zI o2)] q (am_LR 10 e q s) := by
  refine am_C2_i (ls := [some (aR 8 0), some (aR 24 0), some (aR 24 1), some (aR 24 5), some (aI (zI o1)), some (aI (zI o2)), none, none, none, none, none, none]) rfl ?_
  obtain ⟨F, J, H, P⟩ := L
  have B := CV_B I.1
  have b3 := B.2.1 3 0 12 rfl
  obtain ⟨⟨p0, p1, p2, p3, p4, p5, p6⟩, pn, pm, pf, pb, px⟩ := id P
  have hk : kFlight s (o1 % 3) (o2 % 4) (o2 / 4 % 5) (o1 / 3 % 24) (1 + o1 % 9) (1 + o1 / 60 % 14) = 0 := by { unfold kFlight; rw [if_neg (by omega), if_neg (by omega), if_neg h3] }
  refine ar_iload rfl rfl ?_
  refine ar_iconst rfl ?_
  refine ar_irem rfl (by omega) (by omega) ?_
  refine ar_stI6 rfl ?_
  refine ar_iload rfl rfl ?_
  refine ar_iconst rfl ?_
  refine ar_idiv rfl (by omega) (by omega) ?_
  refine ar_iconst rfl ?_
  refine ar_irem rfl (by omega) (by omega) ?_
  refine ar_stI7 rfl ?_
  refine ar_iconst rfl ?_
  refine ar_iload rfl rfl ?_
  refine ar_bipush (x := 60) rfl rfl ?_
  refine ar_idiv rfl (by omega) (by omega) ?_
  refine ar_bipush (x := 14) rfl rfl ?_
  refine ar_irem rfl (by omega) (by omega) ?_
  refine ar_iadd rfl ?_
  refine ar_stI8 rfl ?_
  refine ar_aload_n rfl rfl ?_
  refine ar_iconst rfl ?_
  refine ar_iload rfl rfl ?_
  refine ar_iconst rfl ?_
  refine ar_irem rfl (by omega) (by omega) ?_
  refine ar_iload rfl rfl ?_
  refine ar_iload rfl rfl ?_
  refine ar_iload rfl rfl ?_
  refine ar_iconst rfl ?_
  refine ar_idiv rfl (by omega) (by omega) ?_
  refine ar_bipush (x := 24) rfl rfl ?_
  refine ar_irem rfl (by omega) (by omega) ?_
  refine ar_iconst rfl ?_
  refine ar_iload rfl rfl ?_
  refine ar_bipush (x := 9) rfl rfl ?_
  refine ar_irem rfl (by omega) (by omega) ?_
  refine ar_iadd rfl ?_
  refine ar_iload rfl rfl ?_
  refine ar_cs8 rfl rfl (Nat.le_of_ble_eq_true rfl) (dz_flight (d := 0) I F J (by omega) (by omega) (by omega) (by omega) (by omega) (by omega) hk) (by omega) (fun o q52 hq => ?_)
  obtain ⟨rfl, I52, Y52, F52⟩ := hq
  have H52 := LA_CY H Y52
  have J1 := JJ_flight (c := o1 % 3) (a := o2 % 4) (b := o2 / 4 % 5) (t := o1 / 3 % 24) (w := 1 + o1 % 9) (n := 1 + o1 / 60 % 14) J (by omega) (by omega)
  generalize hS1 : flightS s (o1 % 3) (o2 % 4) (o2 / 4 % 5) (o1 / 3 % 24) (1 + o1 % 9) (1 + o1 / 60 % 14) = S1 at I52 J1 ⊢
  have n13 : rI S1 3 = rI s 3 + 1 := by { rw [← hS1]; rfl }
  have n1 : ∀ j, j ≠ 3 → rI S1 j = rI s j := fun j h => by { rw [← hS1]; exact if_neg h }
  have a10 : rA S1 10 (rI s 3) = 0 := by { rw [← hS1, fl_A.2.1 10 _ (by omega) (by omega)]; exact (J.1.1.2.1 (rI s 3) (Int.le_refl _) (by omega)).1 }
  refine ar_stI9 rfl ?_
  refine ar_iload rfl rfl ?_
  refine ar_iload rfl rfl ?_
  refine ar_icmp_ne rfl rfl (by omega) (by omega) (fun h61 => ?_) (fun hf => by omega)
  refine ar_aload_n rfl rfl ?_
  refine ar_iconst rfl ?_
  refine ar_ial24 (n := 7) rfl H52 (by omega) rfl (by omega) ?_
  refine ar_bipush (x := 12) rfl rfl ?_
  refine ar_icmp_ne rfl rfl (by omega) (by omega) (fun h74 => ?_) (fun hf => by omega)
  refine ar_aload_n rfl rfl ?_
  refine ar_iconst rfl ?_
  refine ar_ial24 (n := 7) rfl H52 (by omega) rfl (by omega) ?_
  rw [p0]
  refine ar_stI10 rfl ?_
  refine ar_iload rfl rfl ?_
  refine ar_if_ge rfl rfl (by omega) (fun h89 => ?_) (fun hf => by omega)
  refine ar_aload_n rfl rfl ?_
  refine ar_iconst rfl ?_
  refine ar_iload rfl rfl ?_
  refine ar_imul rfl ?_
  refine ar_iload rfl rfl ?_
  refine ar_iconst rfl ?_
  refine ar_irem rfl (by omega) (by omega) ?_
  refine ar_ias24 (n := 60) rfl H52 (by omega) rfl (by omega) (fun q114 H114 W114 => ?_)
  refine ar_aload_n rfl rfl ?_
  refine ar_iconst rfl ?_
  refine ar_iload rfl rfl ?_
  refine ar_imul rfl ?_
  refine ar_iconst rfl ?_
  refine ar_iadd rfl ?_
  refine ar_iload rfl rfl ?_
  refine ar_ias24 (n := 60) rfl H114 (by omega) rfl (by omega) (fun q124 H124 W124 => ?_)
  refine ar_aload_n rfl rfl ?_
  refine ar_iconst rfl ?_
  refine ar_iload rfl rfl ?_
  refine ar_imul rfl ?_
  refine ar_iconst rfl ?_
  refine ar_iadd rfl ?_
  refine ar_iload rfl rfl ?_
  refine ar_ias24 (n := 60) rfl H124 (by omega) rfl (by omega) (fun q134 H134 W134 => ?_)
  refine ar_aload_n rfl rfl ?_
  refine ar_iconst rfl ?_
  refine ar_iload rfl rfl ?_
  refine ar_imul rfl ?_
  refine ar_iconst rfl ?_
  refine ar_iadd rfl ?_
  refine ar_iconst rfl ?_
  refine ar_iload rfl rfl ?_
  refine ar_bipush (x := 9) rfl rfl ?_
  refine ar_irem rfl (by omega) (by omega) ?_
  refine ar_iadd rfl ?_
  refine ar_ias24 (n := 60) rfl H134 (by omega) rfl (by omega) (fun q149 H149 W149 => ?_)
  refine ar_aload_n rfl rfl ?_
  refine ar_iconst rfl ?_
  refine ar_iload rfl rfl ?_
  refine ar_imul rfl ?_
  refine ar_iconst rfl ?_
  refine ar_iadd rfl ?_
  refine ar_iload rfl rfl ?_
  refine ar_ias24 (n := 60) rfl H149 (by omega) rfl (by omega) (fun q159 H159 W159 => ?_)
  refine ar_iconst rfl ?_
  refine ar_stI11 rfl ?_
  refine lp_fl (d := d + 22) (q := q159) (D := rI s 3) (w := 1 + o1 / 60 % 14) (by omega) 1000 0 0 q159 _ (by omega) ⟨rfl, by omega, H159, W24_r, fun b c1 c2 => absurd c2 (by omega), fun i x hx => rfl⟩ (fun x11 q2 T2 H2 W2 m1 m2 => ?_)
  refine ar_aload_n rfl rfl ?_
  refine ar_iconst rfl ?_
  refine ar_dup2 rfl rfl rfl ?_
  refine ar_ial24 (n := 7) rfl H2 (by omega) rfl (by omega) ?_
  refine ar_iconst rfl ?_
  refine ar_iadd rfl ?_
  refine ar_ias24 (n := 7) rfl H2 (by omega) rfl (by omega) (fun q192 H192 W192 => ?_)
  have WW := W24_t W114 (W24_t W124 (W24_t W134 (W24_t W149 (W24_t W159 (W24_t W2 W192)))))
  have I2 := WW.1 _ _ I52
  have F2 := WW.2.1 F52
  refine ar_iload rfl rfl ?_
  refine ar_bipush (x := 20) rfl rfl ?_
  refine ar_idiv rfl (by omega) (by omega) ?_
  refine ar_iconst rfl ?_
  refine ar_irem rfl (by omega) (by omega) ?_
  refine ar_stI11 rfl ?_
  refine ar_iload rfl rfl ?_
  refine ar_iload rfl rfl ?_
  refine ar_icmp_ne rfl rfl (by omega) (by omega) (fun ht => by omega) (fun h206 => ?_)
  refine ar_aload_n rfl rfl ?_
  refine ar_iconst rfl ?_
  refine ar_iload rfl rfl ?_
  refine ar_iload rfl rfl ?_
  refine ar_iload rfl rfl ?_
  refine ar_iconst rfl ?_
  refine ar_isub rfl ?_
  refine ar_bipush (x := 127) rfl rfl ?_
  refine ar_iconst rfl ?_
  refine ar_iconst rfl ?_
  refine ar_cs8 rfl rfl (Nat.le_of_ble_eq_true rfl) (dx_days (d := 0) (R := -2000000) I2 F2 J1 (by omega) (by omega) (by omega) (by omega) (k := 2) (by { unfold kDays; rw [if_neg (by omega), if_pos (by omega)] }) (by omega) rfl) (by omega) (fun o q223 hq => ?_)
  obtain ⟨rfl, I223, Y223, F223⟩ := hq
  have H223 := LA_CY H192 Y223
  refine ar_ldc (x := -2000000) rfl rfl ?_
  refine ar_icmp_ne rfl rfl (by omega) (by omega) (fun ht => by omega) (fun h228 => ?_)
  refine ar_aload_n rfl rfl ?_
  refine ar_iconst rfl ?_
  refine ar_iload rfl rfl ?_
  refine ar_iload rfl rfl ?_
  refine ar_iload rfl rfl ?_
  refine ar_bipush (x := 6) rfl rfl ?_
  refine ar_iadd rfl ?_
  refine cq_join (pc' := 256) (V := if o1 % 5 = 0 then 21 else 127) ?_ (fun K256 => ?_)
  · refine ar_iconst rfl ?_
    refine ar_iconst rfl ?_
    refine ar_cs8 rfl rfl (Nat.le_of_ble_eq_true rfl) (dz_days (d := 0) I223 F223 J1 (by omega) (by omega) (by omega) (by split <;> omega) (by { unfold kDays; rw [if_neg (by omega), if_neg (fun z => z ⟨by omega, by omega, by split <;> omega⟩), if_neg (by omega)] })) (by omega) (fun o q258 hq => ?_)
    obtain ⟨rfl, I258, Y258, F258⟩ := hq
    have H258 := LA_CY H223 Y258
    have J2 := JJ_days (a := o2 / 20 % 3) (b := o2 / 20 % 3 + 6) (n := (if o1 % 5 = 0 then 21 else 127)) J1 (by omega) a10
    have bs := sumI_b (a := 0) (n := 61) (f := nThere (daysS S1 (rI s 3) (o2 / 20 % 3) (o2 / 20 % 3 + 6) (if o1 % 5 = 0 then 21 else 127)) (rI s 3)) (M := 1) (fun i => nThere_b _ _)
    have n23 : rI (daysS S1 (rI s 3) (o2 / 20 % 3) (o2 / 20 % 3 + 6) (if o1 % 5 = 0 then 21 else 127)) 3 = rI s 3 + 1 := n13
    have d10 : rA (daysS S1 (rI s 3) (o2 / 20 % 3) (o2 / 20 % 3 + 6) (if o1 % 5 = 0 then 21 else 127)) 10 (rI s 3) = 1 := (wA_ne (by omega)).trans ((wA_ne (by omega)).trans ((wA_ne (by omega)).trans (if_pos ⟨rfl, rfl⟩)))
    refine ar_if_lt rfl rfl (by omega) (fun ht => by omega) (fun h261 => ?_)
    refine ar_aload_n rfl rfl ?_
    refine ar_iconst rfl ?_
    refine ar_iload rfl rfl ?_
    refine ar_iconst rfl ?_
    refine ar_iconst rfl ?_
    refine ar_bipush (x := 127) rfl rfl ?_
    refine ar_iconst rfl ?_
    refine ar_iconst rfl ?_
    refine ar_cs8 rfl rfl (Nat.le_of_ble_eq_true rfl) (dx_days (d := 0) (R := -1000000) I258 F258 J2 (by omega) (by omega) (by omega) (by omega) (k := 3) (by { unfold kDays; rw [if_neg (by omega), if_neg (by omega), if_pos (by rw [d10]; omega)] }) (by omega) rfl) (by omega) (fun o q274 hq => ?_)
    obtain ⟨rfl, I274, Y274, F274⟩ := hq
    have H274 := LA_CY H258 Y274
    refine ar_ldc (x := -1000000) rfl rfl ?_
    refine ar_icmp_ne rfl rfl (by omega) (by omega) (fun ht => by omega) (fun h279 => ?_)
    refine ar_aload_n rfl rfl ?_
    refine ar_iconst rfl ?_
    refine ar_iconst rfl ?_
    refine ar_iconst rfl ?_
    refine ar_iconst rfl ?_
    refine ar_iconst rfl ?_
    refine ar_iconst rfl ?_
    refine ar_iconst rfl ?_
    refine ar_cs8 rfl rfl (Nat.le_of_ble_eq_true rfl) (dx_setZone (d := 0) (R := -1000000) I274 F274 J2 (by omega) (by omega) (k := 3) (by { unfold kSetZone; rw [if_neg (by omega), if_neg (by omega), if_pos (by omega)] }) (by omega) rfl) (by omega) (fun o q290 hq => ?_)
    obtain ⟨rfl, I290, Y290, F290⟩ := hq
    have H290 := LA_CY H274 Y290
    refine ar_ldc (x := -1000000) rfl rfl ?_
    refine ar_icmp_ne rfl rfl (by omega) (by omega) (fun ht => by omega) (fun h295 => ?_)
    refine ar_iconst rfl ?_
    refine ar_goto rfl rfl ?_
    exact ar_iret rfl (Or.inr ⟨rfl, by first | omega | (split <;> omega)⟩) (⟨rfl, _, _, CI_le I290 (by omega), ⟨F290, J2, H290, by { rw [← hS1]; exact PL_flight P b3.1 (by rw [uT_e, m2 5 0 (by omega), uT_n (by omega), uT_n (by omega), uT_n (by omega), uT_n (by omega), uT_n (by omega), p0]) ⟨by rw [uT_n (by omega), m2 0 _ (by omega), uT_n (by omega), uT_n (by omega), uT_n (by omega), uT_n (by omega), uT_e], by rw [uT_n (by omega), m2 0 _ (by omega), uT_n (by omega), uT_n (by omega), uT_n (by omega), uT_e], by rw [uT_n (by omega), m2 0 _ (by omega), uT_n (by omega), uT_n (by omega), uT_e], by rw [uT_n (by omega), m2 0 _ (by omega), uT_n (by omega), uT_e], by rw [uT_n (by omega), m2 0 _ (by omega), uT_e]⟩ (fun k k1 k2 => by rw [uT_n (by omega)]; exact m1 k k1 k2) (fun i x h1 h2 h3 => by rw [uT_n (by omega), m2 i x (by omega), uT_n (by omega), uT_n (by omega), uT_n (by omega), uT_n (by omega), uT_n (by omega)]) }⟩, S31_t (S31_CY Y52) (S31_t WW.2.2 (S31_t (S31_CY Y223) (S31_t (S31_CY Y258) (S31_t (S31_CY Y274) (S31_CY Y290))))), n1 0 (by omega)⟩)
  · refine ar_iload rfl rfl ?_
    refine ar_iconst rfl ?_
    refine ar_irem rfl (by omega) (by omega) ?_
    refine ar_if_ne rfl rfl (by omega) (fun h246 => ?_) (fun h246 => ?_)
    · refine ar_bipush (x := 127) rfl rfl ?_
      exact K256 _ (by first | rw [if_pos (by omega)] | rw [if_neg (by omega)])
    · refine ar_bipush (x := 21) rfl rfl ?_
      refine ar_goto rfl rfl ?_
      exact K256 _ (by first | rw [if_pos (by omega)] | rw [if_neg (by omega)])
theorem cs_isFlight {d : Nat} {q : am_A} {e : Nat} {s : am_Z} {T : am_LT} (I : am_CI e q s) (L : am_LS q s T) {o1 o2 : Int} (b1 : 0 ≤ o1 ∧ o1 ≤ 100000) (b2 : 0 ≤ o2 ∧ o2 ≤ 100000) : am_C2 (d + 22) m_L_isFlight [aR 8 0, aR 24 0, aR 24 1, aR 24 5, aI (zI o1), aI (zI o2)] q (am_LR 10 e q s) := by
  by_cases ha : o2 % 4 = o2 / 4 % 5
  · exact cs_isFlight0 (d := d) I L b1 b2 ha
  · by_cases h3 : rI s 3 = 12
    · exact cs_isFlight1 (d := d) I L b1 b2 ha h3
    · exact cs_isFlight2 (d := d) I L b1 b2 ha h3
end

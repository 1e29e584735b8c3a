noncomputable section
theorem lp_l1 {d : Nat} {q : am_A} {Q : am_O → am_A → Prop} {L : Nat} {X : Nat → Int} (hL : L ≤ 260) : ∀ (m : Nat) (j : Nat) (k : Int) (e : Nat) (s : am_Z) (T : am_LT) (q1 : am_A), 6 - j < m → (k = j ∧ j ≤ 5 ∧ am_CI e q1 s ∧ am_LS q1 s T ∧ am_SC q1 L X ∧ rI s 0 = 0 ∧ e ≤ 100 + 30 * j) → (∀ k e s T q1, am_CI e q1 s → am_LS q1 s T → am_SC q1 L X → rI s 0 = 0 → e ≤ 400 → am_W2 (d + 23) m_L_law 252 [some (aR 31 0), some (aR 8 0), some (aR 24 0), some (aR 24 1), some (aR 24 2), some (aR 24 3), some (aR 24 4), some (aR 24 5), some (aR 24 6), some (aR 24 7), some (aI (zI 1)), some (aI (zI k)), none, none, none, none, none, none, none, none] [] (q1) Q) → am_W2 (d + 23) m_L_law 156 [some (aR 31 0), some (aR 8 0), some (aR 24 0), some (aR 24 1), some (aR 24 2), some (aR 24 3), some (aR 24 4), some (aR 24 5), some (aR 24 6), some (aR 24 7), some (aI (zI 1)), some (aI (zI k)), none, none, none, none, none, none, none, none] [] (q1) Q := by
  intro m
  induction m with
  | zero => intro j k e s T q1 hm; exact absurd hm (Nat.not_lt_zero _)
  | succ m ih =>
    intro j k e s T q1 hm ⟨hj, hj2, hI, hM, hS, hT, hE⟩ K
    subst hj
    refine ar_iload rfl rfl ?_
    refine ar_iconst rfl ?_
    refine ar_icmp_ge rfl rfl (by omega) (by omega) (fun h159 => ?_) (fun h159 => ?_)
    · exact K _ _ _ _ _ hI hM hS hT (by omega)
    · refine ar_iload rfl rfl ?_
      refine ar_if_eq rfl rfl (by omega) (fun ht => by omega) (fun h164 => ?_)
      refine ar_aload_n rfl rfl ?_
      refine ar_aload_n rfl rfl ?_
      refine ar_aload_n rfl rfl ?_
      refine ar_aload rfl rfl ?_
      refine ar_aload_n rfl rfl ?_
      refine ar_iconst rfl ?_
      refine ar_iload rfl rfl ?_
      refine ar_imul rfl ?_
      refine ar_iconst rfl ?_
      refine ar_iadd rfl ?_
      refine ar_ldc (x := 60000) rfl rfl ?_
      refine ar_cs3 rfl rfl (Nat.le_of_ble_eq_true rfl) (cs_lpart (d := 0) hS hL (by omega) (by omega)) (by omega) (fun o q181 hq => ?_)
      obtain ⟨e181, v181, a181, b181, rfl⟩ := hq
      obtain rfl := e181.symm
      refine ar_aload_n rfl rfl ?_
      refine ar_iconst rfl ?_
      refine ar_iload rfl rfl ?_
      refine ar_imul rfl ?_
      refine ar_iconst rfl ?_
      refine ar_iadd rfl ?_
      refine ar_ldc (x := 70000) rfl rfl ?_
      refine ar_cs3 rfl rfl (Nat.le_of_ble_eq_true rfl) (cs_lpart (d := 0) hS hL (by omega) (by omega)) (by omega) (fun o q193 hq => ?_)
      obtain ⟨e193, v193, a193, b193, rfl⟩ := hq
      obtain rfl := e193.symm
      refine ar_cs6 rfl rfl (Nat.le_of_ble_eq_true rfl) (cs_isFlight (d := 0) hI hM (by omega) (by omega)) (by omega) (fun o q196 hq => ?_)
      obtain ⟨rfl, s196, T196, I196, L196, S196, n196⟩ := hq
      refine ar_if_eq rfl rfl (by omega) (fun ht => by omega) (fun h199 => ?_)
      refine ar_aload_n rfl rfl ?_
      refine ar_aload rfl rfl ?_
      refine ar_aload rfl rfl ?_
      refine ar_aload_n rfl rfl ?_
      refine ar_iconst rfl ?_
      refine ar_iload rfl rfl ?_
      refine ar_imul rfl ?_
      refine ar_bipush (x := 12) rfl rfl ?_
      refine ar_iadd rfl ?_
      refine ar_ldc (x := 60000) rfl rfl ?_
      refine ar_cs3 rfl rfl (Nat.le_of_ble_eq_true rfl) (cs_lpart (d := 0) (SC_31 hS S196) hL (by omega) (by omega)) (by omega) (fun o q217 hq => ?_)
      obtain ⟨e217, v217, a217, b217, rfl⟩ := hq
      obtain rfl := e217.symm
      refine ar_aload_n rfl rfl ?_
      refine ar_iconst rfl ?_
      refine ar_iload rfl rfl ?_
      refine ar_imul rfl ?_
      refine ar_bipush (x := 13) rfl rfl ?_
      refine ar_iadd rfl ?_
      refine ar_ldc (x := 70000) rfl rfl ?_
      refine ar_cs3 rfl rfl (Nat.le_of_ble_eq_true rfl) (cs_lpart (d := 0) (SC_31 hS S196) hL (by omega) (by omega)) (by omega) (fun o q230 hq => ?_)
      obtain ⟨e230, v230, a230, b230, rfl⟩ := hq
      obtain rfl := e230.symm
      refine ar_cs5 rfl rfl (Nat.le_of_ble_eq_true rfl) (cs_isFare (d := 0) I196 L196 (by omega) (by omega)) (by omega) (fun o q233 hq => ?_)
      obtain ⟨rfl, s233, T233, I233, L233, S233, n233⟩ := hq
      refine ar_if_eq rfl rfl (by omega) (fun ht => by omega) (fun h236 => ?_)
      refine ar_iconst rfl ?_
      refine ar_goto rfl rfl ?_
      refine ar_stI10 rfl ?_
      refine ar_inc11 rfl ?_
      refine ar_goto rfl rfl ?_
      exact ih (j + 1) _ (e + 20) _ _ _ (by omega) ⟨by omega, by omega, CI_le I233 (by omega), L233, SC_31 (SC_31 hS S196) S233, by omega, by omega⟩ K
theorem lp_l2 {d : Nat} {q : am_A} {Q : am_O → am_A → Prop} {L : Nat} {X : Nat → Int} (hL : L ≤ 260) : ∀ (m : Nat) (j : Nat) (k : Int) (e : Nat) (s : am_Z) (T : am_LT) (q1 : am_A) (x12 x13 x14 x15 x16 x17 x18 x19 : Option am_V), 57 - j < m → (k = j ∧ j ≤ 56 ∧ am_CI e q1 s ∧ am_LS q1 s T ∧ am_SC q1 L X ∧ (0 ≤ rI s 0 ∧ rI s 0 ≤ 14 * j) ∧ e ≤ 400 + 110 * j) → (∀ k e s T q1 x12 x13 x14 x15 x16 x17 x18 x19, am_CI e q1 s → am_LS q1 s T → e ≤ 10000 → am_W2 (d + 24) m_L_law 943 [some (aR 31 0), some (aR 8 0), some (aR 24 0), some (aR 24 1), some (aR 24 2), some (aR 24 3), some (aR 24 4), some (aR 24 5), some (aR 24 6), some (aR 24 7), some (aI (zI 1)), some (aI (zI k)), x12, x13, x14, x15, x16, x17, x18, x19] [] (q1) Q) → am_W2 (d + 24) m_L_law 255 [some (aR 31 0), some (aR 8 0), some (aR 24 0), some (aR 24 1), some (aR 24 2), some (aR 24 3), some (aR 24 4), some (aR 24 5), some (aR 24 6), some (aR 24 7), some (aI (zI 1)), some (aI (zI k)), x12, x13, x14, x15, x16, x17, x18, x19] [] (q1) Q := by
  intro m
  induction m with
  | zero => intro j k e s T q1 x12 x13 x14 x15 x16 x17 x18 x19 hm; exact absurd hm (Nat.not_lt_zero _)
  | succ m ih =>
    intro j k e s T q1 x12 x13 x14 x15 x16 x17 x18 x19 hm ⟨hj, hj2, hI, hM, hS, hT, hE⟩ K
    subst hj
    refine ar_iload rfl rfl ?_
    refine ar_bipush (x := 56) rfl rfl ?_
    refine ar_icmp_ge rfl rfl (by omega) (by omega) (fun h259 => ?_) (fun h259 => ?_)
    · exact K _ _ _ _ _ _ _ _ _ _ _ _ _ hI hM (by omega)
    · refine ar_iload rfl rfl ?_
      refine ar_if_eq rfl rfl (by omega) (fun ht => by omega) (fun h264 => ?_)
      refine ar_aload_n rfl rfl ?_
      refine ar_iconst rfl ?_
      refine ar_iload rfl rfl ?_
      refine ar_imul rfl ?_
      refine ar_bipush (x := 22) rfl rfl ?_
      refine ar_iadd rfl ?_
      refine ar_bipush (x := 40) rfl rfl ?_
      refine ar_cs3 rfl rfl (Nat.le_of_ble_eq_true rfl) (cs_lpart (d := 0) hS hL (by omega) (by omega)) (by omega) (fun o q277 hq => ?_)
      obtain ⟨e277, v277, a277, b277, rfl⟩ := hq
      obtain rfl := e277.symm
      refine ar_stI12 rfl ?_
      refine ar_aload_n rfl rfl ?_
      refine ar_iconst rfl ?_
      refine ar_iload rfl rfl ?_
      refine ar_imul rfl ?_
      refine ar_bipush (x := 23) rfl rfl ?_
      refine ar_iadd rfl ?_
      refine ar_ldc (x := 60000) rfl rfl ?_
      refine ar_cs3 rfl rfl (Nat.le_of_ble_eq_true rfl) (cs_lpart (d := 0) hS hL (by omega) (by omega)) (by omega) (fun o q292 hq => ?_)
      obtain ⟨e292, v292, a292, b292, rfl⟩ := hq
      obtain rfl := e292.symm
      refine ar_stI13 rfl ?_
      refine ar_aload_n rfl rfl ?_
      refine ar_iconst rfl ?_
      refine ar_iload rfl rfl ?_
      refine ar_imul rfl ?_
      refine ar_bipush (x := 24) rfl rfl ?_
      refine ar_iadd rfl ?_
      refine ar_ldc (x := 70000) rfl rfl ?_
      refine ar_cs3 rfl rfl (Nat.le_of_ble_eq_true rfl) (cs_lpart (d := 0) hS hL (by omega) (by omega)) (by omega) (fun o q307 hq => ?_)
      obtain ⟨e307, v307, a307, b307, rfl⟩ := hq
      obtain rfl := e307.symm
      refine ar_stI14 rfl ?_
      have B : ∀ q2 s2 T2 y15 y16 y17 y18 y19, am_CI (e + 50) q2 s2 → am_LS q2 s2 T2 → am_S31 q1 q2 → (rI s 0 ≤ rI s2 0 ∧ rI s2 0 ≤ rI s 0 + 14) → am_W2 (d + 24) m_L_law 884 [some (aR 31 0), some (aR 8 0), some (aR 24 0), some (aR 24 1), some (aR 24 2), some (aR 24 3), some (aR 24 4), some (aR 24 5), some (aR 24 6), some (aR 24 7), some (aI (zI 1)), some (aI (zI (j : Int))), some (aI (zI v277)), some (aI (zI v292)), some (aI (zI v307)), y15, y16, y17, y18, y19] [] q2 Q := fun q2 s2 T2 y15 y16 y17 y18 y19 I2 L2 S2 n2 => lc_tail I2 L2 (by omega) ⟨a292, b292⟩ ⟨a307, b307⟩ (by omega) (fun q3 s3 T3 I3 L3 S3 n3 => ih (j + 1) _ (e + 110) s3 T3 q3 _ _ _ _ _ _ _ _ (by omega) ⟨by omega, by omega, CI_le I3 (by omega), L3, SC_31 (SC_31 hS S2) S3, by omega, by omega⟩ K)
      have BB := CV_B hI.1
      have b44 := BB.2.1 44 0 40 rfl
      rcases (show (0 ≤ v277 ∧ v277 < 2) ∨ (2 ≤ v277 ∧ v277 < 4) ∨ (4 ≤ v277 ∧ v277 < 12) ∨ (12 ≤ v277 ∧ v277 < 18) ∨ (18 ≤ v277 ∧ v277 < 21) ∨ (21 ≤ v277 ∧ v277 < 22) ∨ (22 ≤ v277 ∧ v277 < 23) ∨ (23 ≤ v277 ∧ v277 < 27) ∨ (27 ≤ v277 ∧ v277 < 28) ∨ (28 ≤ v277 ∧ v277 < 30) ∨ (30 ≤ v277 ∧ v277 < 31) ∨ (31 ≤ v277 ∧ v277 < 32) ∨ v277 = 32 ∨ v277 = 33 ∨ v277 = 34 ∨ 35 ≤ v277 by omega) with hz | hz | hz | hz | hz | hz | hz | hz | hz | hz | hz | hz | hz | hz | hz | hz
      · exact lc_flight hI hM ⟨by omega, by omega⟩ ⟨a292, b292⟩ ⟨a307, b307⟩ hz B
      · exact lc_fare hI hM ⟨by omega, by omega⟩ ⟨a292, b292⟩ ⟨a307, b307⟩ hz B
      · exact lc_draft hI hM ⟨by omega, by omega⟩ ⟨a292, b292⟩ ⟨a307, b307⟩ hz B
      · exact lc_held hI hM ⟨by omega, by omega⟩ ⟨a292, b292⟩ ⟨a307, b307⟩ hz B
      · exact lc_chg0 hI hM ⟨by omega, by omega⟩ ⟨a292, b292⟩ ⟨a307, b307⟩ hz B
      · exact lc_chg1 hI hM ⟨by omega, by omega⟩ ⟨a292, b292⟩ ⟨a307, b307⟩ hz B
      · exact lc_chg2 hI hM ⟨by omega, by omega⟩ ⟨a292, b292⟩ ⟨a307, b307⟩ hz B
      · exact lc_chg3 hI hM ⟨by omega, by omega⟩ ⟨a292, b292⟩ ⟨a307, b307⟩ hz B
      · exact lc_bad0 hI hM ⟨by omega, by omega⟩ ⟨a292, b292⟩ ⟨a307, b307⟩ hz B
      · exact lc_bad1 hI hM ⟨by omega, by omega⟩ ⟨a292, b292⟩ ⟨a307, b307⟩ hz B
      · exact lc_bad2 hI hM ⟨by omega, by omega⟩ ⟨a292, b292⟩ ⟨a307, b307⟩ hz B
      · exact lc_bad3 hI hM ⟨by omega, by omega⟩ ⟨a292, b292⟩ ⟨a307, b307⟩ hz B
      · exact lc_clear hI hM ⟨by omega, by omega⟩ ⟨a292, b292⟩ ⟨a307, b307⟩ hz B
      · by_cases h3 : v292 % 12 < rI s 3
        · by_cases h9 : v307 % 20 ≤ rA s 9 (v292 % 12) + 10
          · exact lc_limZ hI hM ⟨by omega, by omega⟩ ⟨a292, b292⟩ ⟨a307, b307⟩ hz h3 h9 B
          · exact lc_limB hI hM ⟨by omega, by omega⟩ ⟨a292, b292⟩ ⟨a307, b307⟩ hz h3 h9 B
        · exact lc_limN hI hM ⟨by omega, by omega⟩ ⟨a292, b292⟩ ⟨a307, b307⟩ hz h3 B
      · have d1 := Int.emod_nonneg v292 (b := rI s 44 + 1) (by omega)
        have d2 := Int.emod_lt_of_pos v292 (b := rI s 44 + 1) (by omega)
        by_cases hb : v292 % (rI s 44 + 1) = rI s 44
        · exact lc_volN hI hM ⟨by omega, by omega⟩ ⟨a292, b292⟩ ⟨a307, b307⟩ hz hb B
        · exact lc_volZ hI hM ⟨by omega, by omega⟩ ⟨a292, b292⟩ ⟨a307, b307⟩ hz (by omega) B
      · by_cases h0 : v292 % 30 = 0
        · exact lc_passX hI hM ⟨by omega, by omega⟩ ⟨a292, b292⟩ ⟨a307, b307⟩ hz b277 h0 B
        · intro hp Rh
          obtain ⟨o, q5, h5⟩ := C2_ex (cs_pass (d := 11) (h := 1 + v292 % 14) hI (by omega) PX_JA (J_JJ hM.2.1) hM.1 (fun _ => by omega)) Rh
          exact lc_passG hI hM ⟨by omega, by omega⟩ ⟨a292, b292⟩ ⟨a307, b307⟩ hz b277 h0 ((h5.1 (if_pos (by omega))).2).2.1 B hp Rh
theorem lc_end {d e : Nat} {q : am_A} {s : am_Z} {T : am_LT} {x11 x12 x13 x14 x15 x16 x17 x18 x19 : Option am_V} (I : am_CI e q s) (L : am_LS q s T) (he : e ≤ 10000) : am_W2 (d + 24) m_L_law 943 [some (aR 31 0), some (aR 8 0), some (aR 24 0), some (aR 24 1), some (aR 24 2), some (aR 24 3), some (aR 24 4), some (aR 24 5), some (aR 24 6), some (aR 24 7), some (aI (zI 1)), x11, x12, x13, x14, x15, x16, x17, x18, x19] [] q (fun o q2 => o = .inl (some (aI 1)) ∧ ∃ e s, e ≤ 20000 ∧ am_CI e q2 s) := by
  obtain ⟨F, J, H, P⟩ := L
  refine ar_iload rfl rfl ?_
  refine ar_if_eq rfl rfl (by omega) (fun ht => by omega) (fun h945 => ?_)
  refine ar_aload_n rfl rfl ?_
  refine ar_bipush (x := 29) rfl rfl ?_
  refine ar_iconst rfl ?_
  refine ar_iconst rfl ?_
  refine ar_iconst rfl ?_
  refine ar_iconst rfl ?_
  refine ar_iconst rfl ?_
  refine ar_iconst rfl ?_
  refine ar_cs8 rfl rfl (Nat.le_of_ble_eq_true rfl) (dn_points (d := 0) I F (by omega) (by omega)) (by omega) (fun o q957 hq => ?_)
  obtain ⟨rfl, I957, Y957, F957⟩ := hq
  have H957 := LA_CY H Y957
  refine ar_ldc (x := -3000000) rfl rfl ?_
  refine ar_icmp_ne rfl rfl (by omega) (by omega) (fun ht => by omega) (fun h962 => ?_)
  refine ar_aload_n rfl rfl ?_
  refine ar_bipush (x := 30) rfl rfl ?_
  refine ar_iconst rfl ?_
  refine ar_iconst rfl ?_
  refine ar_iconst rfl ?_
  refine ar_iconst rfl ?_
  refine ar_iconst rfl ?_
  refine ar_iconst rfl ?_
  refine ar_cs8 rfl rfl (Nat.le_of_ble_eq_true rfl) (dn_owed (d := 0) I957 F957 (by omega) (by omega) (by omega)) (by omega) (fun o q974 hq => ?_)
  obtain ⟨rfl, I974, Y974, F974⟩ := hq
  have H974 := LA_CY H957 Y974
  refine ar_ldc (x := -3000000) rfl rfl ?_
  refine ar_icmp_ne rfl rfl (by omega) (by omega) (fun ht => by omega) (fun h979 => ?_)
  refine ar_iconst rfl ?_
  refine ar_goto rfl rfl ?_
  exact ar_iret rfl (Or.inr ⟨rfl, by first | omega | (split <;> omega)⟩) (⟨rfl, e + 2, s, by omega, I974⟩)
def lT0 : am_LT := fun _ _ => 0
theorem PL_0 {s : am_Z} (h0 : rI s 0 = 0) (h3 : rI s 3 = 0) (h20 : rI s 20 = 0) (h33 : rI s 33 = 0) (h44 : rI s 44 = 0) (h61 : rI s 61 = 0) (h68 : rI s 68 = 0) : am_PL s lT0 := by
  refine ⟨⟨h3.symm, h20.symm, h0.symm, h33.symm, h44.symm, h61.symm, ?_⟩, fun f h1 h2 => ?_, fun f b h1 h2 h3 h4 => ?_, fun i h1 h2 => ?_, fun k h1 h2 => ?_, fun w h1 h2 => ?_⟩
  · have t : lT0 5 6 = 0 := rfl
    unfold am_P6
    rw [h68, h0, t]
    omega
  all_goals omega
theorem INV_s90 : am_INV s90 := by
  have a : ∀ j x, j ≠ 15 → rA s90 j x = 0 := fun j x h => if_neg (fun z => h z.1)
  have n : ∀ j, rI s90 j = 0 := fun _ => rfl
  refine ⟨⟨fun f h1 h2 => ?_, fun i h1 h2 => ⟨a 10 i (by omega), ?_, a 16 i (by omega)⟩, fun f t _ _ _ _ _ => ⟨a 17 _ (by omega), a 18 _ (by omega)⟩, fun i _ => ⟨a 28 i (by omega), a 29 i (by omega), a 30 i (by omega), a 31 i (by omega)⟩⟩, ⟨fun i _ => ⟨a 59 i (by omega), a 60 i (by omega)⟩, fun b k hb => ?_, fun b h1 h2 => ?_, fun b k hb => ?_, fun b hb => ?_, fun i h1 h2 => ?_, fun b hb => ?_, fun b hb => ?_⟩, fun w hw => ?_, fun i j h1 h2 h3 => ?_, fun w hw => ?_⟩
  · rw [n 3] at h2; omega
  · rw [n 3] at h1
    exact if_pos ⟨rfl, h1, by omega⟩
  · rw [n 44] at hb; omega
  · rw [n 44] at h2; omega
  · rw [n 44] at hb; omega
  · rw [n 44] at hb; omega
  · rw [a 69 i (by omega)]
    have : nF s90 = 0 := rfl
    rw [this]
    omega
  · rw [n 44] at hb; omega
  · rw [n 44] at hb; omega
  · rw [n 61] at hw; omega
  · rw [n 33] at h3; omega
  · rw [n 61] at hw; omega
theorem JJ_s90 : am_JJ s90 := by
  have a : ∀ j x, j ≠ 15 → rA s90 j x = 0 := fun j x h => if_neg (fun z => h z.1)
  have n : ∀ j, rI s90 j = 0 := fun _ => rfl
  refine ⟨INV_s90, ⟨fun b h1 h2 => ?_, ⟨fun i h1 h2 => (a 70 i (by omega)).trans rfl, fun m h1 h2 => (a 69 m (by omega)).trans rfl⟩, fun w h1 h2 => ?_, fun i h1 h2 => ?_, fun w i h1 h2 => ?_⟩, fun x hx => ?_⟩
  · rw [n 44] at h2; omega
  · rw [n 61] at h2; omega
  · rw [n 33] at h2; omega
  · rw [n 61] at h2; omega
  · rw [a 55 x (by omega)] at hx; omega
theorem E0_90 : am_E0 s90 := by
  have e : wI s90 74 0 = s90 := Prod.ext rfl (funext fun j => by
    show (if j = 74 then (0 : Int) else rI s90 j) = rI s90 j
    split
    · rfl
    · rfl)
  have z := E0_s90 (k := 0) (by omega)
  rw [e] at z
  exact z
theorem s90_0 {j : Nat} {x : Int} (h : j ≠ 15) : rA s90 j x = 0 := if_neg (fun z => h z.1)
theorem lc_start {d e L : Nat} {X : Nat → Int} {q : am_A} {Q : am_O → am_A → Prop} (I : am_CI e q s90) (F : am_DFh q) (H : am_LA q lT0) (S : am_SC q L X) (hL : L ≤ 260)  (K : ∀ q1 s1, am_CI (e + 10) q1 s1 → am_LS q1 s1 lT0 → am_SC q1 L X → rI s1 0 = 0 → am_W2 (d + 24) m_L_law 156 [some (aR 31 0), some (aR 8 0), some (aR 24 0), some (aR 24 1), some (aR 24 2), some (aR 24 3), some (aR 24 4), some (aR 24 5), some (aR 24 6), some (aR 24 7), some (aI (zI 1)), some (aI (zI 0)), none, none, none, none, none, none, none, none] [] q1 Q) : am_W2 (d + 24) m_L_law 54 [some (aR 31 0), some (aR 8 0), some (aR 24 0), some (aR 24 1), some (aR 24 2), some (aR 24 3), some (aR 24 4), some (aR 24 5), some (aR 24 6), some (aR 24 7), none, none, none, none, none, none, none, none, none, none] [] q Q := by
  have J0 := JJ_s90
  have n3 : rI s90 3 = 0 := rfl
  refine ar_aload_n rfl rfl ?_
  refine ar_bipush (x := 25) rfl rfl ?_
  refine ar_iconst rfl ?_
  refine ar_iconst rfl ?_
  refine ar_iconst rfl ?_
  refine ar_iconst rfl ?_
  refine ar_iconst rfl ?_
  refine ar_iconst rfl ?_
  refine ar_cs8 rfl rfl (Nat.le_of_ble_eq_true rfl) (dx_pass (d := 0) I F J0 (by omega) (if_neg (by omega))) (by omega) (fun o q63 hq => ?_)
  obtain ⟨rfl, I63, Y63, F63⟩ := hq
  have H63 := LA_CY H Y63
  refine ar_ldc (x := -2000000) rfl rfl ?_
  refine ar_icmp_ne rfl rfl (by omega) (by omega) (fun ht => by omega) (fun h68 => ?_)
  refine ar_aload_n rfl rfl ?_
  refine ar_iconst rfl ?_
  refine ar_bipush (x := 6) rfl rfl ?_
  refine ar_iconst rfl ?_
  refine ar_iconst rfl ?_
  refine ar_iconst rfl ?_
  refine ar_iconst rfl ?_
  refine ar_iconst rfl ?_
  refine ar_cs8 rfl rfl (Nat.le_of_ble_eq_true rfl) (dx_setZone (d := 0) (R := -3000000) I63 F63 J0 (by omega) (by omega) (k := 1) (by unfold kSetZone; rw [if_pos (by omega)]) (by omega) rfl) (by omega) (fun o q80 hq => ?_)
  obtain ⟨rfl, I80, Y80, F80⟩ := hq
  have H80 := LA_CY H63 Y80
  refine ar_ldc (x := -3000000) rfl rfl ?_
  refine ar_icmp_ne rfl rfl (by omega) (by omega) (fun ht => by omega) (fun h85 => ?_)
  refine ar_aload_n rfl rfl ?_
  refine ar_iconst rfl ?_
  refine ar_iconst rfl ?_
  refine ar_aload_n rfl rfl ?_
  refine ar_iconst rfl ?_
  refine ar_iconst rfl ?_
  refine ar_cs3 rfl rfl (Nat.le_of_ble_eq_true rfl) (cs_lpart (d := 0) (SC_CY (SC_CY S Y63) Y80) hL (by omega) (by omega)) (by omega) (fun o q94 hq => ?_)
  obtain ⟨e94, v94, a94, b94, rfl⟩ := hq
  obtain rfl := e94.symm
  refine ar_iconst rfl ?_
  refine ar_iconst rfl ?_
  refine ar_iconst rfl ?_
  refine ar_iconst rfl ?_
  refine ar_cs8 rfl rfl (Nat.le_of_ble_eq_true rfl) (dz_setZone (d := 0) I80 F80 J0 (by omega) (by omega) (by unfold kSetZone; rw [if_neg (by omega), if_neg (by omega), if_neg (by rw [n3]; omega)])) (by omega) (fun o q101 hq => ?_)
  obtain ⟨rfl, I101, Y101, F101⟩ := hq
  have H101 := LA_CY H80 Y101
  rw [s90_0 (by omega)]
  have J1 : am_JJ (wA s90 1 1 v94) := JJ_setZone J0 (CV_B I80.1) n3
  have SA := SC_CY (SC_CY (SC_CY S Y63) Y80) Y101
  have r2 : rA (wA s90 1 1 v94) 2 2 = 0 := (wA_ne (by omega)).trans (s90_0 (by omega))
  refine ar_if_ne rfl rfl (by omega) (fun ht => by omega) (fun h104 => ?_)
  refine ar_aload_n rfl rfl ?_
  refine ar_iconst rfl ?_
  refine ar_iconst rfl ?_
  refine ar_aload_n rfl rfl ?_
  refine ar_iconst rfl ?_
  refine ar_sipush (x := 500) rfl rfl ?_
  refine ar_cs3 rfl rfl (Nat.le_of_ble_eq_true rfl) (cs_lpart (d := 0) SA hL (by omega) (by omega)) (by omega) (fun o q115 hq => ?_)
  obtain ⟨e115, v115, a115, b115, rfl⟩ := hq
  obtain rfl := e115.symm
  refine ar_iconst rfl ?_
  refine ar_iconst rfl ?_
  refine ar_iconst rfl ?_
  refine ar_iconst rfl ?_
  refine ar_cs8 rfl rfl (Nat.le_of_ble_eq_true rfl) (dz_setTax (d := 0) I101 F101 J1 (by omega) (by omega) (by unfold kSetTax; rw [if_neg (by omega), if_pos (by omega)])) (by omega) (fun o q122 hq => ?_)
  obtain ⟨rfl, I122, Y122, F122⟩ := hq
  have H122 := LA_CY H101 Y122
  rw [r2]
  have J2 : am_JJ (wA (wA s90 1 1 v94) 2 2 v115) := JJ_A J1 (by unfold ivA; omega) (by unfold jaA; omega)
  refine ar_if_ne rfl rfl (by omega) (fun ht => by omega) (fun h125 => ?_)
  refine ar_aload_n rfl rfl ?_
  refine ar_iconst rfl ?_
  refine ar_iconst rfl ?_
  refine ar_sipush (x := 501) rfl rfl ?_
  refine ar_iconst rfl ?_
  refine ar_iconst rfl ?_
  refine ar_iconst rfl ?_
  refine ar_iconst rfl ?_
  refine ar_cs8 rfl rfl (Nat.le_of_ble_eq_true rfl) (dx_setTax (d := 0) (R := -2000000) I122 F122 J2 (by omega) (by omega) (k := 2) (by unfold kSetTax; rw [if_neg (by omega), if_neg (by omega)]) (by omega) rfl) (by omega) (fun o q138 hq => ?_)
  obtain ⟨rfl, I138, Y138, F138⟩ := hq
  have H138 := LA_CY H122 Y138
  refine ar_ldc (x := -2000000) rfl rfl ?_
  refine ar_icmp_ne rfl rfl (by omega) (by omega) (fun ht => by omega) (fun h143 => ?_)
  refine ar_iconst rfl ?_
  refine ar_goto rfl rfl ?_
  refine ar_stI10 rfl ?_
  refine ar_iconst rfl ?_
  refine ar_stI11 rfl ?_
  exact K _ _ (CI_le I138 (by omega)) ⟨F138, J2, H138, PL_0 rfl rfl rfl rfl rfl rfl rfl⟩ (SC_CY (SC_CY SA Y122) Y138) rfl
/-- the class's kinds are as before -/
def am_NK (q q' : am_A) : Prop := (∀ r : am_R, cK r.1 → (∀ f, qFI q' f r = qFI q f r) ∧ (∀ f, qFR q' f r = qFR q f r) ∧ (∀ k, qAI q' r k = qAI q r k) ∧ (∀ k, qAR q' r k = qAR q r k) ∧ qAL q' r = qAL q r ∧ qLS q' r = qLS q r ∧ qCP q' r = qCP q r) ∧ (∀ t, cK t → qCN q' t = qCN q t) ∧ ∀ t, qCN q t ≤ qCN q' t
theorem CI_NK {e e' a b : Nat} {q q' : am_A} {s : am_Z} (I : am_CI e q s) (N : am_NK q q') (h1 : qCE q' ≤ qCE q + a) (h2 : qSL q' ≤ qSL q + b) (he : e + a ≤ e') (hs : 64 * e + b ≤ 64 * e') : am_CI e' q' s := by
  obtain ⟨V, ⟨x1, x2, x3, x4, x5, x6, x7⟩, R⟩ := I
  obtain ⟨n1, n2, n3⟩ := N
  have kO : ∀ r, vO q s r → cK r.1 := fun r h => by
    unfold vO at h
    unfold cK
    rcases h with h | h | h | h | h | h | h
    · rw [h]; omega
    all_goals omega
  have kA : ∀ r, vA s r → cK r.1 := fun r h => by
    unfold vA at h
    unfold cK
    omega
  have kL : ∀ r, vL s r → cK r.1 := fun r h => by
    unfold vL at h
    unfold cK
    omega
  have c : ∀ t, cK t → qCN q' t = qCN q t := n2
  have p : ∀ r : am_R, cK r.1 → qCP q' r = qCP q r := fun r h => (n1 r h).2.2.2.2.2.2
  refine ⟨CV_EQ V ⟨fun f r h _ => (n1 r (kO r h)).1 f, fun f r h => ?_, fun r k h => (n1 r (kA r h)).2.2.1 k, fun i k => (n1 (1408, i) (by show cK 1408; unfold cK; omega)).2.2.2.1 k, fun r h => ?_, n3, fun t h => c t (by unfold cK; omega), fun r h => (n1 r (kL r h)).2.2.2.2.2.1, fun r h z => ?_⟩, ?_, ?_⟩
  · rcases h with h | h
    · exact (n1 r (kO r h)).2.1 f
    · exact (n1 r (by rw [h.1]; show cK 6; unfold cK; omega)).2.1 f
  · rcases h with h | h | h
    · exact (n1 r (kA r h)).2.2.2.2.1
    · exact (n1 r (by rw [h]; unfold cK; omega)).2.2.2.2.1
    · exact (n1 r (by unfold cK; omega)).2.2.2.2.1
  · rcases h with h | h | h | h | h
    · rw [p r (kL r h)]; exact z
    · rw [p r (by rw [h]; show cK 1808; unfold cK; omega)]; exact z
    · rw [p r (by rw [h]; show cK 1809; unfold cK; omega)]; exact z
    · rw [p r (by rw [h]; show cK 1601; unfold cK; omega)]; exact z
    · rw [p r (by rw [h]; show cK 1603; unfold cK; omega)]; exact z
  · unfold am_CX
    rw [c 0 (by unfold cK; omega), c 1003 (by unfold cK; omega), c 1004 (by unfold cK; omega), c 1005 (by unfold cK; omega), c 7 (by unfold cK; omega), c 1702 (by unfold cK; omega), c 1 (by unfold cK; omega), c 5 (by unfold cK; omega)]
    exact ⟨x1, x2, x3, x4, fun b hb => (p (1003, b) (by show cK 1003; unfold cK; omega)).trans (x5 b hb), fun w hw => (p (1702, w) (by show cK 1702; unfold cK; omega)).trans (x6 w hw), fun b => by rw [p (1003, b) (by show cK 1003; unfold cK; omega)]; exact x7 b⟩
  · have hp : pot q' = pot q := by
      unfold pot cntF capF
      rw [c 0 (by unfold cK; omega), c 1 (by unfold cK; omega), c 3 (by unfold cK; omega), c 4 (by unfold cK; omega), c 5 (by unfold cK; omega), c 7 (by unfold cK; omega), c 1003 (by unfold cK; omega), c 1004 (by unfold cK; omega), c 1005 (by unfold cK; omega), c 1407 (by unfold cK; omega), c 1408 (by unfold cK; omega), c 1702 (by unfold cK; omega)]
      rw [p (1802, 0) (by show cK 1802; unfold cK; omega), p (1803, 0) (by show cK 1803; unfold cK; omega), p (1804, 0) (by show cK 1804; unfold cK; omega), p (1806, 0) (by show cK 1806; unfold cK; omega), p (1807, 0) (by show cK 1807; unfold cK; omega), p (1808, 0) (by show cK 1808; unfold cK; omega), p (1809, 0) (by show cK 1809; unfold cK; omega), p (1601, 0) (by show cK 1601; unfold cK; omega), p (1603, 0) (by show cK 1603; unfold cK; omega)]
      rw [sumN_eq (f := fun b => qCP q' (1003, b)) (g := fun b => qCP q (1003, b)) 40 (fun b _ => p (1003, b) (by show cK 1003; unfold cK; omega)), sumN_eq (f := fun w => qCP q' (1702, w)) (g := fun w => qCP q (1702, w)) 20 (fun w _ => p (1702, w) (by show cK 1702; unfold cK; omega))]
    have r1 := R.1
    have r2 := R.2
    unfold am_RM
    rw [hp]
    omega
theorem NA_NK {q : am_A} {t n : Nat} (h : ¬ cK t) : am_NK q (uNA q t n) := by
  refine ⟨fun r hr => ?_, fun t' h' => if_neg (fun z => h (by rw [← z]; exact h')), fun t' => ?_⟩
  · have hne : r ≠ (t, qCN q t) := fun z => h (by rw [z] at hr; exact hr)
    refine ⟨fun _ => rfl, fun _ => rfl, fun k => ?_, fun k => ?_, if_neg hne, rfl, rfl⟩
    · show (if r = (t, qCN q t) then (fun _ => (0 : Int)) else qAI q r) k = _
      rw [if_neg hne]
    · show (if r = (t, qCN q t) then (fun _ => (none : Option am_R)) else qAR q r) k = _
      rw [if_neg hne]
  · show qCN q t' ≤ am_u1 (qCN q) t (qCN q t + 1) t'
    unfold am_u1
    split
    · rename_i z
      rw [z]
      omega
    · exact Nat.le_refl _
/-- the law's own heap at its entry -/
def am_q0 (L : Nat) (xs : Nat → Int32) : am_A := (fun _ _ => 0, fun _ _ => none, fun r k => if r = (31, 0) then (xs k).toInt else 0, fun _ _ => none, fun _ _ => 0, fun _ _ => 0, fun r => if r = (31, 0) then L else 0, fun _ => 0, fun _ => [], fun _ => 0, 0, 0)
theorem q0_Re (L : Nat) (xs : Nat → Int32) : am_Re (am_q0 L xs) (am_h0 L xs) := by
  refine ⟨fun _ _ _ => rfl, fun _ _ _ => rfl, fun r k _ => ?_, fun _ _ _ => rfl, fun _ _ _ => rfl, fun _ _ _ => rfl, fun _ _ => rfl, fun _ _ => rfl, fun r h => absurd h.2 (Nat.not_lt_zero _), fun r r' y h => absurd h.2 (Nat.not_lt_zero _), Nat.le_refl _, Nat.le_refl _, rfl⟩
  show (if r = (31, 0) then xs else fun _ => 0) k = zI (if r = (31, 0) then (xs k).toInt else 0)
  split
  · exact (Int32.ofInt_toInt _).symm
  · rfl
/-- the room in the end -/
theorem end_room {e : Nat} {q : am_A} {s : am_Z} {h : am_H} (I : am_CI e q s) (R : am_Re q h) (he : e ≤ 20000) : hCE h ≤ 60000 ∧ hSL h ≤ 3300000 := by
  have B := CV_B I.1
  have b3 := B.2.1 3 0 12 rfl
  have b20 := B.2.1 20 0 16 rfl
  have b44 := B.2.1 44 0 40 rfl
  have b61 := B.2.1 61 0 20 rfl
  have x := I.2.1
  have f := I.1.2.2.1.2.1
  have a3 := I.1.2.2.2.2.1.2.1
  have s1 : sumI 0 (rI s 44).toNat (rA s 52) ≤ 400 := by
    have z := sumI_b (a := 0) (n := (rI s 44).toNat) (f := rA s 52) (M := 10) (fun b => B.1 52 b 0 10 rfl)
    omega
  have s5 : sumI 0 (rI s 3).toNat (rA s 10) ≤ 12 := by
    have z := sumI_b (a := 0) (n := (rI s 3).toNat) (f := rA s 10) (M := 1) (fun b => B.1 10 b 0 1 rfl)
    omega
  have cp := I.1.2.2.2.2.2.2.2.2.1
  have c2 := cp 1802 rfl
  have c3 := cp 1803 rfl
  have c4 := cp 1804 rfl
  have c6 := cp 1806 rfl
  have c7 := cp 1807 rfl
  have c8 := cp 1808 rfl
  have c9 := cp 1809 rfl
  have c10 := cp 1601 rfl
  have c11 := cp 1603 rfl
  have q1 : sumN (fun b => qCP q (1003, b)) 40 ≤ 10 * 40 := sumN_le 40 (fun b _ => by
    have := x.2.2.2.2.2.2 b
    show qCP q (1003, b) ≤ 10
    omega)
  have q2 : sumN (fun w => qCP q (1702, w)) 20 ≤ 1000 * 20 := sumN_le 20 (fun w _ => by
    show qCP q (1702, w) ≤ 1000
    by_cases hw : rI s 61 ≤ w
    · rw [x.2.2.2.2.2.1 w hw]
      omega
    · have hl := R.2.2.2.2.2.2.2.2.1 (1702, w) ⟨rfl, by
        have e := R.2.2.2.2.2.2.2.1 1702 (by omega)
        show w < hCN h 1702
        have := x.2.1.2
        omega⟩
      obtain ⟨_, _, _, _, _, _, h7, _⟩ := hl
      exact h7)
  have hp : pot q ≤ 30000 := by
    unfold pot cntF capF
    have := x.1
    have := x.2.1
    have := x.2.2.1
    have := x.2.2.2.1
    omega
  have r := I.2.2
  have r1 := r.1
  have r2 := r.2
  have R1 := R.2.2.2.2.2.2.2.2.2.2.1
  have R2 := R.2.2.2.2.2.2.2.2.2.2.2.1
  omega
/-- the law's arrays, as they are made -/
def am_LK (q : am_A) (n : Nat) : Prop := qCN q 24 = n ∧ ∀ j : Nat, j < n → qAL q (24, j) = lLen j ∧ ∀ i : Nat, qAI q (24, j) i = 0
def am_N24 (e n : Nat) (q : am_A) (L : Nat) (X : Nat → Int) : Prop := am_LK q n ∧ am_CI e q s90 ∧ am_DFh q ∧ am_SC q L X
theorem NW_s {e n m L : Nat} {q : am_A} {X : Nat → Int} (H : am_N24 e n q L X) (hm : lLen n = m) : am_N24 (e + 2) (n + 1) (uNA q 24 m) L X := by
  obtain ⟨⟨h1, h2⟩, I, F, S⟩ := H
  have b : m ≤ 60 := by
    rw [← hm]
    unfold lLen
    split <;> omega
  have hne : ((31, 0) : am_R) ≠ (24, qCN q 24) := fun z => by
    have := congrArg Prod.fst z
    dsimp only at this
    omega
  refine ⟨⟨?_, fun j hj => ?_⟩, CI_NK (a := 1) (b := m) I (NA_NK (by unfold cK; omega)) (Nat.le_refl _) (Nat.le_refl _) (by omega) (by omega), F, ?_, fun i => ?_⟩
  · show am_u1 (qCN q) 24 (qCN q 24 + 1) 24 = n + 1
    rw [h1]
    exact if_pos rfl
  · show (if ((24, j) : am_R) = (24, qCN q 24) then m else qAL q (24, j)) = lLen j ∧ ∀ i : Nat, (if ((24, j) : am_R) = (24, qCN q 24) then (fun _ => (0 : Int)) else qAI q (24, j)) i = 0
    rw [h1]
    by_cases e : j = n
    · rw [if_pos (by rw [e]), if_pos (by rw [e]), e]
      exact ⟨hm.symm, fun _ => rfl⟩
    · rw [if_neg (fun z => e (congrArg Prod.snd z)), if_neg (fun z => e (congrArg Prod.snd z))]
      exact h2 j (by omega)
  · show (if ((31, 0) : am_R) = (24, qCN q 24) then m else qAL q (31, 0)) = L
    rw [if_neg hne]
    exact S.1
  · show (if ((31, 0) : am_R) = (24, qCN q 24) then (fun _ => (0 : Int)) else qAI q (31, 0)) i = X i
    rw [if_neg hne]
    exact S.2 i
theorem ar_nw {d y pc p e n m L : Nat} {ls : List (Option am_V)} {st : List am_V} {q : am_A} {Q : am_O → am_A → Prop} {X : Nat → Int} (hc : am_na y pc = some (24, p)) (H : am_N24 e n q L X) (hm : lLen n = m) (k : ∀ q2, am_N24 (e + 2) (n + 1) q2 L X → am_W2 d y p ls (aR 24 n :: st) q2 Q) : am_W2 d y pc ls (aI (zI (m : Int)) :: st) q Q := by
  have b : m ≤ 60 := by
    rw [← hm]
    unfold lLen
    split <;> omega
  refine ar_newa hc (by intro z; cases z) (by omega) (by omega) rfl (by omega) ?_
  rw [H.1.1]
  exact k _ (NW_s H hm)
theorem goal_1 {L : Nat} {xs : Nat → Int32} (hL : L ≤ 260) : am_C2 1600 m_L_law [aR 31 0] (am_q0 L xs) (fun o q' => o = .inl (some (aI 1)) ∧ ∃ e s, e ≤ 20000 ∧ am_CI e q' s) := by
  refine am_C2_i (ls := [some (aR 31 0), none, none, none, none, none, none, none, none, none, none, none, none, none, none, none, none, none, none, none]) rfl ?_
  refine ar_new (kt := 8) rfl (by intro z; cases z) (by omega) ?_
  refine ar_dup rfl rfl ?_
  refine ar_cv0 rfl rfl rfl (Nat.le_of_ble_eq_true rfl) (cs_X_init (d := 0) ?_) (by omega) (fun o q2 hq => ?_)
  · refine ⟨fun f h => (by cases h), fun f n h => (by cases h), fun f h => (by cases h), fun _ _ _ _ _ => rfl, fun f => ?_, CY_r, Nat.le_refl _, Nat.le_refl _, fun _ _ => rfl, fun t h1 h2 => if_neg (by omega), ⟨rfl, rfl⟩, fun _ => rfl⟩
    show (if ((8, 0) : am_R) = (8, qCN (am_q0 L xs) 8) then (0 : Int) else qFI (am_q0 L xs) f (8, 0)) = 0
    exact if_pos rfl
  obtain ⟨rfl, HX⟩ := hq
  have cn : ∀ t, (t < 600 ∨ 900 ≤ t) → t ≠ 8 → t ≠ 2 → t ≠ 6 → ¬ (1600 ≤ t ∧ t < 1900) → qCN q2 t = 0 := fun t h1 h2 h3 h4 h5 => (HX.2.2.2.1 t h1 h2 (fun z => absurd z (by omega)) (fun z1 z2 => absurd (And.intro z1 z2) h5)).trans (if_neg h2)
  have CY := HX.2.2.2.2.2.1
  have a31 := CY.1 (31, 0) (by show ¬ cK 31; unfold cK; omega)
  have N0 : am_N24 30 0 q2 L (fun k => (xs k).toInt) := by
    refine ⟨⟨cn 24 (by omega) (by omega) (by omega) (by omega) (by omega), fun j hj => absurd hj (by omega)⟩, IX_CI HX E0_90 (fun t ht => if_neg (by omega)) (fun _ _ => rfl) (Nat.le_of_ble_eq_true rfl) (Nat.le_of_ble_eq_true rfl), fun j h => absurd ?_ h, a31.2.2.2.2.2.2.1, fun i => (a31.2.2.1 i).trans (show (if ((31, 0) : am_R) = (31, 0) then (xs i).toInt else 0) = (xs i).toInt from if_pos rfl)⟩
    refine (HX.2.2.2.2.2.2.2.2.2.2.2 j).trans ?_
    have hn8 : ((1, j) : am_R) ≠ (8, qCN (am_q0 L xs) 8) := fun z => by cases z
    show (if ((1, j) : am_R) = (8, qCN (am_q0 L xs) 8) then (0 : Int) else qFI (am_q0 L xs) 106 (1, j)) = 0
    rw [if_neg hn8]
    rfl
  refine ar_stA1 rfl ?_
  refine ar_bipush (x := 60) rfl rfl ?_
  refine ar_nw (m := 60) rfl N0 rfl (fun q10 N1 => ?_)
  refine ar_stA2 rfl ?_
  refine ar_bipush (x := 48) rfl rfl ?_
  refine ar_nw (m := 48) rfl N1 rfl (fun q11 N2 => ?_)
  refine ar_stA3 rfl ?_
  refine ar_bipush (x := 16) rfl rfl ?_
  refine ar_nw (m := 16) rfl N2 rfl (fun q12 N3 => ?_)
  refine ar_stA4 rfl ?_
  refine ar_bipush (x := 40) rfl rfl ?_
  refine ar_nw (m := 40) rfl N3 rfl (fun q13 N4 => ?_)
  refine ar_stA5 rfl ?_
  refine ar_bipush (x := 40) rfl rfl ?_
  refine ar_nw (m := 40) rfl N4 rfl (fun q14 N5 => ?_)
  refine ar_stA6 rfl ?_
  refine ar_bipush (x := 7) rfl rfl ?_
  refine ar_nw (m := 7) rfl N5 rfl (fun q15 N6 => ?_)
  refine ar_stA7 rfl ?_
  refine ar_bipush (x := 14) rfl rfl ?_
  refine ar_nw (m := 14) rfl N6 rfl (fun q16 N7 => ?_)
  refine ar_stA8 rfl ?_
  refine ar_bipush (x := 20) rfl rfl ?_
  refine ar_nw (m := 20) rfl N7 rfl (fun q17 N8 => ?_)
  refine ar_stA9 rfl ?_
  obtain ⟨⟨g1, g2⟩, I, F, S⟩ := N8
  have HL : am_LA q17 lT0 := fun j hj => ⟨(g2 j hj).1, fun i _ _ => (g2 j hj).2 i.toNat⟩
  refine lc_start (d := 1576) I F HL S hL (fun q3 s3 I3 L3 S3 n3 => ?_)
  refine lp_l1 (d := 1576 + (24 - 23)) (q := q3) hL 1000 0 0 _ _ _ _ (by omega) ⟨rfl, by omega, I3, L3, S3, n3, by omega⟩ (fun k4 e4 s4 T4 q4 I4 L4 S4 n4 he4 => ?_)
  refine ar_iconst rfl ?_
  refine ar_stI11 rfl ?_
  refine lp_l2 (d := 1576) (q := q4) hL 1000 0 0 _ _ _ _ _ _ _ _ _ _ _ _ (by omega) ⟨rfl, by omega, I4, L4, S4, by omega, by omega⟩ (fun k5 e5 s5 T5 q5 x12 x13 x14 x15 x16 x17 x18 x19 I5 L5 he5 => ?_)
  exact lc_end (d := 1576) I5 L5 he5
theorem am_goal_t : am_goal := fun L xs hL => am_C_imp (goal_1 hL (am_h0 L xs) (q0_Re L xs)) (fun o h' h => by
  obtain ⟨q', R, rfl, e, s, he, I⟩ := h
  exact ⟨rfl, end_room I R he⟩)
end

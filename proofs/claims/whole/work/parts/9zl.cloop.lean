noncomputable section
section LOOP
variable {d : Nat} {Q : am_O → am_A → Prop} {L : Nat} {X : Nat → Int}
theorem lp_back {q : am_A} {i : Int} {x6 x7 : Option am_V} (k : am_W2 d m_L_law 28 [some (aR 31 0), some (aR 8 0), some (aR 9 0), some (aR 26 0), some (aR 27 0), some (aI (zI (i + 8))), x6, x7] [] q Q) : am_W2 d m_L_law 2620 [some (aR 31 0), some (aR 8 0), some (aR 9 0), some (aR 26 0), some (aR 27 0), some (aI (zI i)), x6, x7] [] q Q := by
  refine ar_inc5 rfl ?_
  exact ar_goto rfl rfl k
theorem lp_law {e0 : Nat} (hL : L ≤ 4096) (hX : ∀ k, in32 (X k)) (KE : ∀ j q s i x6 x7, j ≤ 512 → am_LP (e0 + j) q s s L X → am_W2 (d + 22) m_L_law 2626 [some (aR 31 0), some (aR 8 0), some (aR 9 0), some (aR 26 0), some (aR 27 0), some (aI (zI i)), x6, x7] [] q Q) : ∀ (m j : Nat) (i : Int) (s : am_Z) (q : am_A) (x6 x7 : Option am_V), 513 - j < m → (i = 8 * (j : Int) ∧ j ≤ 512 ∧ rI s 0 ≤ 100 * (j : Int) ∧ am_LP (e0 + j) q s s L X ∧ am_INV s) → am_W2 (d + 22) m_L_law 28 [some (aR 31 0), some (aR 8 0), some (aR 9 0), some (aR 26 0), some (aR 27 0), some (aI (zI i)), x6, x7] [] q Q := by
  intro m
  induction m with
  | zero => intro j i s q x6 x7 hm; exact absurd hm (Nat.not_lt_zero _)
  | succ m ih =>
    intro j i s q x6 x7 hm ⟨hi, hj, hT, P, I⟩
    refine ar_iload rfl rfl ?_
    refine ar_aload_n rfl rfl ?_
    refine ar_alen rfl rfl (by omega) ?_
    rw [P.2.2.2.1.2.2]
    refine ar_bipush (x := 8) rfl rfl ?_
    refine ar_isub rfl ?_
    refine ar_icmp_gt rfl rfl (by unfold in32; omega) (by unfold in32; omega) (fun h35 => KE j q s i x6 x7 hj P) (fun h35 => ?_)
    have hi2 : 0 ≤ i ∧ i + 8 ≤ (L : Int) := by omega
    refine ar_aload_n rfl rfl ?_
    refine ar_iload rfl rfl ?_
    refine ar_scr P hL rfl (by omega) ?_
    refine ar_bipush (x := 63) rfl rfl ?_
    refine ar_iand rfl ?_
    have B : ∀ (q' : am_A) (s' : am_Z) (x6 x7 : Option am_V), am_LP (e0 + j + 1) q' s' s' L X → am_IJ s s' → am_W2 (d + 22) m_L_law 2620 [some (aR 31 0), some (aR 8 0), some (aR 9 0), some (aR 26 0), some (aR 27 0), some (aI (zI i)), x6, x7] [] q' Q := fun q' s' y6 y7 P' J' => lp_back (ih (j + 1) (i + 8) s' q' y6 y7 (by omega) ⟨by omega, by omega, by have := J'.2; omega, P', J'.1⟩)
    have b63 := in32_iAnd (X i.toNat) 63
    by_cases hc : 0 ≤ iAnd (X i.toNat) 63 ∧ iAnd (X i.toNat) 63 ≤ 37
    · have hz : iAnd (X i.toNat) 63 = 0 ∨ iAnd (X i.toNat) 63 = 1 ∨ iAnd (X i.toNat) 63 = 2 ∨ iAnd (X i.toNat) 63 = 3 ∨ iAnd (X i.toNat) 63 = 4 ∨ iAnd (X i.toNat) 63 = 5 ∨ iAnd (X i.toNat) 63 = 6 ∨ iAnd (X i.toNat) 63 = 7 ∨ iAnd (X i.toNat) 63 = 8 ∨ iAnd (X i.toNat) 63 = 9 ∨ iAnd (X i.toNat) 63 = 10 ∨ iAnd (X i.toNat) 63 = 11 ∨ iAnd (X i.toNat) 63 = 12 ∨ iAnd (X i.toNat) 63 = 13 ∨ iAnd (X i.toNat) 63 = 14 ∨ iAnd (X i.toNat) 63 = 15 ∨ iAnd (X i.toNat) 63 = 16 ∨ iAnd (X i.toNat) 63 = 17 ∨ iAnd (X i.toNat) 63 = 18 ∨ iAnd (X i.toNat) 63 = 19 ∨ iAnd (X i.toNat) 63 = 20 ∨ iAnd (X i.toNat) 63 = 21 ∨ iAnd (X i.toNat) 63 = 22 ∨ iAnd (X i.toNat) 63 = 23 ∨ iAnd (X i.toNat) 63 = 24 ∨ iAnd (X i.toNat) 63 = 25 ∨ iAnd (X i.toNat) 63 = 26 ∨ iAnd (X i.toNat) 63 = 27 ∨ iAnd (X i.toNat) 63 = 28 ∨ iAnd (X i.toNat) 63 = 29 ∨ iAnd (X i.toNat) 63 = 30 ∨ iAnd (X i.toNat) 63 = 31 ∨ iAnd (X i.toNat) 63 = 32 ∨ iAnd (X i.toNat) 63 = 33 ∨ iAnd (X i.toNat) 63 = 34 ∨ iAnd (X i.toNat) 63 = 35 ∨ iAnd (X i.toNat) 63 = 36 ∨ iAnd (X i.toNat) 63 = 37 := by omega
      rcases hz with hz | hz | hz | hz | hz | hz | hz | hz | hz | hz | hz | hz | hz | hz | hz | hz | hz | hz | hz | hz | hz | hz | hz | hz | hz | hz | hz | hz | hz | hz | hz | hz | hz | hz | hz | hz | hz | hz
      · exact ar_sw rfl b63 hc (j := 0) (by omega) rfl rfl (lx_setZone P I hL hX hi2 B)
      · exact ar_sw rfl b63 hc (j := 1) (by omega) rfl rfl (lx_setTax P I hL hX hi2 B)
      · exact ar_sw rfl b63 hc (j := 2) (by omega) rfl rfl (lx_flight P I hL hX hi2 B)
      · exact ar_sw rfl b63 hc (j := 3) (by omega) rfl rfl (lx_days P I hL hX hi2 B)
      · exact ar_sw rfl b63 hc (j := 4) (by omega) rfl rfl (lx_limit P I hL hX hi2 B)
      · exact ar_sw rfl b63 hc (j := 5) (by omega) rfl rfl (lx_link P I hL hX hi2 B)
      · exact ar_sw rfl b63 hc (j := 6) (by omega) rfl rfl (lx_fare P I hL hX hi2 B)
      · exact ar_sw rfl b63 hc (j := 7) (by omega) rfl rfl (lx_rules P I hL hX hi2 B)
      · exact ar_sw rfl b63 hc (j := 8) (by omega) rfl rfl (lx_back P I hL hX hi2 B)
      · exact ar_sw rfl b63 hc (j := 9) (by omega) rfl rfl (lx_departure P I hL hX hi2 B)
      · exact ar_sw rfl b63 hc (j := 10) (by omega) rfl rfl (lx_standing P I hL hX hi2 B)
      · exact ar_sw rfl b63 hc (j := 11) (by omega) rfl rfl (lx_open P I hL hX hi2 B)
      · exact ar_sw rfl b63 hc (j := 12) (by omega) rfl rfl (lx_load P I hL hX hi2 B)
      · exact ar_sw rfl b63 hc (j := 13) (by omega) rfl rfl (lx_cancelLeg P I hL hX hi2 B)
      · exact ar_sw rfl b63 hc (j := 14) (by omega) rfl rfl (lx_delay P I hL hX hi2 B)
      · exact ar_sw rfl b63 hc (j := 15) (by omega) rfl rfl (lx_repair P I hL hX hi2 B)
      · exact ar_sw rfl b63 hc (j := 16) (by omega) rfl rfl (lx_leg P I hL hX hi2 B)
      · exact ar_sw rfl b63 hc (j := 17) (by omega) rfl rfl (lx_dropLegs P I hL hX hi2 B)
      · exact ar_sw rfl b63 hc (j := 18) (by omega) rfl rfl (lx_price P I hL hX hi2 B)
      · exact ar_sw rfl b63 hc (j := 19) (by omega) rfl rfl (lx_priceAnew P I hL hX hi2 B)
      · exact ar_sw rfl b63 hc (j := 20) (by omega) rfl rfl (lx_stretch P I hL hX hi2 B)
      · exact ar_sw rfl b63 hc (j := 21) (by omega) rfl rfl (lx_taxes P I hL hX hi2 B)
      · exact ar_sw rfl b63 hc (j := 22) (by omega) rfl rfl (lx_hold P I hL hX hi2 B)
      · exact ar_sw rfl b63 hc (j := 23) (by omega) rfl rfl (lx_wish P I hL hX hi2 B)
      · exact ar_sw rfl b63 hc (j := 24) (by omega) rfl rfl (lx_clear P I hL hX hi2 B)
      · exact ar_sw rfl b63 hc (j := 25) (by omega) rfl rfl (lx_wished P I hL hX hi2 B)
      · exact ar_sw rfl b63 hc (j := 26) (by omega) rfl rfl (lx_ticket P I hL hX hi2 B)
      · exact ar_sw rfl b63 hc (j := 27) (by omega) rfl rfl (lx_part P I hL hX hi2 B)
      · exact ar_sw rfl b63 hc (j := 28) (by omega) rfl rfl (lx_cancel P I hL hX hi2 B)
      · exact ar_sw rfl b63 hc (j := 29) (by omega) rfl rfl (lx_booking P I hL hX hi2 B)
      · exact ar_sw rfl b63 hc (j := 30) (by omega) rfl rfl (lx_coupon P I hL hX hi2 B)
      · exact ar_sw rfl b63 hc (j := 31) (by omega) rfl rfl (lx_share P I hL hX hi2 B)
      · exact ar_sw rfl b63 hc (j := 32) (by omega) rfl rfl (lx_check P I hL hX hi2 B)
      · exact ar_sw rfl b63 hc (j := 33) (by omega) rfl rfl (lx_volunteer P I hL hX hi2 B)
      · exact ar_sw rfl b63 hc (j := 34) (by omega) rfl rfl (lx_pass P I (by omega) hL hX hi2 B)
      · exact ar_sw rfl b63 hc (j := 35) (by omega) rfl rfl (lx_denied P I hL hX hi2 B)
      · exact ar_sw rfl b63 hc (j := 36) (by omega) rfl rfl (lx_points P I hL hX hi2 B)
      · exact ar_sw rfl b63 hc (j := 37) (by omega) rfl rfl (lx_owed P I hL hX hi2 B)
    · refine ar_swd rfl b63 (by omega) rfl ?_
      exact B q s x6 x7 ⟨CI_le P.1 (by omega), P.2⟩ ⟨I, by omega⟩
end LOOP
end

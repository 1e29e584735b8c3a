noncomputable section
/-- the fares of a way are there -/
abbrev okG (s : am_Z) (w : am_wP) : Prop := ∀ y ∈ w, 0 ≤ y.1 ∧ y.1 < rI s 20
theorem okG_app {s : am_Z} {w : am_wP} {y : Int × Int} (h : okG s w) (hy : 0 ≤ y.1 ∧ y.1 < rI s 20) : okG s (w ++ [y]) := fun z hz => by
  rcases List.mem_append.mp hz with h1 | h1
  · exact h z h1
  · rw [List.mem_singleton.mp h1]
    exact hy
theorem wRem_g {s : am_Z} {n : Int} {sub : Int → am_wP → List am_wP} (hsub : ∀ p w, okG s w → ∀ x ∈ sub p w, okG s x) : ∀ (k : Nat) (p : Int) (w : am_wP) (c f : Int), okG s w → -1 ≤ f → f ≤ rI s 20 - 1 → ∀ x ∈ wRem s n sub k p w c f, okG s x := by
  intro k
  induction k with
  | zero => intro p w c f _ _ _ x hx; simp [wRem] at hx
  | succ k ih =>
    intro p w c f hw hf hf2 x hx
    have hnx := nx_c s c f
    rw [wRem] at hx
    by_cases h1 : rI s 35 < p + nxC s c f ∨ rI s 20 = 0
    · rw [if_pos h1] at hx; cases hx
    · rw [if_neg h1] at hx
      have ho : okG s (w ++ [(nxF s f, nxC s c f)]) := okG_app hw ⟨by dsimp only; omega, by dsimp only; omega⟩
      rcases List.mem_append.mp hx with h2 | h2
      · unfold wNode at h2
        by_cases h3 : canH s p (nxC s c f) (nxF s f) n ≠ 0
        · rw [if_pos h3] at h2
          by_cases h4 : p + nxC s c f = rI s 35
          · rw [if_pos h4] at h2
            rw [List.mem_singleton.mp h2]
            exact ho
          · rw [if_neg h4] at h2
            exact hsub _ _ ho x h2
        · rw [if_neg h3] at h2; cases h2
      · exact ih p w _ _ hw (by omega) (by omega) x h2
theorem wSub_g {s : am_Z} {n : Int} (h0 : 0 ≤ rI s 20) (D : Nat) : ∀ p w, okG s w → ∀ x ∈ wSub s n D p w, okG s x := by
  induction D with
  | zero => intro p w _ x hx; simp [wSub] at hx
  | succ D ih =>
    intro p w hw x hx
    rw [wSub] at hx
    exact wRem_g ih 100 p w 1 (-1) hw (by omega) (by omega) x hx
theorem bestW_g {s : am_Z} (B : in_S s) (n : Int) : okG s (bestW s n).2 := by
  have hA := B.2.1 20 0 16 rfl
  unfold bestW
  split
  · intro y hy; cases hy
  · exact tk_mem (P := fun W => okG s W.2) _ _ (fun y hy => by cases hy) (fun x hx => wSub_g hA.1 4 0 [] (fun y hy => by cases hy) x hx)
theorem okG_F {s : am_Z} {w : am_wP} (h : okG s w) {i : Nat} (hi : i < w.length) : 0 ≤ pF w i ∧ pF w i < rI s 20 := by
  have e : w.getD i (0, 0) = w[i]'hi := by
    rw [List.getD_eq_getElem?_getD, List.getElem?_eq_getElem hi]
    rfl
  unfold pF
  rw [e]
  exact h _ (List.getElem_mem hi)
theorem pC_s (w : am_wP) (j : Nat) : sumI 0 (j + 1) (fun k => pC w k.toNat) = sumI 0 j (fun k => pC w k.toNat) + pC w j := by
  show sumI 0 j (fun k => pC w k.toNat) + pC w ((0 : Int) + j).toNat = _
  rw [Int.zero_add, Int.toNat_natCast]
theorem pA_s (s : am_Z) (w : am_wP) (j : Nat) : sumI 0 (j + 1) (fun k => rA s 25 (pF w k.toNat)) = sumI 0 j (fun k => rA s 25 (pF w k.toNat)) + rA s 25 (pF w j) := by
  show sumI 0 j (fun k => rA s 25 (pF w k.toNat)) + rA s 25 (pF w ((0 : Int) + j).toNat) = _
  rw [Int.zero_add, Int.toNat_natCast]
/-- what the law asks of a price: W is the best way, L the draft's legs -/
theorem price_W {s : am_Z} (B : in_S s) {p : Int} {W : am_wQ} (hW : bestW (jrn s) p = W) (h : W.1 ≠ -1) : 0 ≤ W.1 ∧ 1 ≤ rI s 33 ∧ W.1 = sumI 0 W.2.length (fun k => rA s 25 (pF W.2 k.toNat)) ∧ sumI 0 W.2.length (fun k => pC W.2 k.toNat) = rI s 33 ∧ ∀ j : Nat, j < W.2.length → (0 ≤ pF W.2 j ∧ pF W.2 j < rI s 20) ∧ (1 ≤ pC W.2 j ∧ pC W.2 j ≤ 4) ∧ 0 ≤ sumI 0 j (fun k => pC W.2 k.toNat) ∧ sumI 0 j (fun k => pC W.2 k.toNat) < rI s 33 ∧ 0 ≤ sumI 0 j (fun k => rA s 25 (pF W.2 k.toNat)) ∧ sumI 0 j (fun k => rA s 25 (pF W.2 k.toNat)) ≤ 20000 := by
  have BJ := jrn_in B
  have b33 := B.2.1 33 0 4 rfl
  have hok := bestW_ok BJ p (by rw [hW]; exact h)
  have h1 := best_pos (s := jrn s) (n := p) (by rw [hW]; exact h)
  have hg := bestW_g BJ p
  rw [hW] at hok hg
  have e35 : rI (jrn s) 35 = rI s 33 := rfl
  have e20 : rI (jrn s) 20 = rI s 20 := rfl
  have hS : pSum (jrn s) W.2 = sumI 0 W.2.length (fun k => rA s 25 (pF W.2 k.toNat)) := rfl
  have full := pLen_take (w := W.2) (i := W.2.length) (Nat.le_refl _)
  rw [List.take_length] at full
  have hl4 : W.2.length ≤ 4 := by
    have z : ∀ j : Nat, j ≤ W.2.length → (j : Int) ≤ sumI 0 j (fun k => pC W.2 k.toNat) := fun j => by
      induction j with
      | zero => intro _; exact Int.le_refl _
      | succ j ih =>
        intro hj
        have := ih (by omega)
        have c := (okP_F hok.1 (i := j) (by omega)).2
        rw [pC_s]
        omega
    have := z W.2.length (Nat.le_refl _)
    omega
  have bs : ∀ j : Nat, j ≤ 4 → 0 ≤ sumI 0 j (fun k => rA s 25 (pF W.2 k.toNat)) ∧ sumI 0 j (fun k => rA s 25 (pF W.2 k.toNat)) ≤ 20000 := fun j hj => by
    have := sumI_b (a := 0) (n := j) (f := fun k => rA s 25 (pF W.2 k.toNat)) (M := 5000) (fun k => B.1 25 _ 0 5000 rfl)
    omega
  have z2 := bs W.2.length hl4
  refine ⟨by omega, by omega, by omega, by omega, fun j hj => ?_⟩
  have y1 := pLen_part hok.1 (i := j) (by omega)
  have y2 := pLen_part hok.1 (i := j + 1) (by omega)
  rw [pC_s] at y2
  have c := (okP_F hok.1 hj).2
  have y3 := bs j (by omega)
  exact ⟨okG_F hg hj, by omega, by omega, by omega, y3.1, y3.2⟩
theorem taxes_b {s : am_Z} (B : in_S s) : 0 ≤ sumI 0 (rI s 33).toNat (taxD s) ∧ sumI 0 (rI s 33).toNat (taxD s) ≤ 2000 := by
  have b33 := B.2.1 33 0 4 rfl
  have z : ∀ i, 0 ≤ taxD s i ∧ taxD s i ≤ 500 := fun i => by
    have := B.1 2 (rA s 5 (rA s 34 i / 100)) 0 500 rfl
    unfold taxD
    split <;> omega
  have y := sumI_b (a := 0) (n := (rI s 33).toNat) (f := taxD s) (M := 500) z
  omega
theorem cs_isPrice0 {d : Nat} {q : am_A} {e : Nat} {s : am_Z} {T : am_LT} (I : am_CI e q s) (L : am_LS q s T) {p : Int} (bp : 0 ≤ p ∧ p ≤ 10) (h : ¬ (1 ≤ p ∧ p ≤ 9)) : am_C2 (d + 22) m_L_isPrice [aR 8 0, aR 24 2, aR 24 5, aI (zI p)] q (am_LR 12 e q s) := by
  refine am_C2_i (ls := [some (aR 8 0), some (aR 24 2), some (aR 24 5), some (aI (zI p)), none, none, none, none, none, none]) rfl ?_
  obtain ⟨F, J, H, P⟩ := L
  have B := CV_B I.1
  have b20 := B.2.1 20 0 16 rfl
  have b33 := B.2.1 33 0 4 rfl
  have bt := taxes_b B
  obtain ⟨⟨p0, p1, p2, p3, p4, p5, p6⟩, pn, pm, pf, pb, px⟩ := id P
  obtain ⟨W, hW⟩ : ∃ W, bestW (jrn s) p = W := ⟨_, rfl⟩
  have hk : kMany p = 1 := if_neg h
  refine ar_aload_n rfl rfl ?_
  refine ar_bipush (x := 11) rfl rfl ?_
  refine ar_iload_n rfl rfl ?_
  refine ar_iconst rfl ?_
  refine ar_iconst rfl ?_
  refine ar_iconst rfl ?_
  refine ar_iconst rfl ?_
  refine ar_iconst rfl ?_
  refine ar_cs8 rfl rfl (Nat.le_of_ble_eq_true rfl) (dx_price (d := 0) (R := -2000000) I F J (by omega) hk (by omega) rfl) (by omega) (fun o q9 hq => ?_)
  obtain ⟨rfl, I9, Y9, F9⟩ := hq
  have H9 := LA_CY H Y9
  refine ar_stI4 rfl ?_
  refine ar_aload_n rfl rfl ?_
  refine ar_bipush (x := 12) rfl rfl ?_
  refine ar_iload_n rfl rfl ?_
  refine ar_iconst rfl ?_
  refine ar_iconst rfl ?_
  refine ar_iconst rfl ?_
  refine ar_iconst rfl ?_
  refine ar_iconst rfl ?_
  refine ar_cs8 rfl rfl (Nat.le_of_ble_eq_true rfl) (dx_priceAnew (d := 0) (R := -2000000) I9 F9 J (by omega) hk (by omega) rfl) (by omega) (fun o q23 hq => ?_)
  obtain ⟨rfl, I23, Y23, F23⟩ := hq
  have H23 := LA_CY H9 Y23
  refine ar_iload rfl rfl ?_
  refine ar_icmp_ne rfl rfl (by omega) (by omega) (fun ht => by omega) (fun h28 => ?_)
  refine ar_aload_n rfl rfl ?_
  refine ar_cv0 rfl rfl rfl (Nat.le_of_ble_eq_true rfl) (cs_taxes (d := 0) I23.1) (by omega) (fun o q32 hq => am_B2_is ?_ hq)
  refine ar_if_lt rfl rfl (by omega) (fun ht => by omega) (fun h35 => ?_)
  refine ar_aload_n rfl rfl ?_
  refine ar_bipush (x := 13) rfl rfl ?_
  refine ar_iconst rfl ?_
  refine ar_iconst rfl ?_
  refine ar_iconst rfl ?_
  refine ar_iconst rfl ?_
  refine ar_iconst rfl ?_
  refine ar_iconst rfl ?_
  refine ar_cs8 rfl rfl (Nat.le_of_ble_eq_true rfl) (dx_stretch (d := 0) (R := -2000000) I23 F23 J (by omega) (by omega) (k := 2) (by { unfold kStr; rw [if_pos (by omega)] }) (by omega) rfl) (by omega) (fun o q47 hq => ?_)
  obtain ⟨rfl, I47, Y47, F47⟩ := hq
  have H47 := LA_CY H23 Y47
  refine ar_ldc (x := -2000000) rfl rfl ?_
  refine ar_icmp_ne rfl rfl (by omega) (by omega) (fun ht => by omega) (fun h52 => ?_)
  refine ar_iconst rfl ?_
  refine ar_goto rfl rfl ?_
  refine ar_stI5 rfl ?_
  refine ar_iload_n rfl rfl ?_
  refine ar_iconst rfl ?_
  refine ar_icmp_lt rfl rfl (by omega) (by omega) (fun h64 => ?_) (fun h64 => ?_)
  · refine ar_iload rfl rfl ?_
    refine ar_ldc (x := -2000000) rfl rfl ?_
    refine ar_icmp_ne rfl rfl (by omega) (by omega) (fun ht => by omega) (fun h77 => ?_)
    refine ar_iconst rfl ?_
    refine ar_goto rfl rfl ?_
    exact ar_iret rfl (Or.inr ⟨rfl, by first | omega | (split <;> omega)⟩) (⟨rfl, s, T, CI_le I47 (by omega), ⟨F47, J, H47, P⟩, S31_t (S31_CY Y9) (S31_t (S31_CY Y23) (S31_CY Y47)), rfl⟩)
  · refine ar_iload_n rfl rfl ?_
    refine ar_bipush (x := 9) rfl rfl ?_
    refine ar_icmp_le rfl rfl (by omega) (by omega) (fun ht => by omega) (fun h70 => ?_)
    refine ar_iload rfl rfl ?_
    refine ar_ldc (x := -2000000) rfl rfl ?_
    refine ar_icmp_ne rfl rfl (by omega) (by omega) (fun ht => by omega) (fun h77 => ?_)
    refine ar_iconst rfl ?_
    refine ar_goto rfl rfl ?_
    exact ar_iret rfl (Or.inr ⟨rfl, by first | omega | (split <;> omega)⟩) (⟨rfl, s, T, CI_le I47 (by omega), ⟨F47, J, H47, P⟩, S31_t (S31_CY Y9) (S31_t (S31_CY Y23) (S31_CY Y47)), rfl⟩)
theorem cs_isPrice1 {d : Nat} {q : am_A} {e : Nat} {s : am_Z} {T : am_LT} (I : am_CI e q s) (L : am_LS q s T) {p : Int} (bp : 0 ≤ p ∧ p ≤ 10) (h : 1 ≤ p ∧ p ≤ 9) (hm : (bestW (jrn s) p).1 = -1) : am_C2 (d + 22) m_L_isPrice [aR 8 0, aR 24 2, aR 24 5, aI (zI p)] q (am_LR 12 e q s) := by
  refine am_C2_i (ls := [some (aR 8 0), some (aR 24 2), some (aR 24 5), some (aI (zI p)), none, none, none, none, none, none]) rfl ?_
  obtain ⟨F, J, H, P⟩ := L
  have B := CV_B I.1
  have b20 := B.2.1 20 0 16 rfl
  have b33 := B.2.1 33 0 4 rfl
  have bt := taxes_b B
  obtain ⟨⟨p0, p1, p2, p3, p4, p5, p6⟩, pn, pm, pf, pb, px⟩ := id P
  obtain ⟨W, hW⟩ : ∃ W, bestW (jrn s) p = W := ⟨_, rfl⟩
  have hk : kMany p = 0 := if_pos h
  rw [hW] at hm
  refine ar_aload_n rfl rfl ?_
  refine ar_bipush (x := 11) rfl rfl ?_
  refine ar_iload_n rfl rfl ?_
  refine ar_iconst rfl ?_
  refine ar_iconst rfl ?_
  refine ar_iconst rfl ?_
  refine ar_iconst rfl ?_
  refine ar_iconst rfl ?_
  refine ar_cs8 rfl rfl (Nat.le_of_ble_eq_true rfl) (dz_price (d := 0) I F J (by omega) hk) (by omega) (fun o q9 hq => ?_)
  obtain ⟨rfl, I9, Y9, F9⟩ := hq
  have H9 := LA_CY H Y9
  rw [hW]
  refine ar_stI4 rfl ?_
  refine ar_aload_n rfl rfl ?_
  refine ar_bipush (x := 12) rfl rfl ?_
  refine ar_iload_n rfl rfl ?_
  refine ar_iconst rfl ?_
  refine ar_iconst rfl ?_
  refine ar_iconst rfl ?_
  refine ar_iconst rfl ?_
  refine ar_iconst rfl ?_
  refine ar_cs8 rfl rfl (Nat.le_of_ble_eq_true rfl) (dz_priceAnew (d := 0) I9 F9 J (by omega) hk) (by omega) (fun o q23 hq => ?_)
  obtain ⟨rfl, I23, Y23, F23⟩ := hq
  have H23 := LA_CY H9 Y23
  rw [hW]
  refine ar_iload rfl rfl ?_
  refine ar_icmp_ne rfl rfl (by omega) (by omega) (fun ht => by omega) (fun h28 => ?_)
  refine ar_aload_n rfl rfl ?_
  refine ar_cv0 rfl rfl rfl (Nat.le_of_ble_eq_true rfl) (cs_taxes (d := 0) I23.1) (by omega) (fun o q32 hq => am_B2_is ?_ hq)
  refine ar_if_lt rfl rfl (by omega) (fun ht => by omega) (fun h35 => ?_)
  refine ar_aload_n rfl rfl ?_
  refine ar_bipush (x := 13) rfl rfl ?_
  refine ar_iconst rfl ?_
  refine ar_iconst rfl ?_
  refine ar_iconst rfl ?_
  refine ar_iconst rfl ?_
  refine ar_iconst rfl ?_
  refine ar_iconst rfl ?_
  refine ar_cs8 rfl rfl (Nat.le_of_ble_eq_true rfl) (dx_stretch (d := 0) (R := -2000000) I23 F23 J (by omega) (by omega) (k := 2) (by { unfold kStr; rw [if_pos (by omega)] }) (by omega) rfl) (by omega) (fun o q47 hq => ?_)
  obtain ⟨rfl, I47, Y47, F47⟩ := hq
  have H47 := LA_CY H23 Y47
  refine ar_ldc (x := -2000000) rfl rfl ?_
  refine ar_icmp_ne rfl rfl (by omega) (by omega) (fun ht => by omega) (fun h52 => ?_)
  refine ar_iconst rfl ?_
  refine ar_goto rfl rfl ?_
  refine ar_stI5 rfl ?_
  refine ar_iload_n rfl rfl ?_
  refine ar_iconst rfl ?_
  refine ar_icmp_lt rfl rfl (by omega) (by omega) (fun ht => by omega) (fun h64 => ?_)
  refine ar_iload_n rfl rfl ?_
  refine ar_bipush (x := 9) rfl rfl ?_
  refine ar_icmp_le rfl rfl (by omega) (by omega) (fun h70 => ?_) (fun hf => by omega)
  refine ar_iconst rfl ?_
  refine ar_stI6 rfl ?_
  refine ar_iconst rfl ?_
  refine ar_stI7 rfl ?_
  refine ar_iconst rfl ?_
  refine ar_stI8 rfl ?_
  refine ar_iload rfl rfl ?_
  refine ar_if_lt rfl rfl (by omega) (fun h97 => ?_) (fun hf => by omega)
  refine ar_iload rfl rfl ?_
  refine ar_if_eq rfl rfl (by omega) (fun ht => by omega) (fun h207 => ?_)
  refine ar_aload_n rfl rfl ?_
  refine ar_bipush (x := 13) rfl rfl ?_
  refine ar_iload_n rfl rfl ?_
  refine ar_iload rfl rfl ?_
  refine ar_iconst rfl ?_
  refine ar_iconst rfl ?_
  refine ar_iconst rfl ?_
  refine ar_iconst rfl ?_
  refine ar_cs8 rfl rfl (Nat.le_of_ble_eq_true rfl) (dx_stretch (d := 0) (R := -3000000) I47 F47 J (by omega) (by omega) (k := 1) (by { unfold kStr; rw [hW, if_neg (by omega), if_neg (fun z => z.1 hm)] }) (by omega) rfl) (by omega) (fun o q220 hq => ?_)
  obtain ⟨rfl, I220, Y220, F220⟩ := hq
  have H220 := LA_CY H47 Y220
  refine ar_ldc (x := -3000000) rfl rfl ?_
  refine ar_icmp_ne rfl rfl (by omega) (by omega) (fun ht => by omega) (fun h225 => ?_)
  refine ar_iload rfl rfl ?_
  refine ar_iconst rfl ?_
  refine ar_icmp_eq rfl rfl (by omega) (by omega) (fun h231 => ?_) (fun hf => by omega)
  refine ar_aload_n rfl rfl ?_
  refine ar_iconst rfl ?_
  refine ar_ial24 (n := 7) rfl H220 (by omega) rfl (by omega) ?_
  refine ar_if_gt rfl rfl (by omega) (fun h257 => ?_) (fun h257 => ?_)
  · refine ar_iconst rfl ?_
    refine ar_goto rfl rfl ?_
    exact ar_iret rfl (Or.inr ⟨rfl, by first | omega | (split <;> omega)⟩) (⟨rfl, s, T, CI_le I220 (by omega), ⟨F220, J, H220, P⟩, S31_t (S31_CY Y9) (S31_t (S31_CY Y23) (S31_t (S31_CY Y47) (S31_CY Y220))), rfl⟩)
  · refine ar_iload rfl rfl ?_
    refine ar_iconst rfl ?_
    refine ar_icmp_ne rfl rfl (by omega) (by omega) (fun ht => by omega) (fun h263 => ?_)
    refine ar_iconst rfl ?_
    refine ar_goto rfl rfl ?_
    exact ar_iret rfl (Or.inr ⟨rfl, by first | omega | (split <;> omega)⟩) (⟨rfl, s, T, CI_le I220 (by omega), ⟨F220, J, H220, P⟩, S31_t (S31_CY Y9) (S31_t (S31_CY Y23) (S31_t (S31_CY Y47) (S31_CY Y220))), rfl⟩)
theorem price_len {s : am_Z} (B : in_S s) {p : Int} {W : am_wQ} (hW : bestW (jrn s) p = W) (hm : W.1 ≠ -1) : W.2.length ≤ 4 := by
  obtain ⟨w1, w2, w3, w4, w5⟩ := price_W B hW hm
  have b33 := B.2.1 33 0 4 rfl
  have z : ∀ j : Nat, j ≤ W.2.length → (j : Int) ≤ sumI 0 j (fun k => pC W.2 k.toNat) := fun j => by
    induction j with
    | zero => intro _; exact Int.le_refl _
    | succ j ih =>
      intro hj
      have := ih (by omega)
      have c := (w5 j (by omega)).2.1
      rw [pC_s]
      omega
  have := z W.2.length (Nat.le_refl _)
  omega
theorem lp_ip {d : Nat} {q : am_A} {Q : am_O → am_A → Prop} {s : am_Z} {T : am_LT} {p : Int} {W : am_wQ} (J : am_JJ s) (P : am_PL s T) (h : 1 ≤ p ∧ p ≤ 9) (hW : bestW (jrn s) p = W) (hne : W.1 ≠ -1) : ∀ (m : Nat) (e : Nat) (j : Nat) (n lg sm : Int) (q1 : am_A) (x9 : Option am_V), 5 - j < m → ((n = j ∧ j ≤ W.2.length ∧ lg = sumI 0 j (fun k => pC W.2 k.toNat) ∧ sm = sumI 0 j (fun k => rA s 25 (pF W.2 k.toNat))) ∧ am_CI (e + j) q1 s ∧ am_DFh q1 ∧ am_LA q1 T ∧ am_S31 q q1) → (∀ x9 q1, am_CI (e + 4) q1 s → am_DFh q1 → am_LA q1 T → am_S31 q q1 → am_W2 (d + 22) m_L_isPrice 205 [some (aR 8 0), some (aR 24 2), some (aR 24 5), some (aI (zI p)), some (aI (zI W.1)), some (aI (zI 1)), some (aI (zI (rI s 33))), some (aI (zI W.1)), some (aI (zI (W.2.length : Int))), x9] [] (q1) Q) → am_W2 (d + 22) m_L_isPrice 95 [some (aR 8 0), some (aR 24 2), some (aR 24 5), some (aI (zI p)), some (aI (zI W.1)), some (aI (zI 1)), some (aI (zI lg)), some (aI (zI sm)), some (aI (zI n)), x9] [] (q1) Q := by
  intro m
  induction m with
  | zero => intro e j n lg sm q1 x9 hm; exact absurd hm (Nat.not_lt_zero _)
  | succ m ih =>
    intro e j n lg sm q1 x9 hm ⟨⟨hj, hj2, hl, hs⟩, hI, hF, hH, hS⟩ K
    subst hj
    subst hl
    subst hs
    have B := CV_B hI.1
    have b20 := B.2.1 20 0 16 rfl
    have b33 := B.2.1 33 0 4 rfl
    obtain ⟨w1, w2, w3, w4, w5⟩ := price_W B hW hne
    have y4 : W.2.length ≤ 4 := price_len B hW hne
    obtain ⟨⟨p0, p1, p2, p3, p4, p5, p6⟩, pn, pm, pf, pb, px⟩ := id P
    have hfin : ¬ j < W.2.length → sumI 0 j (fun k => pC W.2 k.toNat) = rI s 33 ∧ sumI 0 j (fun k => rA s 25 (pF W.2 k.toNat)) = W.1 := fun z => by { have e1 : j = W.2.length := (by omega); rw [e1]; exact ⟨w4, w3.symm⟩ }
    have bsp : -1 ≤ sumI 0 j (fun k => pC W.2 k.toNat) ∧ sumI 0 j (fun k => pC W.2 k.toNat) ≤ 4 := by
      by_cases z : j < W.2.length
      · have := w5 j z
        omega
      · have := hfin z
        omega
    have bW : W.1 ≤ 20000 := by { have z := sumI_b (a := 0) (n := W.2.length) (f := fun k => rA s 25 (pF W.2 k.toNat)) (M := 5000) (fun k => B.1 25 _ 0 5000 rfl); have y : W.2.length ≤ 4 := price_len B hW hne; omega }
    refine ar_iload rfl rfl ?_
    refine ar_if_lt rfl rfl (by omega) (fun ht => by omega) (fun h97 => ?_)
    refine ar_iload rfl rfl ?_
    refine ar_aload_n rfl rfl ?_
    refine ar_iconst rfl ?_
    refine ar_ial24 (n := 7) rfl hH (by omega) rfl (by omega) ?_
    refine ar_icmp_ge rfl rfl (by omega) (by omega) (fun h105 => ?_) (fun h105 => ?_)
    · have ej : j = W.2.length := by
        by_cases z : j < W.2.length
        · have := w5 j z
          omega
        · omega
      obtain ⟨f1, f2⟩ := hfin (by omega)
      have y : W.2.length ≤ 4 := price_len B hW hne
      rw [f1, f2, ej]
      exact K _ _ (CI_le hI (by omega)) hF hH hS
    · refine ar_iload rfl rfl ?_
      refine ar_if_eq rfl rfl (by omega) (fun ht => by omega) (fun h110 => ?_)
      refine ar_aload_n rfl rfl ?_
      refine ar_bipush (x := 13) rfl rfl ?_
      refine ar_iload_n rfl rfl ?_
      refine ar_iload rfl rfl ?_
      refine ar_iconst rfl ?_
      refine ar_iconst rfl ?_
      refine ar_iconst rfl ?_
      refine ar_iconst rfl ?_
      refine ar_cs8 rfl rfl (Nat.le_of_ble_eq_true rfl) (dz_stretch (d := 0) hI hF J (by omega) (by omega) (by { unfold kStr; rw [hW, if_neg (by omega), if_pos ⟨hne, by omega, by omega⟩] })) (by omega) (fun o q123 hq => ?_)
      obtain ⟨rfl, I123, Y123, F123⟩ := hq
      have H123 := LA_CY hH Y123
      rw [hW, Int.toNat_natCast]
      have c1 := w5 j (by omega)
      generalize ef : pF W.2 j = F at c1 ⊢
      generalize ec : pC W.2 j = C at c1 ⊢
      refine ar_stI9 rfl ?_
      refine ar_iload rfl rfl ?_
      refine ar_if_lt rfl rfl (by omega) (fun ht => by omega) (fun h130 => ?_)
      refine ar_iload rfl rfl ?_
      refine ar_bipush (x := 10) rfl rfl ?_
      refine ar_idiv rfl (by omega) (by omega) ?_
      refine ar_aload_n rfl rfl ?_
      refine ar_iconst rfl ?_
      refine ar_ial24 (n := 7) rfl H123 (by omega) rfl (by omega) ?_
      refine ar_icmp_ge rfl rfl (by omega) (by omega) (fun ht => by omega) (fun h141 => ?_)
      refine ar_iload rfl rfl ?_
      refine ar_bipush (x := 10) rfl rfl ?_
      refine ar_irem rfl (by omega) (by omega) ?_
      refine ar_if_le rfl rfl (by omega) (fun ht => by omega) (fun h149 => ?_)
      refine ar_iconst rfl ?_
      refine ar_goto rfl rfl ?_
      refine ar_stI5 rfl ?_
      refine ar_iload rfl rfl ?_
      refine ar_iload rfl rfl ?_
      refine ar_if_eq rfl rfl (by omega) (fun ht => by omega) (fun h163 => ?_)
      refine ar_aload_n rfl rfl ?_
      refine ar_iload rfl rfl ?_
      refine ar_bipush (x := 10) rfl rfl ?_
      refine ar_idiv rfl (by omega) (by omega) ?_
      refine ar_ial24 (n := 16) rfl H123 (by omega) rfl (by omega) ?_
      rw [show (10 * F + C) / 10 = F by omega]
      refine ar_goto rfl rfl ?_
      refine ar_iadd rfl ?_
      refine ar_stI7 rfl ?_
      refine ar_iload rfl rfl ?_
      refine ar_iload rfl rfl ?_
      refine ar_if_eq rfl rfl (by omega) (fun ht => by omega) (fun h184 => ?_)
      refine ar_iload rfl rfl ?_
      refine ar_bipush (x := 10) rfl rfl ?_
      refine ar_irem rfl (by omega) (by omega) ?_
      refine ar_goto rfl rfl ?_
      refine ar_iadd rfl ?_
      refine ar_stI6 rfl ?_
      refine ar_inc8 rfl ?_
      refine ar_goto rfl rfl ?_
      refine ih e (j + 1) _ _ _ _ _ (by omega) ⟨⟨by omega, by omega, by rw [pC_s, ec]; omega, by rw [pA_s, ef, pf F c1.1.1 c1.1.2]⟩, CI_le I123 (by omega), F123, H123, S31_t hS (S31_CY Y123)⟩ K
theorem cs_isPrice2 {d : Nat} {q : am_A} {e : Nat} {s : am_Z} {T : am_LT} (I : am_CI e q s) (L : am_LS q s T) {p : Int} (bp : 0 ≤ p ∧ p ≤ 10) (h : 1 ≤ p ∧ p ≤ 9) (hm : (bestW (jrn s) p).1 ≠ -1) : am_C2 (d + 22) m_L_isPrice [aR 8 0, aR 24 2, aR 24 5, aI (zI p)] q (am_LR 12 e q s) := by
  refine am_C2_i (ls := [some (aR 8 0), some (aR 24 2), some (aR 24 5), some (aI (zI p)), none, none, none, none, none, none]) rfl ?_
  obtain ⟨F, J, H, P⟩ := L
  have B := CV_B I.1
  have b20 := B.2.1 20 0 16 rfl
  have b33 := B.2.1 33 0 4 rfl
  have bt := taxes_b B
  obtain ⟨⟨p0, p1, p2, p3, p4, p5, p6⟩, pn, pm, pf, pb, px⟩ := id P
  obtain ⟨W, hW⟩ : ∃ W, bestW (jrn s) p = W := ⟨_, rfl⟩
  have hk : kMany p = 0 := if_pos h
  rw [hW] at hm
  obtain ⟨w1, w2, w3, w4, w5⟩ := price_W B hW hm
  have y4 : W.2.length ≤ 4 := price_len B hW hm
  have bW : W.1 ≤ 20000 := by { have z := sumI_b (a := 0) (n := W.2.length) (f := fun k => rA s 25 (pF W.2 k.toNat)) (M := 5000) (fun k => B.1 25 _ 0 5000 rfl); omega }
  refine ar_aload_n rfl rfl ?_
  refine ar_bipush (x := 11) rfl rfl ?_
  refine ar_iload_n rfl rfl ?_
  refine ar_iconst rfl ?_
  refine ar_iconst rfl ?_
  refine ar_iconst rfl ?_
  refine ar_iconst rfl ?_
  refine ar_iconst rfl ?_
  refine ar_cs8 rfl rfl (Nat.le_of_ble_eq_true rfl) (dz_price (d := 0) I F J (by omega) hk) (by omega) (fun o q9 hq => ?_)
  obtain ⟨rfl, I9, Y9, F9⟩ := hq
  have H9 := LA_CY H Y9
  rw [hW]
  refine ar_stI4 rfl ?_
  refine ar_aload_n rfl rfl ?_
  refine ar_bipush (x := 12) rfl rfl ?_
  refine ar_iload_n rfl rfl ?_
  refine ar_iconst rfl ?_
  refine ar_iconst rfl ?_
  refine ar_iconst rfl ?_
  refine ar_iconst rfl ?_
  refine ar_iconst rfl ?_
  refine ar_cs8 rfl rfl (Nat.le_of_ble_eq_true rfl) (dz_priceAnew (d := 0) I9 F9 J (by omega) hk) (by omega) (fun o q23 hq => ?_)
  obtain ⟨rfl, I23, Y23, F23⟩ := hq
  have H23 := LA_CY H9 Y23
  rw [hW]
  refine ar_iload rfl rfl ?_
  refine ar_icmp_ne rfl rfl (by omega) (by omega) (fun ht => by omega) (fun h28 => ?_)
  refine ar_aload_n rfl rfl ?_
  refine ar_cv0 rfl rfl rfl (Nat.le_of_ble_eq_true rfl) (cs_taxes (d := 0) I23.1) (by omega) (fun o q32 hq => am_B2_is ?_ hq)
  refine ar_if_lt rfl rfl (by omega) (fun ht => by omega) (fun h35 => ?_)
  refine ar_aload_n rfl rfl ?_
  refine ar_bipush (x := 13) rfl rfl ?_
  refine ar_iconst rfl ?_
  refine ar_iconst rfl ?_
  refine ar_iconst rfl ?_
  refine ar_iconst rfl ?_
  refine ar_iconst rfl ?_
  refine ar_iconst rfl ?_
  refine ar_cs8 rfl rfl (Nat.le_of_ble_eq_true rfl) (dx_stretch (d := 0) (R := -2000000) I23 F23 J (by omega) (by omega) (k := 2) (by { unfold kStr; rw [if_pos (by omega)] }) (by omega) rfl) (by omega) (fun o q47 hq => ?_)
  obtain ⟨rfl, I47, Y47, F47⟩ := hq
  have H47 := LA_CY H23 Y47
  refine ar_ldc (x := -2000000) rfl rfl ?_
  refine ar_icmp_ne rfl rfl (by omega) (by omega) (fun ht => by omega) (fun h52 => ?_)
  refine ar_iconst rfl ?_
  refine ar_goto rfl rfl ?_
  refine ar_stI5 rfl ?_
  refine ar_iload_n rfl rfl ?_
  refine ar_iconst rfl ?_
  refine ar_icmp_lt rfl rfl (by omega) (by omega) (fun ht => by omega) (fun h64 => ?_)
  refine ar_iload_n rfl rfl ?_
  refine ar_bipush (x := 9) rfl rfl ?_
  refine ar_icmp_le rfl rfl (by omega) (by omega) (fun h70 => ?_) (fun hf => by omega)
  refine ar_iconst rfl ?_
  refine ar_stI6 rfl ?_
  refine ar_iconst rfl ?_
  refine ar_stI7 rfl ?_
  refine ar_iconst rfl ?_
  refine ar_stI8 rfl ?_
  refine lp_ip (d := d) (q := q47) (s := s) (T := T) (p := p) (W := W) J P h hW hm 1000 (e + 1 + 1 + 1) 0 0 0 0 q47 _ (by omega) ⟨⟨rfl, by omega, rfl, rfl⟩, CI_le I47 (by omega), F47, H47, S31_r⟩ (fun x9 q2 I2 F2 H2 S2 => ?_)
  refine ar_iload rfl rfl ?_
  refine ar_if_eq rfl rfl (by omega) (fun ht => by omega) (fun h207 => ?_)
  refine ar_aload_n rfl rfl ?_
  refine ar_bipush (x := 13) rfl rfl ?_
  refine ar_iload_n rfl rfl ?_
  refine ar_iload rfl rfl ?_
  refine ar_iconst rfl ?_
  refine ar_iconst rfl ?_
  refine ar_iconst rfl ?_
  refine ar_iconst rfl ?_
  refine ar_cs8 rfl rfl (Nat.le_of_ble_eq_true rfl) (dx_stretch (d := 0) (R := -3000000) I2 F2 J (by omega) (by omega) (k := 1) (by { unfold kStr; rw [hW, if_neg (by omega), if_neg (fun z => by omega)] }) (by omega) rfl) (by omega) (fun o q220 hq => ?_)
  obtain ⟨rfl, I220, Y220, F220⟩ := hq
  have H220 := LA_CY H2 Y220
  refine ar_ldc (x := -3000000) rfl rfl ?_
  refine ar_icmp_ne rfl rfl (by omega) (by omega) (fun ht => by omega) (fun h225 => ?_)
  refine ar_iload rfl rfl ?_
  refine ar_iconst rfl ?_
  refine ar_icmp_eq rfl rfl (by omega) (by omega) (fun ht => by omega) (fun h231 => ?_)
  refine ar_iload rfl rfl ?_
  refine ar_iload rfl rfl ?_
  refine ar_icmp_ne rfl rfl (by omega) (by omega) (fun ht => by omega) (fun h238 => ?_)
  refine ar_iload rfl rfl ?_
  refine ar_aload_n rfl rfl ?_
  refine ar_iconst rfl ?_
  refine ar_ial24 (n := 7) rfl H220 (by omega) rfl (by omega) ?_
  refine ar_icmp_ne rfl rfl (by omega) (by omega) (fun ht => by omega) (fun h246 => ?_)
  refine ar_iload rfl rfl ?_
  refine ar_if_le rfl rfl (by omega) (fun ht => by omega) (fun h251 => ?_)
  refine ar_aload_n rfl rfl ?_
  refine ar_iconst rfl ?_
  refine ar_ial24 (n := 7) rfl H220 (by omega) rfl (by omega) ?_
  refine ar_if_gt rfl rfl (by omega) (fun h257 => ?_) (fun hf => by omega)
  refine ar_iconst rfl ?_
  refine ar_goto rfl rfl ?_
  exact ar_iret rfl (Or.inr ⟨rfl, by first | omega | (split <;> omega)⟩) (⟨rfl, s, T, CI_le I220 (by omega), ⟨F220, J, H220, P⟩, S31_t (S31_CY Y9) (S31_t (S31_CY Y23) (S31_t (S31_CY Y47) (S31_t S2 (S31_CY Y220)))), rfl⟩)
theorem cs_isPrice {d : Nat} {q : am_A} {e : Nat} {s : am_Z} {T : am_LT} (I : am_CI e q s) (L : am_LS q s T) {p : Int} (bp : 0 ≤ p ∧ p ≤ 10) : am_C2 (d + 22) m_L_isPrice [aR 8 0, aR 24 2, aR 24 5, aI (zI p)] q (am_LR 12 e q s) := by
  by_cases h : 1 ≤ p ∧ p ≤ 9
  · by_cases hm : (bestW (jrn s) p).1 = -1
    · exact cs_isPrice1 (d := d) I L bp h hm
    · exact cs_isPrice2 (d := d) I L bp h hm
  · exact cs_isPrice0 (d := d) I L bp h
end

noncomputable section
/-- pricing has begun: a journey of n legs f (a list of legs r), p persons; am is the best sum so far -/
def am_PB (q : am_A) (s : am_Z) (r : am_R) (n : Int) (f : Int → Int) (p am : Int) : Prop := (am_kc r.1 = some 10 ∧ r.1 ≠ 30 ∧ r.2 < qCN q r.1) ∧ (am_LL q s r n f ∧ 0 ≤ n ∧ n ≤ 4) ∧ (qFR q 605 (6, 0) = some (1803, 0) ∧ qFR q 606 (6, 0) = some r ∧ qFI q 607 (6, 0) = p ∧ qFI q 608 (6, 0) = rI s 0 ∧ qFI q 609 (6, 0) = am) ∧ (1 ≤ p ∧ p ≤ 9) ∧ (-1 ≤ am ∧ am ≤ 20000) ∧ (∀ i b : Int, 0 ≤ i → i < n → 0 ≤ b → b < 4 → qAI q (1600, 0) (4 * i + b).toNat = openS s (f i) b) ∧ (r.1 ≠ 1601 ∧ r.1 ≠ 1603)
abbrev chpP (am x : Int) : Prop := am = -1 ∨ x < am
theorem cs_isCheaper {d : Nat} {q : am_A} {s : am_Z} (V : am_CV q s) {t i : Nat} {n p am : Int} {f : Int → Int} (H : am_PB q s (t, i) n f p am) {x : Int} (bx : in32 x) : am_C2 d m_Pr_isCheaper [aR 6 0, aI (zI x)] q (am_is2 (aI (zI (if chpP am x then 1 else 0))) q) := by
  refine am_C2_i (ls := [some (aR 6 0), some (aI (zI x))]) rfl ?_
  obtain ⟨⟨hk, h30, hn⟩, ⟨L, n0, n4⟩, ⟨r605, r606, r607, r608, r610⟩, bp, bam, hop, hr16⟩ := H
  have B := CV_B V
  refine ar_aload_n rfl rfl ?_
  refine ar_gfIv rfl rfl rfl (by omega) (r610) ?_
  refine ar_iconst rfl ?_
  refine ar_icmp_eq rfl rfl (by omega) (by omega) (fun h5 => ?_) (fun h5 => ?_)
  · refine ar_iconst rfl ?_
    refine ar_goto rfl rfl ?_
    exact ar_iret rfl (Or.inr ⟨rfl, by first | omega | (split <;> omega)⟩) (cq_eB (by first | omega | (split <;> omega) | simp_all))
  · refine ar_iload_n rfl rfl ?_
    refine ar_aload_n rfl rfl ?_
    refine ar_gfIv rfl rfl rfl (by omega) (r610) ?_
    refine ar_icmp_ge rfl rfl (by omega) (by omega) (fun h13 => ?_) (fun h13 => ?_)
    · refine ar_iconst rfl ?_
      exact ar_iret rfl (Or.inr ⟨rfl, by first | omega | (split <;> omega)⟩) (cq_eB (by first | omega | (split <;> omega) | simp_all))
    · refine ar_iconst rfl ?_
      refine ar_goto rfl rfl ?_
      exact ar_iret rfl (Or.inr ⟨rfl, by first | omega | (split <;> omega)⟩) (cq_eB (by first | omega | (split <;> omega) | simp_all))
theorem cs_endsAhead {d : Nat} {q : am_A} {s : am_Z} (V : am_CV q s) {t i : Nat} {n p am : Int} {f : Int → Int} (H : am_PB q s (t, i) n f p am) {fa : Nat} (hfa : (fa : Int) < rI s 20) {k : Int} (bk : 0 ≤ k ∧ k ≤ 8) : am_C2 (d + 3) m_Pr_endsAhead [aR 6 0, aR 3 fa, aI (zI k)] q (am_is2 (aI (zI (if (1 ≤ k ∧ k ≤ n) ∧ rA s 23 fa = rA s 6 (f (k - 1) / 100) then 1 else 0))) q) := by
  refine am_C2_i (ls := [some (aR 6 0), some (aR 3 fa), some (aI (zI k))]) rfl ?_
  obtain ⟨⟨hk, h30, hn⟩, ⟨L, n0, n4⟩, ⟨r605, r606, r607, r608, r610⟩, bp, bam, hop, hr16⟩ := H
  have B := CV_B V
  have hA := (V.2.2.2.2.1.2.2 fa hfa).1
  have b20 := B.2.1 20 0 16 rfl
  have b23 := B.1 23 fa 0 5 rfl
  have b6 := B.1 6 (f (k - 1) / 100) 0 5 rfl
  refine ar_iload_n rfl rfl ?_
  refine ar_if_le rfl rfl (by omega) (fun h1 => ?_) (fun h1 => ?_)
  · refine ar_iconst rfl ?_
    exact ar_iret rfl (Or.inr ⟨rfl, by first | omega | (split <;> omega)⟩) (cq_eB (by first | omega | (split <;> omega) | simp_all))
  · refine ar_iload_n rfl rfl ?_
    refine ar_aload_n rfl rfl ?_
    refine ar_gfR rfl rfl rfl (by omega) (r606) ?_
    refine ar_cv0 rfl hk rfl (Nat.le_of_ble_eq_true rfl) (cl_szL (d := 0) hk h30 hn L) (by omega) (fun o q9 hq => am_B2_is ?_ hq)
    refine ar_icmp_gt rfl rfl (by omega) (by omega) (fun h14 => ?_) (fun h14 => ?_)
    · refine ar_iconst rfl ?_
      exact ar_iret rfl (Or.inr ⟨rfl, by first | omega | (split <;> omega)⟩) (cq_eB (by first | omega | (split <;> omega) | simp_all))
    · refine ar_aload_n rfl rfl ?_
      refine ar_gfIv rfl rfl rfl (by omega) (hA 303 23 rfl) ?_
      refine ar_aload_n rfl rfl ?_
      refine ar_gfR rfl rfl rfl (by omega) (r606) ?_
      refine ar_iload_n rfl rfl ?_
      refine ar_iconst rfl ?_
      refine ar_isub rfl ?_
      have hL := (L.2 (k - 1).toNat (by omega)).2
      rw [show (((k - 1).toNat : Nat) : Int) = k - 1 by omega] at hL
      have hL1 := hL.1
      have hL2 := hL.2.1
      have hg := V.2.2.2.1.1 _ hL
      have b3 := B.2.1 3 0 12 rfl
      have hF := V.2.2.1.2.2.1 (f (k - 1) / 100).toNat (by omega)
      have el : (((f (k - 1) / 100).toNat : Nat) : Int) = f (k - 1) / 100 := by omega
      refine ar_cv1 rfl hk rfl (Nat.le_of_ble_eq_true rfl) (cl_getL (d := 0) hk h30 hn L (by omega)) (by omega) (fun o q28 hq => am_B2_is ?_ hq)
      refine ar_cast rfl rfl rfl ?_
      refine ar_gfR rfl rfl rfl (by omega) (hg.2.2.1) ?_
      refine ar_gfIv rfl rfl rfl (by omega) ((hF.1 403 6 rfl).trans (by rw [el])) ?_
      refine ar_icmp_ne rfl rfl (by omega) (by omega) (fun h42 => ?_) (fun h42 => ?_)
      · refine ar_iconst rfl ?_
        exact ar_iret rfl (Or.inr ⟨rfl, by first | omega | (split <;> omega)⟩) (cq_eB (by first | omega | (split <;> omega) | simp_all))
      · refine ar_iconst rfl ?_
        refine ar_goto rfl rfl ?_
        exact ar_iret rfl (Or.inr ⟨rfl, by first | omega | (split <;> omega)⟩) (cq_eB (by first | omega | (split <;> omega) | simp_all))
theorem cs_isNear {d : Nat} {q : am_A} {s : am_Z} (V : am_CV q s) {t i : Nat} {n p am : Int} {f : Int → Int} (H : am_PB q s (t, i) n f p am) {k : Int} (bk : 0 ≤ k ∧ k ≤ 8) : am_C2 (d + 4) m_Pr_isNear [aR 6 0, aI (zI k)] q (am_is2 (aI (zI (if (1 ≤ k ∧ k < n) ∧ dep s (f k) - arv s (f (k - 1)) < 24 then 1 else 0))) q) := by
  refine am_C2_i (ls := [some (aR 6 0), some (aI (zI k))]) rfl ?_
  obtain ⟨⟨hk, h30, hn⟩, ⟨L, n0, n4⟩, ⟨r605, r606, r607, r608, r610⟩, bp, bam, hop, hr16⟩ := H
  have B := CV_B V
  have hh := hAh_b B L k
  have eh : hAh s n f k = if 1 ≤ k ∧ k < n then dep s (f k) - arv s (f (k - 1)) else 0 := rfl
  refine ar_iload_n rfl rfl ?_
  refine ar_if_le rfl rfl (by omega) (fun h1 => ?_) (fun h1 => ?_)
  · refine ar_iconst rfl ?_
    exact ar_iret rfl (Or.inr ⟨rfl, by first | omega | (split <;> omega)⟩) (cq_eB (by first | omega | (split <;> omega) | simp_all))
  · refine ar_iload_n rfl rfl ?_
    refine ar_aload_n rfl rfl ?_
    refine ar_gfR rfl rfl rfl (by omega) (r606) ?_
    refine ar_cv0 rfl hk rfl (Nat.le_of_ble_eq_true rfl) (cl_szL (d := 0) hk h30 hn L) (by omega) (fun o q9 hq => am_B2_is ?_ hq)
    refine ar_icmp_ge rfl rfl (by omega) (by omega) (fun h14 => ?_) (fun h14 => ?_)
    · refine ar_iconst rfl ?_
      exact ar_iret rfl (Or.inr ⟨rfl, by first | omega | (split <;> omega)⟩) (cq_eB (by first | omega | (split <;> omega) | simp_all))
    · refine ar_aload_n rfl rfl ?_
      refine ar_gfR rfl rfl rfl (by omega) (r606) ?_
      refine ar_iload_n rfl rfl ?_
      rw [if_pos ⟨by omega, by omega⟩] at eh
      refine ar_cs2 rfl rfl (Nat.le_of_ble_eq_true rfl) (cs_hoursAhead (d := 0) V hk h30 hn L ⟨n0, n4⟩ (by omega)) (by omega) (fun o q22 hq => am_B2_is ?_ hq)
      refine ar_bipush (x := 24) rfl rfl ?_
      refine ar_icmp_ge rfl rfl (by omega) (by omega) (fun h27 => ?_) (fun h27 => ?_)
      · refine ar_iconst rfl ?_
        exact ar_iret rfl (Or.inr ⟨rfl, by first | omega | (split <;> omega)⟩) (cq_eB (by first | omega | (split <;> omega) | simp_all))
      · refine ar_iconst rfl ?_
        refine ar_goto rfl rfl ?_
        exact ar_iret rfl (Or.inr ⟨rfl, by first | omega | (split <;> omega)⟩) (cq_eB (by first | omega | (split <;> omega) | simp_all))
theorem cs_takes {d : Nat} {q : am_A} {s : am_Z} (V : am_CV q s) {t i : Nat} {n p am : Int} {f : Int → Int} (H : am_PB q s (t, i) n f p am) {fa : Nat} (hfa : (fa : Int) < rI s 20) {k : Int} (bk : 0 ≤ k ∧ k ≤ 4) : am_C2 (d + 3) m_Pr_takes [aR 6 0, aR 3 fa, aI (zI k)] q (am_is2 (aI (zI (if k < n ∧ (rA s 21 fa = -1 ∨ rA s 4 (f k / 100) = rA s 21 fa) ∧ p ≤ openS s (f k) (rA s 24 fa) then 1 else 0))) q) := by
  refine am_C2_i (ls := [some (aR 6 0), some (aR 3 fa), some (aI (zI k)), none]) rfl ?_
  obtain ⟨⟨hk, h30, hn⟩, ⟨L, n0, n4⟩, ⟨r605, r606, r607, r608, r610⟩, bp, bam, hop, hr16⟩ := H
  have B := CV_B V
  have hA := (V.2.2.2.2.1.2.2 fa hfa).1
  have b20 := B.2.1 20 0 16 rfl
  have b21 := B.1 21 fa (-1) 2 rfl
  have b24 := B.1 24 fa 0 3 rfl
  have b4 := B.1 4 (f k / 100) 0 2 rfl
  have bo := openS_b B (f k) (rA s 24 fa)
  have hpr : qFR q 600 (6, 0) = some (1600, 0) := V.1.2.1 600 _ rfl
  have hal : qAL q (1600, 0) = 16 := V.1.2.2.1 1600 16 rfl
  refine ar_iload_n rfl rfl ?_
  refine ar_iconst rfl ?_
  refine ar_imul rfl ?_
  refine ar_aload_n rfl rfl ?_
  refine ar_gfIv rfl rfl rfl (by omega) (hA 304 24 rfl) ?_
  refine ar_iadd rfl ?_
  refine ar_stI3 rfl ?_
  refine ar_iload_n rfl rfl ?_
  refine ar_if_lt rfl rfl (by omega) (fun ht => by omega) (fun h10 => ?_)
  refine ar_iload_n rfl rfl ?_
  refine ar_aload_n rfl rfl ?_
  refine ar_gfR rfl rfl rfl (by omega) (r606) ?_
  refine ar_cv0 rfl hk rfl (Nat.le_of_ble_eq_true rfl) (cl_szL (d := 0) hk h30 hn L) (by omega) (fun o q18 hq => am_B2_is ?_ hq)
  refine ar_icmp_ge rfl rfl (by omega) (by omega) (fun h23 => ?_) (fun h23 => ?_)
  · refine ar_iconst rfl ?_
    exact ar_iret rfl (Or.inr ⟨rfl, by first | omega | (split <;> omega)⟩) (cq_eB (by first | omega | (split <;> omega) | simp_all))
  · refine ar_iload_n rfl rfl ?_
    refine ar_if_lt rfl rfl (by omega) (fun h27 => ?_) (fun h27 => ?_)
    · refine ar_iconst rfl ?_
      exact ar_iret rfl (Or.inr ⟨rfl, by first | omega | (split <;> omega)⟩) (cq_eB (by first | omega | (split <;> omega) | simp_all))
    · refine ar_iload_n rfl rfl ?_
      refine ar_aload_n rfl rfl ?_
      refine ar_gfR rfl rfl rfl (by omega) (hpr) ?_
      refine ar_alen rfl rfl (by omega) ?_
      refine ar_icmp_lt rfl rfl (by omega) (by omega) (fun h36 => ?_) (fun h36 => ?_)
      · have hL := (L.2 (k).toNat (by omega)).2
        rw [show (((k).toNat : Nat) : Int) = k by omega] at hL
        have hL1 := hL.1
        have hL2 := hL.2.1
        have hg := V.2.2.2.1.1 _ hL
        have b3 := B.2.1 3 0 12 rfl
        have hF := V.2.2.1.2.2.1 (f (k) / 100).toNat (by omega)
        have el : (((f (k) / 100).toNat : Nat) : Int) = f (k) / 100 := by omega
        refine ar_aload_n rfl rfl ?_
        refine ar_gfIv rfl rfl rfl (by omega) (hA 301 21 rfl) ?_
        refine ar_iconst rfl ?_
        refine ar_icmp_eq rfl rfl (by omega) (by omega) (fun h46 => ?_) (fun h46 => ?_)
        · refine ar_aload_n rfl rfl ?_
          refine ar_gfR rfl rfl rfl (by omega) (hpr) ?_
          refine ar_iload_n rfl rfl ?_
          refine ar_ia rfl rfl (V.1.2.2.1 1600 16 rfl) (by omega) (by omega) ?_
          rw [show qAI q (1600, 0) (k * 4 + rA s 24 fa).toNat = openS s (f k) (rA s 24 fa) from (by rw [show k * 4 + rA s 24 fa = 4 * k + rA s 24 fa by omega]; exact hop k _ (by omega) (by omega) (by omega) (by omega))]
          refine ar_aload_n rfl rfl ?_
          refine ar_gfIv rfl rfl rfl (by omega) (r607) ?_
          refine ar_icmp_lt rfl rfl (by omega) (by omega) (fun h85 => ?_) (fun h85 => ?_)
          · refine ar_iconst rfl ?_
            exact ar_iret rfl (Or.inr ⟨rfl, by first | omega | (split <;> omega)⟩) (cq_eB (by first | omega | (split <;> omega) | simp_all))
          · refine ar_iconst rfl ?_
            refine ar_goto rfl rfl ?_
            exact ar_iret rfl (Or.inr ⟨rfl, by first | omega | (split <;> omega)⟩) (cq_eB (by first | omega | (split <;> omega) | simp_all))
        · refine ar_aload_n rfl rfl ?_
          refine ar_gfIv rfl rfl rfl (by omega) (hA 301 21 rfl) ?_
          refine ar_aload_n rfl rfl ?_
          refine ar_gfR rfl rfl rfl (by omega) (r606) ?_
          refine ar_iload_n rfl rfl ?_
          refine ar_cv1 rfl hk rfl (Nat.le_of_ble_eq_true rfl) (cl_getL (d := 0) hk h30 hn L (by omega)) (by omega) (fun o q58 hq => am_B2_is ?_ hq)
          refine ar_cast rfl rfl rfl ?_
          refine ar_gfR rfl rfl rfl (by omega) (hg.2.2.1) ?_
          refine ar_gfIv rfl rfl rfl (by omega) ((hF.1 401 4 rfl).trans (by rw [el])) ?_
          refine ar_icmp_ne rfl rfl (by omega) (by omega) (fun h72 => ?_) (fun h72 => ?_)
          · refine ar_iconst rfl ?_
            exact ar_iret rfl (Or.inr ⟨rfl, by first | omega | (split <;> omega)⟩) (cq_eB (by first | omega | (split <;> omega) | simp_all))
          · refine ar_aload_n rfl rfl ?_
            refine ar_gfR rfl rfl rfl (by omega) (hpr) ?_
            refine ar_iload_n rfl rfl ?_
            refine ar_ia rfl rfl (V.1.2.2.1 1600 16 rfl) (by omega) (by omega) ?_
            rw [show qAI q (1600, 0) (k * 4 + rA s 24 fa).toNat = openS s (f k) (rA s 24 fa) from (by rw [show k * 4 + rA s 24 fa = 4 * k + rA s 24 fa by omega]; exact hop k _ (by omega) (by omega) (by omega) (by omega))]
            refine ar_aload_n rfl rfl ?_
            refine ar_gfIv rfl rfl rfl (by omega) (r607) ?_
            refine ar_icmp_lt rfl rfl (by omega) (by omega) (fun h85 => ?_) (fun h85 => ?_)
            · refine ar_iconst rfl ?_
              exact ar_iret rfl (Or.inr ⟨rfl, by first | omega | (split <;> omega)⟩) (cq_eB (by first | omega | (split <;> omega) | simp_all))
            · refine ar_iconst rfl ?_
              refine ar_goto rfl rfl ?_
              exact ar_iret rfl (Or.inr ⟨rfl, by first | omega | (split <;> omega)⟩) (cq_eB (by first | omega | (split <;> omega) | simp_all))
      · refine ar_iconst rfl ?_
        exact ar_iret rfl (Or.inr ⟨rfl, by first | omega | (split <;> omega)⟩) (cq_eB (by first | omega | (split <;> omega) | simp_all))
end

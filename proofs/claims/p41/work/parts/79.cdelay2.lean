noncomputable section
theorem lp_dly {d : Nat} {q : am_A} {Q : am_O → am_A → Prop} {e : Nat} {x1 x2 : Option am_V}  : ∀ (m : Nat) (j : Nat) (k : Int) (t : am_Z) (l h : Int) (q1 : am_A) (x6 : Option am_V), 8 - j < m → (k = j ∧ j ≤ 7 ∧ am_CI e q1 t ∧ am_HOs t ∧ am_DN q1 t ∧ (qLS q1 (1808, 0)).length ≤ j ∧ am_CG q q1 ∧ legP t l ∧ 1 ≤ h ∧ h ≤ 2000) → (∀ q', am_CI e q' (dlR (7 - j) t l h) → am_CG q q' → Q (.inl (some (aI (zI (sumI 0 732 (nTch (dlR (7 - j) t l h))))))) q') → am_W2 (d + 7) m_X_delay 37 [some (aR 8 0), x1, x2, some (aR 5 (lId q1 l)), some (aI (zI h)), some (aI (zI k)), x6] [] (q1) Q := by
  intro m
  induction m with
  | zero => intro j k t l h q1 x6 hm; exact absurd hm (Nat.not_lt_zero _)
  | succ m ih =>
    intro j k t l h q1 x6 hm ⟨hj, hj7, hI, hH, hD, hlen, hG, hl, hh1, hh2⟩ K
    subst hj
    have V := hI.1
    have b3 := (CV_B V).2.1 3 0 12 rfl
    have b0 := (CV_B V).2.1 0 0 60000 rfl
    have b17 := (CV_B V).1 17 (61 * (l / 100) + l % 100) 0 8 rfl
    have l1 := hl.1
    have l2 := hl.2.1
    have l3 := hl.2.2.1
    refine ar_iload rfl rfl ?_
    refine ar_bipush (x := 6) rfl rfl ?_
    refine ar_icmp_gt rfl rfl (by omega) (by omega) (fun h41 => ?_) (fun h41 => ?_)
    · refine ar_aload_n rfl rfl ?_
      refine ar_gfR rfl rfl rfl (by omega) (V.1.1 808 _ rfl) ?_
      refine ar_cv0 rfl rfl rfl (Nat.le_of_ble_eq_true rfl) (sq_size (d := 0) rfl (by omega) (V.1.2.2.2 1808 rfl)) (by omega) (fun o q147 hq => am_B2_is ?_ hq)
      rw [hD.1]
      have eR : dlR (7 - j) t l h = t := by { rw [show 7 - j = 0 by omega]; rfl }
      have hK := K q1
      rw [eR] at hK
      exact ar_iret rfl (Or.inl rfl) (hK hI hG)
    · refine ar_aload_n rfl rfl ?_
      refine ar_gfR rfl rfl rfl (by omega) (V.1.1 808 _ rfl) ?_
      refine ar_aload_n rfl rfl ?_
      refine ar_cs2 rfl rfl (Nat.le_of_ble_eq_true rfl) (cs_addOnce (d := 0) hI hl hD (by omega)) (by omega) (fun o q49 hq => ?_)
      obtain ⟨rfl, I49, D49, G49, E49, L49⟩ := hq
      have V49 := I49.1
      have hl49 : legP (wA t 19 (61 * (l / 100) + l % 100) 1) l := w19_l.mpr hl
      have hg49 := V49.2.2.2.1.1 l hl49
      have H49 : am_HOs (wA t 19 (61 * (l / 100) + l % 100) 1) := HOs_s (s' := (wA t 19 (61 * (l / 100) + l % 100) 1)) hH (fun a x hz => if_neg (fun z => by have := z.1; omega)) rfl
      rw [← E49 l]
      refine ar_aload_n rfl rfl ?_
      refine ar_gfIv rfl rfl rfl (by omega) ((show qFI q49 505 (5, lId q49 l) = rA t 17 (61 * (l / 100) + l % 100) from hg49.2.2.2.2.2.2.2.1)) ?_
      refine ar_iload rfl rfl ?_
      refine ar_iadd rfl ?_
      refine ar_bipush (x := 8) rfl rfl ?_
      refine ar_icmp_le rfl rfl (by omega) (by omega) (fun h61 => ?_) (fun h61 => ?_)
      · refine ar_aload_n rfl rfl ?_
        refine ar_iload rfl rfl ?_
        refine ar_cv1 rfl rfl rfl (Nat.le_of_ble_eq_true rfl) (cs_push (d := 0) (show qFI q49 505 (5, lId q49 l) = rA t 17 (61 * (l / 100) + l % 100) from hg49.2.2.2.2.2.2.2.1) hg49.2.2.2.2.2.1 hg49.2.2.2.2.2.2.1) (by omega) (fun o q80 hq => ?_)
        obtain ⟨rfl, rfl⟩ := hq
        have I2 : am_CI e (uFI (uFI (uFI q49 505 (5, lId q49 l) (rA t 17 (61 * (l / 100) + l % 100) + h)) 503 (5, lId q49 l) (dep (wA t 19 (61 * (l / 100) + l % 100) 1) l + h)) 504 (5, lId q49 l) (arv (wA t 19 (61 * (l / 100) + l % 100) 1) l + h)) (wA (wA t 19 (61 * (l / 100) + l % 100) 1) 17 (61 * (l / 100) + l % 100) (rA t 17 (61 * (l / 100) + l % 100) + h)) := CI_w I49 (CV_push V49 hl49 (hh := h) ⟨by { show 0 ≤ rA t 17 (61 * (l / 100) + l % 100) + h; omega }, by { show rA t 17 (61 * (l / 100) + l % 100) + h ≤ 8; omega }⟩) rfl rfl rfl rfl (fun _ => ⟨rfl, rfl⟩) ⟨rfl, rfl, rfl⟩
        have hl2 : legP (wA (wA t 19 (61 * (l / 100) + l % 100) 1) 17 (61 * (l / 100) + l % 100) (rA t 17 (61 * (l / 100) + l % 100) + h)) l := (legP_cg (s := (wA t 19 (61 * (l / 100) + l % 100) 1)) (s' := (wA (wA t 19 (61 * (l / 100) + l % 100) 1) 17 (61 * (l / 100) + l % 100) (rA t 17 (61 * (l / 100) + l % 100) + h))) (fun a x hz => if_neg (fun z => by have := z.1; omega)) rfl).mpr hl49
        have hg2 := I2.1.2.2.2.1.1 l hl2
        have H2 : am_HOs (wA (wA t 19 (61 * (l / 100) + l % 100) 1) 17 (61 * (l / 100) + l % 100) (rA t 17 (61 * (l / 100) + l % 100) + h)) := HOs_s (s := (wA t 19 (61 * (l / 100) + l % 100) 1)) (s' := (wA (wA t 19 (61 * (l / 100) + l % 100) 1) 17 (61 * (l / 100) + l % 100) (rA t 17 (61 * (l / 100) + l % 100) + h))) H49 (fun a x hz => if_neg (fun z => by have := z.1; omega)) rfl
        have D2 : am_DN (uFI (uFI (uFI q49 505 (5, lId q49 l) (rA t 17 (61 * (l / 100) + l % 100) + h)) 503 (5, lId q49 l) (dep (wA t 19 (61 * (l / 100) + l % 100) 1) l + h)) 504 (5, lId q49 l) (arv (wA t 19 (61 * (l / 100) + l % 100) 1) l + h)) (wA (wA t 19 (61 * (l / 100) + l % 100) 1) 17 (61 * (l / 100) + l % 100) (rA t 17 (61 * (l / 100) + l % 100) + h)) := DN_cg (t' := (wA (wA t 19 (61 * (l / 100) + l % 100) 1) 17 (61 * (l / 100) + l % 100) (rA t 17 (61 * (l / 100) + l % 100) + h))) D49 rfl (fun a x hz => if_neg (fun z => by have := z.1; omega)) rfl
        have G2 : am_CG q (uFI (uFI (uFI q49 505 (5, lId q49 l) (rA t 17 (61 * (l / 100) + l % 100) + h)) 503 (5, lId q49 l) (dep (wA t 19 (61 * (l / 100) + l % 100) 1) l + h)) 504 (5, lId q49 l) (arv (wA t 19 (61 * (l / 100) + l % 100) 1) l + h)) := CG_FI (CG_FI (CG_FI (CG_t hG G49) (by show cK 5; omega)) (by show cK 5; omega)) (by show cK 5; omega)
        have ha2 := arv_b (CV_B I2.1) (l := l) ⟨by omega, by omega, by omega⟩
        refine ar_aload_n rfl rfl ?_
        refine ar_gfIv rfl rfl rfl (by omega) ((show qFI (uFI (uFI (uFI q49 505 (5, lId q49 l) (rA t 17 (61 * (l / 100) + l % 100) + h)) 503 (5, lId q49 l) (dep (wA t 19 (61 * (l / 100) + l % 100) 1) l + h)) 504 (5, lId q49 l) (arv (wA t 19 (61 * (l / 100) + l % 100) 1) l + h)) 504 (5, lId (uFI (uFI (uFI q49 505 (5, lId q49 l) (rA t 17 (61 * (l / 100) + l % 100) + h)) 503 (5, lId q49 l) (dep (wA t 19 (61 * (l / 100) + l % 100) 1) l + h)) 504 (5, lId q49 l) (arv (wA t 19 (61 * (l / 100) + l % 100) 1) l + h)) l) = arv (wA (wA t 19 (61 * (l / 100) + l % 100) 1) 17 (61 * (l / 100) + l % 100) (rA t 17 (61 * (l / 100) + l % 100) + h)) l from hg2.2.2.2.2.2.2.1)) ?_
        refine ar_iconst rfl ?_
        refine ar_iadd rfl ?_
        refine ar_stI6 rfl ?_
        refine ar_aload_n rfl rfl ?_
        refine ar_cv0 rfl rfl rfl (Nat.le_of_ble_eq_true rfl) (cs_onwardLeg (d := 0) I2.1 hl2) (by omega) (fun o q92 hq => am_B2_is ?_ hq)
        refine ar_stA3 rfl ?_
        refine ar_aload_n rfl rfl ?_
        refine ar_ifnull rfl rfl (fun hn97 => ?_) (fun r97 hr97 => ?_)
        · refine ar_aload_n rfl rfl ?_
          refine ar_gfR rfl rfl rfl (by omega) (I2.1.1.1 808 _ rfl) ?_
          refine ar_cv0 rfl rfl rfl (Nat.le_of_ble_eq_true rfl) (sq_size (d := 0) rfl (by omega) (I2.1.1.2.2.2 1808 rfl)) (by omega) (fun o q124 hq => am_B2_is ?_ hq)
          rw [D2.1]
          have hng : ¬ goesP (wA (wA t 19 (61 * (l / 100) + l % 100) 1) 17 (61 * (l / 100) + l % 100) (rA t 17 (61 * (l / 100) + l % 100) + h)) l := by first | exact fun z => z.1 (Classical.byContradiction (fun y => by unfold othR at hn97; rw [if_neg y] at hn97; cases hn97)) | exact fun z => h108 z.2.1 | exact fun z => absurd z.2.2 (by omega)
          have eR : dlR (7 - j) t l h = (wA (wA t 19 (61 * (l / 100) + l % 100) 1) 17 (61 * (l / 100) + l % 100) (rA t 17 (61 * (l / 100) + l % 100) + h)) := by { rw [show 7 - j = (6 - j) + 1 by omega, dlR_n (fun z => hng (by have z2 := z.2; rw [dlS_p h61] at z2; exact z2)), dlS_p h61] }
          have hK := K (uFI (uFI (uFI q49 505 (5, lId q49 l) (rA t 17 (61 * (l / 100) + l % 100) + h)) 503 (5, lId q49 l) (dep (wA t 19 (61 * (l / 100) + l % 100) 1) l + h)) 504 (5, lId q49 l) (arv (wA t 19 (61 * (l / 100) + l % 100) 1) l + h))
          rw [eR] at hK
          exact ar_iret rfl (Or.inl rfl) (hK I2 G2)
        · have zo : othL (wA (wA t 19 (61 * (l / 100) + l % 100) 1) 17 (61 * (l / 100) + l % 100) (rA t 17 (61 * (l / 100) + l % 100) + h)) l ≠ -1 := fun y => by { unfold othR at hr97; rw [if_pos y] at hr97; cases hr97 }
          have eo : othR (uFI (uFI (uFI q49 505 (5, lId q49 l) (rA t 17 (61 * (l / 100) + l % 100) + h)) 503 (5, lId q49 l) (dep (wA t 19 (61 * (l / 100) + l % 100) 1) l + h)) 504 (5, lId q49 l) (arv (wA t 19 (61 * (l / 100) + l % 100) 1) l + h)) (wA (wA t 19 (61 * (l / 100) + l % 100) 1) 17 (61 * (l / 100) + l % 100) (rA t 17 (61 * (l / 100) + l % 100) + h)) l = some (5, lId (uFI (uFI (uFI q49 505 (5, lId q49 l) (rA t 17 (61 * (l / 100) + l % 100) + h)) 503 (5, lId q49 l) (dep (wA t 19 (61 * (l / 100) + l % 100) 1) l + h)) 504 (5, lId q49 l) (arv (wA t 19 (61 * (l / 100) + l % 100) 1) l + h)) (othL (wA (wA t 19 (61 * (l / 100) + l % 100) 1) 17 (61 * (l / 100) + l % 100) (rA t 17 (61 * (l / 100) + l % 100) + h)) l)) := if_neg zo
          rw [eo]
          have hlo := othL_leg I2.1 hl2 zo
          have hgo2 := I2.1.2.2.2.1.1 _ hlo
          have hdo := dep_b (CV_B I2.1) (l := (othL (wA (wA t 19 (61 * (l / 100) + l % 100) 1) 17 (61 * (l / 100) + l % 100) (rA t 17 (61 * (l / 100) + l % 100) + h)) l)) ⟨hlo.1, by { have h1 : _ < rI t 3 := hlo.2.1; omega }, by { have := hlo.2.2.1; omega }⟩
          have hco := (CV_B I2.1).1 18 (61 * ((othL (wA (wA t 19 (61 * (l / 100) + l % 100) 1) 17 (61 * (l / 100) + l % 100) (rA t 17 (61 * (l / 100) + l % 100) + h)) l) / 100) + (othL (wA (wA t 19 (61 * (l / 100) + l % 100) 1) 17 (61 * (l / 100) + l % 100) (rA t 17 (61 * (l / 100) + l % 100) + h)) l) % 100) 0 1 rfl
          have e0 : rI (wA (wA t 19 (61 * (l / 100) + l % 100) 1) 17 (61 * (l / 100) + l % 100) (rA t 17 (61 * (l / 100) + l % 100) + h)) 0 = rI t 0 := rfl
          refine ar_aload_n rfl rfl ?_
          refine ar_aload_n rfl rfl ?_
          refine ar_gfIv rfl rfl rfl (by omega) ((show qFI (uFI (uFI (uFI q49 505 (5, lId q49 l) (rA t 17 (61 * (l / 100) + l % 100) + h)) 503 (5, lId q49 l) (dep (wA t 19 (61 * (l / 100) + l % 100) 1) l + h)) 504 (5, lId q49 l) (arv (wA t 19 (61 * (l / 100) + l % 100) 1) l + h)) 813 (8, 0) = rI (wA (wA t 19 (61 * (l / 100) + l % 100) 1) 17 (61 * (l / 100) + l % 100) (rA t 17 (61 * (l / 100) + l % 100) + h)) 0 from I2.1.2.1.2.2.2.2.1)) ?_
          refine ar_cv1 rfl rfl rfl (Nat.le_of_ble_eq_true rfl) (cs_isAhead (d := 0) hgo2.2.2.2.2.2.2.2.2 hgo2.2.2.2.2.2.1 (by omega) (by omega) (by omega)) (by omega) (fun o q105 hq => am_B2_is ?_ hq)
          refine ar_if_eqB rfl rfl (fun h108 => ?_) (fun h108 => ?_)
          · refine ar_aload_n rfl rfl ?_
            refine ar_gfR rfl rfl rfl (by omega) (I2.1.1.1 808 _ rfl) ?_
            refine ar_cv0 rfl rfl rfl (Nat.le_of_ble_eq_true rfl) (sq_size (d := 0) rfl (by omega) (I2.1.1.2.2.2 1808 rfl)) (by omega) (fun o q124 hq => am_B2_is ?_ hq)
            rw [D2.1]
            have hng : ¬ goesP (wA (wA t 19 (61 * (l / 100) + l % 100) 1) 17 (61 * (l / 100) + l % 100) (rA t 17 (61 * (l / 100) + l % 100) + h)) l := by first | exact fun z => z.1 (Classical.byContradiction (fun y => by unfold othR at hn97; rw [if_neg y] at hn97; cases hn97)) | exact fun z => h108 z.2.1 | exact fun z => absurd z.2.2 (by omega)
            have eR : dlR (7 - j) t l h = (wA (wA t 19 (61 * (l / 100) + l % 100) 1) 17 (61 * (l / 100) + l % 100) (rA t 17 (61 * (l / 100) + l % 100) + h)) := by { rw [show 7 - j = (6 - j) + 1 by omega, dlR_n (fun z => hng (by have z2 := z.2; rw [dlS_p h61] at z2; exact z2)), dlS_p h61] }
            have hK := K (uFI (uFI (uFI q49 505 (5, lId q49 l) (rA t 17 (61 * (l / 100) + l % 100) + h)) 503 (5, lId q49 l) (dep (wA t 19 (61 * (l / 100) + l % 100) 1) l + h)) 504 (5, lId q49 l) (arv (wA t 19 (61 * (l / 100) + l % 100) 1) l + h))
            rw [eR] at hK
            exact ar_iret rfl (Or.inl rfl) (hK I2 G2)
          · refine ar_aload_n rfl rfl ?_
            refine ar_gfIv rfl rfl rfl (by omega) (hgo2.2.2.2.2.2.1) ?_
            refine ar_iload rfl rfl ?_
            refine ar_icmp_lt rfl rfl (by omega) (by omega) (fun h117 => ?_) (fun h117 => ?_)
            · refine ar_iload rfl rfl ?_
              refine ar_aload_n rfl rfl ?_
              refine ar_gfIv rfl rfl rfl (by omega) (hgo2.2.2.2.2.2.1) ?_
              refine ar_isub rfl ?_
              refine ar_stI4 rfl ?_
              refine ar_inc5 rfl ?_
              refine ar_goto rfl rfl ?_
              refine ih (j + 1) _ (wA (wA t 19 (61 * (l / 100) + l % 100) 1) 17 (61 * (l / 100) + l % 100) (rA t 17 (61 * (l / 100) + l % 100) + h)) (othL (wA (wA t 19 (61 * (l / 100) + l % 100) 1) 17 (61 * (l / 100) + l % 100) (rA t 17 (61 * (l / 100) + l % 100) + h)) l) _ _ _ (by omega) ⟨by omega, by omega, I2, H2, D2, by { show (qLS q49 (1808, 0)).length ≤ j + 1; omega }, G2, hlo, by omega, by omega⟩ (fun q' z1 z2 => ?_)
              have eR : dlR (7 - j) t l h = dlR (7 - (j + 1)) (wA (wA t 19 (61 * (l / 100) + l % 100) 1) 17 (61 * (l / 100) + l % 100) (rA t 17 (61 * (l / 100) + l % 100) + h)) (othL (wA (wA t 19 (61 * (l / 100) + l % 100) 1) 17 (61 * (l / 100) + l % 100) (rA t 17 (61 * (l / 100) + l % 100) + h)) l) (arv (wA (wA t 19 (61 * (l / 100) + l % 100) 1) 17 (61 * (l / 100) + l % 100) (rA t 17 (61 * (l / 100) + l % 100) + h)) l + 1 - dep (wA (wA t 19 (61 * (l / 100) + l % 100) 1) 17 (61 * (l / 100) + l % 100) (rA t 17 (61 * (l / 100) + l % 100) + h)) (othL (wA (wA t 19 (61 * (l / 100) + l % 100) 1) 17 (61 * (l / 100) + l % 100) (rA t 17 (61 * (l / 100) + l % 100) + h)) l)) := by { rw [show 7 - j = (6 - j) + 1 by omega, dlR_y h61 (by rw [dlS_p h61]; exact ⟨zo, h108, h117⟩), dlS_p h61, show 7 - (j + 1) = 6 - j by omega] }
              have hK := K q'
              rw [eR] at hK
              exact hK z1 z2
            · refine ar_aload_n rfl rfl ?_
              refine ar_gfR rfl rfl rfl (by omega) (I2.1.1.1 808 _ rfl) ?_
              refine ar_cv0 rfl rfl rfl (Nat.le_of_ble_eq_true rfl) (sq_size (d := 0) rfl (by omega) (I2.1.1.2.2.2 1808 rfl)) (by omega) (fun o q124 hq => am_B2_is ?_ hq)
              rw [D2.1]
              have hng : ¬ goesP (wA (wA t 19 (61 * (l / 100) + l % 100) 1) 17 (61 * (l / 100) + l % 100) (rA t 17 (61 * (l / 100) + l % 100) + h)) l := by first | exact fun z => z.1 (Classical.byContradiction (fun y => by unfold othR at hn97; rw [if_neg y] at hn97; cases hn97)) | exact fun z => h108 z.2.1 | exact fun z => absurd z.2.2 (by omega)
              have eR : dlR (7 - j) t l h = (wA (wA t 19 (61 * (l / 100) + l % 100) 1) 17 (61 * (l / 100) + l % 100) (rA t 17 (61 * (l / 100) + l % 100) + h)) := by { rw [show 7 - j = (6 - j) + 1 by omega, dlR_n (fun z => hng (by have z2 := z.2; rw [dlS_p h61] at z2; exact z2)), dlS_p h61] }
              have hK := K (uFI (uFI (uFI q49 505 (5, lId q49 l) (rA t 17 (61 * (l / 100) + l % 100) + h)) 503 (5, lId q49 l) (dep (wA t 19 (61 * (l / 100) + l % 100) 1) l + h)) 504 (5, lId q49 l) (arv (wA t 19 (61 * (l / 100) + l % 100) 1) l + h))
              rw [eR] at hK
              exact ar_iret rfl (Or.inl rfl) (hK I2 G2)
      · refine ar_aload_n rfl rfl ?_
        refine ar_aload_n rfl rfl ?_
        refine ar_cv1 rfl rfl rfl (Nat.le_of_ble_eq_true rfl) (cs_withdraw (d := 0) I49 hl49 H49) (by omega) (fun o q66 hq => ?_)
        obtain ⟨rfl, I66, G66, E66⟩ := hq
        have D66 : am_DN q66 (cancS (wA t 19 (61 * (l / 100) + l % 100) 1) l) := DN_cg D49 E66 (fun a x hz => (itC_m (by omega) _).trans (if_neg (fun z => by have := z.1; omega))) (itC_I _)
        refine ar_aload_n rfl rfl ?_
        refine ar_gfR rfl rfl rfl (by omega) (I66.1.1.1 808 _ rfl) ?_
        refine ar_cv0 rfl rfl rfl (Nat.le_of_ble_eq_true rfl) (sq_size (d := 0) rfl (by omega) (I66.1.1.2.2.2 1808 rfl)) (by omega) (fun o q73 hq => am_B2_is ?_ hq)
        rw [D66.1]
        have eR : dlR (7 - j) t l h = cancS (wA t 19 (61 * (l / 100) + l % 100) 1) l := by { rw [show 7 - j = (6 - j) + 1 by omega, dlR_n (fun z => by have := z.1; omega), dlS_c (by omega)] }
        have hK := K q66
        rw [eR] at hK
        exact ar_iret rfl (Or.inl rfl) (hK I66 (CG_t hG (CG_t G49 G66)))
theorem delay_0 {e : Nat} {q : am_A} {s : am_Z} (I : am_CI e q s) : am_CI e (uLS q (1808, 0) []) (wB s 19 0 732 (fun _ => 0)) ∧ am_DN (uLS q (1808, 0) []) (wB s 19 0 732 (fun _ => 0)) := by
  have hnv : ¬ vL s (1808, 0) := by
    unfold vL
    simp only
    omega
  have m : ∀ j x, j ≠ 19 → rA (wB s 19 0 732 (fun _ => 0)) j x = rA s j x := fun j x h => if_neg (fun z => h z.1)
  have z19 : ∀ x : Int, 0 ≤ x → x < 732 → rA (wB s 19 0 732 (fun _ => 0)) 19 x = 0 := fun x h1 h2 => if_pos ⟨rfl, h1, by omega⟩
  have B := CV_B I.1
  have B2 : in_S (wB s 19 0 732 (fun _ => 0)) := by
    refine ⟨fun j x lo hi h => ?_, B.2.1, fun j x h => ?_⟩
    · rw [wB_A]
      split
      · rename_i z
        rw [z.1] at h
        cases h
        omega
      · exact B.1 j x lo hi h
    · rw [wB_A]
      split
      · rename_i z
        rw [z.1] at h
        cases h
      · exact B.2.2 j x h
  have hls : qLS (uLS q (1808, 0) []) (1808, 0) = [] := rfl
  have I1 : am_CI e (uLS q (1808, 0) []) s := ⟨CV_EQ I.1 (EQ_LS hnv), I.2.1, I.2.2⟩
  refine ⟨CI_s I1 (fun j x h => m j x (by omega)) (fun j _ => rfl) B2, ?_, fun k hk => ?_, fun l h1 h2 => ?_⟩
  · rw [hls]
    exact (sumI_zero 732 (fun i z1 z2 => if_pos (z19 i z1 (by omega)))).symm
  · rw [hls] at hk
    exact absurd hk (Nat.not_lt_zero k)
  · have hb := ix_b B2 h1
    exact absurd (z19 _ hb.1 hb.2) h2
theorem kDl_1 {s : am_Z} {l h : Int} (h1 : ¬ legP s l) : kDelay s l h = 1 := if_pos h1
theorem kDl_2 {s : am_Z} {l h : Int} (h1 : legP s l) (h2 : ¬ (1 ≤ h ∧ h ≤ 8)) : kDelay s l h = 2 := (if_neg (fun z => z h1)).trans (if_pos h2)
theorem kDl_3 {s : am_Z} {l h : Int} (h1 : legP s l) (h2 : 1 ≤ h ∧ h ≤ 8) (h3 : ¬ freeP s l) : kDelay s l h = 3 := (if_neg (fun z => z h1)).trans ((if_neg (fun z => z h2)).trans (if_neg h3))
theorem kDl_0 {s : am_Z} {l h : Int} (h1 : legP s l) (h2 : 1 ≤ h ∧ h ≤ 8) (h3 : freeP s l) : kDelay s l h = 0 := (if_neg (fun z => z h1)).trans ((if_neg (fun z => z h2)).trans (if_pos h3))
theorem cs_delay {d : Nat} {q : am_A} {e : Nat} {s : am_Z} {l h : Int} (I : am_CI e q s) (H : am_HOs s) (hl : in32 l) (hh : in32 h) : am_C2 (d + 7) m_X_delay [aR 8 0, aI (zI l), aI (zI h)] q (am_OK (kDelay s l h) kd3 (some (aI (zI (sumI 0 732 (nTch (delayS s l h)))))) q (fun q2 => am_CI e q2 (delayS s l h) ∧ am_CG q q2)) := by
  refine am_C2_i (ls := [some (aR 8 0), some (aI (zI l)), some (aI (zI h)), none, none, none, none]) rfl ?_
  have V := I.1
  have b44 := (CV_B V).2.1 44 0 40 rfl
  have b3 := (CV_B V).2.1 3 0 12 rfl
  have b0 := (CV_B V).2.1 0 0 60000 rfl
  refine ar_aload_n rfl rfl ?_
  refine ar_iload_n rfl rfl ?_
  refine ar_cv1 rfl rfl rfl (Nat.le_of_ble_eq_true rfl) (cs_findLeg (d := 0) V (by omega)) (by omega) (fun o q2 hq => am_B2_T rfl (fun h2 => ?_) (fun h2 => ?_) hq)
  · have hg := V.2.2.2.1.1 l h2
    have hd := dep_b (CV_B V) (l := l) (by omega)
    have hcc := (CV_B V).1 18 (61 * (l / 100) + l % 100) 0 1 rfl
    refine ar_stA3 rfl ?_
    refine ar_iload_n rfl rfl ?_
    refine ar_iconst rfl ?_
    refine ar_bipush (x := 8) rfl rfl ?_
    refine ar_cs3 rfl rfl (Nat.le_of_ble_eq_true rfl) (cs_needRange (d := 0) (by omega) (by omega) (by omega)) (by omega) (fun o q10 hq => am_B2_T rfl (fun h10 => ?_) (fun h10 => ?_) hq)
    · refine ar_aload_n rfl rfl ?_
      refine ar_aload_n rfl rfl ?_
      refine ar_gfIv rfl rfl rfl (by omega) (V.2.1.2.2.2.2.1) ?_
      refine ar_cv1 rfl rfl rfl (Nat.le_of_ble_eq_true rfl) (cs_isAhead (d := 0) hg.2.2.2.2.2.2.2.2 hg.2.2.2.2.2.1 (by omega) (by omega) (by omega)) (by omega) (fun o q18 hq => am_B2_is ?_ hq)
      refine ar_cs1 rfl rfl (Nat.le_of_ble_eq_true rfl) (cs_needState (d := 0) (by omega)) (by omega) (fun o q21 hq => am_B2_T rfl (fun h21 => ?_) (fun h21 => ?_) hq)
      · refine ar_aload_n rfl rfl ?_
        refine ar_gfR rfl rfl rfl (by omega) (V.1.1 808 _ rfl) ?_
        refine ar_cv0 rfl rfl rfl (Nat.le_of_ble_eq_true rfl) (sq_clear (d := 0) rfl (by omega) (V.1.2.2.2 1808 rfl)) (by omega) (fun o q28 hq => ?_)
        obtain ⟨rfl, rfl⟩ := hq
        refine ar_iload_n rfl rfl ?_
        refine ar_stI4 rfl ?_
        refine ar_iconst rfl ?_
        refine ar_stI5 rfl ?_
        have z0 := delay_0 I
        have hl0 : legP (wB s 19 0 732 (fun _ => 0)) l := (legP_cg (s := s) (s' := (wB s 19 0 732 (fun _ => 0))) (fun a x hz => if_neg (fun z => by have := z.1; omega)) rfl).mpr h2
        exact lp_dly (d := d) (q := uLS q (1808, 0) []) (e := e) 9 0 0 (wB s 19 0 732 (fun _ => 0)) l h (uLS q (1808, 0) []) _ (by omega) ⟨rfl, by omega, z0.1, HOs_s (s' := (wB s 19 0 732 (fun _ => 0))) H (fun a x hz => if_neg (fun z => by have := z.1; omega)) rfl, z0.2, by { show (if ((1808, 0) : am_R) = (1808, 0) then [] else qLS q (1808, 0)).length ≤ 0; rw [if_pos rfl]; exact Nat.le_refl _ }, CG_r, hl0, by omega, by omega⟩ (fun q' z1 z2 => ⟨fun _ => ⟨rfl, z1, CG_t (CG_LS CG_r (by show cK 1808; omega)) z2⟩, fun z => absurd (kDl_0 h2 h10 (Classical.byContradiction (fun y => h21 (if_neg y)))) z⟩)
      · exact ⟨fun z => absurd z (by rw [kDl_3 h2 h10 (fun y => h21 (by rw [if_pos y]; omega))]; omega), fun _ => by { rw [kDl_3 h2 h10 (fun y => h21 (by rw [if_pos y]; omega))]; exact ⟨rfl, rfl⟩ }⟩
    · exact ⟨fun z => absurd z (by rw [kDl_2 h2 h10]; omega), fun _ => by { rw [kDl_2 h2 h10]; exact ⟨rfl, rfl⟩ }⟩
  · exact ⟨fun z => absurd z (by rw [kDl_1 h2]; omega), fun _ => by { rw [kDl_1 h2]; exact ⟨rfl, rfl⟩ }⟩
theorem co_delay {d e : Nat} {q : am_A} {s : am_Z} (I : am_CI e q s) (H : am_HOs s) {l h : Int} (hl : in32 l) (hh : in32 h) : am_C2 (d + 7) m_X_delay [aR 8 0, aI (zI l), aI (zI h)] q (am_OP e (kDelay s l h) kd3 (some (aI (zI (sumI 0 732 (nTch (delayS s l h)))))) q (if kDelay s l h = 0 then delayS s l h else s)) := by
  refine am_C2_imp (cs_delay (d := d) I H hl hh) (fun o q' h => OP_of I (fun _ => kd3_b) h (fun h0 hq => ?_) (fun h => if_neg h))
  rw [if_pos h0]
  exact ⟨CI_le hq.1 (Nat.le_succ e), hq.2⟩
end

noncomputable section
theorem uT_id {T : am_LT} {j : Nat} {i : Int} : uT T j i (T j i) = T := funext (fun j' => funext (fun i' => by
  unfold uT
  split
  · rename_i h
    rw [h.1, h.2]
  · rfl))
/-- a scalar of the law that stands for one of the state -/
theorem PL_33 {s s' : am_Z} {T : am_LT} {v : Int} (P : am_PL s T) (h33 : rI s' 33 = v) (k1 : ∀ j, (j = 0 ∨ j = 3 ∨ j = 20 ∨ j = 44 ∨ j = 61 ∨ j = 68) → rI s' j = rI s j) (k2 : ∀ j x, (j ≤ 14 ∨ j = 25 ∨ j = 45 ∨ j = 46 ∨ j = 59 ∨ j = 63) → rA s' j x = rA s j x) : am_PL s' (uT T 5 3 v) := by
  obtain ⟨⟨p0, p1, p2, p3, p4, p5, p6⟩, pn, pm, pf, pb, px⟩ := P
  have e59 : rA s' 59 = rA s 59 := funext (fun x => k2 59 x (by omega))
  have eo : ∀ (i : Nat) (x : Int), (i ≠ 5 ∨ x ≠ 3) → uT T 5 3 v i x = T i x := fun i x h => uT_n h
  refine ⟨⟨by rw [k1 3 (by omega), eo _ _ (by omega)]; exact p0, by rw [k1 20 (by omega), eo _ _ (by omega)]; exact p1, by rw [k1 0 (by omega), eo _ _ (by omega)]; exact p2, by rw [h33, uT_e], by rw [k1 44 (by omega), eo _ _ (by omega)]; exact p4, by rw [k1 61 (by omega), eo _ _ (by omega)]; exact p5, P6_cg p6 (k1 68 (by omega)) (k1 0 (by omega)) (eo 5 6 (by omega))⟩, fun f h1 h2 => ?_, fun f b h1 h2 h3 h4 => ?_, fun i h1 h2 => ?_, fun k h1 h2 => ?_, fun w h1 h2 => ?_⟩
  · rw [k1 3 (by omega)] at h2
    rw [k2 4 _ (by omega), k2 5 _ (by omega), k2 6 _ (by omega), k2 8 _ (by omega), k2 9 _ (by omega), eo 0 _ (by omega), eo 0 _ (by omega), eo 0 _ (by omega), eo 0 _ (by omega), eo 0 _ (by omega)]
    exact pn f h1 h2
  · rw [k1 3 (by omega)] at h2
    rw [k2 14 _ (by omega), eo 1 _ (by omega)]
    exact pm f b h1 h2 h3 h4
  · rw [k1 20 (by omega)] at h2
    rw [k2 25 _ (by omega), eo 2 _ (by omega)]
    exact pf i h1 h2
  · rw [k1 44 (by omega)] at h2
    rw [e59, k2 46 _ (by omega), eo 3 _ (by omega), eo 4 _ (by omega)]
    exact pb k h1 h2
  · rw [k1 61 (by omega)] at h2
    rw [k2 63 _ (by omega), eo 7 _ (by omega)]
    exact px w h1 h2
theorem PL_leg {s : am_Z} {T : am_LT} {l : Int} (P : am_PL s T) : am_PL (legS s l) (uT T 5 3 (rI s 33 + 1)) := PL_33 P rfl (fun j h => if_neg (by omega)) (fun j x h => wA_ne (by omega))
theorem PL_drop {s : am_Z} {T : am_LT} (P : am_PL s T) : am_PL (wI s 33 0) (uT T 5 3 0) := PL_33 P rfl (fun j h => if_neg (by omega)) (fun _ _ _ => rfl)
theorem lleg_b {T : am_LT} {x : Int} (hg : 0 ≤ T 5 0 ∧ T 5 0 ≤ 12) : 0 ≤ (if T 5 0 = 0 then 0 else 100 * (x % T 5 0) + x / 12 % 9) ∧ (if T 5 0 = 0 then 0 else 100 * (x % T 5 0) + x / 12 % 9) ≤ 1108 := by
  split
  · omega
  · have h1 := Int.emod_nonneg x (b := T 5 0) (by omega)
    have h2 := Int.emod_lt_of_pos x (b := T 5 0) (by omega)
    omega
theorem dr_A {d e : Nat} {q : am_A} {s : am_Z} {T : am_LT} (I : am_CI e q s) (L : am_LS q s T) {o1 o2 k l : Int} {x9 x10 : Option am_V} (bk : 0 ≤ k ∧ k ≤ 2) (bl : 0 ≤ l ∧ l ≤ 1200) (hl : legP s l) (hk : kLegA s l = 0) {Q : am_O → am_A → Prop} (K : ∀ q' s' T' x8 x9 x10, am_CI (e + 2) q' s' → am_LS q' s' T' → am_S31 q q' → rI s' 0 = rI s 0 → am_W2 (d + 22) m_L_isDrafted 34 [some (aR 8 0), some (aR 24 0), some (aR 24 2), some (aR 24 5), some (aI (zI o1)), some (aI (zI o2)), some (aI (zI 1)), some (aI (zI (k + 1))), x8, x9, x10] [] q' Q) : am_W2 (d + 22) m_L_isDrafted 64 [some (aR 8 0), some (aR 24 0), some (aR 24 2), some (aR 24 5), some (aI (zI o1)), some (aI (zI o2)), some (aI (zI 1)), some (aI (zI k)), some (aI (zI l)), x9, x10] [] q Q := by
  obtain ⟨F, J, H, P⟩ := L
  have B := CV_B I.1
  have b3 := B.2.1 3 0 12 rfl
  have b33 := B.2.1 33 0 4 rfl
  obtain ⟨⟨p0, p1, p2, p3, p4, p5, p6⟩, pn, pm, pf, pb, px⟩ := id P
  refine ar_aload_n rfl rfl ?_
  refine ar_bipush (x := 10) rfl rfl ?_
  refine ar_iload rfl rfl ?_
  refine ar_iconst rfl ?_
  refine ar_iconst rfl ?_
  refine ar_iconst rfl ?_
  refine ar_iconst rfl ?_
  refine ar_iconst rfl ?_
  refine ar_cs8 rfl rfl (Nat.le_of_ble_eq_true rfl) (dz_leg (d := 0) I F J (by omega) hk) (by omega) (fun o q74 hq => ?_)
  obtain ⟨rfl, I74, Y74, F74⟩ := hq
  have H74 := LA_CY H Y74
  have J1 := JJ_leg J B hk
  have bs := standing_b (CV_B I74.1) (l := l)
  refine ar_stI9 rfl ?_
  refine ar_aload_n rfl rfl ?_
  refine ar_bipush (x := 27) rfl rfl ?_
  refine ar_iload rfl rfl ?_
  refine ar_iconst rfl ?_
  refine ar_iconst rfl ?_
  refine ar_iconst rfl ?_
  refine ar_iconst rfl ?_
  refine ar_iconst rfl ?_
  refine ar_cs8 rfl rfl (Nat.le_of_ble_eq_true rfl) (dp_standing (d := 0) I74 F74 (by omega) (show legP (legS s l) l from hl)) (by omega) (fun o q89 hq => ?_)
  obtain ⟨rfl, I89, Y89, F89⟩ := hq
  have H89 := LA_CY H74 Y89
  refine ar_if_lt rfl rfl (by omega) (fun ht => by omega) (fun h92 => ?_)
  refine ar_iconst rfl ?_
  refine ar_goto rfl rfl ?_
  refine ar_stI10 rfl ?_
  refine ar_iload rfl rfl ?_
  refine ar_if_eq rfl rfl (by omega) (fun ht => by omega) (fun h104 => ?_)
  refine ar_iload rfl rfl ?_
  refine ar_aload_n rfl rfl ?_
  refine ar_iconst rfl ?_
  refine ar_ial24 (n := 7) rfl H89 (by omega) rfl (by omega) ?_
  refine ar_iconst rfl ?_
  refine ar_iadd rfl ?_
  refine ar_icmp_eq rfl rfl (by omega) (by omega) (fun h114 => ?_) (fun hf => by omega)
  refine ar_iconst rfl ?_
  refine ar_goto rfl rfl ?_
  refine ar_stI6 rfl ?_
  refine ar_aload_n rfl rfl ?_
  refine ar_iconst rfl ?_
  refine ar_dup2 rfl rfl rfl ?_
  refine ar_ial24 (n := 7) rfl H89 (by omega) rfl (by omega) ?_
  refine ar_iload rfl rfl ?_
  refine ar_if_le rfl rfl (by omega) (fun ht => by omega) (fun h152 => ?_)
  refine ar_iconst rfl ?_
  refine ar_goto rfl rfl ?_
  refine ar_iadd rfl ?_
  refine ar_ias24 (n := 7) rfl H89 (by omega) rfl (by omega) (fun q161 H161 W161 => ?_)
  refine ar_inc7 rfl ?_
  refine ar_goto rfl rfl ?_
  exact K _ _ _ _ _ _ (W161.1 _ _ I89) ⟨W161.2.1 F89, J1, H161, by rw [p3]; exact PL_leg P⟩ (S31_t (S31_CY Y74) (S31_t (S31_CY Y89) W161.2.2)) rfl
theorem dr_B {d e : Nat} {q : am_A} {s : am_Z} {T : am_LT} (I : am_CI e q s) (L : am_LS q s T) {o1 o2 k l : Int} {x9 x10 : Option am_V} (bk : 0 ≤ k ∧ k ≤ 2) (bl : 0 ≤ l ∧ l ≤ 1200) (hl : legP s l) (hk : kLegA s l ≠ 0) {Q : am_O → am_A → Prop} (K : ∀ q' s' T' x8 x9 x10, am_CI (e + 2) q' s' → am_LS q' s' T' → am_S31 q q' → rI s' 0 = rI s 0 → am_W2 (d + 22) m_L_isDrafted 34 [some (aR 8 0), some (aR 24 0), some (aR 24 2), some (aR 24 5), some (aI (zI o1)), some (aI (zI o2)), some (aI (zI 1)), some (aI (zI (k + 1))), x8, x9, x10] [] q' Q) : am_W2 (d + 22) m_L_isDrafted 64 [some (aR 8 0), some (aR 24 0), some (aR 24 2), some (aR 24 5), some (aI (zI o1)), some (aI (zI o2)), some (aI (zI 1)), some (aI (zI k)), some (aI (zI l)), x9, x10] [] q Q := by
  obtain ⟨F, J, H, P⟩ := L
  have B := CV_B I.1
  have b3 := B.2.1 3 0 12 rfl
  have b33 := B.2.1 33 0 4 rfl
  obtain ⟨⟨p0, p1, p2, p3, p4, p5, p6⟩, pn, pm, pf, pb, px⟩ := id P
  have hk2 : kLegA s l = 2 := by { unfold kLegA at hk ⊢; rw [if_neg (fun z => z hl)] at hk ⊢; split at hk; exact absurd rfl hk; rw [if_neg (by assumption)] }
  have bs := standing_b B (l := l)
  refine ar_aload_n rfl rfl ?_
  refine ar_bipush (x := 10) rfl rfl ?_
  refine ar_iload rfl rfl ?_
  refine ar_iconst rfl ?_
  refine ar_iconst rfl ?_
  refine ar_iconst rfl ?_
  refine ar_iconst rfl ?_
  refine ar_iconst rfl ?_
  refine ar_cs8 rfl rfl (Nat.le_of_ble_eq_true rfl) (dx_leg (d := 0) (R := -1000000) I F J (by omega) hk2 (by omega) rfl) (by omega) (fun o q74 hq => ?_)
  obtain ⟨rfl, I74, Y74, F74⟩ := hq
  have H74 := LA_CY H Y74
  refine ar_stI9 rfl ?_
  refine ar_aload_n rfl rfl ?_
  refine ar_bipush (x := 27) rfl rfl ?_
  refine ar_iload rfl rfl ?_
  refine ar_iconst rfl ?_
  refine ar_iconst rfl ?_
  refine ar_iconst rfl ?_
  refine ar_iconst rfl ?_
  refine ar_iconst rfl ?_
  refine ar_cs8 rfl rfl (Nat.le_of_ble_eq_true rfl) (dp_standing (d := 0) I74 F74 (by omega) hl) (by omega) (fun o q89 hq => ?_)
  obtain ⟨rfl, I89, Y89, F89⟩ := hq
  have H89 := LA_CY H74 Y89
  refine ar_if_lt rfl rfl (by omega) (fun ht => by omega) (fun h92 => ?_)
  refine ar_iconst rfl ?_
  refine ar_goto rfl rfl ?_
  refine ar_stI10 rfl ?_
  refine ar_iload rfl rfl ?_
  refine ar_if_eq rfl rfl (by omega) (fun ht => by omega) (fun h104 => ?_)
  refine ar_iload rfl rfl ?_
  refine ar_aload_n rfl rfl ?_
  refine ar_iconst rfl ?_
  refine ar_ial24 (n := 7) rfl H89 (by omega) rfl (by omega) ?_
  refine ar_iconst rfl ?_
  refine ar_iadd rfl ?_
  refine ar_icmp_eq rfl rfl (by omega) (by omega) (fun ht => by omega) (fun h114 => ?_)
  refine ar_iload rfl rfl ?_
  refine ar_ldc (x := -1000000) rfl rfl ?_
  refine ar_icmp_ne rfl rfl (by omega) (by omega) (fun ht => by omega) (fun h121 => ?_)
  refine ar_iconst rfl ?_
  refine ar_goto rfl rfl ?_
  refine ar_stI6 rfl ?_
  refine ar_aload_n rfl rfl ?_
  refine ar_iconst rfl ?_
  refine ar_dup2 rfl rfl rfl ?_
  refine ar_ial24 (n := 7) rfl H89 (by omega) rfl (by omega) ?_
  refine ar_iload rfl rfl ?_
  refine ar_if_le rfl rfl (by omega) (fun h152 => ?_) (fun hf => by omega)
  refine ar_iconst rfl ?_
  refine ar_iadd rfl ?_
  refine ar_ias24 (n := 7) rfl H89 (by omega) rfl (by omega) (fun q161 H161 W161 => ?_)
  refine ar_inc7 rfl ?_
  refine ar_goto rfl rfl ?_
  exact K _ _ _ _ _ _ (W161.1 _ _ I89) ⟨W161.2.1 F89, J, H161, by rw [Int.add_zero, uT_id]; exact P⟩ (S31_t (S31_CY Y74) (S31_t (S31_CY Y89) W161.2.2)) rfl
theorem dr_C {d e : Nat} {q : am_A} {s : am_Z} {T : am_LT} (I : am_CI e q s) (L : am_LS q s T) {o1 o2 k l : Int} {x9 x10 : Option am_V} (bk : 0 ≤ k ∧ k ≤ 2) (bl : 0 ≤ l ∧ l ≤ 1200) (hl : ¬ legP s l) {Q : am_O → am_A → Prop} (K : ∀ q' s' T' x8 x9 x10, am_CI (e + 2) q' s' → am_LS q' s' T' → am_S31 q q' → rI s' 0 = rI s 0 → am_W2 (d + 22) m_L_isDrafted 34 [some (aR 8 0), some (aR 24 0), some (aR 24 2), some (aR 24 5), some (aI (zI o1)), some (aI (zI o2)), some (aI (zI 1)), some (aI (zI (k + 1))), x8, x9, x10] [] q' Q) : am_W2 (d + 22) m_L_isDrafted 64 [some (aR 8 0), some (aR 24 0), some (aR 24 2), some (aR 24 5), some (aI (zI o1)), some (aI (zI o2)), some (aI (zI 1)), some (aI (zI k)), some (aI (zI l)), x9, x10] [] q Q := by
  obtain ⟨F, J, H, P⟩ := L
  have B := CV_B I.1
  have b3 := B.2.1 3 0 12 rfl
  have b33 := B.2.1 33 0 4 rfl
  obtain ⟨⟨p0, p1, p2, p3, p4, p5, p6⟩, pn, pm, pf, pb, px⟩ := id P
  refine ar_aload_n rfl rfl ?_
  refine ar_bipush (x := 10) rfl rfl ?_
  refine ar_iload rfl rfl ?_
  refine ar_iconst rfl ?_
  refine ar_iconst rfl ?_
  refine ar_iconst rfl ?_
  refine ar_iconst rfl ?_
  refine ar_iconst rfl ?_
  refine ar_cs8 rfl rfl (Nat.le_of_ble_eq_true rfl) (dx_leg (d := 0) (R := -3000000) I F J (by omega) (k := 1) (if_pos hl) (by omega) rfl) (by omega) (fun o q74 hq => ?_)
  obtain ⟨rfl, I74, Y74, F74⟩ := hq
  have H74 := LA_CY H Y74
  refine ar_stI9 rfl ?_
  refine ar_aload_n rfl rfl ?_
  refine ar_bipush (x := 27) rfl rfl ?_
  refine ar_iload rfl rfl ?_
  refine ar_iconst rfl ?_
  refine ar_iconst rfl ?_
  refine ar_iconst rfl ?_
  refine ar_iconst rfl ?_
  refine ar_iconst rfl ?_
  refine ar_cs8 rfl rfl (Nat.le_of_ble_eq_true rfl) (dn_standing (d := 0) I74 F74 (by omega) hl) (by omega) (fun o q89 hq => ?_)
  obtain ⟨rfl, I89, Y89, F89⟩ := hq
  have H89 := LA_CY H74 Y89
  refine ar_if_lt rfl rfl (by omega) (fun h92 => ?_) (fun hf => by omega)
  refine ar_iconst rfl ?_
  refine ar_stI10 rfl ?_
  refine ar_iload rfl rfl ?_
  refine ar_if_eq rfl rfl (by omega) (fun h104 => ?_) (fun hf => by omega)
  refine ar_iload rfl rfl ?_
  refine ar_ldc (x := -3000000) rfl rfl ?_
  refine ar_icmp_ne rfl rfl (by omega) (by omega) (fun ht => by omega) (fun h136 => ?_)
  refine ar_iconst rfl ?_
  refine ar_goto rfl rfl ?_
  refine ar_stI6 rfl ?_
  refine ar_aload_n rfl rfl ?_
  refine ar_iconst rfl ?_
  refine ar_dup2 rfl rfl rfl ?_
  refine ar_ial24 (n := 7) rfl H89 (by omega) rfl (by omega) ?_
  refine ar_iload rfl rfl ?_
  refine ar_if_le rfl rfl (by omega) (fun h152 => ?_) (fun hf => by omega)
  refine ar_iconst rfl ?_
  refine ar_iadd rfl ?_
  refine ar_ias24 (n := 7) rfl H89 (by omega) rfl (by omega) (fun q161 H161 W161 => ?_)
  refine ar_inc7 rfl ?_
  refine ar_goto rfl rfl ?_
  exact K _ _ _ _ _ _ (W161.1 _ _ I89) ⟨W161.2.1 F89, J, H161, by rw [Int.add_zero, uT_id]; exact P⟩ (S31_t (S31_CY Y74) (S31_t (S31_CY Y89) W161.2.2)) rfl
theorem lp_dr {d : Nat} {q : am_A} {Q : am_O → am_A → Prop} {e : Nat} {o1 o2 t0 : Int} (b2 : 0 ≤ o2 ∧ o2 ≤ 100000) : ∀ (m : Nat) (j : Nat) (k : Int) (q1 : am_A) (s1 : am_Z) (T1 : am_LT) (x8 x9 x10 : Option am_V), 4 - j < m → (k = j ∧ j ≤ 3 ∧ am_CI (e + 2 * j) q1 s1 ∧ am_LS q1 s1 T1 ∧ am_S31 q q1 ∧ rI s1 0 = t0) → (∀ x7 q1 s1 T1 x8 x9 x10, am_CI (e + 6) q1 s1 → am_LS q1 s1 T1 → am_S31 q q1 → rI s1 0 = t0 → am_W2 (d + 22) m_L_isDrafted 168 [some (aR 8 0), some (aR 24 0), some (aR 24 2), some (aR 24 5), some (aI (zI o1)), some (aI (zI o2)), some (aI (zI 1)), x7, x8, x9, x10] [] (q1) Q) → am_W2 (d + 22) m_L_isDrafted 34 [some (aR 8 0), some (aR 24 0), some (aR 24 2), some (aR 24 5), some (aI (zI o1)), some (aI (zI o2)), some (aI (zI 1)), some (aI (zI k)), x8, x9, x10] [] (q1) Q := by
  intro m
  induction m with
  | zero => intro j k q1 s1 T1 x8 x9 x10 hm; exact absurd hm (Nat.not_lt_zero _)
  | succ m ih =>
    intro j k q1 s1 T1 x8 x9 x10 hm ⟨hj, hj2, hI, hL, hS, h0⟩ K
    subst hj
    have b3 := (CV_B hI.1).2.1 3 0 12 rfl
    have hH := hL.2.2.1
    have p0 := hL.2.2.2.1.1
    refine ar_iload rfl rfl ?_
    refine ar_iconst rfl ?_
    refine ar_icmp_ge rfl rfl (by omega) (by omega) (fun h37 => ?_) (fun h37 => ?_)
    · exact K _ _ _ _ _ _ _ (CI_le hI (by omega)) hL hS h0
    · refine ar_iload rfl rfl ?_
      refine ar_if_eq rfl rfl (by omega) (fun ht => by omega) (fun h42 => ?_)
      refine ar_aload_n rfl rfl ?_
      refine ar_iload rfl rfl ?_
      refine ar_iload rfl rfl ?_
      refine ar_iconst rfl ?_
      refine ar_iadd rfl ?_
      refine ar_idiv rfl (by omega) (by omega) ?_
      have d1 : 0 ≤ o2 / ((j : Int) + 1) := Int.ediv_nonneg b2.1 (by omega)
      have d2 := Int.ediv_le_self ((j : Int) + 1) b2.1
      generalize o2 / ((j : Int) + 1) = D at d1 d2 ⊢
      refine ar_bipush (x := 7) rfl rfl ?_
      refine ar_iload rfl rfl ?_
      refine ar_imul rfl ?_
      refine ar_iadd rfl ?_
      refine ar_cs2 rfl rfl (Nat.le_of_ble_eq_true rfl) (cs_lleg (d := 0) hH (by omega) (by omega)) (by omega) (fun o q59 hq => am_B2_is ?_ hq)
      have bl := lleg_b (T := T1) (x := D + 7 * (j : Int)) (by omega)
      generalize (if T1 5 0 = 0 then (0 : Int) else 100 * ((D + 7 * (j : Int)) % T1 5 0) + (D + 7 * (j : Int)) / 12 % 9) = l at bl ⊢
      refine ar_stI8 rfl ?_
      by_cases hl : legP s1 l
      · by_cases hk : kLegA s1 l = 0
        · exact dr_A (d := d) hI hL (by omega) (by omega) hl hk (fun q2 s2 T2 x8 x9 x10 I2 L2 S2 e2 => ih (j + 1) _ _ _ _ _ _ _ (by omega) ⟨by omega, by omega, CI_le I2 (by omega), L2, S31_t hS S2, e2.trans h0⟩ K)
        · exact dr_B (d := d) hI hL (by omega) (by omega) hl hk (fun q2 s2 T2 x8 x9 x10 I2 L2 S2 e2 => ih (j + 1) _ _ _ _ _ _ _ (by omega) ⟨by omega, by omega, CI_le I2 (by omega), L2, S31_t hS S2, e2.trans h0⟩ K)
      · exact dr_C (d := d) hI hL (by omega) (by omega) hl (fun q2 s2 T2 x8 x9 x10 I2 L2 S2 e2 => ih (j + 1) _ _ _ _ _ _ _ (by omega) ⟨by omega, by omega, CI_le I2 (by omega), L2, S31_t hS S2, e2.trans h0⟩ K)
theorem cs_isDrafted0 {d : Nat} {q : am_A} {e : Nat} {s : am_Z} {T : am_LT} (I : am_CI e q s) (L : am_LS q s T) {o1 o2 : Int} (b1 : 0 ≤ o1 ∧ o1 ≤ 100000) (b2 : 0 ≤ o2 ∧ o2 ≤ 100000) (h4 : o1 % 4 ≠ 0) : am_C2 (d + 23) m_L_isDrafted [aR 8 0, aR 24 0, aR 24 2, aR 24 5, aI (zI o1), aI (zI o2)] q (am_LR 20 e q s) := by
  refine am_C2_i (ls := [some (aR 8 0), some (aR 24 0), some (aR 24 2), some (aR 24 5), some (aI (zI o1)), some (aI (zI o2)), none, none, none, none, none]) rfl ?_
  obtain ⟨F, J, H, P⟩ := L
  have B := CV_B I.1
  have b3 := B.2.1 3 0 12 rfl
  have b33 := B.2.1 33 0 4 rfl
  obtain ⟨⟨p0, p1, p2, p3, p4, p5, p6⟩, pn, pm, pf, pb, px⟩ := id P
  refine ar_iconst rfl ?_
  refine ar_stI6 rfl ?_
  refine ar_iload rfl rfl ?_
  refine ar_iconst rfl ?_
  refine ar_irem rfl (by omega) (by omega) ?_
  refine ar_if_ne rfl rfl (by omega) (fun h7 => ?_) (fun hf => by omega)
  refine ar_iconst rfl ?_
  refine ar_stI7 rfl ?_
  refine lp_dr (d := d + 1) (q := q) (e := e) (t0 := rI s 0) b2 1000 0 0 q s T none none none (by omega) ⟨rfl, by omega, I, ⟨F, J, H, P⟩, S31_r, rfl⟩ (fun x7 q2 s2 T2 x8 x9 x10 I2 L2 S2 e2 => ?_)
  have b33b := (CV_B I2.1).2.1 33 0 4 rfl
  have p3b := L2.2.2.2.1.2.2.2.1
  refine ar_iload rfl rfl ?_
  refine ar_if_eq rfl rfl (by omega) (fun ht => by omega) (fun h170 => ?_)
  refine ar_aload_n rfl rfl ?_
  refine ar_iconst rfl ?_
  refine ar_ial24 (n := 7) rfl L2.2.2.1 (by omega) rfl (by omega) ?_
  refine ar_iconst rfl ?_
  refine ar_icmp_ge rfl rfl (by omega) (by omega) (fun ht => by omega) (fun h177 => ?_)
  refine ar_aload_n rfl rfl ?_
  refine ar_aload_n rfl rfl ?_
  refine ar_aload_n rfl rfl ?_
  refine ar_iload rfl rfl ?_
  refine ar_iconst rfl ?_
  refine ar_idiv rfl (by omega) (by omega) ?_
  refine ar_bipush (x := 11) rfl rfl ?_
  refine ar_irem rfl (by omega) (by omega) ?_
  refine ar_cs4 rfl rfl (Nat.le_of_ble_eq_true rfl) (cs_isPrice (d := 0) I2 L2 (by omega)) (by omega) (fun o q190 hq => ?_)
  obtain ⟨rfl, s3, T3, I3, L3, S3, e3⟩ := hq
  refine ar_if_eq rfl rfl (by omega) (fun ht => by omega) (fun h193 => ?_)
  refine ar_iconst rfl ?_
  refine ar_goto rfl rfl ?_
  exact ar_iret rfl (Or.inr ⟨rfl, by first | omega | (split <;> omega)⟩) (⟨rfl, s3, T3, CI_le I3 (by omega), L3, S31_t S2 S3, e3.trans e2⟩)
theorem cs_isDrafted1 {d : Nat} {q : am_A} {e : Nat} {s : am_Z} {T : am_LT} (I : am_CI e q s) (L : am_LS q s T) {o1 o2 : Int} (b1 : 0 ≤ o1 ∧ o1 ≤ 100000) (b2 : 0 ≤ o2 ∧ o2 ≤ 100000) (h4 : o1 % 4 = 0) : am_C2 (d + 23) m_L_isDrafted [aR 8 0, aR 24 0, aR 24 2, aR 24 5, aI (zI o1), aI (zI o2)] q (am_LR 20 e q s) := by
  refine am_C2_i (ls := [some (aR 8 0), some (aR 24 0), some (aR 24 2), some (aR 24 5), some (aI (zI o1)), some (aI (zI o2)), none, none, none, none, none]) rfl ?_
  obtain ⟨F, J, H, P⟩ := L
  have B := CV_B I.1
  have b3 := B.2.1 3 0 12 rfl
  have b33 := B.2.1 33 0 4 rfl
  obtain ⟨⟨p0, p1, p2, p3, p4, p5, p6⟩, pn, pm, pf, pb, px⟩ := id P
  refine ar_iconst rfl ?_
  refine ar_stI6 rfl ?_
  refine ar_iload rfl rfl ?_
  refine ar_iconst rfl ?_
  refine ar_irem rfl (by omega) (by omega) ?_
  refine ar_if_ne rfl rfl (by omega) (fun ht => by omega) (fun h7 => ?_)
  refine ar_aload_n rfl rfl ?_
  refine ar_cv0 rfl rfl rfl (Nat.le_of_ble_eq_true rfl) (co_dropLegs (d := 0) I) (by omega) (fun o q11 hq => ?_)
  obtain ⟨o11, -, I11, G11⟩ := hq
  obtain rfl := o11 rfl
  have Y11 := G11.1
  have F11 := DF_FP F G11.2
  have H11 := LA_CY H Y11
  refine ar_aload_n rfl rfl ?_
  refine ar_iconst rfl ?_
  refine ar_ial24 (n := 7) rfl H11 (by omega) rfl (by omega) ?_
  refine ar_icmp_ne rfl rfl (by omega) (by omega) (fun ht => by omega) (fun h17 => ?_)
  refine ar_iconst rfl ?_
  refine ar_goto rfl rfl ?_
  refine ar_stI6 rfl ?_
  refine ar_aload_n rfl rfl ?_
  refine ar_iconst rfl ?_
  refine ar_iconst rfl ?_
  refine ar_ias24 (n := 7) rfl H11 (by omega) rfl (by omega) (fun q30 H30 W30 => ?_)
  refine ar_iconst rfl ?_
  refine ar_stI7 rfl ?_
  refine lp_dr (d := d + 1) (q := q) (e := e + 1) (t0 := rI s 0) b2 1000 0 0 q30 (wI s 33 0) (uT T 5 3 0) none none none (by omega) ⟨rfl, by omega, W30.1 _ _ I11, ⟨W30.2.1 F11, JJ_drop J, H30, PL_drop P⟩, S31_t (S31_CY Y11) W30.2.2, rfl⟩ (fun x7 q2 s2 T2 x8 x9 x10 I2 L2 S2 e2 => ?_)
  have b33b := (CV_B I2.1).2.1 33 0 4 rfl
  have p3b := L2.2.2.2.1.2.2.2.1
  refine ar_iload rfl rfl ?_
  refine ar_if_eq rfl rfl (by omega) (fun ht => by omega) (fun h170 => ?_)
  refine ar_aload_n rfl rfl ?_
  refine ar_iconst rfl ?_
  refine ar_ial24 (n := 7) rfl L2.2.2.1 (by omega) rfl (by omega) ?_
  refine ar_iconst rfl ?_
  refine ar_icmp_ge rfl rfl (by omega) (by omega) (fun ht => by omega) (fun h177 => ?_)
  refine ar_aload_n rfl rfl ?_
  refine ar_aload_n rfl rfl ?_
  refine ar_aload_n rfl rfl ?_
  refine ar_iload rfl rfl ?_
  refine ar_iconst rfl ?_
  refine ar_idiv rfl (by omega) (by omega) ?_
  refine ar_bipush (x := 11) rfl rfl ?_
  refine ar_irem rfl (by omega) (by omega) ?_
  refine ar_cs4 rfl rfl (Nat.le_of_ble_eq_true rfl) (cs_isPrice (d := 0) I2 L2 (by omega)) (by omega) (fun o q190 hq => ?_)
  obtain ⟨rfl, s3, T3, I3, L3, S3, e3⟩ := hq
  refine ar_if_eq rfl rfl (by omega) (fun ht => by omega) (fun h193 => ?_)
  refine ar_iconst rfl ?_
  refine ar_goto rfl rfl ?_
  exact ar_iret rfl (Or.inr ⟨rfl, by first | omega | (split <;> omega)⟩) (⟨rfl, s3, T3, CI_le I3 (by omega), L3, S31_t S2 S3, e3.trans e2⟩)
theorem cs_isDrafted {d : Nat} {q : am_A} {e : Nat} {s : am_Z} {T : am_LT} (I : am_CI e q s) (L : am_LS q s T) {o1 o2 : Int} (b1 : 0 ≤ o1 ∧ o1 ≤ 100000) (b2 : 0 ≤ o2 ∧ o2 ≤ 100000) : am_C2 (d + 23) m_L_isDrafted [aR 8 0, aR 24 0, aR 24 2, aR 24 5, aI (zI o1), aI (zI o2)] q (am_LR 20 e q s) := by
  by_cases h4 : o1 % 4 = 0
  · exact cs_isDrafted1 (d := d) I L b1 b2 h4
  · exact cs_isDrafted0 (d := d) I L b1 b2 h4
end

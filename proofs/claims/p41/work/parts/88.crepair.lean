noncomputable section
theorem cs_moveOn {d : Nat} {q : am_A} {e b : Nat} {s : am_Z} {c : Int} (I : am_CI e q s) (hb : (b : Int) < rI s 44) (hc : 0 ≤ c ∧ c < rA s 52 b) (h45 : 1 ≤ rA s 45 b) (h55 : rA s 55 (10 * b + c) ≤ 1) : am_C2 (d + 7) m_X_moveOn [aR 8 0, aR 0 b, aR 1 (cId q b c.toNat)] q (fun o q' => o = .inl (some (aI (zI (if mvP s b c then 1 else 0)))) ∧ am_CI e q' (moveS s b c) ∧ am_CG q q' ∧ (∀ l, lId q' l = lId q l) ∧ (∀ t i : Nat, t = 1809 ∨ (t = 1003 ∧ i ≠ b) → qLS q' (t, i) = qLS q (t, i)) ∧ 2 ≤ qFI q' 105 (1, cId q b c.toNat)) := by
  by_cases h1 : (wayS s b c).2.1 = -1
  · exact cs_moveOn0 (d := d) I hb hc h45 h55 h1
  · by_cases h2 : (wayS s b c).2.2 = -1
    · exact cs_moveOn1 (d := d) I hb hc h45 h55 h1 h2
    · exact cs_moveOn2 (d := d) I hb hc h45 h55 h1 h2
theorem mv_o {s : am_Z} {b c : Int} (hc : 0 ≤ c ∧ c < rA s 52 b) {j : Nat} {x : Int} (hj : j < 52 ∨ 58 < j) : rA (moveS s b c) j x = rA s j x := by
  by_cases h : mvP s b c
  · have h0 := h.1
    have enw : nWay s b c = if (wayS s b c).2.1 = -1 then 0 else if (wayS s b c).2.2 = -1 then 1 else 2 := rfl
    by_cases h1 : nWay s b c = 1
    · rw [mv_1 hc h h1]
      unfold mv1S
      simp only [wA_A]
      rw [if_neg (by omega), if_neg (by omega), if_neg (by omega)]
      exact ins_o (by omega) (by omega)
    · have h2 : nWay s b c = 2 := by
        by_cases z : (wayS s b c).2.1 = -1
        · rw [if_pos z] at enw; omega
        · by_cases y : (wayS s b c).2.2 = -1
          · rw [if_neg z, if_pos y] at enw; omega
          · rw [if_neg z, if_neg y] at enw; exact enw
      rw [mv_2 hc h h2]
      unfold mv2S
      simp only [wA_A]
      rw [if_neg (by omega), if_neg (by omega), if_neg (by omega)]
      exact (ins_o (by omega) (by omega)).trans (ins_o (by omega) (by omega))
  · unfold moveS
    rw [if_neg h, wA_A, if_neg (by omega)]
    rfl
/-- every booking has persons -/
def am_PE (s : am_Z) : Prop := ∀ b : Nat, (b : Int) < rI s 44 → 1 ≤ rA s 45 b
theorem PE_s {s s' : am_Z} (H : am_PE s) (m : ∀ x, rA s' 45 x = rA s 45 x) (n : rI s' 44 = rI s 44) : am_PE s' := fun b hb => by rw [m]; exact H b (by rw [← n]; exact hb)
theorem tierS_b (s : am_Z) (m : Int) : in32 (tierS s m) := by
  have h := in32_iDiv (rA s 69 m) 500
  unfold tierS in32 at *
  split
  · omega
  · omega
theorem rpr3_e {b : Int} {m : Nat} {k n : Int} {s : am_Z} (h : ¬ k < rA s 52 b) : rpr3 b (m + 1) k (s, n) = (s, n) := if_neg h
theorem rpr3_n {b : Int} {m : Nat} {k n : Int} {s : am_Z} (h : k < rA s 52 b) (h2 : ¬ brkP s b k) : rpr3 b (m + 1) k (s, n) = rpr3 b m (k + 1) (s, n) := (if_pos h).trans (if_neg h2)
theorem rpr3_y {b : Int} {m : Nat} {k n : Int} {s : am_Z} (h : k < rA s 52 b) (h2 : brkP s b k) (h3 : mvP s b k) : rpr3 b (m + 1) k (s, n) = rpr3 b m (k + 1) (moveS s b k, n + 100) := by
  refine (if_pos h).trans ((if_pos h2).trans ?_)
  show rpr3 b m (k + 1) (moveS s b k, n + (if mvP s b k then 100 else 1)) = _
  rw [if_pos h3]
theorem rpr3_v {b : Int} {m : Nat} {k n : Int} {s : am_Z} (h : k < rA s 52 b) (h2 : brkP s b k) (h3 : ¬ mvP s b k) : rpr3 b (m + 1) k (s, n) = rpr3 b m (k + 1) (moveS s b k, n + 1) := by
  refine (if_pos h).trans ((if_pos h2).trans ?_)
  show rpr3 b m (k + 1) (moveS s b k, n + (if mvP s b k then 100 else 1)) = _
  rw [if_neg h3]
theorem lp_rc3 {d : Nat} {q : am_A} {Q : am_O → am_A → Prop} {e b : Nat} {nb : Int} {x3 x4 : Option am_V} (hb : (b : Int) < nb) : ∀ (m : Nat) (k mv vd : Int) (s1 : am_Z) (q1 : am_A) (x7 : Option am_V), (11 - k).toNat < m → (0 ≤ k ∧ k ≤ 10 ∧ am_CI e q1 s1 ∧ rI s1 44 = nb ∧ am_PE s1 ∧ am_CG q q1) → (∀ s2 mv2 vd2 x6 x7 q2, (s2, 100 * mv2 + vd2) = rpr3 b m k (s1, 100 * mv + vd) → am_CI e q2 s2 → rI s2 44 = nb → am_PE s2 → am_CG q q2 → am_W2 (d + 8) m_X_repair 149 [some (aR 8 0), some (aI (zI mv2)), some (aI (zI vd2)), x3, x4, some (aR 0 b), x6, x7] [] (q2) Q) → am_W2 (d + 8) m_X_repair 67 [some (aR 8 0), some (aI (zI mv)), some (aI (zI vd)), x3, x4, some (aR 0 b), some (aI (zI k)), x7] [] (q1) Q := by
  intro m
  induction m with
  | zero => intro k mv vd s1 q1 x7 hm; exact absurd hm (Nat.not_lt_zero _)
  | succ m ih =>
    intro k mv vd s1 q1 x7 hm ⟨hk0, hk1, hI, hnb, hP, hG⟩ K
    have V := hI.1
    have hb1 : (b : Int) < rI s1 44 := by omega
    have hB := V.2.2.2.2.2.2.1.2.2.1 b hb1
    have b52 := (CV_B V).1 52 b 0 10 rfl
    have b55 := (CV_B V).1 55 (10 * (b : Int) + k) 0 5 rfl
    have h45 := hP b hb1
    have ec : 10 * (b : Int) + ((k.toNat : Nat) : Int) = 10 * b + k := by omega
    refine ar_iload rfl rfl ?_
    refine ar_aload rfl rfl ?_
    refine ar_gfR rfl rfl rfl (by omega) (hB.2.1.1) ?_
    refine ar_cv0 rfl rfl rfl (Nat.le_of_ble_eq_true rfl) (cl_szC (d := 0) V hb1) (by omega) (fun o q74 hq => am_B2_is ?_ hq)
    refine ar_icmp_ge rfl rfl (by omega) (by omega) (fun h77 => ?_) (fun h77 => ?_)
    · exact K _ _ _ _ _ _ (rpr3_e (by omega)).symm hI hnb hP hG
    · refine ar_iload rfl rfl ?_
      refine ar_bipush (x := 10) rfl rfl ?_
      refine ar_icmp_ge rfl rfl (by omega) (by omega) (fun ht => by omega) (fun h84 => ?_)
      refine ar_aload rfl rfl ?_
      refine ar_gfR rfl rfl rfl (by omega) (hB.2.1.1) ?_
      refine ar_iload rfl rfl ?_
      refine ar_cv1 rfl rfl rfl (Nat.le_of_ble_eq_true rfl) (cl_getC (d := 0) V hb1 (by omega)) (by omega) (fun o q94 hq => am_B2_is ?_ hq)
      refine ar_cast rfl rfl rfl ?_
      refine ar_stA7 rfl ?_
      refine ar_aload rfl rfl ?_
      refine ar_cv0 rfl rfl rfl (Nat.le_of_ble_eq_true rfl) (cs_isToFly (d := 0) (((V.2.2.2.2.2.2.1.2.2.2.1 b k.toNat hb1 (by omega)).2.2.2.2 105 55 rfl).trans (by rw [ec])) (by omega)) (by omega) (fun o q104 hq => am_B2_is ?_ hq)
      refine ar_if_eqB rfl rfl (fun h107 => ?_) (fun h107 => ?_)
      · refine ar_inc6 rfl ?_
        refine ar_goto rfl rfl ?_
        first | exact ih (k + 1) (mv + 1) vd _ _ _ (by omega) ⟨by omega, by omega, I124, (mv_I (by omega)).trans hnb, PE_s hP (fun x => mv_o (by omega) (by omega)) (mv_I (by omega)), CG_t hG G124⟩ (fun s2 mv2 vd2 x6 x7 q2 he => K s2 mv2 vd2 x6 x7 q2 (by rw [he, rpr3_y (by omega) ⟨by omega, h117⟩ (by assumption), show 100 * (mv + 1) + vd = 100 * mv + vd + 100 by omega])) | exact ih (k + 1) mv (vd + 1) _ _ _ (by omega) ⟨by omega, by omega, I124, (mv_I (by omega)).trans hnb, PE_s hP (fun x => mv_o (by omega) (by omega)) (mv_I (by omega)), CG_t hG G124⟩ (fun s2 mv2 vd2 x6 x7 q2 he => K s2 mv2 vd2 x6 x7 q2 (by rw [he, rpr3_v (by omega) ⟨by omega, h117⟩ (by assumption), show 100 * mv + (vd + 1) = 100 * mv + vd + 1 by omega])) | exact ih (k + 1) mv vd _ _ _ (by omega) ⟨by omega, by omega, hI, hnb, hP, hG⟩ (fun s2 mv2 vd2 x6 x7 q2 he => K s2 mv2 vd2 x6 x7 q2 (by rw [he, rpr3_n (by omega) (fun z => by first | exact absurd z.1 (by omega) | exact h117 z.2)]))
      · refine ar_aload rfl rfl ?_
        refine ar_aload rfl rfl ?_
        refine ar_cv1 rfl rfl rfl (Nat.le_of_ble_eq_true rfl) (cs_isBroken (d := 0) V hb1 (by omega)) (by omega) (fun o q114 hq => am_B2_is ?_ hq)
        refine ar_if_neB rfl rfl (fun h117 => ?_) (fun h117 => ?_)
        · refine ar_aload_n rfl rfl ?_
          refine ar_aload rfl rfl ?_
          refine ar_aload rfl rfl ?_
          refine ar_cv2 rfl rfl rfl (Nat.le_of_ble_eq_true rfl) (cs_moveOn (d := 0) hI hb1 (by omega) h45 (by omega)) (by omega) (fun o q128 hq => ?_)
          obtain ⟨rfl, I124, G124, -, -⟩ := hq
          refine ar_if_eqB rfl rfl (fun h131 => ?_) (fun h131 => ?_)
          · refine ar_inc2 rfl ?_
            refine ar_inc6 rfl ?_
            refine ar_goto rfl rfl ?_
            first | exact ih (k + 1) (mv + 1) vd _ _ _ (by omega) ⟨by omega, by omega, I124, (mv_I (by omega)).trans hnb, PE_s hP (fun x => mv_o (by omega) (by omega)) (mv_I (by omega)), CG_t hG G124⟩ (fun s2 mv2 vd2 x6 x7 q2 he => K s2 mv2 vd2 x6 x7 q2 (by rw [he, rpr3_y (by omega) ⟨by omega, h117⟩ (by assumption), show 100 * (mv + 1) + vd = 100 * mv + vd + 100 by omega])) | exact ih (k + 1) mv (vd + 1) _ _ _ (by omega) ⟨by omega, by omega, I124, (mv_I (by omega)).trans hnb, PE_s hP (fun x => mv_o (by omega) (by omega)) (mv_I (by omega)), CG_t hG G124⟩ (fun s2 mv2 vd2 x6 x7 q2 he => K s2 mv2 vd2 x6 x7 q2 (by rw [he, rpr3_v (by omega) ⟨by omega, h117⟩ (by assumption), show 100 * mv + (vd + 1) = 100 * mv + vd + 1 by omega])) | exact ih (k + 1) mv vd _ _ _ (by omega) ⟨by omega, by omega, hI, hnb, hP, hG⟩ (fun s2 mv2 vd2 x6 x7 q2 he => K s2 mv2 vd2 x6 x7 q2 (by rw [he, rpr3_n (by omega) (fun z => by first | exact absurd z.1 (by omega) | exact h117 z.2)]))
          · refine ar_inc1 rfl ?_
            refine ar_goto rfl rfl ?_
            refine ar_inc6 rfl ?_
            refine ar_goto rfl rfl ?_
            first | exact ih (k + 1) (mv + 1) vd _ _ _ (by omega) ⟨by omega, by omega, I124, (mv_I (by omega)).trans hnb, PE_s hP (fun x => mv_o (by omega) (by omega)) (mv_I (by omega)), CG_t hG G124⟩ (fun s2 mv2 vd2 x6 x7 q2 he => K s2 mv2 vd2 x6 x7 q2 (by rw [he, rpr3_y (by omega) ⟨by omega, h117⟩ (by assumption), show 100 * (mv + 1) + vd = 100 * mv + vd + 100 by omega])) | exact ih (k + 1) mv (vd + 1) _ _ _ (by omega) ⟨by omega, by omega, I124, (mv_I (by omega)).trans hnb, PE_s hP (fun x => mv_o (by omega) (by omega)) (mv_I (by omega)), CG_t hG G124⟩ (fun s2 mv2 vd2 x6 x7 q2 he => K s2 mv2 vd2 x6 x7 q2 (by rw [he, rpr3_v (by omega) ⟨by omega, h117⟩ (by assumption), show 100 * mv + (vd + 1) = 100 * mv + vd + 1 by omega])) | exact ih (k + 1) mv vd _ _ _ (by omega) ⟨by omega, by omega, hI, hnb, hP, hG⟩ (fun s2 mv2 vd2 x6 x7 q2 he => K s2 mv2 vd2 x6 x7 q2 (by rw [he, rpr3_n (by omega) (fun z => by first | exact absurd z.1 (by omega) | exact h117 z.2)]))
        · refine ar_goto rfl rfl ?_
          refine ar_inc6 rfl ?_
          refine ar_goto rfl rfl ?_
          first | exact ih (k + 1) (mv + 1) vd _ _ _ (by omega) ⟨by omega, by omega, I124, (mv_I (by omega)).trans hnb, PE_s hP (fun x => mv_o (by omega) (by omega)) (mv_I (by omega)), CG_t hG G124⟩ (fun s2 mv2 vd2 x6 x7 q2 he => K s2 mv2 vd2 x6 x7 q2 (by rw [he, rpr3_y (by omega) ⟨by omega, h117⟩ (by assumption), show 100 * (mv + 1) + vd = 100 * mv + vd + 100 by omega])) | exact ih (k + 1) mv (vd + 1) _ _ _ (by omega) ⟨by omega, by omega, I124, (mv_I (by omega)).trans hnb, PE_s hP (fun x => mv_o (by omega) (by omega)) (mv_I (by omega)), CG_t hG G124⟩ (fun s2 mv2 vd2 x6 x7 q2 he => K s2 mv2 vd2 x6 x7 q2 (by rw [he, rpr3_v (by omega) ⟨by omega, h117⟩ (by assumption), show 100 * mv + (vd + 1) = 100 * mv + vd + 1 by omega])) | exact ih (k + 1) mv vd _ _ _ (by omega) ⟨by omega, by omega, hI, hnb, hP, hG⟩ (fun s2 mv2 vd2 x6 x7 q2 he => K s2 mv2 vd2 x6 x7 q2 (by rw [he, rpr3_n (by omega) (fun z => by first | exact absurd z.1 (by omega) | exact h117 z.2)]))
theorem lp_rc2 {d : Nat} {q : am_A} {Q : am_O → am_A → Prop} {e : Nat} {nb t n0 : Int} {s0 : am_Z} (ht : 0 ≤ t ∧ t ≤ 3) (hnb0 : 0 ≤ nb ∧ nb ≤ 40) : ∀ (m : Nat) (j : Nat) (k mv vd : Int) (s1 : am_Z) (q1 : am_A) (x5 x6 x7 : Option am_V), nb.toNat - j < m → (k = j ∧ (j : Int) ≤ nb ∧ (s1, 100 * mv + vd) = rpr2 t j (s0, n0) ∧ am_CI e q1 s1 ∧ rI s1 44 = nb ∧ am_PE s1 ∧ am_CG q q1) → (∀ s2 mv2 vd2 x4 x5 x6 x7 q2, (s2, 100 * mv2 + vd2) = rpr2 t nb.toNat (s0, n0) → am_CI e q2 s2 → rI s2 44 = nb → am_PE s2 → am_CG q q2 → am_W2 (d + 8) m_X_repair 155 [some (aR 8 0), some (aI (zI mv2)), some (aI (zI vd2)), some (aI (zI t)), x4, x5, x6, x7] [] (q2) Q) → am_W2 (d + 8) m_X_repair 13 [some (aR 8 0), some (aI (zI mv)), some (aI (zI vd)), some (aI (zI t)), some (aI (zI k)), x5, x6, x7] [] (q1) Q := by
  intro m
  induction m with
  | zero => intro j k mv vd s1 q1 x5 x6 x7 hm; exact absurd hm (Nat.not_lt_zero _)
  | succ m ih =>
    intro j k mv vd s1 q1 x5 x6 x7 hm ⟨hj, hj2, hX, hI, hnb, hP, hG⟩ K
    subst hj
    have V := hI.1
    refine ar_iload rfl rfl ?_
    refine ar_aload_n rfl rfl ?_
    refine ar_gfR rfl rfl rfl (by omega) (V.1.1 806 _ rfl) ?_
    refine ar_cv0 rfl rfl rfl (Nat.le_of_ble_eq_true rfl) (cl_szB (d := 0) V) (by omega) (fun o q19 hq => am_B2_is ?_ hq)
    refine ar_icmp_ge rfl rfl (by omega) (by omega) (fun h22 => ?_) (fun h22 => ?_)
    · have ej : j = nb.toNat := by omega
      rw [ej] at hX
      exact K _ _ _ _ _ _ _ _ hX hI hnb hP hG
    · refine ar_aload_n rfl rfl ?_
      refine ar_gfR rfl rfl rfl (by omega) (V.1.1 806 _ rfl) ?_
      refine ar_iload rfl rfl ?_
      refine ar_cv1 rfl rfl rfl (Nat.le_of_ble_eq_true rfl) (cl_getB (d := 0) V (by omega)) (by omega) (fun o q31 hq => am_B2_is ?_ hq)
      rw [Int.toNat_natCast]
      have hb1 : ((j : Nat) : Int) < rI s1 44 := by omega
      have hB := V.2.2.2.2.2.2.1.2.2.1 j hb1
      have b47 := (CV_B V).1 47 j 0 3 rfl
      have b46 := (CV_B V).1 46 j (-1) 4 rfl
      have btr := tierS_b s1 (rA s1 46 (j : Int))
      refine ar_cast rfl rfl rfl ?_
      refine ar_stA5 rfl ?_
      refine ar_aload rfl rfl ?_
      refine ar_gfIv rfl rfl rfl (by omega) (hB.1 7 47 rfl) ?_
      refine ar_iconst rfl ?_
      refine ar_icmp_ne rfl rfl (by omega) (by omega) (fun h45 => ?_) (fun h45 => ?_)
      · refine ar_inc4 rfl ?_
        refine ar_goto rfl rfl ?_
        have er : rpr2 t (j + 1) (s0, n0) = rprB t j (rpr2 t j (s0, n0)) := rfl
        first | exact ih (j + 1) _ _ _ _ _ _ _ _ (by omega) ⟨by omega, by omega, by { rw [he3, er, ← hX]; exact (if_pos ⟨by omega, by omega⟩).symm }, I3, n3, P3, CG_t hG G3⟩ K | exact ih (j + 1) _ _ _ _ _ _ _ _ (by omega) ⟨by omega, by omega, by { rw [er, ← hX]; exact (if_neg (fun z => by have z1 := z.1; have z2 := z.2; have z3 : rA s1 47 (j : Int) = 1 := z1; have z4 : tierS s1 (rA s1 46 (j : Int)) = t := z2; omega)).symm }, hI, hnb, hP, hG⟩ K
      · refine ar_aload_n rfl rfl ?_
        refine ar_aload rfl rfl ?_
        refine ar_gfIv rfl rfl rfl (by omega) (hB.1 0 46 rfl) ?_
        refine ar_cv1 rfl rfl rfl (Nat.le_of_ble_eq_true rfl) (cs_tierOf (d := 0) V (by omega)) (by omega) (fun o q54 hq => am_B2_is ?_ hq)
        refine ar_iload_n rfl rfl ?_
        refine ar_icmp_eq rfl rfl (by omega) (by omega) (fun h58 => ?_) (fun h58 => ?_)
        · refine ar_iconst rfl ?_
          refine ar_stI6 rfl ?_
          refine lp_rc3 (d := d) (q := q1) (e := e) (b := j) (nb := nb) (by omega) 12 0 _ _ _ _ _ (by omega) ⟨by omega, by omega, hI, hnb, hP, CG_r⟩ (fun s3 mv3 vd3 x6 x7 q3 he3 I3 n3 P3 G3 => ?_)
          refine ar_inc4 rfl ?_
          refine ar_goto rfl rfl ?_
          have er : rpr2 t (j + 1) (s0, n0) = rprB t j (rpr2 t j (s0, n0)) := rfl
          first | exact ih (j + 1) _ _ _ _ _ _ _ _ (by omega) ⟨by omega, by omega, by { rw [he3, er, ← hX]; exact (if_pos ⟨by omega, by omega⟩).symm }, I3, n3, P3, CG_t hG G3⟩ K | exact ih (j + 1) _ _ _ _ _ _ _ _ (by omega) ⟨by omega, by omega, by { rw [er, ← hX]; exact (if_neg (fun z => by have z1 := z.1; have z2 := z.2; have z3 : rA s1 47 (j : Int) = 1 := z1; have z4 : tierS s1 (rA s1 46 (j : Int)) = t := z2; omega)).symm }, hI, hnb, hP, hG⟩ K
        · refine ar_goto rfl rfl ?_
          refine ar_inc4 rfl ?_
          refine ar_goto rfl rfl ?_
          have er : rpr2 t (j + 1) (s0, n0) = rprB t j (rpr2 t j (s0, n0)) := rfl
          first | exact ih (j + 1) _ _ _ _ _ _ _ _ (by omega) ⟨by omega, by omega, by { rw [he3, er, ← hX]; exact (if_pos ⟨by omega, by omega⟩).symm }, I3, n3, P3, CG_t hG G3⟩ K | exact ih (j + 1) _ _ _ _ _ _ _ _ (by omega) ⟨by omega, by omega, by { rw [er, ← hX]; exact (if_neg (fun z => by have z1 := z.1; have z2 := z.2; have z3 : rA s1 47 (j : Int) = 1 := z1; have z4 : tierS s1 (rA s1 46 (j : Int)) = t := z2; omega)).symm }, hI, hnb, hP, hG⟩ K
theorem lp_rc1 {d : Nat} {q : am_A} {Q : am_O → am_A → Prop} {e : Nat} {nb : Int} {s0 : am_Z} (hnb0 : 0 ≤ nb ∧ nb ≤ 40) : ∀ (m : Nat) (i : Nat) (t mv vd : Int) (s1 : am_Z) (q1 : am_A) (x4 x5 x6 x7 : Option am_V), 5 - i < m → (t = 3 - i ∧ i ≤ 4 ∧ (s1, 100 * mv + vd) = rpr1 nb.toNat i (s0, 0) ∧ am_CI e q1 s1 ∧ rI s1 44 = nb ∧ am_PE s1 ∧ am_CG q q1) → (∀ s2 mv2 vd2 x3 x4 x5 x6 x7 q2, (s2, 100 * mv2 + vd2) = rpr1 nb.toNat 4 (s0, 0) → am_CI e q2 s2 → am_CG q q2 → am_W2 (d + 8) m_X_repair 161 [some (aR 8 0), some (aI (zI mv2)), some (aI (zI vd2)), x3, x4, x5, x6, x7] [] (q2) Q) → am_W2 (d + 8) m_X_repair 6 [some (aR 8 0), some (aI (zI mv)), some (aI (zI vd)), some (aI (zI t)), x4, x5, x6, x7] [] (q1) Q := by
  intro m
  induction m with
  | zero => intro i t mv vd s1 q1 x4 x5 x6 x7 hm; exact absurd hm (Nat.not_lt_zero _)
  | succ m ih =>
    intro i t mv vd s1 q1 x4 x5 x6 x7 hm ⟨ht, hi, hX, hI, hnb, hP, hG⟩ K
    refine ar_iload_n rfl rfl ?_
    refine ar_if_lt rfl rfl (by omega) (fun h7 => ?_) (fun h7 => ?_)
    · have ei : i = 4 := by omega
      rw [ei] at hX
      exact K _ _ _ _ _ _ _ _ _ hX hI hG
    · refine ar_iconst rfl ?_
      refine ar_stI4 rfl ?_
      refine lp_rc2 (d := d) (q := q1) (e := e) (nb := nb) (t := t) (n0 := 100 * mv + vd) (s0 := s1) (by omega) hnb0 (nb.toNat + 1) 0 0 mv vd s1 q1 _ _ _ (by omega) ⟨rfl, by omega, rfl, hI, hnb, hP, CG_r⟩ (fun s3 mv3 vd3 x4 x5 x6 x7 q3 he3 I3 n3 P3 G3 => ?_)
      refine ar_inc3 rfl ?_
      refine ar_goto rfl rfl ?_
      have er : rpr1 nb.toNat (i + 1) (s0, 0) = rpr2 (3 - i) nb.toNat (rpr1 nb.toNat i (s0, 0)) := rfl
      exact ih (i + 1) _ _ _ _ _ _ _ _ _ (by omega) ⟨by omega, by omega, by { rw [he3, er, ← hX, ht] }, I3, n3, P3, CG_t hG G3⟩ K
theorem cs_repair {d : Nat} {q : am_A} {e : Nat} {s : am_Z} (I : am_CI e q s) (hP : am_PE s) : am_C2 (d + 8) m_X_repair [aR 8 0] q (fun o q' => o = .inl (some (aI (zI (rpr1 (rI s 44).toNat 4 (s, 0)).2))) ∧ am_CI e q' (rpr1 (rI s 44).toNat 4 (s, 0)).1 ∧ am_CG q q') := by
  refine am_C2_i (ls := [some (aR 8 0), none, none, none, none, none, none, none]) rfl ?_
  have b44 := (CV_B I.1).2.1 44 0 40 rfl
  refine ar_iconst rfl ?_
  refine ar_stI1 rfl ?_
  refine ar_iconst rfl ?_
  refine ar_stI2 rfl ?_
  refine ar_iconst rfl ?_
  refine ar_stI3 rfl ?_
  refine lp_rc1 (d := d) (q := q) (e := e) (nb := rI s 44) (s0 := s) b44 6 0 3 0 0 s q _ _ _ _ (by omega) ⟨rfl, by omega, rfl, I, rfl, hP, CG_r⟩ (fun s3 mv3 vd3 x3 x4 x5 x6 x7 q3 he3 I3 G3 => ?_)
  refine ar_bipush (x := 100) rfl rfl ?_
  refine ar_iload_n rfl rfl ?_
  refine ar_imul rfl ?_
  refine ar_iload_n rfl rfl ?_
  refine ar_iadd rfl ?_
  exact ar_iret rfl (Or.inl rfl) (⟨congrArg (fun x => (Sum.inl (some (aI (zI x))) : am_O)) (congrArg Prod.snd he3), by rw [← he3]; exact I3, G3⟩)
theorem co_repair {d e : Nat} {q : am_A} {s : am_Z} (I : am_CI e q s) (hP : am_PE s) : am_C2 (d + 8) m_X_repair [aR 8 0] q (am_OP e 0 kd1 (some (aI (zI (rpr1 (rI s 44).toNat 4 (s, 0)).2))) q (rpr1 (rI s 44).toNat 4 (s, 0)).1) := by
  refine am_C2_imp (cs_repair (d := d) I hP) (fun o q' h => ?_)
  exact ⟨fun _ => h.1, fun z => absurd rfl z, CI_le h.2.1 (Nat.le_succ e), h.2.2⟩
end

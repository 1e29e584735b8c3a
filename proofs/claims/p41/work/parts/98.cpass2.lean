noncomputable section
/-- what is kept of the points: proved of one PT later -/
def am_PX (PT : am_Z → Prop) : Prop := (∀ t, in_S t → PT t → am_PN t) ∧ (∀ t l, in_S t → am_UQ t → legP t l → PT t → am_UQ (goS t l) → am_CK (goS t l) → am_PE (goS t l) → PT (goS t l)) ∧ (∀ t v, PT t → PT (wI t 0 v)) ∧ ∀ t (i : Nat), in_S t → PT t → PT (voidS (wA t 47 i 2) i)
def am_J (PT : am_Z → Prop) (t : am_Z) : Prop := am_UQ t ∧ am_CK t ∧ am_PE t ∧ PT t
theorem vd_55 {t : am_Z} {i : Nat} {v x : Int} : rA (voidS (wA t 47 i v) i) 55 x = if 10 * (i : Int) ≤ x ∧ x < 10 * i + ((rA t 52 i).toNat : Int) then gVoid t x else rA t 55 x := by
  unfold voidS
  rw [wB_A]
  by_cases h : 10 * (i : Int) ≤ x ∧ x < 10 * i + ((rA t 52 i).toNat : Int)
  · rw [if_pos h]
    exact (if_pos ⟨rfl, h.1, h.2⟩).trans rfl
  · rw [if_neg h]
    exact (if_neg (fun z => h z.2)).trans rfl
theorem vd_A {t : am_Z} {i j : Nat} {v x : Int} (h : j ≠ 47 ∧ j ≠ 55) : rA (voidS (wA t 47 i v) i) j x = rA t j x := by
  unfold voidS
  rw [wB_A, if_neg (fun z => h.2 z.1), wA_A, if_neg (fun z => h.1 z.1)]
theorem lap_J {PT : am_Z → Prop} (X : am_PX PT) {t : am_Z} (B : in_S t) (H : am_J PT t) (i : Nat) : am_J PT (lapF i t) := by
  obtain ⟨h1, h2, h3, h4⟩ := H
  refine ⟨lapF_UQ h1, ?_, ?_, ?_⟩
  · unfold lapF
    split
    · intro b k b1 b2 b3
      rw [vd_A (by omega)] at b2
      rw [vd_55] at b3
      have e44 : rI (voidS (wA t 47 i 2) i) 44 = rI t 44 := rfl
      rw [e44] at b1
      have c52 := B.1 52 b 0 10 rfl
      have d52 := B.1 52 i 0 10 rfl
      by_cases e : b = i
      · subst e
        rw [if_pos ⟨by omega, by omega⟩] at b3
        unfold gVoid at b3
        split at b3 <;> omega
      · rw [if_neg (fun z => by omega)] at b3
        unfold voidS
        rw [wB_A, if_neg (fun z => absurd z.1 (by omega)), wA_A, if_neg (fun z => e (by have := z.2; omega))]
        exact h2 b k b1 b2 b3
    · exact h2
  · unfold lapF
    split
    · exact PE_s h3 (fun x => vd_A (by omega)) rfl
    · exact h3
  · unfold lapF
    split
    · exact X.2.2.2 t i B h4
    · exact h4
theorem lap_B {t : am_Z} (B : in_S t) (i : Nat) : in_S (lapF i t) := by
  unfold lapF
  split
  · have B1 : in_S (wA t 47 i 2) := in_S_A B (fun lo hi h => by cases h; omega) (fun h => by cases h)
    refine ⟨fun j x lo hi h => ?_, B1.2.1, fun j x h => ?_⟩
    · by_cases e : j = 55
      · subst e
        rw [vd_55]
        have b := B.1 55 x lo hi h
        cases h
        split
        · unfold gVoid
          split <;> omega
        · exact b
      · show lo ≤ (if j = 55 ∧ _ ∧ _ then _ else _) ∧ (if j = 55 ∧ _ ∧ _ then _ else _) ≤ hi
        rw [if_neg (fun z => e z.1)]
        exact B1.1 j x lo hi h
    · by_cases e : j = 55
      · subst e; cases h
      · show (if j = 55 ∧ _ ∧ _ then _ else _) % 100 ≤ 60
        rw [if_neg (fun z => e z.1)]
        exact B1.2.2 j x h
  · exact B
theorem lapN_J {PT : am_Z → Prop} (X : am_PX PT) {t : am_Z} (B : in_S t) (H : am_J PT t) : ∀ n : Nat, in_S (itS lapF n t) ∧ am_J PT (itS lapF n t)
  | 0 => ⟨B, H⟩
  | n + 1 => ⟨lap_B (lapN_J X B H n).1 n, lap_J X (lapN_J X B H n).1 (lapN_J X B H n).2 n⟩
theorem lp_ps2 {d : Nat} {q : am_A} {Q : am_O → am_A → Prop} {e : Nat} {s : am_Z} {PT : am_Z → Prop} {x1 x2 : Option am_V} (X : am_PX PT) : ∀ (m : Nat) (f : Nat) (k : Int) (q1 : am_A) (x4 : Option am_V), (rI s 3).toNat - f < m → (k = f ∧ (f : Int) ≤ rI s 3 ∧ am_CI e q1 (itS lgF (100 * f) s) ∧ am_J PT (itS lgF (100 * f) s) ∧ am_CY q q1 ∧ am_DFh q1) → (∀ x3 x4 q2, am_CI e q2 (itS lgF (100 * rI s 3).toNat s) → am_J PT (itS lgF (100 * rI s 3).toNat s) → am_CY q q2 → am_DFh q2 → am_W2 (d + 9) m_X_pass 78 [some (aR 8 0), x1, x2, x3, x4] [] (q2) Q) → am_W2 (d + 9) m_X_pass 30 [some (aR 8 0), x1, x2, some (aI (zI k)), x4] [] (q1) Q := by
  intro m
  induction m with
  | zero => intro f k q1 x4 hm; exact absurd hm (Nat.not_lt_zero _)
  | succ m ih =>
    intro f k q1 x4 hm ⟨hj, hj2, hI, hJ, hY, hF⟩ K
    subst hj
    have V := hI.1
    have B := CV_B V
    have e3 : rI (itS lgF (100 * f) s) 3 = rI s 3 := itS_J (fun i t => lgF_I (by omega) (by omega) (by omega)) _ _
    have b3 := B.2.1 3 0 12 rfl
    have b0 := B.2.1 0 0 60000 rfl
    refine ar_iload_n rfl rfl ?_
    refine ar_aload_n rfl rfl ?_
    refine ar_gfR rfl rfl rfl (by omega) (V.1.1 802 _ rfl) ?_
    refine ar_cv0 rfl rfl rfl (Nat.le_of_ble_eq_true rfl) (cl_szF (d := 0) V) (by omega) (fun o q35 hq => am_B2_is ?_ hq)
    refine ar_icmp_ge rfl rfl (by omega) (by omega) (fun h38 => ?_) (fun h38 => ?_)
    · have ej : 100 * f = (100 * rI s 3).toNat := by omega
      rw [ej] at hI hJ
      exact K _ _ _ hI hJ hY hF
    · refine ar_aload_n rfl rfl ?_
      refine ar_gfR rfl rfl rfl (by omega) (V.1.1 802 _ rfl) ?_
      refine ar_iload_n rfl rfl ?_
      refine ar_cv1 rfl rfl rfl (Nat.le_of_ble_eq_true rfl) (cl_getF (d := 0) V (by omega)) (by omega) (fun o q46 hq => am_B2_is ?_ hq)
      rw [Int.toNat_natCast]
      refine ar_cast rfl rfl rfl ?_
      refine ar_aload_n rfl rfl ?_
      refine ar_gfIv rfl rfl rfl (by omega) (V.2.1.2.2.2.2.1) ?_
      refine ar_cv1 rfl rfl rfl (Nat.le_of_ble_eq_true rfl) (cs_departing (d := 0) V (by omega) b0) (by omega) (fun o q56 hq => am_B2_is ?_ hq)
      refine ar_stA4 rfl ?_
      refine ar_aload rfl rfl ?_
      refine ar_ifnull rfl rfl (fun hn63 => ?_) (fun r63 hr63 => ?_)
      · refine ar_inc3 rfl ?_
        refine ar_goto rfl rfl ?_
        first | exact ih (f + 1) _ _ _ (by omega) ⟨by omega, by omega, by { rw [seg_f B rfl rfl, if_neg hne]; exact I69 }, by { rw [seg_f B rfl rfl, if_neg hne]; exact ⟨X69.1, X69.2.1, X69.2.2, X.2.1 _ _ B hJ.1 hl69 hJ.2.2.2 X69.1 X69.2.1 X69.2.2⟩ }, CY_t hY Y69, F69⟩ K | exact ih (f + 1) _ _ _ (by omega) ⟨by omega, by omega, by { rw [seg_f B rfl rfl, if_pos (oLg_n hn63)]; exact hI }, by { rw [seg_f B rfl rfl, if_pos (oLg_n hn63)]; exact hJ }, hY, hF⟩ K
      · have hne := oLg_s hr63
        have hl69 := dp_l hne
        rw [oLz_s hne]
        refine ar_aload_n rfl rfl ?_
        refine ar_aload rfl rfl ?_
        refine ar_cv1 rfl rfl rfl (Nat.le_of_ble_eq_true rfl) (cs_takeOff (d := 0) hI hl69 (X.1 _ B hJ.2.2.2) hJ.1 hJ.2.1 hJ.2.2.1 hF) (by omega) (fun o q69 hq => ?_)
        obtain ⟨rfl, I69, X69, Y69, F69⟩ := hq
        refine ar_inc3 rfl ?_
        refine ar_goto rfl rfl ?_
        first | exact ih (f + 1) _ _ _ (by omega) ⟨by omega, by omega, by { rw [seg_f B rfl rfl, if_neg hne]; exact I69 }, by { rw [seg_f B rfl rfl, if_neg hne]; exact ⟨X69.1, X69.2.1, X69.2.2, X.2.1 _ _ B hJ.1 hl69 hJ.2.2.2 X69.1 X69.2.1 X69.2.2⟩ }, CY_t hY Y69, F69⟩ K | exact ih (f + 1) _ _ _ (by omega) ⟨by omega, by omega, by { rw [seg_f B rfl rfl, if_pos (oLg_n hn63)]; exact hI }, by { rw [seg_f B rfl rfl, if_pos (oLg_n hn63)]; exact hJ }, hY, hF⟩ K
theorem lp_ps1 {d : Nat} {q : am_A} {Q : am_O → am_A → Prop} {e : Nat} {s : am_Z} {PT : am_Z → Prop} {h : Int} (X : am_PX PT) (hh : 1 ≤ h ∧ h ≤ 100) (hT : rI s 0 + h ≤ 60000) : ∀ (m : Nat) (j : Nat) (k : Int) (q1 : am_A) (x3 x4 : Option am_V), h.toNat - j < m → (k = j ∧ (j : Int) ≤ h ∧ am_CI e q1 (itS (fun _ => hrS) j s) ∧ am_J PT (itS (fun _ => hrS) j s) ∧ rI (itS (fun _ => hrS) j s) 0 = rI s 0 + j ∧ am_CY q q1 ∧ am_DFh q1) → (∀ x2 x3 x4 q2, am_CI e q2 (itS (fun _ => hrS) h.toNat s) → am_J PT (itS (fun _ => hrS) h.toNat s) → rI (itS (fun _ => hrS) h.toNat s) 0 = rI s 0 + h → am_CY q q2 → am_DFh q2 → am_W2 (d + 9) m_X_pass 84 [some (aR 8 0), some (aI (zI h)), x2, x3, x4] [] (q2) Q) → am_W2 (d + 9) m_X_pass 9 [some (aR 8 0), some (aI (zI h)), some (aI (zI k)), x3, x4] [] (q1) Q := by
  intro m
  induction m with
  | zero => intro j k q1 x3 x4 hm; exact absurd hm (Nat.not_lt_zero _)
  | succ m ih =>
    intro j k q1 x3 x4 hm ⟨hj, hj2, hI, hJ, h0, hY, hF⟩ K
    subst hj
    have V := hI.1
    have B := CV_B V
    have b0 := B.2.1 0 0 60000 rfl
    have b44 := B.2.1 44 0 40 rfl
    refine ar_iload_n rfl rfl ?_
    refine ar_iload_n rfl rfl ?_
    refine ar_icmp_ge rfl rfl (by omega) (by omega) (fun h11 => ?_) (fun h11 => ?_)
    · have ej : j = h.toNat := by omega
      rw [ej] at hI hJ h0
      exact K _ _ _ _ hI hJ (by omega) hY hF
    · refine ar_aload_n rfl rfl ?_
      refine ar_dup rfl rfl ?_
      refine ar_gfIv rfl rfl rfl (by omega) (V.2.1.2.2.2.2.1) ?_
      refine ar_iconst rfl ?_
      refine ar_iadd rfl ?_
      refine ar_pfI rfl rfl rfl rfl (by omega) (Or.inl rfl) ?_
      have I21 : am_CI e (uFI q1 813 (8, 0) (rI (itS (fun _ => hrS) j s) 0 + 1)) (wI (itS (fun _ => hrS) j s) 0 (rI (itS (fun _ => hrS) j s) 0 + 1)) := CI_w hI (CV_now V (by omega)) rfl rfl rfl rfl (fun _ => ⟨rfl, rfl⟩) ⟨rfl, rfl, rfl⟩
      refine ar_aload_n rfl rfl ?_
      refine ar_cv0 rfl rfl rfl (Nat.le_of_ble_eq_true rfl) (cs_lapseHeld (d := 0) I21) (by omega) (fun o q25 hq => ?_)
      obtain ⟨rfl, I25, G25⟩ := hq
      have JN : am_J PT (wI (itS (fun _ => hrS) j s) 0 (rI (itS (fun _ => hrS) j s) 0 + 1)) := ⟨UQ_cg (s := (itS (fun _ => hrS) j s)) (s' := (wI (itS (fun _ => hrS) j s) 0 (rI (itS (fun _ => hrS) j s) 0 + 1))) rfl (fun _ => rfl) (fun _ => rfl) (fun _ z => z) hJ.1, hJ.2.1, hJ.2.2.1, X.2.2.1 _ _ hJ.2.2.2⟩
      have J25 := (lapN_J X (CV_B I21.1) JN (rI (itS (fun _ => hrS) j s) 44).toNat).2
      have F25 : am_DFh q25 := DF_CG (DF_CG hF (CG_FI CG_r (by show cK 8; omega))) G25
      have e3 : rI (itS lapF (rI (itS (fun _ => hrS) j s) 44).toNat (wI (itS (fun _ => hrS) j s) 0 (rI (itS (fun _ => hrS) j s) 0 + 1))) 3 = rI (itS (fun _ => hrS) j s) 3 := congrFun (lapN_2 (s := (wI (itS (fun _ => hrS) j s) 0 (rI (itS (fun _ => hrS) j s) 0 + 1))) (rI (itS (fun _ => hrS) j s) 44).toNat) 3
      have eT : rI (itS lgF (100 * rI (itS lapF (rI (itS (fun _ => hrS) j s) 44).toNat (wI (itS (fun _ => hrS) j s) 0 (rI (itS (fun _ => hrS) j s) 0 + 1))) 3).toNat (itS lapF (rI (itS (fun _ => hrS) j s) 44).toNat (wI (itS (fun _ => hrS) j s) 0 (rI (itS (fun _ => hrS) j s) 0 + 1)))) 0 = rI s 0 + j + 1 := (itS_J (fun i t => lgF_I (by omega) (by omega) (by omega)) _ _).trans ((congrFun (lapN_2 (s := (wI (itS (fun _ => hrS) j s) 0 (rI (itS (fun _ => hrS) j s) 0 + 1))) (rI (itS (fun _ => hrS) j s) 44).toNat) 0).trans (show rI (itS (fun _ => hrS) j s) 0 + 1 = _ by omega))
      have ehr : hrS (itS (fun _ => hrS) j s) = itS lgF (100 * rI (itS lapF (rI (itS (fun _ => hrS) j s) 44).toNat (wI (itS (fun _ => hrS) j s) 0 (rI (itS (fun _ => hrS) j s) 0 + 1))) 3).toNat (itS lapF (rI (itS (fun _ => hrS) j s) 44).toNat (wI (itS (fun _ => hrS) j s) 0 (rI (itS (fun _ => hrS) j s) 0 + 1))) := by { rw [e3]; rfl }
      refine ar_iconst rfl ?_
      refine ar_stI3 rfl ?_
      refine lp_ps2 (d := d) (q := q25) (e := e) (s := (itS lapF (rI (itS (fun _ => hrS) j s) 44).toNat (wI (itS (fun _ => hrS) j s) 0 (rI (itS (fun _ => hrS) j s) 0 + 1)))) X ((rI (itS lapF (rI (itS (fun _ => hrS) j s) 44).toNat (wI (itS (fun _ => hrS) j s) 0 (rI (itS (fun _ => hrS) j s) 0 + 1))) 3).toNat + 1) 0 0 q25 _ (by omega) ⟨rfl, by { have := B.2.1 3 0 12 rfl; omega }, I25, J25, CY_r, F25⟩ (fun x3 x4 q78 I78 J78 Y78 F78 => ?_)
      refine ar_inc2 rfl ?_
      refine ar_goto rfl rfl ?_
      exact ih (j + 1) _ _ _ _ (by omega) ⟨by omega, by omega, by { rw [itS_s, ehr]; exact I78 }, by { rw [itS_s, ehr]; exact J78 }, by { rw [itS_s, ehr, eT]; omega }, CY_t (CY_t (CY_t hY (CY_FI CY_r (by show cK 8; omega))) G25.1) Y78, F78⟩ K
theorem cs_pass {d : Nat} {q : am_A} {e : Nat} {s : am_Z} {PT : am_Z → Prop} {h : Int} (I : am_CI e q s) (hh : in32 h) (X : am_PX PT) (J : am_J PT s) (F : am_DFh q) (hT : kPass h = 0 → rI s 0 + h ≤ 60000) : am_C2 (d + 9) m_X_pass [aR 8 0, aI (zI h)] q (am_OK (kPass h) kd1 (some (aI (zI (rI s 0 + h)))) q (fun q2 => am_CI e q2 (itS (fun _ => hrS) h.toNat s) ∧ am_J PT (itS (fun _ => hrS) h.toNat s) ∧ am_CY q q2 ∧ am_DFh q2)) := by
  refine am_C2_i (ls := [some (aR 8 0), some (aI (zI h)), none, none, none]) rfl ?_
  have V := I.1
  refine ar_iload_n rfl rfl ?_
  refine ar_iconst rfl ?_
  refine ar_bipush (x := 100) rfl rfl ?_
  refine ar_cs3 rfl rfl (Nat.le_of_ble_eq_true rfl) (cs_needRange (d := 0) (by omega) (by omega) (by omega)) (by omega) (fun o q4 hq => am_B2_T rfl (fun h4 => ?_) (fun h4 => ?_) hq)
  · refine ar_iconst rfl ?_
    refine ar_stI2 rfl ?_
    refine lp_ps1 (d := d) (q := q) (e := e) (s := s) (h := h) X (by omega) (hT (by unfold kPass; omega)) (h.toNat + 1) 0 0 q _ _ (by omega) ⟨rfl, by omega, I, J, by show rI s 0 = _; omega, CY_r, F⟩ (fun x2 x3 x4 q84 I84 J84 h84 Y84 F84 => ?_)
    refine ar_aload_n rfl rfl ?_
    refine ar_gfIv rfl rfl rfl (by omega) (I84.1.2.1.2.2.2.2.1) ?_
    exact ar_iret rfl (Or.inl rfl) (⟨fun _ => ⟨congrArg (fun x => (Sum.inl (some (aI (zI x))) : am_O)) h84, I84, J84, Y84, F84⟩, fun z => absurd (by unfold kPass; omega) z⟩)
  · exact ⟨fun z => absurd z (by unfold kPass; omega), fun _ => by { rw [show kPass h = 1 from by { unfold kPass; omega }]; exact ⟨rfl, rfl⟩ }⟩
end

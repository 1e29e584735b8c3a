noncomputable section
theorem lapN_2 {s : am_Z} : ∀ n : Nat, (itS lapF n s).2 = s.2
  | 0 => rfl
  | n + 1 => (lapF_2 n _).trans (lapN_2 n)
theorem lap_1 {i : Nat} {t : am_Z} (h : rA t 47 i = 0) (h2 : rA t 48 i ≤ rI t 0) : lapF i t = voidS (wA t 47 i 2) i := if_pos ⟨h, h2⟩
theorem lap_0 {i : Nat} {t : am_Z} (h : ¬ (rA t 47 i = 0 ∧ rA t 48 i ≤ rI t 0)) : lapF i t = t := if_neg h
theorem lp_lap {d : Nat} {q : am_A} {Q : am_O → am_A → Prop} {e : Nat} {s : am_Z} : ∀ (m : Nat) (j : Nat) (k : Int) (q1 : am_A) (x2 : Option am_V), (rI s 44).toNat - j < m → (k = j ∧ (j : Int) ≤ rI s 44 ∧ am_CI e q1 (itS lapF j s) ∧ am_CG q q1) → (∀ x1 x2 q1, am_CI e q1 (itS lapF (rI s 44).toNat s) → am_CG q q1 → am_W2 (d + 4) m_X_lapseHeld 54 [some (aR 8 0), x1, x2] [] (q1) Q) → am_W2 (d + 4) m_X_lapseHeld 2 [some (aR 8 0), some (aI (zI k)), x2] [] (q1) Q := by
  intro m
  induction m with
  | zero => intro j k q1 x2 hm; exact absurd hm (Nat.not_lt_zero _)
  | succ m ih =>
    intro j k q1 x2 hm ⟨hj, hj2, hI, hG⟩ K
    subst hj
    have V := hI.1
    have e44 : rI (itS lapF j s) 44 = rI s 44 := congrFun (lapN_2 j) 44
    have b44 := (CV_B V).2.1 44 0 40 rfl
    have b0 := (CV_B V).2.1 0 0 60000 rfl
    refine ar_iload_n rfl rfl ?_
    refine ar_aload_n rfl rfl ?_
    refine ar_gfR rfl rfl rfl (by omega) (V.1.1 806 _ rfl) ?_
    refine ar_cv0 rfl rfl rfl (Nat.le_of_ble_eq_true rfl) (cl_szB (d := 0) V) (by omega) (fun o q7 hq => am_B2_is ?_ hq)
    refine ar_icmp_ge rfl rfl (by omega) (by omega) (fun h10 => ?_) (fun h10 => ?_)
    · have ej : j = (rI s 44).toNat := by omega
      rw [ej] at hI
      exact K _ _ _ hI hG
    · refine ar_aload_n rfl rfl ?_
      refine ar_gfR rfl rfl rfl (by omega) (V.1.1 806 _ rfl) ?_
      refine ar_iload_n rfl rfl ?_
      refine ar_cv1 rfl rfl rfl (Nat.le_of_ble_eq_true rfl) (cl_getB (d := 0) V (by omega)) (by omega) (fun o q18 hq => am_B2_is ?_ hq)
      rw [Int.toNat_natCast]
      have hb2 : ((j : Nat) : Int) < rI (itS lapF j s) 44 := by omega
      have hB := V.2.2.2.2.2.2.1.2.2.1 j hb2
      have b47 := (CV_B V).1 47 j 0 3 rfl
      have b48 := (CV_B V).1 48 j 0 60100 rfl
      refine ar_cast rfl rfl rfl ?_
      refine ar_stA2 rfl ?_
      refine ar_aload_n rfl rfl ?_
      refine ar_gfIv rfl rfl rfl (by omega) (hB.1 7 47 rfl) ?_
      refine ar_if_ne rfl rfl (by omega) (fun h29 => ?_) (fun h29 => ?_)
      · refine ar_inc1 rfl ?_
        refine ar_goto rfl rfl ?_
        first | exact ih (j + 1) _ _ _ (by omega) ⟨by omega, by omega, by { rw [itS_s, lap_1 (by omega) (by omega)]; exact I45 }, CG_t hG G45⟩ K | exact ih (j + 1) _ _ _ (by omega) ⟨by omega, by omega, by { rw [itS_s, lap_0 (fun z => by omega)]; exact hI }, hG⟩ K
      · refine ar_aload_n rfl rfl ?_
        refine ar_gfIv rfl rfl rfl (by omega) (hB.1 2 48 rfl) ?_
        refine ar_aload_n rfl rfl ?_
        refine ar_gfIv rfl rfl rfl (by omega) (V.2.1.2.2.2.2.1) ?_
        refine ar_icmp_gt rfl rfl (by omega) (by omega) (fun h40 => ?_) (fun h40 => ?_)
        · refine ar_inc1 rfl ?_
          refine ar_goto rfl rfl ?_
          first | exact ih (j + 1) _ _ _ (by omega) ⟨by omega, by omega, by { rw [itS_s, lap_1 (by omega) (by omega)]; exact I45 }, CG_t hG G45⟩ K | exact ih (j + 1) _ _ _ (by omega) ⟨by omega, by omega, by { rw [itS_s, lap_0 (fun z => by omega)]; exact hI }, hG⟩ K
        · refine ar_aload_n rfl rfl ?_
          refine ar_iconst rfl ?_
          refine ar_cv1 rfl rfl rfl (Nat.le_of_ble_eq_true rfl) (cs_end (d := 0) (v := 2) hI hb2 (by omega)) (by omega) (fun o q45 hq => ?_)
          obtain ⟨rfl, I45, G45, -⟩ := hq
          refine ar_inc1 rfl ?_
          refine ar_goto rfl rfl ?_
          first | exact ih (j + 1) _ _ _ (by omega) ⟨by omega, by omega, by { rw [itS_s, lap_1 (by omega) (by omega)]; exact I45 }, CG_t hG G45⟩ K | exact ih (j + 1) _ _ _ (by omega) ⟨by omega, by omega, by { rw [itS_s, lap_0 (fun z => by omega)]; exact hI }, hG⟩ K
theorem cs_lapseHeld {d : Nat} {q : am_A} {e : Nat} {s : am_Z} (I : am_CI e q s) : am_C2 (d + 4) m_X_lapseHeld [aR 8 0] q (fun o q' => o = .inl none ∧ am_CI e q' (itS lapF (rI s 44).toNat s) ∧ am_CG q q') := by
  refine am_C2_i (ls := [some (aR 8 0), none, none]) rfl ?_
  have b44 := (CV_B I.1).2.1 44 0 40 rfl
  refine ar_iconst rfl ?_
  refine ar_stI1 rfl ?_
  refine lp_lap (d := d) (q := q) (e := e) (s := s) ((rI s 44).toNat + 1) 0 0 _ _ (by omega) ⟨rfl, by omega, I, CG_r⟩ (fun x1 x2 q1 I2 G2 => ?_)
  exact ar_ret rfl rfl (⟨rfl, I2, G2⟩)
/-- the leg of a flight that departs now, or -1 -/
def dpD (s : am_Z) (f T : Int) : Int := max 0 ((T - fhS s f) / 24)
def dpS (s : am_Z) (f T : Int) : Int := if dpD s f T < 61 ∧ legP s (100 * f + dpD s f T) ∧ rA s 18 (61 * f + dpD s f T) = 0 ∧ dep s (100 * f + dpD s f T) = T then 100 * f + dpD s f T else -1
theorem dp_e {s : am_Z} {f T : Int} (h : dpD s f T < 61 ∧ legP s (100 * f + dpD s f T) ∧ rA s 18 (61 * f + dpD s f T) = 0 ∧ dep s (100 * f + dpD s f T) = T) : dpS s f T = 100 * f + dpD s f T := if_pos h
theorem dp_n {s : am_Z} {f T : Int} (h : ¬ (dpD s f T < 61 ∧ legP s (100 * f + dpD s f T) ∧ rA s 18 (61 * f + dpD s f T) = 0 ∧ dep s (100 * f + dpD s f T) = T)) : dpS s f T = -1 := if_neg h
theorem dp_s {q : am_A} {s : am_Z} (V : am_CV q s) {f : Nat} (hf : (f : Int) < rI s 3) {n : Int} (hn : 0 ≤ n) (r : am_R) (h : (if 0 ≤ n ∧ n < 61 then qAR q (1408, f) n.toNat else none) = some r) : n < 61 ∧ legP s (100 * f + n) ∧ (if 0 ≤ n ∧ n < 61 then qAR q (1408, f) n.toNat else none) = some (5, lId q (100 * f + n)) := by
  have h61 : n < 61 := Classical.byContradiction (fun z => by rw [if_neg (fun y => z y.2)] at h; cases h)
  have hlo := leg_on V (l := 100 * f + n) ⟨by omega, by omega, by omega⟩
  have e1 : (if 0 ≤ n ∧ n < 61 then qAR q (1408, f) n.toNat else none) = legO q (100 * f + n) := by
    rw [if_pos ⟨hn, h61⟩]
    unfold legO
    rw [show ((100 * (f : Int) + n) / 100).toNat = f by omega, show ((100 * (f : Int) + n) % 100).toNat = n.toNat by omega]
  rw [e1] at h ⊢
  exact ⟨h61, hlo.2 r h⟩
theorem dp_x {q : am_A} {s : am_Z} (V : am_CV q s) {f : Nat} (hf : (f : Int) < rI s 3) {n : Int} (hn : 0 ≤ n) (h : (if 0 ≤ n ∧ n < 61 then qAR q (1408, f) n.toNat else none) = none) : ¬ (n < 61 ∧ legP s (100 * f + n)) := by
  rintro ⟨h61, hl⟩
  have hlo := (V.2.2.2.1.1 _ hl).1
  rw [if_pos ⟨hn, h61⟩] at h
  unfold legO at hlo
  rw [show ((100 * (f : Int) + n) / 100).toNat = f by omega, show ((100 * (f : Int) + n) % 100).toNat = n.toNat by omega, h] at hlo
  cases hlo
theorem oLz_n {q : am_A} {v : Int} (h : v = -1) : oLg q v = none := if_pos h
theorem oLz_s {q : am_A} {v : Int} (h : v ≠ -1) : oLg q v = some (5, lId q v) := if_neg h
theorem cs_departing {d : Nat} {q : am_A} {s : am_Z} (V : am_CV q s) {f : Nat} {T : Int} (hf : (f : Int) < rI s 3) (hT : 0 ≤ T ∧ T ≤ 60000) : am_C2 (d + 2) m_Fl_departingAt [aR 4 f, aI (zI T)] q (am_is2 (aO (oLg q (dpS s f T))) q) := by
  refine am_C2_i (ls := [some (aR 4 f), some (aI (zI T)), none]) rfl ?_
  have B := CV_B V
  have b3 := B.2.1 3 0 12 rfl
  have hfl := V.2.2.1.2.2.1 f hf
  have c7 := B.1 7 f 0 23 rfl
  have c8 := B.1 1 (rA s 5 f) (-12) 14 rfl
  have efh : fhS s f = rA s 7 f - rA s 1 (rA s 5 f) := rfl
  have edd : dpD s f T = max 0 ((T - fhS s f) / 24) := rfl
  refine ar_aload_n rfl rfl ?_
  refine ar_aload_n rfl rfl ?_
  refine ar_iload_n rfl rfl ?_
  refine ar_cv1 rfl rfl rfl (Nat.le_of_ble_eq_true rfl) (cs_dayFrom (d := 0) (fh := fhS s f) hfl.2.2.1 (by omega) (by omega)) (by omega) (fun o q3 hq => am_B2_is ?_ hq)
  refine ar_cv1 rfl rfl rfl (Nat.le_of_ble_eq_true rfl) (cs_on (d := 0) hfl.2.2.2.2.1 hfl.2.2.2.2.2.2.2.1 (by omega)) (by omega) (fun o q6 hq => am_B2_is ?_ hq)
  rw [← edd]
  have hd0 : 0 ≤ dpD s f T := by omega
  have hlg : ∀ r, (if 0 ≤ dpD s f T ∧ dpD s f T < 61 then qAR q (1408, f) (dpD s f T).toNat else none) = some r → dpD s f T < 61 ∧ legP s (100 * (f : Int) + dpD s f T) ∧ (if 0 ≤ dpD s f T ∧ dpD s f T < 61 then qAR q (1408, f) (dpD s f T).toNat else none) = some (5, lId q (100 * (f : Int) + dpD s f T)) := dp_s V hf hd0
  have hln : (if 0 ≤ dpD s f T ∧ dpD s f T < 61 then qAR q (1408, f) (dpD s f T).toNat else none) = none → ¬ (dpD s f T < 61 ∧ legP s (100 * (f : Int) + dpD s f T)) := dp_x V hf hd0
  generalize (if 0 ≤ dpD s f T ∧ dpD s f T < 61 then qAR q (1408, f) (dpD s f T).toNat else none) = ol at hlg hln ⊢
  refine ar_stA2 rfl ?_
  refine ar_aload_n rfl rfl ?_
  refine ar_ifnull rfl rfl (fun hn11 => ?_) (fun r11 hr11 => ?_)
  · refine ar_null rfl ?_
    exact ar_aret rfl rfl (⟨by first | rw [oLz_n (dp_n (fun z => hln hn11 ⟨z.1, z.2.1⟩))] | (rw [oLz_s (by rw [dp_e ⟨h61, hl, by rw [e1, e2] at h18; omega, by omega⟩]; omega), dp_e ⟨h61, hl, by rw [e1, e2] at h18; omega, by omega⟩]) | (rw [oLz_n (dp_n (fun z => by rw [e1, e2] at *; have z1 := z.2.2.1; have z2 := z.2.2.2; omega))]), rfl⟩)
  · obtain ⟨h61, hl, rfl⟩ := hlg _ hr11
    have hg := V.2.2.2.1.1 _ hl
    have bcc := B.1 18 (61 * ((100 * (f : Int) + dpD s f T) / 100) + (100 * (f : Int) + dpD s f T) % 100) 0 1 rfl
    have e1 : (100 * (f : Int) + dpD s f T) / 100 = f := by omega
    have e2 : (100 * (f : Int) + dpD s f T) % 100 = dpD s f T := by omega
    have bdd := dep_b B (legP_R B hl)
    refine ar_aload_n rfl rfl ?_
    refine ar_gfIv rfl rfl rfl (by omega) (hg.2.2.2.2.2.2.2.2) ?_
    refine ar_if_ne rfl rfl (by omega) (fun h18 => ?_) (fun h18 => ?_)
    · refine ar_null rfl ?_
      exact ar_aret rfl rfl (⟨by first | rw [oLz_n (dp_n (fun z => hln hn11 ⟨z.1, z.2.1⟩))] | (rw [oLz_s (by rw [dp_e ⟨h61, hl, by rw [e1, e2] at h18; omega, by omega⟩]; omega), dp_e ⟨h61, hl, by rw [e1, e2] at h18; omega, by omega⟩]) | (rw [oLz_n (dp_n (fun z => by rw [e1, e2] at *; have z1 := z.2.2.1; have z2 := z.2.2.2; omega))]), rfl⟩)
    · refine ar_aload_n rfl rfl ?_
      refine ar_gfIv rfl rfl rfl (by omega) (hg.2.2.2.2.2.1) ?_
      refine ar_iload_n rfl rfl ?_
      refine ar_icmp_ne rfl rfl (by omega) (by omega) (fun h26 => ?_) (fun h26 => ?_)
      · refine ar_null rfl ?_
        exact ar_aret rfl rfl (⟨by first | rw [oLz_n (dp_n (fun z => hln hn11 ⟨z.1, z.2.1⟩))] | (rw [oLz_s (by rw [dp_e ⟨h61, hl, by rw [e1, e2] at h18; omega, by omega⟩]; omega), dp_e ⟨h61, hl, by rw [e1, e2] at h18; omega, by omega⟩]) | (rw [oLz_n (dp_n (fun z => by rw [e1, e2] at *; have z1 := z.2.2.1; have z2 := z.2.2.2; omega))]), rfl⟩)
      · refine ar_aload_n rfl rfl ?_
        refine ar_goto rfl rfl ?_
        exact ar_aret rfl rfl (⟨by first | rw [oLz_n (dp_n (fun z => hln hn11 ⟨z.1, z.2.1⟩))] | (rw [oLz_s (by rw [dp_e ⟨h61, hl, by rw [e1, e2] at h18; omega, by omega⟩]; omega), dp_e ⟨h61, hl, by rw [e1, e2] at h18; omega, by omega⟩]) | (rw [oLz_n (dp_n (fun z => by rw [e1, e2] at *; have z1 := z.2.2.1; have z2 := z.2.2.2; omega))]), rfl⟩)
end

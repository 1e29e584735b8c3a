noncomputable section
theorem best_no {s : am_Z} (B : in_S s) {n : Int} (h : (bestW s n).1 = -1) : (bestW s n).2 = [] := by
  have key : (bestW s n).1 = -1 → (bestW s n).2 = [] := by
    unfold bestW
    split
    · exact fun _ => rfl
    · exact tk_mem (P := fun W => W.1 = -1 → W.2 = []) _ _ (fun _ => rfl) (fun x _ hx => by
        have z := sumI_b (a := 0) (n := x.length) (f := fun i => rA s 25 (pF x i.toNat)) (M := 5000) (fun i => B.1 25 _ 0 5000 rfl)
        have y : pSum s x = -1 := hx
        unfold pSum at y
        omega)
  exact key h
theorem wq_b {s : am_Z} (B : in_S s) (n : Int) : (-1 ≤ (bestW s n).1 ∧ (bestW s n).1 ≤ 20000) ∧ (bestW s n).2.length ≤ 4 ∧ ∀ i : Nat, i < (bestW s n).2.length → (0 ≤ pF (bestW s n).2 i ∧ pF (bestW s n).2 i < 16) ∧ 1 ≤ pC (bestW s n).2 i ∧ pC (bestW s n).2 i ≤ 4 := by
  by_cases h : (bestW s n).1 = -1
  · rw [best_no B h, h]
    exact ⟨by omega, Nat.zero_le _, fun i hi => absurd hi (Nat.not_lt_zero _)⟩
  · obtain ⟨h1, h2, h3⟩ := bestW_ok B n h
    have L : rI s 35 ≤ 4 := by
      unfold bestW at h
      split at h
      · exact absurd rfl h
      · exact (B.2.1 35 0 4 rfl).2
    have l := pLen_b h1
    have y : (bestW s n).2.length ≤ 4 := by omega
    have z := sumI_b (a := 0) (n := (bestW s n).2.length) (f := fun i => rA s 25 (pF (bestW s n).2 i.toNat)) (M := 5000) (fun i => B.1 25 _ 0 5000 rfl)
    have e : pSum s (bestW s n).2 = sumI 0 (bestW s n).2.length (fun i => rA s 25 (pF (bestW s n).2 i.toNat)) := rfl
    refine ⟨by omega, y, fun i hi => ?_⟩
    have c := okP_F h1 hi
    have p1 := pLen_part h1 (i := i) (by omega)
    have p2 := pLen_part h1 (i := i + 1) (by omega)
    rw [pC_s] at p2
    exact ⟨c.1, c.2, by omega⟩
theorem wq_ex {s : am_Z} (B : in_S s) (n : Int) : ∃ s1, in_S s1 ∧ am_BR s s1 ∧ am_WQ s1 (bestW s n) := by
  obtain ⟨w1, y4, w5⟩ := wq_b B n
  generalize bestW s n = W at w1 y4 w5 ⊢
  refine ⟨(fun j i => if j = 40 ∧ 0 ≤ i ∧ i < W.2.length then pF W.2 i.toNat else if j = 39 ∧ 0 ≤ i ∧ i < W.2.length then pC W.2 i.toNat else s.1 j i, fun j => if j = 37 then W.1 else if j = 38 then (W.2.length : Int) else s.2 j), ⟨fun j i lo hi h => ?_, fun j lo hi h => ?_, fun j i h => ?_⟩, ⟨fun j i h => ?_, fun j h1 h2 => ?_⟩, ⟨rfl, rfl, y4, fun i hi => ⟨?_, ?_⟩⟩⟩
  · show lo ≤ (if j = 40 ∧ 0 ≤ i ∧ i < W.2.length then pF W.2 i.toNat else if j = 39 ∧ 0 ≤ i ∧ i < W.2.length then pC W.2 i.toNat else s.1 j i) ∧ (if j = 40 ∧ 0 ≤ i ∧ i < W.2.length then pF W.2 i.toNat else if j = 39 ∧ 0 ≤ i ∧ i < W.2.length then pC W.2 i.toNat else s.1 j i) ≤ hi
    by_cases c1 : j = 40 ∧ 0 ≤ i ∧ i < W.2.length
    · rw [if_pos c1]
      rw [c1.1] at h
      cases h
      have := w5 i.toNat (by omega)
      omega
    · rw [if_neg c1]
      by_cases c2 : j = 39 ∧ 0 ≤ i ∧ i < W.2.length
      · rw [if_pos c2]
        rw [c2.1] at h
        cases h
        have := w5 i.toNat (by omega)
        omega
      · rw [if_neg c2]
        exact B.1 j i lo hi h
  · show lo ≤ (if j = 37 then W.1 else if j = 38 then (W.2.length : Int) else s.2 j) ∧ (if j = 37 then W.1 else if j = 38 then (W.2.length : Int) else s.2 j) ≤ hi
    by_cases c1 : j = 37
    · rw [if_pos c1]
      rw [c1] at h
      cases h
      omega
    · rw [if_neg c1]
      by_cases c2 : j = 38
      · rw [if_pos c2]
        rw [c2] at h
        cases h
        omega
      · rw [if_neg c2]
        exact B.2.1 j lo hi h
  · show (if j = 40 ∧ 0 ≤ i ∧ i < W.2.length then pF W.2 i.toNat else if j = 39 ∧ 0 ≤ i ∧ i < W.2.length then pC W.2 i.toNat else s.1 j i) % 100 ≤ 60
    rw [if_neg (fun z => by rw [z.1] at h; cases h), if_neg (fun z => by rw [z.1] at h; cases h)]
    exact B.2.2 j i h
  · show (if j = 40 ∧ 0 ≤ i ∧ i < W.2.length then pF W.2 i.toNat else if j = 39 ∧ 0 ≤ i ∧ i < W.2.length then pC W.2 i.toNat else s.1 j i) = rA s j i
    rw [if_neg (fun z => by rw [z.1] at h; cases h), if_neg (fun z => by rw [z.1] at h; cases h)]
    rfl
  · show (if j = 37 then W.1 else if j = 38 then (W.2.length : Int) else s.2 j) = rI s j
    rw [if_neg h1, if_neg h2]
    rfl
  · show (if (40 : Nat) = 40 ∧ 0 ≤ (i : Int) ∧ (i : Int) < W.2.length then pF W.2 (i : Int).toNat else if (40 : Nat) = 39 ∧ 0 ≤ (i : Int) ∧ (i : Int) < W.2.length then pC W.2 (i : Int).toNat else s.1 40 i) = pF W.2 i
    rw [if_pos ⟨rfl, by omega, by omega⟩, Int.toNat_natCast]
  · show (if (39 : Nat) = 40 ∧ 0 ≤ (i : Int) ∧ (i : Int) < W.2.length then pF W.2 (i : Int).toNat else if (39 : Nat) = 39 ∧ 0 ≤ (i : Int) ∧ (i : Int) < W.2.length then pC W.2 (i : Int).toNat else s.1 39 i) = pC W.2 i
    rw [if_neg (fun z => absurd z.1 (by omega)), if_pos ⟨rfl, by omega, by omega⟩, Int.toNat_natCast]
/-- clearing comes to an end -/
theorem clQ_ex : ∀ (M : Nat) (s : am_Z) (n : Int), cntD s (rI s 61).toNat < M → in_S s → ∃ s2 v, clQ M s n s2 v
  | 0, _, _, h, _ => absurd h (Nat.not_lt_zero _)
  | M + 1, s, n, h, B => by
    have b61 := B.2.1 61 0 20 rfl
    have b44 := B.2.1 44 0 40 rfl
    by_cases c : nwS s = -1 ∨ 40 ≤ rI s 44
    · exact ⟨s, n, Or.inl ⟨c, rfl, rfl⟩⟩
    · have c1 : nwS s ≠ -1 := fun z => c (Or.inl z)
      have c2 : rI s 44 < 40 := by omega
      have hb : -1 ≤ nwS s ∧ nwS s < ((rI s 61).toNat : Int) := nwN_b s (rI s 61).toNat
      have hw := nwN_w (s := s) (n := (rI s 61).toNat) c1
      have BJ := jw_in B (nwS s)
      obtain ⟨s3, B3, R3, Q3⟩ := wq_ex BJ (rA s 62 (nwS s))
      have y := BR_jw R3
      have e61 : rI s3 61 = rI s 61 := y.2.2 61 (by omega) (by omega) (by omega)
      have e44 : rI s3 44 = rI s 44 := y.2.2 44 (by omega) (by omega) (by omega)
      have lt : cntD s3 (rI s 61).toNat < cntD s (rI s 61).toNat := cntD_lt (w := nwS s) (by omega) hw.2 (by rw [y.2.1, if_pos rfl]; omega) (fun i hi => by rw [y.2.1, if_neg hi])
      by_cases hp : (bestW (jw s (nwS s)) (rA s 62 (nwS s))).1 = -1
      · obtain ⟨s2, v, z⟩ := clQ_ex M s3 n (by rw [e61]; omega) B3
        exact ⟨s2, v, Or.inr ⟨⟨c1, c2⟩, s3, B3, R3, Q3, Or.inl ⟨hp, z⟩⟩⟩
      · have hok := bestW_ok BJ (rA s 62 (nwS s)) hp
        have e35 : rI (jw s (nwS s)) 35 = rA s 64 (nwS s) := rfl
        have b64 := B.1 64 (nwS s) 0 4 rfl
        have b62 := B.1 62 (nwS s) 0 9 rfl
        have b63 := B.1 63 (nwS s) (-1) 4 rfl
        have w := wq_S Q3 hok.1 (hok.2.1.trans e35)
        have hS : ∀ i : Nat, (i : Int) < rI s3 38 → 0 ≤ sumI 0 i (rA s3 39) := fun i hi => (w.2.1 i hi).1
        have BT : in_S (bkT s3 (rA s 62 (nwS s)) (rA s 63 (nwS s)) 24) := bkT_B B3 (by omega) (by omega) (by omega) (by omega) w.1 (fun i hi => by have := w.2.1 i hi; omega)
        have BU : in_S (wA (bkT s3 (rA s 62 (nwS s)) (rA s 63 (nwS s)) 24) 66 (nwS s) (rI s 44)) := in_S_A BT (fun lo hi z => by cases z; omega) (fun z => by cases z)
        have f61 : rI (wA (bkT s3 (rA s 62 (nwS s)) (rA s 63 (nwS s)) 24) 66 (nwS s) (rI s 44)) 61 = rI s 61 := ((bkT_I 61).trans (if_neg (by omega))).trans e61
        have f67 : cntD (wA (bkT s3 (rA s 62 (nwS s)) (rA s 63 (nwS s)) 24) 66 (nwS s) (rI s 44)) (rI s 61).toNat = cntD s3 (rI s 61).toNat := by
          unfold cntD
          refine congrArg Int.toNat (sumI_c (fun i _ _ => ?_))
          unfold fDone
          rw [wA_ne (by omega), bkT_U hS (Or.inl (by omega))]
        obtain ⟨s2, v, z⟩ := clQ_ex M (wA (bkT s3 (rA s 62 (nwS s)) (rA s 63 (nwS s)) 24) 66 (nwS s) (rI s 44)) (n + 1) (by rw [f61, f67]; omega) BU
        exact ⟨s2, v, Or.inr ⟨⟨c1, c2⟩, s3, B3, R3, Q3, Or.inr ⟨hp, z⟩⟩⟩
/-- the class clears -/
theorem cs_clearP {q : am_A} {e : Nat} {s : am_Z} (I : am_CI e q s) (J : am_JJ s) : ∃ s2 v, am_JJ s2 ∧ am_ClQ s s2 0 v ∧ am_C2 17 m_X_clear [aR 8 0] q (fun o q' => o = .inl (some (aI (zI v))) ∧ am_CI e q' s2 ∧ am_CG q q') := by
  have B := CV_B I.1
  have m67 : ∀ j x, j ≠ 67 → rA (wB s 67 0 20 (fun _ => 0)) j x = rA s j x := fun j x h => if_neg (fun z => h z.1)
  have Bw : in_S (wB s 67 0 20 (fun _ => 0)) := by
    refine ⟨fun j y lo hi h => ?_, B.2.1, fun j y h => ?_⟩
    · rw [wB_A]
      split
      · rename_i z
        rw [z.1] at h
        cases h
        omega
      · exact B.1 j y lo hi h
    · rw [m67 j y (fun z => by rw [z] at h; cases h)]
      exact B.2.2 j y h
  have Jw : am_JJ (wB s 67 0 20 (fun _ => 0)) := JJ_m J (INV_cg J.1 (fun j x h => m67 j x (by omega)) (fun _ _ => rfl)) (fun j x h => m67 j x (by omega)) (fun _ _ => rfl)
  have Cw := CI_s I (s' := wB s 67 0 20 (fun _ => 0)) (fun j x h => m67 j x (by omega)) (fun _ _ => rfl) Bw
  have hwl : hWL s := fun w k w1 w2 k1 k2 => by
    have b := B.1 65 (4 * w + k) 0 1160 rfl
    exact (J.1.1.1 _ (by omega) (J.2.1.2.2.2.2 w k w1 w2 k1 k2)).1
  obtain ⟨s2, v, c⟩ := clQ_ex (cntD (wB s 67 0 20 (fun _ => 0)) (rI (wB s 67 0 20 (fun _ => 0)) 61).toNat + 1) (wB s 67 0 20 (fun _ => 0)) 0 (Nat.lt_succ_self _) Bw
  have z := clQ_J _ _ _ _ _ c Jw Bw
  refine ⟨s2, v, z.1, ?_, cs_clear (d := 0) Cw c hwl J.1.2.2.1 (PT_N B J.1.2.1.2.2.2.2.2.1) J.1.2.1.1⟩
  exact ClQ_t (B.2.1 44 0 40 rfl).1 (ClQ_o (s := s) (s1 := wB s 67 0 20 (fun _ => 0)) (fun j x _ h => m67 j x h) (fun _ _ _ _ => rfl)) z.2
theorem ClQ_v {s s2 : am_Z} {v : Int} (c : am_ClQ s s2 0 v) (B : in_S s) (B2 : in_S s2) : v = rI s2 44 - rI s 44 ∧ 0 ≤ v ∧ v ≤ rI s 61 := by
  obtain ⟨c1, c2, c3, c4, _⟩ := c
  have b61 := B.2.1 61 0 20 rfl
  have x1 := sumI_b (a := 0) (n := (rI s 61).toNat) (f := cW1 s) (M := 1) (fun i => by unfold cW1; split <;> omega)
  have x2 := sumI_b (a := 0) (n := (rI s2 61).toNat) (f := cW1 s2) (M := 1) (fun i => by unfold cW1; split <;> omega)
  unfold cW at c3
  omega
/-- the law's arrays while what was cleared is gone through -/
def am_Clt (s2 : am_Z) (T T1 : am_LT) (N j : Int) : Prop := T1 5 4 = N + j ∧ (∀ b : Int, N ≤ b → b < N + j → T1 3 b = sumI (4 * b) 4 (rA s2 59) ∧ T1 4 b = rA s2 46 b) ∧ ∀ (i : Nat) (x : Int), (i ≠ 3 ∨ x < N) → (i ≠ 4 ∨ x < N) → (i ≠ 5 ∨ x ≠ 4) → T1 i x = T i x
theorem PL_clear {s s2 : am_Z} {T T1 : am_LT} {v : Int} (P : am_PL s T) (c : am_ClQ s s2 0 v) (C : am_Clt s2 T T1 (rI s 44) v) : am_PL s2 T1 := by
  obtain ⟨⟨p0, p1, p2, p3, p4, p5, p6⟩, pn, pm, pf, pb, px⟩ := P
  obtain ⟨c1, c2, c3, k1, k2, c6, c7, c8⟩ := c
  obtain ⟨t1, t2, eo⟩ := C
  have e44 : rI s2 44 = rI s 44 + v := by omega
  refine ⟨⟨by rw [k1 3 (by omega), eo _ _ (by omega) (by omega) (by omega)]; exact p0, by rw [k1 20 (by omega), eo _ _ (by omega) (by omega) (by omega)]; exact p1, by rw [k1 0 (by omega), eo _ _ (by omega) (by omega) (by omega)]; exact p2, by rw [k1 33 (by omega), eo _ _ (by omega) (by omega) (by omega)]; exact p3, by rw [e44, t1], by rw [k1 61 (by omega), eo _ _ (by omega) (by omega) (by omega)]; exact p5, P6_cg p6 (k1 68 (by omega)) (k1 0 (by omega)) (eo 5 6 (by omega) (by omega) (by omega))⟩, fun f h1 h2 => ?_, fun f b h1 h2 h3 h4 => ?_, fun i h1 h2 => ?_, fun k h1 h2 => ?_, fun w h1 h2 => ?_⟩
  · rw [k1 3 (by omega)] at h2
    rw [k2 4 _ (by omega), k2 5 _ (by omega), k2 6 _ (by omega), k2 8 _ (by omega), k2 9 _ (by omega), eo 0 _ (by omega) (by omega) (by omega), eo 0 _ (by omega) (by omega) (by omega), eo 0 _ (by omega) (by omega) (by omega), eo 0 _ (by omega) (by omega) (by omega), eo 0 _ (by omega) (by omega) (by omega)]
    exact pn f h1 h2
  · rw [k1 3 (by omega)] at h2
    rw [k2 14 _ (by omega), eo 1 _ (by omega) (by omega) (by omega)]
    exact pm f b h1 h2 h3 h4
  · rw [k1 20 (by omega)] at h2
    rw [k2 25 _ (by omega), eo 2 _ (by omega) (by omega) (by omega)]
    exact pf i h1 h2
  · rw [e44] at h2
    by_cases e : k < rI s 44
    · have z := c6 k h1 e
      rw [z.1, z.2.2, eo 3 _ (by omega) (by omega) (by omega), eo 4 _ (by omega) (by omega) (by omega)]
      exact pb k h1 e
    · exact t2 k (by omega) h2
  · rw [k1 61 (by omega)] at h2
    rw [k2 63 _ (by omega), eo 7 _ (by omega) (by omega) (by omega)]
    exact px w h1 h2
theorem lp_cs {d : Nat} {q : am_A} {Q : am_O → am_A → Prop} {s : am_Z} (V : am_CV q s) {N v k told : Int} (bb : 0 ≤ N + k ∧ N + k < rI s 44) (ht : told / 10 = rA s 52 (N + k)) (ht2 : 0 ≤ told ∧ told ≤ 1000) : ∀ (m : Nat) (j : Nat) (c acc : Int), 11 - j < m → (c = j ∧ (j : Int) ≤ rA s 52 (N + k) ∧ acc = sumI (10 * (N + k)) j (rA s 57)) → (∀ x11, am_W2 (d + 7) m_L_isCleared 129 [some (aR 8 0), some (aR 24 3), some (aR 24 4), some (aR 24 7), some (aR 24 5), some (aI (zI N)), some (aI (zI v)), some (aI (zI 1)), some (aI (zI k)), some (aI (zI (sumI (10 * (N + k)) (rA s 52 (N + k)).toNat (rA s 57)))), some (aI (zI told)), x11] [] (q) Q) → am_W2 (d + 7) m_L_isCleared 92 [some (aR 8 0), some (aR 24 3), some (aR 24 4), some (aR 24 7), some (aR 24 5), some (aI (zI N)), some (aI (zI v)), some (aI (zI 1)), some (aI (zI k)), some (aI (zI acc)), some (aI (zI told)), some (aI (zI c))] [] (q) Q := by
  intro m
  induction m with
  | zero => intro j c acc hm; exact absurd hm (Nat.not_lt_zero _)
  | succ m ih =>
    intro j c acc hm ⟨hj, hj2, ha⟩ K
    subst hj
    subst ha
    have b52 := (CV_B V).1 52 (N + k) 0 10 rfl
    have b44 := (CV_B V).2.1 44 0 40 rfl
    refine ar_iload rfl rfl ?_
    refine ar_iload rfl rfl ?_
    refine ar_bipush (x := 10) rfl rfl ?_
    refine ar_idiv rfl (by omega) (by omega) ?_
    refine ar_icmp_ge rfl rfl (by omega) (by omega) (fun h99 => ?_) (fun h99 => ?_)
    · have ej : j = (rA s 52 (N + k)).toNat := by omega
      subst ej
      exact K _
    · refine ar_iload rfl rfl ?_
      refine ar_if_eq rfl rfl (by omega) (fun ht => by omega) (fun h104 => ?_)
      refine ar_iload rfl rfl ?_
      refine ar_aload_n rfl rfl ?_
      refine ar_iload rfl rfl ?_
      refine ar_iload rfl rfl ?_
      refine ar_iadd rfl ?_
      refine ar_iload rfl rfl ?_
      refine ar_cv2 rfl rfl rfl (Nat.le_of_ble_eq_true rfl) (T2_is (cs_share (d := 0) V (by omega) (by omega)) ⟨bb, by omega, by omega⟩) (by omega) (fun o q117 hq => am_B2_is ?_ hq)
      refine ar_iadd rfl ?_
      refine ar_stI9 rfl ?_
      refine ar_inc11 rfl ?_
      refine ar_goto rfl rfl ?_
      exact ih (j + 1) _ _ (by omega) ⟨by omega, by omega, by rw [sumI_s]⟩ K
theorem lp_cw {d : Nat} {q : am_A} {Q : am_O → am_A → Prop} {s2 : am_Z} {N v k : Int} {x9 x10 : Option am_V} {T : am_LT} {e : Nat} (bB : 0 ≤ N + k ∧ N + k < 40) (bk : 0 ≤ k ∧ k ≤ 40) (hne : ∀ w, 0 ≤ w → w < rI s2 61 → 1 ≤ rA s2 64 w) (h55 : T 5 5 = rI s2 61) (h7 : ∀ w : Int, 0 ≤ w → w < rI s2 61 → T 7 w = rA s2 63 w) (jw : am_jw s2) : ∀ (m : Nat) (j : Nat) (i : Int) (q1 : am_A) (T1 : am_LT), 21 - j < m → (i = j ∧ (j : Int) ≤ rI s2 61 ∧ am_CI e q1 s2 ∧ am_DFh q1 ∧ am_LA q1 T1 ∧ am_S31 q q1 ∧ ((T1 4 (N + k) = -2 ∧ ∀ w : Int, 0 ≤ w → w < j → rA s2 66 w ≠ (N + k)) ∨ T1 4 (N + k) = rA s2 46 (N + k)) ∧ ∀ (a : Nat) (x : Int), (a ≠ 4 ∨ x ≠ (N + k)) → T1 a x = T a x) → (∀ x11 q1 T1, am_CI e q1 s2 → am_DFh q1 → am_LA q1 T1 → am_S31 q q1 → ((T1 4 (N + k) = -2 ∧ ∀ w : Int, 0 ≤ w → w < rI s2 61 → rA s2 66 w ≠ (N + k)) ∨ T1 4 (N + k) = rA s2 46 (N + k)) → (∀ (a : Nat) (x : Int), (a ≠ 4 ∨ x ≠ (N + k)) → T1 a x = T a x) → am_W2 (d + 6) m_L_isCleared 200 [some (aR 8 0), some (aR 24 3), some (aR 24 4), some (aR 24 7), some (aR 24 5), some (aI (zI N)), some (aI (zI v)), some (aI (zI 1)), some (aI (zI k)), x9, x10, x11] [] (q1) Q) → am_W2 (d + 6) m_L_isCleared 150 [some (aR 8 0), some (aR 24 3), some (aR 24 4), some (aR 24 7), some (aR 24 5), some (aI (zI N)), some (aI (zI v)), some (aI (zI 1)), some (aI (zI k)), x9, x10, some (aI (zI i))] [] (q1) Q := by
  intro m
  induction m with
  | zero => intro j i q1 T1 hm; exact absurd hm (Nat.not_lt_zero _)
  | succ m ih =>
    intro j i q1 T1 hm ⟨hj, hj2, hI, hF, hH, hS, hv, ho⟩ K
    subst hj
    have b61 := (CV_B hI.1).2.1 61 0 20 rfl
    have t55 : T1 5 5 = rI s2 61 := (ho 5 5 (by omega)).trans h55
    have t7 : ∀ w : Int, 0 ≤ w → w < rI s2 61 → T1 7 w = rA s2 63 w := fun w w1 w2 => (ho 7 w (by omega)).trans (h7 w w1 w2)
    have b66 := (CV_B hI.1).1 66 (j : Int) (-1) 39 rfl
    have bw : wishedS s2 (j : Int) = (N + k) ↔ rA s2 66 (j : Int) = (N + k) := by { unfold wishedS; split; exact Iff.rfl; rename_i z; have z2 : rA s2 66 (j : Int) = -1 := Classical.byContradiction (fun y => z y); split <;> omega }
    have bw2 : -2 ≤ wishedS s2 (j : Int) ∧ wishedS s2 (j : Int) ≤ 39 := by { unfold wishedS; split; omega; split <;> omega }
    refine ar_iload rfl rfl ?_
    refine ar_aload rfl rfl ?_
    refine ar_iconst rfl ?_
    refine ar_ial24 (n := 7) rfl hH (by omega) rfl (by omega) ?_
    refine ar_icmp_ge rfl rfl (by omega) (by omega) (fun h156 => ?_) (fun h156 => ?_)
    · refine K _ _ _ hI hF hH hS (hv.imp (fun z => ⟨z.1, fun w w1 w2 => z.2 w w1 (by omega)⟩) id) ho
    · refine ar_aload_n rfl rfl ?_
      refine ar_iload rfl rfl ?_
      refine ar_iload rfl rfl ?_
      refine ar_iadd rfl ?_
      refine cq_join (pc' := 193) (V := if rA s2 66 (j : Int) = (N + k) then rA s2 63 (j : Int) else T1 4 (N + k)) ?_ (fun K193 => ?_)
      · refine ar_ias24 (n := 40) rfl hH (by omega) rfl (by omega) (fun q193 H193 W193 => ?_)
        refine ar_inc11 rfl ?_
        refine ar_goto rfl rfl ?_
        refine ih (j + 1) _ _ _ (by omega) ⟨by omega, by omega, W193.1 _ _ hI, W193.2.1 hF, H193, S31_t hS W193.2.2, ?_, fun a x hx => ?_⟩ K
        · by_cases z : rA s2 66 (j : Int) = (N + k)
          · refine Or.inr ?_
            rw [uT_e, if_pos z]
            have y := (jw (j : Int) (by omega) (by omega)).2
            rw [z] at y
            rcases y with y | y
            · omega
            · exact y.2.2.symm
          · rw [uT_e, if_neg z]
            rcases hv with ⟨v1, v2⟩ | v1
            · refine Or.inl ⟨v1, fun w w1 w2 => ?_⟩
              by_cases e : w = j
              · rw [e]; exact z
              · exact v2 w w1 (by omega)
            · exact Or.inr v1
        · rw [uT_n (by omega)]; exact ho a x hx
      · refine ar_aload_n rfl rfl ?_
        refine ar_iload rfl rfl ?_
        refine ar_cv1 rfl rfl rfl (Nat.le_of_ble_eq_true rfl) (T2_is (cs_wished (d := 0) hI.1 (by omega) hne) ⟨by omega, by omega⟩) (by omega) (fun o q168 hq => am_B2_is ?_ hq)
        refine ar_iload rfl rfl ?_
        refine ar_iload rfl rfl ?_
        refine ar_iadd rfl ?_
        refine ar_icmp_ne rfl rfl (by omega) (by omega) (fun h176 => ?_) (fun h176 => ?_)
        · refine ar_aload_n rfl rfl ?_
          refine ar_iload rfl rfl ?_
          refine ar_iload rfl rfl ?_
          refine ar_iadd rfl ?_
          refine ar_ial24 (n := 40) rfl hH (by omega) rfl (by omega) ?_
          exact K193 _ (by first | (rw [if_pos (by omega)]; exact t7 _ (by omega) (by omega)) | rw [if_neg (by omega)])
        · refine ar_aload_n rfl rfl ?_
          refine ar_iload rfl rfl ?_
          refine ar_ial24 (n := 20) rfl hH (by omega) rfl (by omega) ?_
          refine ar_goto rfl rfl ?_
          exact K193 _ (by first | (rw [if_pos (by omega)]; exact t7 _ (by omega) (by omega)) | rw [if_neg (by omega)])
theorem lp_cl {d : Nat} {q : am_A} {Q : am_O → am_A → Prop} {s s2 : am_Z} {N v : Int} {T : am_LT} (P : am_PL s T) (c : am_ClQ s s2 0 v) (hN : rI s 44 = N) (B0 : in_S s) (J2 : am_JJ s2) : ∀ (m : Nat) (e : Nat) (j : Nat) (k : Int) (q1 : am_A) (T1 : am_LT) (x9 x10 x11 : Option am_V), 41 - j < m → (k = j ∧ (j : Int) ≤ v ∧ am_CI (e + j) q1 s2 ∧ am_DFh q1 ∧ am_LA q1 T1 ∧ am_S31 q q1 ∧ am_Clt s2 T T1 N j) → (∀ x8 x9 x10 x11 q1 T1, am_CI (e + 40) q1 s2 → am_DFh q1 → am_LA q1 T1 → am_S31 q q1 → am_Clt s2 T T1 N v → am_W2 (d + 22) m_L_isCleared 238 [some (aR 8 0), some (aR 24 3), some (aR 24 4), some (aR 24 7), some (aR 24 5), some (aI (zI N)), some (aI (zI v)), some (aI (zI 1)), x8, x9, x10, x11] [] (q1) Q) → am_W2 (d + 22) m_L_isCleared 36 [some (aR 8 0), some (aR 24 3), some (aR 24 4), some (aR 24 7), some (aR 24 5), some (aI (zI N)), some (aI (zI v)), some (aI (zI 1)), some (aI (zI k)), x9, x10, x11] [] (q1) Q := by
  intro m
  induction m with
  | zero => intro e j k q1 T1 x9 x10 x11 hm; exact absurd hm (Nat.not_lt_zero _)
  | succ m ih =>
    intro e j k q1 T1 x9 x10 x11 hm ⟨hj, hj2, hI, hF, hH, hS, hC⟩ K
    subst hj
    have B2 := CV_B hI.1
    have b44 := B0.2.1 44 0 40 rfl
    have b442 := B2.2.1 44 0 40 rfl
    have b61 := B0.2.1 61 0 20 rfl
    obtain ⟨v1, v2, v3⟩ := ClQ_v c B0 B2
    obtain ⟨⟨p0, p1, p2, p3, p4, p5, p6⟩, pn, pm, pf, pb, px⟩ := id P
    have k61 : rI s2 61 = rI s 61 := c.2.2.2.1 61 (by omega)
    have b52 := B2.1 52 (N + (j : Int)) 0 10 rfl
    have b45 := B2.1 45 (N + (j : Int)) 0 9 rfl
    have b46 := B2.1 46 (N + (j : Int)) (-1) 4 rfl
    refine ar_iload rfl rfl ?_
    refine ar_iload rfl rfl ?_
    refine ar_icmp_ge rfl rfl (by omega) (by omega) (fun h40 => ?_) (fun h40 => ?_)
    · have ej : (j : Int) = v := by omega
      rw [ej] at hC
      exact K _ _ _ _ _ _ (CI_le hI (by omega)) hF hH hS hC
    · refine ar_iload rfl rfl ?_
      refine ar_if_eq rfl rfl (by omega) (fun ht => by omega) (fun h45 => ?_)
      refine ar_iconst rfl ?_
      refine ar_stI9 rfl ?_
      refine ar_aload_n rfl rfl ?_
      refine ar_bipush (x := 20) rfl rfl ?_
      refine ar_iload rfl rfl ?_
      refine ar_iload rfl rfl ?_
      refine ar_iadd rfl ?_
      refine ar_iconst rfl ?_
      refine ar_iconst rfl ?_
      refine ar_iconst rfl ?_
      refine ar_iconst rfl ?_
      refine ar_iconst rfl ?_
      refine ar_cs8 rfl rfl (Nat.le_of_ble_eq_true rfl) (dp_booking (d := 0) hI hF (by omega) ⟨by omega, by omega⟩) (by omega) (fun o q64 hq => ?_)
      obtain ⟨rfl, I64, Y64, F64⟩ := hq
      have H64 := LA_CY hH Y64
      have c7 := c.2.2.2.2.2.2.1 (N + (j : Int)) (by omega) (by omega)
      have ja := J2.2.1.1 (N + (j : Int)) (by omega) (by omega)
      have a1 := ja.1.1
      have sh := ja.2.1
      rw [c7.1]
      refine ar_stI10 rfl ?_
      refine ar_iload rfl rfl ?_
      refine ar_if_le rfl rfl (by omega) (fun ht => by omega) (fun h71 => ?_)
      refine ar_iload rfl rfl ?_
      refine ar_sipush (x := 1000) rfl rfl ?_
      refine ar_icmp_ge rfl rfl (by omega) (by omega) (fun ht => by omega) (fun h79 => ?_)
      refine ar_iconst rfl ?_
      refine ar_goto rfl rfl ?_
      refine ar_stI7 rfl ?_
      refine ar_iconst rfl ?_
      refine ar_stI11 rfl ?_
      refine lp_cs (d := d + 15) (q := q64) (Q := Q) I64.1 (N := N) (v := v) (k := (j : Int)) (told := 1000 * 0 + 10 * rA s2 52 (N + (j : Int)) + rA s2 45 (N + (j : Int))) ⟨by omega, by omega⟩ (by omega) (by omega) 1000 0 0 0 (by omega) ⟨rfl, by omega, rfl⟩ (fun y11 => ?_)
      refine ar_aload_n rfl rfl ?_
      refine ar_iload rfl rfl ?_
      refine ar_iload rfl rfl ?_
      refine ar_iadd rfl ?_
      refine ar_iload rfl rfl ?_
      refine ar_ias24 (n := 40) rfl H64 (by omega) rfl (by omega) (fun q137 H137 W137 => ?_)
      refine ar_aload_n rfl rfl ?_
      refine ar_iload rfl rfl ?_
      refine ar_iload rfl rfl ?_
      refine ar_iadd rfl ?_
      refine ar_bipush (x := -2) rfl rfl ?_
      refine ar_ias24 (n := 40) rfl H137 (by omega) rfl (by omega) (fun q146 H146 W146 => ?_)
      refine ar_iconst rfl ?_
      refine ar_stI11 rfl ?_
      refine lp_cw (d := d + 16) (q := q146) (Q := Q) (s2 := s2) (N := N) (v := v) (k := (j : Int)) (T := _) (e := e + j + 1) (by omega) (by omega) (wo_64 J2) (by rw [uT_n (by omega), uT_n (by omega), hC.2.2 5 5 (by omega) (by omega) (by omega), k61]; exact p5) (fun w w1 w2 => by rw [uT_n (by omega), uT_n (by omega), hC.2.2 7 w (by omega) (by omega) (by omega), px w w1 (by omega), c.2.2.2.2.1 63 w (by omega)]) J2.2.1.2.2.1 1000 0 0 q146 _ (by omega) ⟨rfl, by omega, W146.1 _ _ (W137.1 _ _ I64), W146.2.1 (W137.2.1 F64), H146, S31_r, Or.inl ⟨uT_e, fun w w1 w2 => absurd w2 (by omega)⟩, fun a x hx => rfl⟩ (fun z11 q3 T3 I3 F3 H3 S3 v3b o3 => ?_)
      have v4 : T3 4 (N + (j : Int)) = rA s2 46 (N + (j : Int)) := by
        rcases v3b with ⟨y1, y2⟩ | y1
        · obtain ⟨w, w1, w2, w3⟩ := c7.2
          exact absurd w3 (y2 w w1 (by omega))
        · exact y1
      refine ar_iload rfl rfl ?_
      refine ar_if_eq rfl rfl (by omega) (fun ht => by omega) (fun h202 => ?_)
      refine ar_aload_n rfl rfl ?_
      refine ar_iload rfl rfl ?_
      refine ar_iload rfl rfl ?_
      refine ar_iadd rfl ?_
      refine ar_ial24 (n := 40) rfl H3 (by omega) rfl (by omega) ?_
      refine ar_bipush (x := -2) rfl rfl ?_
      refine ar_icmp_le rfl rfl (by omega) (by omega) (fun ht => by omega) (fun h214 => ?_)
      refine ar_iconst rfl ?_
      refine ar_goto rfl rfl ?_
      refine ar_stI7 rfl ?_
      refine ar_aload rfl rfl ?_
      refine ar_iconst rfl ?_
      refine ar_dup2 rfl rfl rfl ?_
      refine ar_ial24 (n := 7) rfl H3 (by omega) rfl (by omega) ?_
      refine ar_iconst rfl ?_
      refine ar_iadd rfl ?_
      refine ar_ias24 (n := 7) rfl H3 (by omega) rfl (by omega) (fun q231 H231 W231 => ?_)
      refine ar_inc8 rfl ?_
      refine ar_goto rfl rfl ?_
      refine ih e (j + 1) _ _ _ _ _ _ (by omega) ⟨by omega, by omega, W231.1 _ _ (CI_le I3 (by omega)), W231.2.1 F3, H231, S31_t hS (S31_t (S31_CY Y64) (S31_t W137.2.2 (S31_t W146.2.2 (S31_t S3 W231.2.2)))), ?_⟩ K
      refine ⟨by rw [uT_e, o3 5 4 (by omega), uT_n (by omega), uT_n (by omega), hC.1]; omega, fun b b1 b2 => ?_, fun i x h1 h2 h3 => ?_⟩
      · rw [uT_n (by omega), uT_n (by omega)]
        by_cases eb : b = N + (j : Int)
        · rw [eb, o3 3 _ (by omega), uT_n (by omega), uT_e]
          exact ⟨sh, v4⟩
        · rw [o3 3 _ (by omega), o3 4 _ (by omega), uT_n (by omega), uT_n (by omega), uT_n (by omega), uT_n (by omega)]
          exact hC.2.1 b b1 (by omega)
      · rw [uT_n (by omega), o3 i x (by omega), uT_n (by omega), uT_n (by omega)]
        exact hC.2.2 i x h1 h2 h3
theorem cs_isCleared {d : Nat} {q : am_A} {e : Nat} {s : am_Z} {T : am_LT} (I : am_CI e q s) (L : am_LS q s T)  : am_C2 (d + 22) m_L_isCleared [aR 8 0, aR 24 3, aR 24 4, aR 24 7, aR 24 5] q (am_LR 50 e q s) := by
  refine am_C2_i (ls := [some (aR 8 0), some (aR 24 3), some (aR 24 4), some (aR 24 7), some (aR 24 5), none, none, none, none, none, none, none]) rfl ?_
  obtain ⟨F, J, H, P⟩ := L
  have B := CV_B I.1
  have b44 := B.2.1 44 0 40 rfl
  have b61 := B.2.1 61 0 20 rfl
  obtain ⟨⟨p0, p1, p2, p3, p4, p5, p6⟩, pn, pm, pf, pb, px⟩ := id P
  obtain ⟨s2, v, J2, c, hC⟩ := cs_clearP I J
  refine ar_aload rfl rfl ?_
  refine ar_iconst rfl ?_
  refine ar_ial24 (n := 7) rfl H (by omega) rfl (by omega) ?_
  rw [p4]
  refine ar_stI5 rfl ?_
  refine ar_aload_n rfl rfl ?_
  refine ar_cv0 rfl rfl rfl (Nat.le_of_ble_eq_true rfl) (am_C2_imp hC (fun o q1 h => h)) (by omega) (fun o q7 hq => ?_)
  obtain ⟨rfl, I7, G7⟩ := hq
  have Y7 := G7.1
  have F7 := DF_FP F G7.2
  have H7 := LA_CY H Y7
  have B2 := CV_B I7.1
  obtain ⟨v1, v2, v3⟩ := ClQ_v c B B2
  refine ar_stI6 rfl ?_
  refine ar_iload rfl rfl ?_
  refine ar_if_lt rfl rfl (by omega) (fun ht => by omega) (fun h14 => ?_)
  refine ar_iload rfl rfl ?_
  refine ar_aload rfl rfl ?_
  refine ar_iconst rfl ?_
  refine ar_ial24 (n := 7) rfl H7 (by omega) rfl (by omega) ?_
  refine ar_icmp_gt rfl rfl (by omega) (by omega) (fun ht => by omega) (fun h23 => ?_)
  refine ar_iconst rfl ?_
  refine ar_goto rfl rfl ?_
  refine ar_stI7 rfl ?_
  refine ar_iconst rfl ?_
  refine ar_stI8 rfl ?_
  refine lp_cl (d := d) (q := q7) (s := s) (s2 := s2) (N := rI s 44) (v := v) (T := T) P c rfl B J2 1000 e 0 0 q7 T none none none (by omega) ⟨rfl, by omega, CI_le I7 (by omega), F7, H7, S31_r, by rw [p4]; omega, fun b b1 b2 => absurd b2 (by omega), fun i x _ _ _ => rfl⟩ (fun x8 x9 x10 x11 q3 T3 I3 F3 H3 S3 C3 => ?_)
  refine ar_iload rfl rfl ?_
  refine ar_if_eq rfl rfl (by omega) (fun ht => by omega) (fun h240 => ?_)
  refine ar_aload_n rfl rfl ?_
  refine ar_bipush (x := 20) rfl rfl ?_
  refine ar_aload rfl rfl ?_
  refine ar_iconst rfl ?_
  refine ar_ial24 (n := 7) rfl H3 (by omega) rfl (by omega) ?_
  rw [C3.1]
  refine ar_iconst rfl ?_
  refine ar_iconst rfl ?_
  refine ar_iconst rfl ?_
  refine ar_iconst rfl ?_
  refine ar_iconst rfl ?_
  refine ar_cs8 rfl rfl (Nat.le_of_ble_eq_true rfl) (dn_booking (d := 0) I3 F3 (by have := B2.2.1 44 0 40 rfl; omega) (by omega)) (by omega) (fun o q255 hq => ?_)
  obtain ⟨rfl, I255, Y255, F255⟩ := hq
  have H255 := LA_CY H3 Y255
  refine ar_ldc (x := -3000000) rfl rfl ?_
  refine ar_icmp_ne rfl rfl (by omega) (by omega) (fun ht => by omega) (fun h260 => ?_)
  refine ar_iconst rfl ?_
  refine ar_goto rfl rfl ?_
  exact ar_iret rfl (Or.inr ⟨rfl, by first | omega | (split <;> omega)⟩) (⟨rfl, s2, T3, CI_le I255 (by omega), ⟨F255, J2, H255, PL_clear P c C3⟩, S31_t (S31_CY Y7) (S31_t S3 (S31_CY Y255)), c.2.2.2.1 0 (by omega)⟩)
end

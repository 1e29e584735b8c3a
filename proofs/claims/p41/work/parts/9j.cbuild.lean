noncomputable section
theorem best_cS {s : am_Z} {n p : Int} (e35 : rI s 35 = n) (h1 : 1 ≤ n) : (cS s p n 4 0 []).foldl (tk s) (-1, []) = bestW s p := by
  unfold cS bestW
  rw [if_neg (by omega), if_neg (by omega)]
theorem best_0 {s : am_Z} {n p : Int} (e35 : rI s 35 = n) (h1 : n = 0) : bestW s p = (-1, []) := if_pos (by omega)
theorem best_MM {s : am_Z} {n p : Int} {W2 : am_wQ} (B : in_S s) (e35 : rI s 35 = n) (h1 : 1 ≤ n) (h4 : n ≤ 4) (M : am_MM s (-1, []) (inS s p n 4 0 []) W2) : W2.1 = (bestW s p).1 := by
  have b20 := B.2.1 20 0 16 rfl
  rw [← best_cS e35 h1]
  exact MM_u rfl M (MM_eq (fun x => cS_mem e35 b20 h4 4 0 [] (by omega) (by omega)) (MM_l B _ _))
theorem BW_0 {q : am_A} {s : am_Z} (h : qLS q (1603, 0) = []) : am_BW q s (-1, []) := ⟨by rw [h]; rfl, Nat.zero_le _, fun i hi => absurd hi (Nat.not_lt_zero i)⟩
theorem cs_find {d : Nat} {q : am_A} {e : Nat} {q0 : am_A} {s : am_Z} {t i : Nat} {n p : Int} {f : Int → Int} (e35 : rI s 35 = n) (hJ : ∀ k, 0 ≤ k → k < n → rA s 36 k = f k) (hP : am_PS e q0 q s (t, i) n f p (-1)) (hB : am_BW q s (-1, [])) (hT : am_TR q s []) : am_C2 (d + 15) m_Pr_findCheapest [aR 6 0] q (fun o q' => o = .inl none ∧ am_PS e q0 q' s (t, i) n f p (bestW s p).1 ∧ am_BW q' s (bestW s p)) := by
  refine am_C2_i (ls := [some (aR 6 0)]) rfl ?_
  have V := hP.1.1
  have B := CV_B V
  obtain ⟨⟨hk, h30, hn⟩, ⟨L, n0, n4⟩, ⟨r605, r606, r607, r608, r610⟩, bp, bam, hop, hr16⟩ := hP.2.2
  refine ar_aload_n rfl rfl ?_
  refine ar_gfR rfl rfl rfl (by omega) (r606) ?_
  refine ar_cv0 rfl hk rfl (Nat.le_of_ble_eq_true rfl) (cl_emL (d := 0) hk h30 hn L) (by omega) (fun o q4 hq => am_B2_is ?_ hq)
  refine ar_if_neB rfl rfl (fun h9 => ?_) (fun h9 => ?_)
  · first
      | exact ar_ret rfl rfl (⟨rfl, hP2, hB2⟩)
      | exact ar_ret rfl rfl (⟨rfl, by rw [best_0 e35 h9]; exact ⟨hP, hB⟩⟩)
  · refine ar_aload_n rfl rfl ?_
    refine ar_iconst rfl ?_
    refine ar_iconst rfl ?_
    refine ar_iconst rfl ?_
    refine ar_cs4 rfl rfl (Nat.le_of_ble_eq_true rfl) (by { have z := ts_all e35 hJ (by omega) 4 d q [] 0 0 (-1, []) hP hB hT (fun x hx => absurd hx (by simp)) rfl (by omega) rfl rfl; rw [best_cS e35 (by omega)] at z; exact z }) (by omega) (fun o q16 hq => ?_)
    obtain ⟨rfl, hP2, hB2, hT2⟩ := hq
    first
      | exact ar_ret rfl rfl (⟨rfl, hP2, hB2⟩)
      | exact ar_ret rfl rfl (⟨rfl, by rw [best_0 e35 h9]; exact ⟨hP, hB⟩⟩)
theorem cs_findL {d : Nat} {q : am_A} {e : Nat} {q0 : am_A} {s : am_Z} {t i : Nat} {n p : Int} {f : Int → Int} (e35 : rI s 35 = n) (hJ : ∀ k, 0 ≤ k → k < n → rA s 36 k = f k) (hP : am_PS e q0 q s (t, i) n f p (-1)) (hB : am_BW q s (-1, [])) (hT : am_TR q s []) : am_C2 (d + 15) m_Pr_findCheapestByLegs [aR 6 0] q (fun o q' => o = .inl none ∧ am_PS e q0 q' s (t, i) n f p (bestW s p).1) := by
  refine am_C2_i (ls := [some (aR 6 0)]) rfl ?_
  have V := hP.1.1
  have B := CV_B V
  obtain ⟨⟨hk, h30, hn⟩, ⟨L, n0, n4⟩, ⟨r605, r606, r607, r608, r610⟩, bp, bam, hop, hr16⟩ := hP.2.2
  refine ar_aload_n rfl rfl ?_
  refine ar_gfR rfl rfl rfl (by omega) (r606) ?_
  refine ar_cv0 rfl hk rfl (Nat.le_of_ble_eq_true rfl) (cl_emL (d := 0) hk h30 hn L) (by omega) (fun o q4 hq => am_B2_is ?_ hq)
  refine ar_if_neB rfl rfl (fun h9 => ?_) (fun h9 => ?_)
  · first
      | exact ar_ret rfl rfl (⟨rfl, hP2⟩)
      | exact ar_ret rfl rfl (⟨rfl, by rw [best_0 e35 h9]; exact hP⟩)
  · refine ar_aload_n rfl rfl ?_
    refine ar_iconst rfl ?_
    refine ar_iconst rfl ?_
    refine ar_iconst rfl ?_
    refine ar_cs4 rfl rfl (Nat.le_of_ble_eq_true rfl) (cs_tl0 (d := d) e35 hJ (by omega) hP hB hT) (by omega) (fun o q16 hq => ?_)
    obtain ⟨rfl, W2, hP2, hB2, hT2, hS2⟩ := hq
    rw [best_MM B e35 (by omega) n4 hS2] at hP2
    first
      | exact ar_ret rfl rfl (⟨rfl, hP2⟩)
      | exact ar_ret rfl rfl (⟨rfl, by rw [best_0 e35 h9]; exact hP⟩)
/-- pricing begins: the first m of the open seats are there -/
def am_PB0 (q : am_A) (s : am_Z) (r : am_R) (n : Int) (f : Int → Int) (p m : Int) : Prop := (am_kc r.1 = some 10 ∧ r.1 ≠ 30 ∧ r.2 < qCN q r.1) ∧ (am_LL q s r n f ∧ 0 ≤ n ∧ n ≤ 4) ∧ (qFR q 605 (6, 0) = some (1803, 0) ∧ qFR q 606 (6, 0) = some r ∧ qFI q 607 (6, 0) = p ∧ qFI q 608 (6, 0) = rI s 0 ∧ qFI q 609 (6, 0) = -1) ∧ (1 ≤ p ∧ p ≤ 9) ∧ ((qLS q (1601, 0) = [] ∧ qLS q (1603, 0) = []) ∧ (r.1 ≠ 1601 ∧ r.1 ≠ 1603)) ∧ ∀ i b : Int, 0 ≤ i → 0 ≤ b → b < 4 → 4 * i + b < m → qAI q (1600, 0) (4 * i + b).toNat = openS s (f i) b
def am_PS0 (e : Nat) (q0 q : am_A) (s : am_Z) (r : am_R) (n : Int) (f : Int → Int) (p m : Int) : Prop := am_CI e q s ∧ am_CG q0 q ∧ am_PB0 q s r n f p m
theorem PS0_s {e : Nat} {q0 q : am_A} {s : am_Z} {r : am_R} {n p i b : Int} {f : Int → Int} (P : am_PS0 e q0 q s r n f p (4 * i + b)) (hi : 0 ≤ i) (hb : 0 ≤ b ∧ b < 4) : am_PS0 e q0 (uAI q (1600, 0) (i * 4 + b).toNat (openS s (f i) b)) s r n f p (4 * i + (b + 1)) := by
  obtain ⟨I, G, ⟨hk, h30, hn⟩, ⟨L, n0, n4⟩, h6, bp, h9, hop⟩ := P
  refine ⟨CI_16I I (by omega), CG_16I G (by omega), ⟨hk, h30, hn⟩, ⟨LL_cg L rfl (fun _ _ => rfl) rfl (fun _ _ _ => rfl) (fun _ _ _ => rfl) rfl, n0, n4⟩, h6, bp, h9, fun i2 b2 a1 a2 a3 a4 => ?_⟩
  by_cases z : i2 = i ∧ b2 = b
  · obtain ⟨rfl, rfl⟩ := z
    exact if_pos ⟨rfl, by omega⟩
  · exact (if_neg (fun y => by have := y.2; omega)).trans (hop i2 b2 a1 a2 a3 (by omega))
theorem pbH_v {q : am_A} {r : am_R} {p h : Int} : (qFR (pbH q r p h) 605 (6, 0) = some (1803, 0) ∧ qFR (pbH q r p h) 606 (6, 0) = some r ∧ qFI (pbH q r p h) 607 (6, 0) = p ∧ qFI (pbH q r p h) 608 (6, 0) = h ∧ qFI (pbH q r p h) 609 (6, 0) = -1) ∧ (qLS (pbH q r p h) (1601, 0) = [] ∧ qLS (pbH q r p h) (1603, 0) = []) := by
  refine ⟨⟨?_, ?_, ?_, ?_, ?_⟩, ?_, ?_⟩
  · show am_u2 (am_u2 (qFR q) 605 (6, 0) (some (1803, 0))) 606 (6, 0) (some r) 605 (6, 0) = _
    rw [uf_ne (by omega)]
    exact if_pos ⟨rfl, rfl⟩
  · show am_u2 (am_u2 (qFR q) 605 (6, 0) (some (1803, 0))) 606 (6, 0) (some r) 606 (6, 0) = _
    exact if_pos ⟨rfl, rfl⟩
  · show am_u2 (am_u2 (am_u2 (qFI q) 607 (6, 0) p) 608 (6, 0) h) 609 (6, 0) (-1) 607 (6, 0) = p
    rw [uf_ne (by omega), uf_ne (by omega)]
    exact if_pos ⟨rfl, rfl⟩
  · show am_u2 (am_u2 (am_u2 (qFI q) 607 (6, 0) p) 608 (6, 0) h) 609 (6, 0) (-1) 608 (6, 0) = h
    rw [uf_ne (by omega)]
    exact if_pos ⟨rfl, rfl⟩
  · show am_u2 (am_u2 (am_u2 (qFI q) 607 (6, 0) p) 608 (6, 0) h) 609 (6, 0) (-1) 609 (6, 0) = -1
    exact if_pos ⟨rfl, rfl⟩
  · exact (LS_ne (r16_ne (by omega))).trans LS_eq
  · exact LS_eq
theorem pbH_LS {q : am_A} {r x : am_R} {p h : Int} (hx : x.1 ≠ 1601 ∧ x.1 ≠ 1603) : qLS (pbH q r p h) x = qLS q x := (LS_ne (fun z => hx.2 (by rw [z]))).trans (LS_ne (fun z => hx.1 (by rw [z])))
theorem PS0_0 {e : Nat} {q : am_A} {s : am_Z} {r : am_R} {n p : Int} {f : Int → Int} (I : am_CI e q s) (hk : am_kc r.1 = some 10) (h30 : r.1 ≠ 30) (hn : r.2 < qCN q r.1) (L : am_LL q s r n f) (n4 : 0 ≤ n ∧ n ≤ 4) (bp : 1 ≤ p ∧ p ≤ 9) (hr : r.1 ≠ 1601 ∧ r.1 ≠ 1603) : am_PS0 e q (pbH q r p (rI s 0)) s r n f p 0 := ⟨pbH_CI I, pbH_CG, ⟨hk, h30, hn⟩, ⟨LL_cg L (pbH_LS hr) (fun _ _ => rfl) rfl (fun _ _ _ => rfl) (fun _ _ _ => rfl) rfl, n4⟩, pbH_v.1, bp, ⟨pbH_v.2, hr⟩, fun i b a1 a2 a3 a4 => by omega⟩
theorem PS0_e {e : Nat} {q0 q : am_A} {s : am_Z} {r : am_R} {n p : Int} {f : Int → Int} (P : am_PS0 e q0 q s r n f p (4 * n)) : am_PS e q0 q s r n f p (-1) ∧ am_BW q s (-1, []) ∧ am_TR q s [] := by
  obtain ⟨I, G, h1, h2, h6, bp, h9, hop⟩ := P
  exact ⟨⟨I, G, h1, h2, h6, bp, by omega, fun i b a1 a2 a3 a4 => hop i b a1 a3 a4 (by omega), h9.2⟩, BW_0 h9.1.2, Nat.zero_le _, fun i hi => absurd hi (Nat.not_lt_zero i), by rw [h9.1.1]; rfl⟩
theorem lp_bp1 {d : Nat} {q : am_A} {Q : am_O → am_A → Prop} {e : Nat} {q0 : am_A} {s : am_Z} {t i : Nat} {n p : Int} {f : Int → Int} {a : Int} (ha : 0 ≤ a ∧ a < n) : ∀ (m : Nat) (b : Int) (q1 : am_A), (4 - b).toNat < m → ((0 ≤ b ∧ b ≤ 4) ∧ am_PS0 e q0 q1 s (t, i) n f p (4 * a + b)) → (∀ x4 q2, am_PS0 e q0 q2 s (t, i) n f p (4 * (a + 1)) → am_W2 (d + 5) m_X_beginPrice 79 [some (aR 8 0), some (aR t i), some (aI (zI p)), some (aI (zI a)), x4] [] (q2) Q) → am_W2 (d + 5) m_X_beginPrice 37 [some (aR 8 0), some (aR t i), some (aI (zI p)), some (aI (zI a)), some (aI (zI b))] [] (q1) Q := by
  intro m
  induction m with
  | zero => intro b q1 hm; exact absurd hm (Nat.not_lt_zero _)
  | succ m ih =>
    intro b q1 hm ⟨hb, hP⟩ K
    have V := hP.1.1
    have B := CV_B V
    obtain ⟨⟨hk, h30, hn⟩, ⟨L, n0, n4⟩, h6, bp, h9, hop⟩ := hP.2.2
    have p600 : qFR q1 600 (6, 0) = some (1600, 0) := V.1.2.1 600 _ rfl
    refine ar_iload rfl rfl ?_
    refine ar_iconst rfl ?_
    refine ar_icmp_ge rfl rfl (by omega) (by omega) (fun h40 => ?_) (fun h40 => ?_)
    · rw [show 4 * a + b = 4 * (a + 1) by omega] at hP
      exact K _ _ hP
    · have hL := (L.2 a.toNat (by omega)).2
      rw [show ((a.toNat : Nat) : Int) = a by omega] at hL
      refine ar_aload_n rfl rfl ?_
      refine ar_gfR rfl rfl rfl (by omega) (V.1.1 805 _ rfl) ?_
      refine ar_gfR rfl rfl rfl (by omega) (p600) ?_
      refine ar_iload_n rfl rfl ?_
      refine ar_iconst rfl ?_
      refine ar_imul rfl ?_
      refine ar_iload rfl rfl ?_
      refine ar_iadd rfl ?_
      refine ar_aload_n rfl rfl ?_
      refine ar_aload_n rfl rfl ?_
      refine ar_iload_n rfl rfl ?_
      refine ar_cv1 rfl hk rfl (Nat.le_of_ble_eq_true rfl) (cl_getL (d := 0) hk h30 hn L (by omega)) (by omega) (fun o q59 hq => am_B2_is ?_ hq)
      refine ar_cast rfl rfl rfl ?_
      refine ar_iload rfl rfl ?_
      refine ar_cv2 rfl rfl rfl (Nat.le_of_ble_eq_true rfl) (cs_openSeats (d := 0) V hL (by omega)) (by omega) (fun o q69 hq => am_B2_is ?_ hq)
      refine ar_ias rfl ⟨rfl, by omega⟩ (V.1.2.2.1 1600 16 rfl) (by omega) (by omega) ?_
      refine ar_inc4 rfl ?_
      refine ar_goto rfl rfl ?_
      exact ih (b + 1) _ (by omega) ⟨by omega, PS0_s hP ha.1 (by omega)⟩ K
theorem lp_bp2 {d : Nat} {q : am_A} {Q : am_O → am_A → Prop} {e : Nat} {q0 : am_A} {s : am_Z} {t i : Nat} {n p : Int} {f : Int → Int}  : ∀ (m : Nat) (a : Int) (q1 : am_A) (x4 : Option am_V), (5 - a).toNat < m → ((0 ≤ a ∧ a ≤ n) ∧ am_PS0 e q0 q1 s (t, i) n f p (4 * a)) → (∀ x3 x4 q2, am_PS0 e q0 q2 s (t, i) n f p (4 * n) → am_W2 (d + 5) m_X_beginPrice 85 [some (aR 8 0), some (aR t i), some (aI (zI p)), x3, x4] [] (q2) Q) → am_W2 (d + 5) m_X_beginPrice 19 [some (aR 8 0), some (aR t i), some (aI (zI p)), some (aI (zI a)), x4] [] (q1) Q := by
  intro m
  induction m with
  | zero => intro a q1 x4 hm; exact absurd hm (Nat.not_lt_zero _)
  | succ m ih =>
    intro a q1 x4 hm ⟨ha, hP⟩ K
    have V := hP.1.1
    have B := CV_B V
    obtain ⟨⟨hk, h30, hn⟩, ⟨L, n0, n4⟩, h6, bp, h9, hop⟩ := hP.2.2
    have p600 : qFR q1 600 (6, 0) = some (1600, 0) := V.1.2.1 600 _ rfl
    refine ar_iload_n rfl rfl ?_
    refine ar_aload_n rfl rfl ?_
    refine ar_cv0 rfl hk rfl (Nat.le_of_ble_eq_true rfl) (cl_szL (d := 0) hk h30 hn L) (by omega) (fun o q21 hq => am_B2_is ?_ hq)
    refine ar_icmp_ge rfl rfl (by omega) (by omega) (fun h26 => ?_) (fun h26 => ?_)
    · rw [show a = n by omega] at hP
      exact K _ _ _ hP
    · refine ar_iload_n rfl rfl ?_
      refine ar_iconst rfl ?_
      refine ar_icmp_ge rfl rfl (by omega) (by omega) (fun ht => by omega) (fun h31 => ?_)
      refine ar_iconst rfl ?_
      refine ar_stI4 rfl ?_
      refine lp_bp1 (d := d) (q := q1) (e := e) (q0 := q0) (s := s) (t := t) (i := i) (n := n) (p := p) (f := f) (a := a) (by omega) 1000 0 q1 (by omega) ⟨by omega, by rw [Int.add_zero]; exact hP⟩ (fun x4 q2 hP2 => ?_)
      refine ar_inc3 rfl ?_
      refine ar_goto rfl rfl ?_
      exact ih (a + 1) _ _ (by omega) ⟨by omega, hP2⟩ K
theorem cs_beginPrice {d : Nat} {q : am_A} {e : Nat} {s : am_Z} (I : am_CI e q s) {t i : Nat} {n p : Int} {f : Int → Int} (hk : am_kc t = some 10) (h30 : t ≠ 30) (hn : i < qCN q t) (L : am_LL q s (t, i) n f) (n4 : 0 ≤ n ∧ n ≤ 4) (bp : 1 ≤ p ∧ p ≤ 9) (hr : t ≠ 1601 ∧ t ≠ 1603) : am_C2 (d + 5) m_X_beginPrice [aR 8 0, aR t i, aI (zI p)] q (fun o q' => o = .inl none ∧ am_PS e q q' s (t, i) n f p (-1) ∧ am_BW q' s (-1, []) ∧ am_TR q' s []) := by
  refine am_C2_i (ls := [some (aR 8 0), some (aR t i), some (aI (zI p)), none, none]) rfl ?_
  have V := I.1
  refine ar_aload_n rfl rfl ?_
  refine ar_gfR rfl rfl rfl (by omega) (V.1.1 805 _ rfl) ?_
  refine ar_aload_n rfl rfl ?_
  refine ar_gfR rfl rfl rfl (by omega) (V.1.1 803 _ rfl) ?_
  refine ar_aload_n rfl rfl ?_
  refine ar_iload_n rfl rfl ?_
  refine ar_aload_n rfl rfl ?_
  refine ar_gfIv rfl rfl rfl (by omega) (V.2.1.2.2.2.2.1) ?_
  refine ar_cv4 rfl rfl rfl (Nat.le_of_ble_eq_true rfl) (cs_begin (d := 0) V hk h30) (by omega) (fun o q14 hq => ?_)
  obtain ⟨rfl, rfl⟩ := hq
  refine ar_iconst rfl ?_
  refine ar_stI3 rfl ?_
  refine lp_bp2 (d := d) (q := q) (e := e) (q0 := q) (s := s) (t := t) (i := i) (n := n) (p := p) (f := f) 1000 0 _ _ (by omega) ⟨by omega, PS0_0 I hk h30 hn L n4 bp hr⟩ (fun x3 x4 q2 hP2 => ?_)
  exact ar_ret rfl rfl (⟨rfl, PS0_e hP2⟩)
theorem cs_buildPrice {d : Nat} {q : am_A} {e : Nat} {s : am_Z} (I : am_CI e q s) {t i : Nat} {n p : Int} {f : Int → Int} (hk : am_kc t = some 10) (h30 : t ≠ 30) (hn : i < qCN q t) (L : am_LL q s (t, i) n f) (n4 : 0 ≤ n ∧ n ≤ 4) (bp : 1 ≤ p ∧ p ≤ 9) (hr : t ≠ 1601 ∧ t ≠ 1603) (e35 : rI s 35 = n) (hJ : ∀ k, 0 ≤ k → k < n → rA s 36 k = f k) : am_C2 (d + 16) m_X_buildPrice [aR 8 0, aR t i, aI (zI p)] q (fun o q' => o = .inl none ∧ am_PS e q q' s (t, i) n f p (bestW s p).1 ∧ am_BW q' s (bestW s p)) := by
  refine am_C2_i (ls := [some (aR 8 0), some (aR t i), some (aI (zI p))]) rfl ?_
  refine ar_aload_n rfl rfl ?_
  refine ar_aload_n rfl rfl ?_
  refine ar_iload_n rfl rfl ?_
  refine ar_cv2 rfl rfl rfl (Nat.le_of_ble_eq_true rfl) (cs_beginPrice (d := 0) I hk h30 hn L n4 bp hr) (by omega) (fun o q3 hq => ?_)
  obtain ⟨rfl, hP2, hB2, hT2⟩ := hq
  have V2 := hP2.1.1
  refine ar_aload_n rfl rfl ?_
  refine ar_gfR rfl rfl rfl (by omega) (V2.1.1 805 _ rfl) ?_
  refine ar_cv0 rfl rfl rfl (Nat.le_of_ble_eq_true rfl) (cs_find (d := 0) e35 hJ hP2 hB2 hT2) (by omega) (fun o q10 hq => ?_)
  obtain ⟨rfl, hP3, hB3⟩ := hq
  exact ar_ret rfl rfl (⟨rfl, hP3, hB3⟩)
end

noncomputable section
theorem DH_fly {q q1 q2 : am_A} {s2 : am_Z} {l n : Int} (H : am_DH q q1 s2 l n) (G : am_CG q1 q2) (L : qLS q2 = qLS q1) (hl : ∀ x, lId q2 x = lId q1 x) (f : ∀ j, qFI q2 106 (1, j) = qFI q1 106 (1, j)) : am_DH q q2 s2 l n := by
  obtain ⟨d1, d2, d3, d4, d5, d6⟩ := H
  have ec : ∀ x y, cId q2 x y = cId q1 x y := fun x y => by unfold cId; rw [L]
  refine ⟨by rw [L]; exact d1, by rw [L]; exact d2, fun j hj => ?_, fun b hb h67 => by rw [ec, f]; exact d4 b hb h67, fun x => (hl x).trans (d5 x), CY_t d6 G.1⟩
  have g := G.2 j hj
  rw [f] at hj ⊢
  have d := d3 j hj
  exact ⟨d.1, d.2.imp g.2 (fun ⟨i, i1, i2⟩ => ⟨i, i1, by rw [ec]; exact i2⟩)⟩
theorem fl_iff {q q1 : am_A} {s2 t : am_Z} {l n : Int} (V : am_CV q1 t) (U : am_UQ t) (C : am_CK t) (H : am_DH q q1 s2 l n) (HO : am_HO s2 l (rI s2 44) n) (MA : ∀ b : Nat, (b : Int) < rI s2 44 → rA s2 67 b ≠ 0 → cfS s2 b l ≠ -1) (e44 : rI t 44 = rI s2 44) (e67 : ∀ b, rA t 67 b = rA s2 67 b) (ecf : ∀ b, 0 ≤ b → rA s2 67 b ≠ 0 → cfS t b l = cfS s2 b l) {b : Nat} (hb : (b : Int) < rI t 44) (hp : pfS t b l ≠ -1) : qFI q1 106 (1, cId q1 b (pfS t b l).toNat) ≠ 0 ↔ (rA t 55 (10 * b + ((pfS t b l).toNat : Nat)) = 1 ∧ rA t 67 b ≠ 0) := by
  have hpb := pfR_b t b l 12 0 (by omega)
  have epf : pfS t b l = pfR t b l 12 0 := rfl
  rw [← epf] at hpb
  rcases hpb with hpb | ⟨p1, p2, p3⟩
  · exact absurd hpb hp
  have ek : (((pfS t b l).toNat : Nat) : Int) = pfS t b l := by omega
  have hC := V.2.2.2.2.2.2.1.2.2.2.1 b (pfS t b l).toNat hb (by omega)
  constructor
  · intro h
    have d := H.2.2.1 _ h
    rcases d.2 with d2 | ⟨i, i1, i2⟩
    · rw [hC.2.2.2.2 105 55 rfl, ek] at d2
      rcases p3.2 with z | z <;> omega
    · have ho := HO.1 i (by omega) i1
      have ed : (((rA s2 71 i).toNat : Nat) : Int) = rA s2 71 i := by omega
      have hcf : cfS t (rA s2 71 i) l = cfS s2 (rA s2 71 i) l := ecf _ ho.1.1 ho.2.1
      have hne : cfS t (rA s2 71 i) l ≠ -1 := by rw [hcf]; exact ho.2.2
      obtain ⟨w1, w2, w3⟩ := cf_w hne
      rw [← hcf] at i2
      have ec : (((cfS t (rA s2 71 i) l).toNat : Nat) : Int) = cfS t (rA s2 71 i) l := by omega
      have hij := V.2.2.2.2.2.2.1.2.2.2.2 b (pfS t b l).toNat (rA s2 71 i).toNat (cfS t (rA s2 71 i) l).toNat hb (by omega) (by omega) (by rw [ed, ec]; exact w2.2) i2
      have eb : (b : Int) = rA s2 71 i := by rw [hij.1]; exact ed
      refine ⟨?_, ?_⟩
      · rw [hij.2, ec, eb]
        exact w3.2
      · rw [e67, eb]
        exact ho.2.1
  · rintro ⟨h1, h2⟩
    rw [e67] at h2
    have hb2 : (b : Int) < rI s2 44 := by omega
    have hne := MA b hb2 h2
    have e1 := ecf b (by omega) h2
    have e2 := (ch_cf (CV_B V) U C (l := l) hb).2 (by rw [e1]; exact hne)
    rw [e2, e1, H.2.2.2.1 b hb2 h2]
    omega
theorem lp_to2 {d : Nat} {q : am_A} {Q : am_O → am_A → Prop} {e : Nat} {s2 : am_Z} {l n : Int} (hl : legP s2 l) (U : am_UQ s2) (C : am_CK s2) (B2 : in_S s2) (HO : am_HO s2 l (rI s2 44) n) (MA : ∀ b : Nat, (b : Int) < rI s2 44 → rA s2 67 b ≠ 0 → cfS s2 b l ≠ -1) : ∀ (m : Nat) (j : Nat) (k : Int) (q1 : am_A) (x3 x4 : Option am_V), (rI s2 44).toNat - j < m → (k = j ∧ (j : Int) ≤ rI s2 44 ∧ am_CI e q1 (itS (glB l) j s2) ∧ am_DH q q1 s2 l n) → (∀ x2 x3 x4 q2, am_CI e q2 (itS (glB l) (rI s2 44).toNat s2) → am_DH q q2 s2 l n → am_W2 (d + 4) m_X_takeOff 63 [some (aR 8 0), some (aR 5 (lId q l)), x2, x3, x4] [] (q2) Q) → am_W2 (d + 4) m_X_takeOff 7 [some (aR 8 0), some (aR 5 (lId q l)), some (aI (zI k)), x3, x4] [] (q1) Q := by
  intro m
  induction m with
  | zero => intro j k q1 x3 x4 hm; exact absurd hm (Nat.not_lt_zero _)
  | succ m ih =>
    intro j k q1 x3 x4 hm ⟨hj, hj2, hI, hH⟩ K
    subst hj
    have V := hI.1
    have B := CV_B V
    have h10 : ∀ b, rA s2 52 b ≤ 10 := fun b => (B2.1 52 b 0 10 rfl).2
    have hu := glN_u (l := l) h10 j
    have e44 : rI (itS (glB l) j s2) 44 = rI s2 44 := congrFun hu.2.1 44
    have b44 := B.2.1 44 0 40 rfl
    have hl1 : legP (itS (glB l) j s2) l := (legP_cg (s := s2) (s' := (itS (glB l) j s2)) (fun a x h => hu.1 a x (by omega) (by omega) (by omega)) (congrFun hu.2.1 3)).mpr hl
    have hll := hH.2.2.2.2.1 l
    have UT : am_UQ (itS (glB l) j s2) := UQ_gl B2 U j
    have CT : am_CK (itS (glB l) j s2) := CK_gl B2 C j
    refine ar_iload_n rfl rfl ?_
    refine ar_aload_n rfl rfl ?_
    refine ar_gfR rfl rfl rfl (by omega) (V.1.1 806 _ rfl) ?_
    refine ar_cv0 rfl rfl rfl (Nat.le_of_ble_eq_true rfl) (cl_szB (d := 0) V) (by omega) (fun o q12 hq => am_B2_is ?_ hq)
    refine ar_icmp_ge rfl rfl (by omega) (by omega) (fun h15 => ?_) (fun h15 => ?_)
    · have ej : j = (rI s2 44).toNat := by omega
      rw [ej] at hI
      exact K _ _ _ _ hI hH
    · refine ar_aload_n rfl rfl ?_
      refine ar_gfR rfl rfl rfl (by omega) (V.1.1 806 _ rfl) ?_
      refine ar_iload_n rfl rfl ?_
      refine ar_cv1 rfl rfl rfl (Nat.le_of_ble_eq_true rfl) (cl_getB (d := 0) V (by omega)) (by omega) (fun o q23 hq => am_B2_is ?_ hq)
      rw [Int.toNat_natCast]
      have hb2 : ((j : Nat) : Int) < rI (itS (glB l) j s2) 44 := by omega
      have hB := V.2.2.2.2.2.2.1.2.2.1 j hb2
      have b47 := B.1 47 j 0 3 rfl
      have b52 := B.1 52 j 0 10 rfl
      have bpf := pfR_b (itS (glB l) j s2) j l 12 0 (by omega)
      have epf : pfS (itS (glB l) j s2) j l = pfR (itS (glB l) j s2) j l 12 0 := rfl
      refine ar_cast rfl rfl rfl ?_
      refine ar_stA3 rfl ?_
      refine ar_aload_n rfl rfl ?_
      refine ar_aload_n rfl rfl ?_
      rw [← hll]
      refine ar_cv1 rfl rfl rfl (Nat.le_of_ble_eq_true rfl) (cs_couponToFly (d := 0) V hl1 hb2) (by omega) (fun o q32 hq => am_B2_is ?_ hq)
      rw [hll]
      refine ar_stA4 rfl ?_
      refine ar_aload_n rfl rfl ?_
      refine ar_gfIv rfl rfl rfl (by omega) (hB.1 7 47 rfl) ?_
      refine ar_iconst rfl ?_
      refine ar_icmp_ne rfl rfl (by omega) (by omega) (fun h42 => ?_) (fun h42 => ?_)
      · try have hpn := pfO_n hn47
        refine ar_inc2 rfl ?_
        refine ar_goto rfl rfl ?_
        first | exact ih (j + 1) _ _ _ _ (by omega) ⟨by omega, by omega, by { rw [itS_s, glB_1 B UT hb2 (by omega) (by omega) hff]; exact I65 }, DH_fly hH G65 L65 l65 f65⟩ K | exact ih (j + 1) _ _ _ _ (by omega) ⟨by omega, by omega, by { rw [itS_s, glB_0 B (fun z => by omega)]; exact hI }, hH⟩ K
      · refine ar_aload rfl rfl ?_
        refine ar_ifnull rfl rfl (fun hn47 => ?_) (fun r47 hr47 => ?_)
        · try have hpn := pfO_n hn47
          refine ar_inc2 rfl ?_
          refine ar_goto rfl rfl ?_
          first | exact ih (j + 1) _ _ _ _ (by omega) ⟨by omega, by omega, by { rw [itS_s, glB_1 B UT hb2 (by omega) (by omega) hff]; exact I65 }, DH_fly hH G65 L65 l65 f65⟩ K | exact ih (j + 1) _ _ _ _ (by omega) ⟨by omega, by omega, by { rw [itS_s, glB_0 B (fun z => by omega)]; exact hI }, hH⟩ K
        · have hps := pfO_s hr47
          rw [show pfO q1 (itS (glB l) j s2) j l = some (1, cId q1 j (pfS (itS (glB l) j s2) j l).toNat) from if_neg hps]
          refine ar_aload_n rfl rfl ?_
          refine ar_aload_n rfl rfl ?_
          refine ar_aload rfl rfl ?_
          have ek : (((pfS (itS (glB l) j s2) j l).toNat : Nat) : Int) = pfS (itS (glB l) j s2) j l := by omega
          have h55 : rA (itS (glB l) j s2) 55 (10 * (j : Int) + ((pfS (itS (glB l) j s2) j l).toNat : Nat)) ≤ 1 := by { rw [ek]; rcases bpf with z | ⟨z1, z2, z3⟩; omega; rw [← epf] at z3; rcases z3.2 with y | y <;> omega }
          have hfl : qFI q1 106 (1, cId q1 j (pfS (itS (glB l) j s2) j l).toNat) = 0 ∨ qFI q1 106 (1, cId q1 j (pfS (itS (glB l) j s2) j l).toNat) = 1 := by { by_cases y : qFI q1 106 (1, cId q1 j (pfS (itS (glB l) j s2) j l).toNat) = 0; exact Or.inl y; exact Or.inr (hH.2.2.1 _ y).1 }
          have hff := fl_iff V UT CT hH HO MA e44 (fun b => hu.1 67 b (by omega) (by omega) (by omega)) (fun b y1 y2 => glN_cf h10 j y1 y2) hb2 (by omega)
          refine ar_cv2 rfl rfl rfl (Nat.le_of_ble_eq_true rfl) (cs_flyOrMiss (d := 0) hI hb2 (by omega) h55 rfl hfl) (by omega) (fun o q54 hq => ?_)
          obtain ⟨rfl, I65, G65, L65, l65, f65⟩ := hq
          try have hpn := pfO_n hn47
          refine ar_inc2 rfl ?_
          refine ar_goto rfl rfl ?_
          first | exact ih (j + 1) _ _ _ _ (by omega) ⟨by omega, by omega, by { rw [itS_s, glB_1 B UT hb2 (by omega) (by omega) hff]; exact I65 }, DH_fly hH G65 L65 l65 f65⟩ K | exact ih (j + 1) _ _ _ _ (by omega) ⟨by omega, by omega, by { rw [itS_s, glB_0 B (fun z => by omega)]; exact hI }, hH⟩ K
/-- those who are denied and still wait for another way -/
def am_T3 (q q1 : am_A) (t : am_Z) (l n : Int) (j : Nat) : Prop := (∀ i : Nat, j ≤ i → (i : Int) < n → (0 ≤ rA t 71 i ∧ rA t 71 i < rI t 44) ∧ cfS t (rA t 71 i) l ≠ -1) ∧ (∀ i i2 : Nat, i < i2 → (i2 : Int) < n → rA t 71 i ≠ rA t 71 i2) ∧ ((qLS q1 (1809, 0)).length : Int) = n ∧ (∀ i : Nat, (i : Int) < n → (qLS q1 (1809, 0))[i]? = some (0, (rA t 71 i).toNat)) ∧ (∀ y : Nat, qFI q1 106 (1, y) ≠ 0 → qFI q1 106 (1, y) = 1 ∧ (2 ≤ qFI q1 105 (1, y) ∨ ∃ i : Nat, j ≤ i ∧ (i : Int) < n ∧ y = cId q1 (rA t 71 i).toNat (cfS t (rA t 71 i) l).toNat)) ∧ (∀ x, lId q1 x = lId q x) ∧ am_CY q q1
theorem gm_71 {l : Int} {t : am_Z} {b : Int} (B : in_S t) (h : cfS t b l ≠ -1) (x : Int) {j : Nat} (hj : j < 52 ∨ 58 < j) : rA (moveS t b (cfS t b l)) j x = rA t j x := mv_o (cf_w h).2.1 hj
theorem T3_step {q q1 q2 : am_A} {t : am_Z} {l n : Int} {j : Nat} (B : in_S t) (T : am_T3 q q1 t l n j) (hj : (j : Int) < n) (G : am_CG q1 q2) (hl : ∀ x, lId q2 x = lId q1 x) (L : ∀ u i : Nat, u = 1809 ∨ (u = 1003 ∧ i ≠ (rA t 71 j).toNat) → qLS q2 (u, i) = qLS q1 (u, i)) (h5 : 2 ≤ qFI q2 105 (1, cId q1 (rA t 71 j).toNat (cfS t (rA t 71 j) l).toNat)) : am_T3 q q2 (gmF l j t) l n (j + 1) := by
  obtain ⟨t1, t2, t3, t4, t5, t6, t7⟩ := T
  have h10 : ∀ b, rA t 52 b ≤ 10 := fun b => (B.1 52 b 0 10 rfl).2
  have hc := (t1 j (Nat.le_refl _) hj).2
  have e71 : ∀ x, rA (gmF l j t) 71 x = rA t 71 x := fun x => gm_71 B hc x (by omega)
  have e44 : rI (gmF l j t) 44 = rI t 44 := mv_I (by omega)
  have ecf : ∀ i : Nat, j + 1 ≤ i → (i : Int) < n → cfS (gmF l j t) (rA t 71 i) l = cfS t (rA t 71 i) l := fun i h1 h2 => moveS_cf (cf_w hc).2.1 h10 (fun z => t2 j i (by omega) h2 z.symm) l
  have eci : ∀ (i k : Nat), j + 1 ≤ i → (i : Int) < n → cId q2 (rA t 71 i).toNat k = cId q1 (rA t 71 i).toNat k := fun i k h1 h2 => by
    have b1 := t1 i (by omega) h2
    have b2 := t1 j (Nat.le_refl _) hj
    have b3 := t2 j i (by omega) h2
    unfold cId
    rw [L 1003 _ (Or.inr ⟨rfl, by omega⟩)]
  refine ⟨fun i h1 h2 => ?_, fun i i2 h1 h2 => by rw [e71, e71]; exact t2 i i2 h1 h2, by rw [L 1809 0 (Or.inl rfl)]; exact t3, fun i h1 => by rw [L 1809 0 (Or.inl rfl), e71]; exact t4 i h1, fun y hy => ?_, fun x => (hl x).trans (t6 x), CY_t t7 G.1⟩
  · rw [e71, e44, ecf i h1 h2]
    exact t1 i (by omega) h2
  · have g := G.2 y hy
    have d := t5 y (fun z => hy (g.1.trans z))
    refine ⟨g.1.trans d.1, ?_⟩
    rcases d.2 with d2 | ⟨i, i1, i2, i3⟩
    · exact Or.inl (g.2 d2)
    · by_cases e : i = j
      · rw [e] at i3
        rw [i3]
        exact Or.inl h5
      · exact Or.inr ⟨i, by omega, i2, by rw [e71, eci i _ (by omega) i2, ecf i (by omega) i2]; exact i3⟩
theorem lp_to3 {d : Nat} {q : am_A} {Q : am_O → am_A → Prop} {e : Nat} {s3 : am_Z} {l n : Int} (hl : legP s3 l) (hn : 0 ≤ n ∧ n ≤ 40) : ∀ (m : Nat) (j : Nat) (k : Int) (t : am_Z) (q1 : am_A) (x3 x4 : Option am_V), n.toNat - j < m → (k = j ∧ (j : Int) ≤ n ∧ t = itS (gmF l) j s3 ∧ am_CI e q1 t ∧ (am_UQ t ∧ am_CK t ∧ am_PE t ∧ legP t l) ∧ am_T3 q q1 t l n j) → (∀ x2 x3 x4 q2, am_CI e q2 (itS (gmF l) n.toNat s3) → (am_UQ (itS (gmF l) n.toNat s3) ∧ am_CK (itS (gmF l) n.toNat s3) ∧ am_PE (itS (gmF l) n.toNat s3)) → am_T3 q q2 (itS (gmF l) n.toNat s3) l n n.toNat → am_W2 (d + 8) m_X_takeOff 114 [some (aR 8 0), some (aR 5 (lId q l)), x2, x3, x4] [] (q2) Q) → am_W2 (d + 8) m_X_takeOff 65 [some (aR 8 0), some (aR 5 (lId q l)), some (aI (zI k)), x3, x4] [] (q1) Q := by
  intro m
  induction m with
  | zero => intro j k t q1 x3 x4 hm; exact absurd hm (Nat.not_lt_zero _)
  | succ m ih =>
    intro j k t q1 x3 x4 hm ⟨hj, hj2, ht, hI, hX, hT⟩ K
    subst hj
    have V := hI.1
    have B := CV_B V
    have b44 := B.2.1 44 0 40 rfl
    have hll := hT.2.2.2.2.2.1 l
    have hlen := hT.2.2.1
    refine ar_iload_n rfl rfl ?_
    refine ar_aload_n rfl rfl ?_
    refine ar_gfR rfl rfl rfl (by omega) (V.1.1 809 _ rfl) ?_
    refine ar_cv0 rfl rfl rfl (Nat.le_of_ble_eq_true rfl) (sq_size (d := 0) rfl (by omega) (V.1.2.2.2 1809 rfl)) (by omega) (fun o q70 hq => am_B2_is ?_ hq)
    refine ar_icmp_ge rfl rfl (by omega) (by omega) (fun h73 => ?_) (fun h73 => ?_)
    · have ej : j = n.toNat := by omega
      rw [ej] at ht hT
      rw [ht] at hI hX hT
      exact K _ _ _ _ hI ⟨hX.1, hX.2.1, hX.2.2.1⟩ hT
    · refine ar_aload_n rfl rfl ?_
      have hTj := hT.1 j (Nat.le_refl _) (by omega)
      have ed : ((((rA t 71 (j : Int))).toNat : Nat) : Int) = (rA t 71 (j : Int)) := by omega
      have hw := cf_w hTj.2
      have b52 := B.1 52 (rA t 71 (j : Int)) 0 10 rfl
      have hbj : ((((rA t 71 (j : Int))).toNat : Nat) : Int) < rI t 44 := by omega
      have hcc := ch_cf B hX.1 hX.2.1 (l := l) hbj
      rw [ed] at hcc
      have hpf : pfS t (rA t 71 (j : Int)) l = cfS t (rA t 71 (j : Int)) l := hcc.2 hTj.2
      refine ar_gfR rfl rfl rfl (by omega) (V.1.1 809 _ rfl) ?_
      refine ar_iload_n rfl rfl ?_
      refine ar_cv1 rfl rfl rfl (Nat.le_of_ble_eq_true rfl) (sq_get (d := 0) (j := j) rfl (by omega) (V.1.2.2.2 1809 rfl) rfl (hT.2.2.2.1 j (by omega))) (by omega) (fun o q81 hq => am_B2_is ?_ hq)
      refine ar_cast rfl rfl rfl ?_
      refine ar_stA3 rfl ?_
      refine ar_aload_n rfl rfl ?_
      refine ar_aload_n rfl rfl ?_
      rw [← hll]
      refine ar_cv1 rfl rfl rfl (Nat.le_of_ble_eq_true rfl) (cs_couponToFly (d := 0) V hX.2.2.2 hbj) (by omega) (fun o q90 hq => am_B2_is ?_ hq)
      rw [hll]
      rw [show pfO q1 t ((rA t 71 (j : Int))).toNat l = some (1, cId q1 ((rA t 71 (j : Int))).toNat (cfS t (rA t 71 (j : Int)) l).toNat) from by { unfold pfO pfK; rw [ed, hpf, if_neg hTj.2] }]
      refine ar_stA4 rfl ?_
      refine ar_aload rfl rfl ?_
      refine ar_ifnull rfl rfl (fun hn => absurd hn (by simp)) (fun _ _ => ?_)
      refine ar_aload_n rfl rfl ?_
      refine ar_aload_n rfl rfl ?_
      refine ar_aload rfl rfl ?_
      refine ar_cv2 rfl rfl rfl (Nat.le_of_ble_eq_true rfl) (cs_moveOn (d := 0) hI hbj (by rw [ed]; exact hw.2.1) (hX.2.2.1 _ hbj) (by rw [ed]; have z := hw.2.2.2; omega)) (by omega) (fun o q104 hq => ?_)
      rw [ed] at hq
      obtain ⟨rfl, I116, G116, l116, L116, h116⟩ := hq
      refine ar_pop rfl rfl ?_
      refine ar_inc2 rfl ?_
      refine ar_goto rfl rfl ?_
      exact ih (j + 1) _ _ _ _ _ (by omega) ⟨by omega, by omega, by { rw [itS_s, ← ht]; rfl }, I116, ⟨moveS_UQ B hX.1 (by omega) hw.2.1, CK_move B hX.2.1 hw.1 hw.2.1, PE_s hX.2.2.1 (fun x => mv_o hw.2.1 (by omega)) (mv_I (by omega)), (legP_cg (s := t) (s' := gmF l j t) (fun a x h => mv_o hw.2.1 (by omega)) (mv_I (by omega))).mpr hX.2.2.2⟩, T3_step B hT (by omega) G116 l116 L116 h116⟩ K
end

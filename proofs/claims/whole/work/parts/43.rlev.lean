noncomputable section
theorem tkF_A (t : am_Z) (n : Nat) : (∀ j i, j ≠ 39 → j ≠ 40 → rA (itS tkF n t) j i = rA t j i) ∧ (∀ i : Nat, i < n → rA (itS tkF n t) 40 i = rA t 42 i ∧ rA (itS tkF n t) 39 i = rA t 41 i) := by
  induction n with
  | zero => exact ⟨fun _ _ _ _ => rfl, fun i hi => absurd hi (Nat.not_lt_zero i)⟩
  | succ n ih =>
    rw [itS_s]
    unfold tkF
    refine ⟨fun j i h1 h2 => ?_, fun i hi => ?_⟩
    · rw [wA_A, if_neg (fun z => h2 z.1), wA_A, if_neg (fun z => h1 z.1)]
      exact ih.1 j i h1 h2
    · by_cases hin : i = n
      · subst hin
        constructor
        · rw [wA_A, if_pos ⟨rfl, rfl⟩]
          exact ih.1 42 _ (by omega) (by omega)
        · rw [wA_A, if_neg (fun z => by cases z.1), wA_A, if_pos ⟨rfl, rfl⟩]
          exact ih.1 41 _ (by omega) (by omega)
      · have h3 := ih.2 i (by omega)
        constructor
        · rw [wA_A, if_neg (fun z => hin (by have := z.2; omega)), wA_A, if_neg (fun z => by cases z.1)]
          exact h3.1
        · rw [wA_A, if_neg (fun z => by cases z.1), wA_A, if_neg (fun z => hin (by have := z.2; omega))]
          exact h3.2
theorem takeS_Q {s s1 : am_Z} {w : am_wP} {W : am_wQ} (hB : am_BR s s1) (hP : am_PQ s1 w) (hW : am_WQ s1 W) (hl : w.length ≤ 4) :
    am_WQ (takeS s1 w.length) (tk s W w) ∧ am_BR s (takeS s1 w.length) ∧ (∀ j i, (j = 41 ∨ j = 42 ∨ j = 43) → rA (takeS s1 w.length) j i = rA s1 j i) := by
  have e1 : tkSum s1 w.length = pSum s w := by
    unfold tkSum pSum
    refine sumI_c (fun i h1 h2 => ?_)
    have h3 := (hP i.toNat (by omega)).1
    rw [show ((i.toNat : Nat) : Int) = i by omega] at h3
    rw [h3, hB.1 25 _ rfl]
  have e2 : gtN s1 w.length w.length = gtV s w := by
    unfold gtV
    refine gtN_cg (s := pPut s w) (s' := s1) (fun j i hj => ?_) (fun i hi => ?_) (fun h2 => ?_) (hB.2 35 (by omega) (by omega)) _ (Nat.le_refl _)
    · rw [hB.1 j i hj]
      show s.1 j i = if j = 42 then _ else if j = 41 then _ else s.1 j i
      rw [if_neg (fun z => by rw [z] at hj; cases hj), if_neg (fun z => by rw [z] at hj; cases hj)]
    · exact (hP i hi).1
    · exact (hP 0 (by omega)).2
  have eT : ((w.length : Int)).toNat = w.length := Int.toNat_natCast _
  unfold takeS tk
  by_cases hc : (W.1 = -1 ∨ pSum s w < W.1) ∧ gtV s w ≠ 0
  · rw [if_pos hc, if_pos (by unfold tkP; rw [eT, e1, e2, hW.1]; exact hc), eT, e1]
    have h := tkF_A (wI (wI s1 37 (pSum s w)) 38 w.length) w.length
    have hI : ∀ j, rI (itS tkF w.length (wI (wI s1 37 (pSum s w)) 38 w.length)) j = rI (wI (wI s1 37 (pSum s w)) 38 w.length) j := fun j => congrFun (itS_I (f := tkF) (fun _ _ => rfl) _ _) j
    refine ⟨⟨?_, ?_, hl, fun i hi => ?_⟩, ⟨fun j i hj => ?_, fun j h1 h2 => ?_⟩, fun j i hj => ?_⟩
    · rw [hI]; rfl
    · rw [hI]; rfl
    · exact ⟨((h.2 i hi).1).trans (hP i hi).1, ((h.2 i hi).2).trans (hP i hi).2⟩
    · rw [h.1 j i (fun z => by rw [z] at hj; cases hj) (fun z => by rw [z] at hj; cases hj)]
      exact hB.1 j i hj
    · rw [hI, wI_I, if_neg h2, wI_I, if_neg h1]
      exact hB.2 j h1 h2
    · exact h.1 j i (by omega) (by omega)
  · rw [if_neg hc, if_neg (by unfold tkP; rw [eT, e1, e2, hW.1]; exact hc)]
    exact ⟨hW, hB, fun _ _ _ => rfl⟩
theorem am_BR_w {s s1 : am_Z} (h : am_BR s s1) {j : Nat} {i v : Int} (hj : scr j = true) : am_BR s (wA s1 j i v) := by
  refine ⟨fun j' i' h' => ?_, h.2⟩
  rw [wA_A, if_neg (fun z => by rw [z.1, hj] at h'; cases h')]
  exact h.1 j' i' h'
theorem nx_c (s : am_Z) (c f : Int) : (nxC s c f = c ∧ nxF s f = f + 1 ∧ f + 1 ≠ rI s 20) ∨ (nxC s c f = c + 1 ∧ nxF s f = 0 ∧ f + 1 = rI s 20) := by
  unfold nxC nxF
  by_cases h : f + 1 = rI s 20
  · rw [if_pos h, if_pos h]; omega
  · rw [if_neg h, if_neg h]; omega
theorem lv_build {d : Nat} {s : am_Z} {q0 : am_A} {Q : Option am_V → am_Z → Prop} {sf : Int} (hsf : in32 sf) (hL : 1 ≤ rI s 35 ∧ rI s 35 ≤ 4) (hA : 0 ≤ rI s 20 ∧ rI s 20 ≤ 16) : ∀ (D k : Nat) (w : am_wP) (p c f v : Int) (x3 : Option am_V) (W : am_wQ) (s1 : am_Z),
    rI s 35 - p ≤ D + 1 → (rI s 35 - p - c) * 16 + (rI s 20 - 1 - f) + 1 ≤ k → (v = w.length ∧ pLen w = p ∧ p < rI s 35 ∧ 1 ≤ c ∧ p + c ≤ rI s 35 ∧ -1 ≤ f ∧ f ≤ rI s 20 - 1) → okP w → am_BR s s1 → am_PQ s1 w → (rA s1 43 v = p ∧ rA s1 41 v = c ∧ rA s1 42 v = f) → am_WQ s1 W →
    (∀ s2 W2 x3 v2, v2 = v - 1 → am_BR s s2 → (∀ j i, (j = 41 ∨ j = 42 ∨ j = 43) → 0 ≤ i → i < v → rA s2 j i = rA s1 j i) → am_WQ s2 W2 → W2 = (wRem s sf (wSub s sf D) k p w c f).foldl (tk s) W → am_WR (d + 5) m_M_builds 33 [some (aR 9 0), some (aI (zI sf)), some (aI (zI v2)), x3] [] q0 s2 Q) →
    am_WR (d + 5) m_M_builds 33 [some (aR 9 0), some (aI (zI sf)), some (aI (zI v)), x3] [] q0 s1 Q := by
  intro D
  induction D using Nat.strongRecOn with
  | _ D ihD =>
  intro k
  induction k with
  | zero => intro w p c f v x3 W s1 _ hk hv; omega
  | succ k ihk =>
  intro w p c f v x3 W s1 hD hk hv hok hB hPQ hfr hW K
  have hlen := pLen_b hok
  obtain ⟨hv1, hv2, hv3, hv4, hv5, hv6, hv7⟩ := hv
  obtain ⟨r43, r41, r42⟩ := hfr
  have hnx := nx_c s c f
  have H84 : ∀ s2, am_BR s s2 → (∀ j i, (j = 41 ∨ j = 42 ∨ j = 43) → 0 ≤ i → i < v → rA s2 j i = rA s1 j i) → rA s2 43 v = p → rA s2 41 v = nxC s c f → rA s2 42 v = nxF s f → am_WQ s2 W → am_WR (d + 5) m_M_builds 84 [some (aR 9 0), some (aI (zI sf)), some (aI (zI v)), x3] [] q0 s2 Q := by
    intro s2 hB2 hkeep g43 g41 g42 hW2
    have eL : rI s2 35 = rI s 35 := hB2.2 35 (by omega) (by omega)
    have eA : rI s2 20 = rI s 20 := hB2.2 20 (by omega) (by omega)
    have hPQ2 : am_PQ s2 w := fun i hi => ⟨(hkeep 42 i (by omega) (by omega) (by omega)).trans (hPQ i hi).1, (hkeep 41 i (by omega) (by omega) (by omega)).trans (hPQ i hi).2⟩
    refine rr_aload_n rfl rfl ?_
    refine rr_gfA 43 rfl rfl (by omega) rfl ?_
    refine rr_iload_n rfl rfl ?_
    refine rr_ia 43 5 rfl rfl rfl rfl (by omega) (by omega) (fun b89 => ?_)
    rw [g43]
    refine rr_aload_n rfl rfl ?_
    refine rr_gfA 41 rfl rfl (by omega) rfl ?_
    refine rr_iload_n rfl rfl ?_
    refine rr_ia 41 5 rfl rfl rfl rfl (by omega) (by omega) (fun b95 => ?_)
    rw [g41]
    refine rr_iadd rfl ?_
    refine rr_aload_n rfl rfl ?_
    refine rr_gfI 35 rfl rfl (by omega) rfl (fun b98 => ?_)
    refine rr_icmp_gt rfl rfl (by omega) (by omega) (fun h101 => ?_) (fun h101 => ?_)
    · refine rr_inc2 rfl ?_
      refine rr_goto rfl rfl ?_
      exact K s2 W _ _ rfl hB2 hkeep hW2 (by rw [wRem, if_pos (by omega)]; rfl)
    · refine rr_aload_n rfl rfl ?_
      refine rr_gfI 20 rfl rfl (by omega) rfl (fun b105 => ?_)
      refine rr_if_ne rfl rfl (by omega) (fun h108 => ?_) (fun h108 => ?_)
      · refine rr_aload_n rfl rfl ?_
        refine rr_aload_n rfl rfl ?_
        refine rr_gfA 43 rfl rfl (by omega) rfl ?_
        refine rr_iload_n rfl rfl ?_
        refine rr_ia 43 5 rfl rfl rfl rfl (by omega) (by omega) (fun b123 => ?_)
        rw [g43]
        refine rr_aload_n rfl rfl ?_
        refine rr_gfA 41 rfl rfl (by omega) rfl ?_
        refine rr_iload_n rfl rfl ?_
        refine rr_ia 41 5 rfl rfl rfl rfl (by omega) (by omega) (fun b129 => ?_)
        rw [g41]
        refine rr_aload_n rfl rfl ?_
        refine rr_gfA 42 rfl rfl (by omega) rfl ?_
        refine rr_iload_n rfl rfl ?_
        refine rr_ia 42 5 rfl rfl rfl rfl (by omega) (by omega) (fun b135 => ?_)
        rw [g42]
        refine rr_iload_n rfl rfl ?_
        refine rr_cv4B rfl rfl rfl (Nat.le_of_ble_eq_true rfl) (sr_canHave (d := 0) (by omega) (by omega) (by omega)) (by omega) ?_
        refine rr_if_eqB rfl rfl (fun h140 => ?_) (fun h140 => ?_)
        · have hcz : ¬ canH s p (nxC s c f) (nxF s f) sf ≠ 0 := by rw [canH_cg hB2.1 (hB2.2 0 (by omega) (by omega)) (hB2.2 44 (by omega) (by omega))] at h140; exact h140
          exact ihk w p (nxC s c f) (nxF s f) v x3 W s2 hD (by omega) ⟨hv1, hv2, hv3, by omega, by omega, by omega, by omega⟩ hok hB2 hPQ2 ⟨g43, g41, g42⟩ hW2 (fun s3 W3 x4 v3 e1 e2 e3 e4 e5 => K s3 W3 x4 v3 e1 e2 (fun j i a b c => (e3 j i a b c).trans (hkeep j i a b c)) e4 (by rw [e5, wRem, if_neg (by omega)]; unfold wNode; rw [if_neg hcz]; rfl))
        · have hcz : canH s p (nxC s c f) (nxF s f) sf ≠ 0 := by { rw [canH_cg hB2.1 (hB2.2 0 (by omega) (by omega)) (hB2.2 44 (by omega) (by omega))] at h140; exact h140 }
          have hok2 : okP (w ++ [(nxF s f, nxC s c f)]) := okP_app hok ⟨by dsimp only; omega, by dsimp only; omega⟩
          have hlen2 := pLen_b hok2
          have hpl : pLen (w ++ [(nxF s f, nxC s c f)]) = p + (nxC s c f) := by rw [pLen_app, hv2]
          have hwl : (w ++ [(nxF s f, nxC s c f)]).length = w.length + 1 := by simp
          have hPQ3 : am_PQ s2 (w ++ [(nxF s f, nxC s c f)]) := by
            intro i hi
            rw [hwl] at hi
            by_cases hiw : i < w.length
            · rw [(pF_app hiw).1, (pF_app hiw).2]; exact hPQ2 i hiw
            · rw [show i = w.length by omega, (pF_end w _).1, (pF_end w _).2]; rw [hv1] at g42 g41; exact ⟨g42, g41⟩
          refine rr_aload_n rfl rfl ?_
          refine rr_gfA 43 rfl rfl (by omega) rfl ?_
          refine rr_iload_n rfl rfl ?_
          refine rr_ia 43 5 rfl rfl rfl rfl (by omega) (by omega) (fun b148 => ?_)
          rw [g43]
          refine rr_aload_n rfl rfl ?_
          refine rr_gfA 41 rfl rfl (by omega) rfl ?_
          refine rr_iload_n rfl rfl ?_
          refine rr_ia 41 5 rfl rfl rfl rfl (by omega) (by omega) (fun b154 => ?_)
          rw [g41]
          refine rr_iadd rfl ?_
          refine rr_stI3 rfl ?_
          refine rr_iload_n rfl rfl ?_
          refine rr_aload_n rfl rfl ?_
          refine rr_gfI 35 rfl rfl (by omega) rfl (fun b159 => ?_)
          refine rr_icmp_ne rfl rfl (by omega) (by omega) (fun h162 => ?_) (fun h162 => ?_)
          · refine rr_inc2 rfl ?_
            refine rr_aload_n rfl rfl ?_
            refine rr_gfA 43 rfl rfl (by omega) rfl ?_
            refine rr_iload_n rfl rfl ?_
            refine rr_iload_n rfl rfl ?_
            refine rr_ias 43 5 rfl ⟨rfl, by omega⟩ rfl (by omega) (by omega) rfl rfl (by omega) (by omega) ?_
            refine rr_aload_n rfl rfl ?_
            refine rr_gfA 41 rfl rfl (by omega) rfl ?_
            refine rr_iload_n rfl rfl ?_
            refine rr_iconst rfl ?_
            refine rr_ias 41 5 rfl ⟨rfl, by omega⟩ rfl (by omega) (by omega) rfl rfl (by omega) (by omega) ?_
            refine rr_aload_n rfl rfl ?_
            refine rr_gfA 42 rfl rfl (by omega) rfl ?_
            refine rr_iload_n rfl rfl ?_
            refine rr_iconst rfl ?_
            refine rr_ias 42 5 rfl ⟨rfl, by omega⟩ rfl (by omega) (by omega) rfl rfl (by omega) (by omega) ?_
            refine rr_goto rfl rfl ?_
            obtain ⟨D1, rfl⟩ : ∃ D1, D = D1 + 1 := ⟨D - 1, by omega⟩
            have n43 : ∀ j i, 0 ≤ i → i < v + 1 → rA (wA (wA (wA s2 43 (v + 1) (p + (nxC s c f))) 41 (v + 1) 1) 42 (v + 1) (-1)) j i = rA s2 j i := by
              intro j i h1 h2
              rw [wA_A, if_neg (fun z => by omega), wA_A, if_neg (fun z => by omega), wA_A, if_neg (fun z => by omega)]
            refine ihD D1 (by omega) 100 (w ++ [(nxF s f, nxC s c f)]) (p + (nxC s c f)) 1 (-1) (v + 1) _ W _ (by omega) (by omega) ⟨by omega, hpl, by omega, by omega, by omega, by omega, by omega⟩ hok2 (am_BR_w (am_BR_w (am_BR_w hB2 rfl) rfl) rfl) (fun i hi => ?_) ⟨?_, ?_, ?_⟩ ?_ (fun s3 W3 x4 v3 e1 e2 e3 e4 e5 => ?_)
            · have h3 := hPQ3 i hi
              rw [n43 42 i (by omega) (by omega), n43 41 i (by omega) (by omega)]
              exact h3
            · rw [wA_A, if_neg (fun z => by cases z.1), wA_A, if_neg (fun z => by cases z.1), wA_A, if_pos ⟨rfl, rfl⟩]
            · rw [wA_A, if_neg (fun z => by cases z.1), wA_A, if_pos ⟨rfl, rfl⟩]
            · rw [wA_A, if_pos ⟨rfl, rfl⟩]
            · refine ⟨hW2.1, hW2.2.1, hW2.2.2.1, fun i hi => ?_⟩
              rw [wA_A, if_neg (fun z => by cases z.1), wA_A, if_neg (fun z => by cases z.1), wA_A, if_neg (fun z => by cases z.1), wA_A, if_neg (fun z => by cases z.1), wA_A, if_neg (fun z => by cases z.1), wA_A, if_neg (fun z => by cases z.1)]
              exact hW2.2.2.2 i hi
            · have k3 : ∀ j i, (j = 41 ∨ j = 42 ∨ j = 43) → 0 ≤ i → i < v + 1 → rA s3 j i = rA s2 j i := fun j i a b c => (e3 j i a b c).trans (n43 j i b c)
              rw [show v3 = v by omega]
              exact ihk w p (nxC s c f) (nxF s f) v _ W3 s3 hD (by omega) ⟨hv1, hv2, hv3, by omega, by omega, by omega, by omega⟩ hok e2 (fun i hi => ⟨(k3 42 i (by omega) (by omega) (by omega)).trans (hPQ2 i hi).1, (k3 41 i (by omega) (by omega) (by omega)).trans (hPQ2 i hi).2⟩) ⟨(k3 43 v (by omega) (by omega) (by omega)).trans g43, (k3 41 v (by omega) (by omega) (by omega)).trans g41, (k3 42 v (by omega) (by omega) (by omega)).trans g42⟩ e4 (fun s4 W4 x5 v4 a1 a2 a3 a4 a5 => K s4 W4 x5 v4 a1 a2 (fun j i a b c => ((a3 j i a b c).trans (k3 j i a b (by omega))).trans (hkeep j i a b c)) a4 (by rw [a5, wRem, if_neg (by omega), List.foldl_append, e5]; unfold wNode; rw [if_pos hcz, if_neg (by omega)]; rfl))
          · have hq : ∀ i, 0 ≤ i → i < v + 1 → 0 ≤ rA s2 42 i ∧ rA s2 42 i < 16 := by
              intro i h1 h2
              have h3 := (hPQ3 i.toNat (by omega)).1
              rw [show ((i.toNat : Nat) : Int) = i by omega] at h3
              rw [h3]
              exact (okP_F hok2 (by omega)).1
            have h0 : v + 1 = 2 → 1 ≤ rA s2 41 0 ∧ rA s2 41 0 ≤ 3 := by
              intro h1
              have h3 := (hPQ3 0 (by omega)).2
              have h4 := (okP_F hok2 (i := 0) (by omega)).2
              have h5 : pLen w = pC w 0 := by
                match w, (show w.length = 1 by omega) with
                | [x], _ => simp [pLen, pC]
              rw [(pF_app (by omega)).2] at h3 h4
              rw [show ((0 : Nat) : Int) = 0 from rfl] at h3
              rw [h3]
              omega
            refine rr_aload_n rfl rfl ?_
            refine rr_iload_n rfl rfl ?_
            refine rr_iconst rfl ?_
            refine rr_iadd rfl ?_
            refine rr_cv1W rfl rfl rfl (Nat.le_of_ble_eq_true rfl) (sr_takes (d := 0) (by omega) (by omega) hq h0) (by omega) ?_
            refine rr_goto rfl rfl ?_
            refine rr_goto rfl rfl ?_
            have ht := takeS_Q hB2 hPQ3 hW2 (by omega)
            rw [show (((w ++ [(nxF s f, nxC s c f)]).length : Nat) : Int) = v + 1 by omega] at ht
            obtain ⟨t1, t2, t3⟩ := ht
            exact ihk w p (nxC s c f) (nxF s f) v _ _ _ hD (by omega) ⟨hv1, hv2, hv3, by omega, by omega, by omega, by omega⟩ hok t2 (fun i hi => ⟨(t3 42 i (by omega)).trans (hPQ2 i hi).1, (t3 41 i (by omega)).trans (hPQ2 i hi).2⟩) ⟨(t3 43 v (by omega)).trans g43, (t3 41 v (by omega)).trans g41, (t3 42 v (by omega)).trans g42⟩ t1 (fun s3 W3 x4 v3 e1 e2 e3 e4 e5 => K s3 W3 x4 v3 e1 e2 (fun j i a b c => ((e3 j i a b c).trans (t3 j i a)).trans (hkeep j i a b c)) e4 (by rw [e5, wRem, if_neg (by omega)]; unfold wNode; rw [if_pos hcz, if_pos (by omega)]; rfl))
      · refine rr_inc2 rfl ?_
        refine rr_goto rfl rfl ?_
        exact K s2 W _ _ rfl hB2 hkeep hW2 (by rw [wRem, if_pos (by omega)]; rfl)
  have eL1 : rI s1 35 = rI s 35 := hB.2 35 (by omega) (by omega)
  have eA1 : rI s1 20 = rI s 20 := hB.2 20 (by omega) (by omega)
  refine rr_iload_n rfl rfl ?_
  refine rr_if_lt rfl rfl (by omega) (fun ht => by omega) (fun h34 => ?_)
  refine rr_aload_n rfl rfl ?_
  refine rr_gfI 35 rfl rfl (by omega) rfl (fun b38 => ?_)
  refine rr_if_le rfl rfl (by omega) (fun ht => by omega) (fun h41 => ?_)
  refine rr_aload_n rfl rfl ?_
  refine rr_gfA 42 rfl rfl (by omega) rfl ?_
  refine rr_iload_n rfl rfl ?_
  refine rr_dup2 rfl rfl rfl ?_
  refine rr_ia 42 5 rfl rfl rfl rfl (by omega) (by omega) (fun b50 => ?_)
  rw [r42]
  refine rr_iconst rfl ?_
  refine rr_iadd rfl ?_
  refine rr_ias 42 5 rfl ⟨rfl, by omega⟩ rfl (by omega) (by omega) rfl rfl (by omega) (by omega) ?_
  refine rr_aload_n rfl rfl ?_
  refine rr_gfA 42 rfl rfl (by omega) rfl ?_
  refine rr_iload_n rfl rfl ?_
  refine rr_ia 42 5 rfl rfl rfl rfl (by omega) (by omega) (fun b59 => ?_)
  rw [show rA (wA s1 42 v (f + 1)) 42 v = f + 1 from if_pos ⟨rfl, rfl⟩]
  refine rr_aload_n rfl rfl ?_
  refine rr_gfIv 20 (s1) rfl rfl rfl (by omega) rfl (fun b61 => ?_)
  refine rr_icmp_ne rfl rfl (by omega) (by omega) (fun h64 => ?_) (fun h64 => ?_)
  · first
      | exact H84 _ (am_BR_w hB rfl) (fun j i _ _ z => by rw [wA_A, if_neg (fun y => by omega)]) r43 (by rw [wA_A, if_neg (fun y => by cases y.1)]; omega) (by rw [wA_A, if_pos ⟨rfl, rfl⟩]; omega) hW
      | exact H84 _ (am_BR_w (am_BR_w (am_BR_w hB rfl) rfl) rfl) (fun j i _ _ z => by rw [wA_A, if_neg (fun y => by omega), wA_A, if_neg (fun y => by omega), wA_A, if_neg (fun y => by omega)]) r43 (by rw [wA_A, if_pos ⟨rfl, rfl⟩]; omega) (by rw [wA_A, if_neg (fun y => by cases y.1), wA_A, if_pos ⟨rfl, rfl⟩]; omega) hW
  · refine rr_aload_n rfl rfl ?_
    refine rr_gfA 42 rfl rfl (by omega) rfl ?_
    refine rr_iload_n rfl rfl ?_
    refine rr_iconst rfl ?_
    refine rr_ias 42 5 rfl ⟨rfl, by omega⟩ rfl (by omega) (by omega) rfl rfl (by omega) (by omega) ?_
    refine rr_aload_n rfl rfl ?_
    refine rr_gfA 41 rfl rfl (by omega) rfl ?_
    refine rr_iload_n rfl rfl ?_
    refine rr_dup2 rfl rfl rfl ?_
    refine rr_iav 41 5 (s1) (fun _ => rfl) rfl rfl rfl rfl (by omega) (by omega) (fun b80 => ?_)
    rw [r41]
    refine rr_iconst rfl ?_
    refine rr_iadd rfl ?_
    refine rr_ias 41 5 rfl ⟨rfl, by omega⟩ rfl (by omega) (by omega) rfl rfl (by omega) (by omega) ?_
    first
      | exact H84 _ (am_BR_w hB rfl) (fun j i _ _ z => by rw [wA_A, if_neg (fun y => by omega)]) r43 (by rw [wA_A, if_neg (fun y => by cases y.1)]; omega) (by rw [wA_A, if_pos ⟨rfl, rfl⟩]; omega) hW
      | exact H84 _ (am_BR_w (am_BR_w (am_BR_w hB rfl) rfl) rfl) (fun j i _ _ z => by rw [wA_A, if_neg (fun y => by omega), wA_A, if_neg (fun y => by omega), wA_A, if_neg (fun y => by omega)]) r43 (by rw [wA_A, if_pos ⟨rfl, rfl⟩]; omega) (by rw [wA_A, if_neg (fun y => by cases y.1), wA_A, if_pos ⟨rfl, rfl⟩]; omega) hW
end

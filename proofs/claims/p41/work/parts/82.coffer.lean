noncomputable section
def fhS (s : am_Z) (f : Int) : Int := rA s 7 f - rA s 1 (rA s 5 f)
theorem dep_fd {s : am_Z} (f d : Int) (hd : 0 ≤ d ∧ d < 100) : dep s (100 * f + d) = fhS s f + 24 * d + rA s 17 (61 * f + d) := by
  have e1 : (100 * f + d) / 100 = f := by omega
  have e3 : (100 * f + d) % 100 = d := by omega
  unfold dep fhS
  rw [e1, e3]
  omega
section OFR
variable {s : am_Z} {b own E L N N' g a : Int} {W : am_Y} {f j : Nat}
theorem it2_c61 : it2 s b own N g a (100 * f + 100) W = it2 s b own N g a (100 * f + 61) W := it2_skip _ (by omega) (fun k h1 h2 => stp2_no (fun z => by have := z.1.1.2.2.1; omega))
theorem it2_lt (B : in_S s) (hN : ∀ t, t ≤ 1600 → (t ≤ N ↔ t ≤ N')) (hf : f < 12) (hj : j < 61) (h : latD N' (it2 s b own N g a (100 * f + j) W) < arv s (100 * f + j)) : it2 s b own N g a (100 * f + 100) W = it2 s b own N g a (100 * f + j) W := by
  refine it2_skip _ (by omega) (fun k h1 h2 => ?_)
  by_cases hl : legP s (k : Int)
  · have hak := arv_b B (legP_R B hl)
    refine stp2_late hN (by omega) ?_
    by_cases e : k = 100 * f + j
    · rw [e, show (((100 * f + j : Nat)) : Int) = 100 * (f : Int) + j by omega]
      exact h
    · have h3 := (day_late B (f := f) (d := j) (d' := (k : Int) - 100 * f) (by omega) (by omega)).2
      rw [show 100 * (f : Int) + ((k : Int) - 100 * f) = k by omega] at h3
      omega
  · exact stp2_no (fun z => hl z.1.1)
theorem it2_off (B : in_S s) (hN : ∀ t, t ≤ 1600 → (t ≤ N ↔ t ≤ N')) (ha : 0 ≤ a) (hW : wI1 N a W) (hf : f < 12) (hj : j < 61) (h1 : legP s (100 * f + j)) (h2 : rA s 5 f = rA s 6 (a / 100)) (h3 : rA s 6 f = g) (h4 : arv s a + 1 ≤ dep s (100 * f + j)) (h5 : canGo s (100 * f + j) b own ≠ 0) : it2 s b own N g a (100 * f + 100) W = ofW N' (arv s (100 * f + j)) (it2 s b own N g a (100 * f + j) W) a (100 * f + j) := by
  have e0 : (((100 * f + j : Nat)) : Int) = 100 * (f : Int) + j := by omega
  have e1 : (100 * (f : Int) + j) / 100 = f := by omega
  have hal := arv_b B (legP_R B h1)
  have hs : it2 s b own N g a (100 * f + (j + 1)) W = ofW N' (arv s (100 * f + j)) (it2 s b own N g a (100 * f + j) W) a (100 * f + j) := by
    have hi := it2_inv (own := own) (g := g) (b := b) B ha hW (100 * f + j)
    rw [show 100 * f + (j + 1) = (100 * f + j) + 1 by omega, it2_s]
    rw [e0] at hi ⊢
    exact stp2_of hN (by omega) (by omega) hi h1 (by rw [e1]; exact h2) (by rw [e1]; exact h3) h4 h5
  rw [← hs]
  refine it2_skip _ (by omega) (fun k k1 k2 => ?_)
  by_cases hl : legP s (k : Int)
  · have hak := arv_b B (legP_R B hl)
    refine stp2_late hN (by omega) ?_
    rw [hs]
    have h6 := of_lat (N' := N') (a := a) (k := 100 * (f : Int) + j) (W := it2 s b own N g a (100 * f + j) W) (t := arv s (100 * f + j)) (by omega)
    have h7 := (day_late B (f := f) (d := j) (d' := (k : Int) - 100 * f) (by omega) (by omega)).2
    rw [show 100 * (f : Int) + ((k : Int) - 100 * f) = k by omega] at h7
    omega
  · exact stp2_no (fun z => hl z.1.1)
theorem it2_nx (h : ¬ (goOn s N g a (100 * f + j) ∧ canGo s (100 * f + j) b own ≠ 0)) : it2 s b own N g a (100 * f + (j + 1)) W = it2 s b own N g a (100 * f + j) W := by
  rw [show 100 * f + (j + 1) = (100 * f + j) + 1 by omega, it2_s, show (((100 * f + j : Nat)) : Int) = 100 * (f : Int) + j by omega]
  exact stp2_no h
theorem it2_d0 (B : in_S s) (hf : f < 12) (hj : (j : Int) = min 61 (max 0 ((arv s a + 1 - fhS s f) / 24))) : it2 s b own N g a (100 * f + j) W = it2 s b own N g a (100 * f) W := by
  refine it2_skip (j := 100 * f) _ (by omega) (fun k h1 h2 => stp2_no (fun z => ?_))
  have h3 := z.1.2.2.2.1
  have h4 := dep_fd (s := s) f ((k : Int) - 100 * f) (by omega)
  rw [show 100 * (f : Int) + ((k : Int) - 100 * f) = k by omega] at h4
  have b1 := B.1 17 (61 * f + ((k : Int) - 100 * f)) 0 8 rfl
  omega
theorem it2_fl (h : ¬ (rA s 5 f = rA s 6 (a / 100) ∧ rA s 6 f = g)) : it2 s b own N g a (100 * f + 100) W = it2 s b own N g a (100 * f) W := by
  refine it2_skip (j := 100 * f) _ (by omega) (fun k h1 h2 => stp2_no (fun z => ?_))
  have e : (k : Int) / 100 = f := by omega
  have z2 := z.1.2.1
  have z3 := z.1.2.2.1
  rw [e] at z2 z3
  exact h ⟨z2, z3⟩
theorem lat_32 {j : Int} (hN' : in32 N') (hW : wI2 N a j W) : in32 (latD N' W) := by
  unfold latD
  split
  · exact hN'
  · rename_i z
    have := (hW.2 z).2.1
    unfold in32
    omega
theorem lat1_32 {j : Int} (hN' : in32 N') (hW : wI1 N j W) : in32 (latD N' W) := by
  unfold latD
  split
  · exact hN'
  · rename_i z
    have := (hW.2 z).2.1
    unfold in32
    omega
theorem on_O {q : am_A} : (if 0 ≤ (j : Int) ∧ (j : Int) < 61 then qAR q (1408, f) ((j : Int)).toNat else none) = if j < 61 then legO q (100 * f + j) else none := by
  by_cases h : j < 61
  · rw [if_pos ⟨by omega, by omega⟩, if_pos h]
    unfold legO
    rw [show ((100 * (f : Int) + j) / 100).toNat = f by omega, show ((100 * (f : Int) + j) % 100).toNat = ((j : Int)).toNat by omega]
  · rw [if_neg (fun z => h (by omega)), if_neg h]
end OFR
theorem lp_of2 {d : Nat} {q : am_A} {Q : am_O → am_A → Prop} {e b f : Nat} {s : am_Z} {N N' own a g : Int} {W : am_Y} {x2 : Option am_V} (hb : (b : Int) < rI s 44) (hf : (f : Int) < rI s 3) (ha : legP s a) (hN : ∀ t, t ≤ 1600 → (t ≤ N ↔ t ≤ N')) (bN : in32 N') (hfr : rA s 5 f = rA s 6 (a / 100)) (hto : rA s 6 f = g) (hcg : ∀ l, canGo s l b own ≠ 0 ↔ cgP s b l) (hW : wI1 N a W)  : ∀ (m : Nat) (j : Nat) (k : Int) (q1 : am_A) (x8 : Option am_V), 62 - j < m → (j ≤ 61 ∧ (k = j ∨ (j = 61 ∧ 61 ≤ k ∧ k ≤ 5000)) ∧ am_CI e q1 s ∧ am_DR q1 N' (it2 s b own N g a (100 * f + j) W) ∧ am_SM q q1 ∧ am_CG q q1) → (∀ x7 x8 q1, am_CI e q1 s → am_DR q1 N' (it2 s b own N g a (100 * f + 100) W) → am_SM q q1 → am_CG q q1 → am_W2 (d + 5) m_X_offerFrom 200 [some (aR 8 0), some (aR 0 b), x2, some (aR 5 (lId q a)), some (aI (zI (arv s a + 1))), some (aI (zI f)), some (aR 4 f), x7, x8] [] (q1) Q) → am_W2 (d + 5) m_X_offerFrom 106 [some (aR 8 0), some (aR 0 b), x2, some (aR 5 (lId q a)), some (aI (zI (arv s a + 1))), some (aI (zI f)), some (aR 4 f), some (aI (zI k)), x8] [] (q1) Q := by
  intro m
  induction m with
  | zero => intro j k q1 x8 hm; exact absurd hm (Nat.not_lt_zero _)
  | succ m ih =>
    intro j k q1 x8 hm ⟨hj, hk, hI, hD, hS, hG⟩ K
    have V := hI.1
    have B := CV_B V
    have b3 := B.2.1 3 0 12 rfl
    have hfl := V.2.2.1.2.2.1 f hf
    have hi := it2_inv (own := own) (g := g) (b := b) B ha.1 hW (100 * f + j)
    have bl := lat_32 bN hi
    have hB := V.2.2.2.2.2.2.1.2.2.1 b hb
    have b45 := B.1 45 b 0 9 rfl
    have baa := arv_b B (legP_R B ha)
    refine ar_iload rfl rfl ?_
    refine ar_bipush (x := 61) rfl rfl ?_
    refine ar_icmp_ge rfl rfl (by omega) (by omega) (fun h110 => ?_) (fun h110 => ?_)
    · first | exact K _ _ _ I188 (by rw [it2_off B hN ha.1 hW (by omega) hj61 hl hfr hto (by omega) ((hcg _).mpr ⟨by omega, by omega⟩)]; exact D188) (SM_t hS S188) (CG_t hG G188) | exact K _ _ _ hI (by rw [it2_lt B hN (by omega) hj61 (by omega)]; exact hD) hS hG | exact K _ _ _ hI (by rw [it2_c61, show 61 = j by omega]; exact hD) hS hG
    · have ek : k = j := by omega
      have hj61 : j < 61 := by omega
      subst ek
      refine ar_aload rfl rfl ?_
      refine ar_iload rfl rfl ?_
      refine ar_cv1 rfl rfl rfl (Nat.le_of_ble_eq_true rfl) (cs_on (d := 0) hfl.2.2.2.2.1 hfl.2.2.2.2.2.2.2.1 (by omega)) (by omega) (fun o q117 hq => am_B2_is ?_ hq)
      rw [on_O, if_pos hj61]
      have hlo := leg_on V (l := (100 * (f : Int) + (j : Int))) ⟨by omega, by omega, by omega⟩
      refine ar_stA8 rfl ?_
      refine ar_aload rfl rfl ?_
      refine ar_ifnull rfl rfl (fun hn124 => ?_) (fun r124 hr124 => ?_)
      · have hnx : ¬ (goOn s N g a (100 * (f : Int) + (j : Int)) ∧ canGo s (100 * (f : Int) + (j : Int)) b own ≠ 0) := by first | exact fun z => hlo.1 hn124 z.1.1 | exact fun z => absurd z.1.2.2.2.1 (by omega) | exact fun z => absurd ((hcg _).mp z.2) (fun y => by have y1 := y.1; have y2 := y.2; omega)
        refine ar_inc7 rfl ?_
        refine ar_goto rfl rfl ?_
        exact ih (j + 1) _ _ _ (by omega) ⟨by omega, Or.inl (by omega), hI, by { rw [it2_nx hnx]; exact hD }, hS, hG⟩ K
      · have hlr := hlo.2 _ hr124
        have hl := hlr.1
        rw [hlr.2]
        have hg := V.2.2.2.1.1 _ hl
        have bdl := dep_b B (legP_R B hl)
        have bal := arv_b B (legP_R B hl)
        have bus := usR_b s b (100 * (f : Int) + (j : Int)) 12 0
        have bop := openS_b B (100 * (f : Int) + (j : Int)) 0
        refine ar_aload rfl rfl ?_
        refine ar_gfIv rfl rfl rfl (by omega) (hg.2.2.2.2.2.1) ?_
        refine ar_iload rfl rfl ?_
        refine ar_icmp_ge rfl rfl (by omega) (by omega) (fun h134 => ?_) (fun h134 => ?_)
        · refine ar_aload rfl rfl ?_
          refine ar_gfIv rfl rfl rfl (by omega) (hg.2.2.2.2.2.2.1) ?_
          refine ar_aload_n rfl rfl ?_
          refine ar_gfR rfl rfl rfl (by omega) (V.1.1 810 _ rfl) ?_
          refine ar_gfIv rfl rfl rfl (by omega) (hD.2.2) ?_
          refine ar_icmp_le rfl rfl (by omega) (by omega) (fun h152 => ?_) (fun h152 => ?_)
          · refine ar_aload_n rfl rfl ?_
            refine ar_aload rfl rfl ?_
            refine ar_cv1 rfl rfl rfl (Nat.le_of_ble_eq_true rfl) (cs_usesLeg (d := 0) V hl hb) (by omega) (fun o q161 hq => am_B2_is ?_ hq)
            refine ar_if_ne rfl rfl (by omega) (fun h164 => ?_) (fun h164 => ?_)
            · have hnx : ¬ (goOn s N g a (100 * (f : Int) + (j : Int)) ∧ canGo s (100 * (f : Int) + (j : Int)) b own ≠ 0) := by first | exact fun z => hlo.1 hn124 z.1.1 | exact fun z => absurd z.1.2.2.2.1 (by omega) | exact fun z => absurd ((hcg _).mp z.2) (fun y => by have y1 := y.1; have y2 := y.2; omega)
              refine ar_inc7 rfl ?_
              refine ar_goto rfl rfl ?_
              exact ih (j + 1) _ _ _ (by omega) ⟨by omega, Or.inl (by omega), hI, by { rw [it2_nx hnx]; exact hD }, hS, hG⟩ K
            · refine ar_aload_n rfl rfl ?_
              refine ar_aload rfl rfl ?_
              refine ar_iconst rfl ?_
              refine ar_cv2 rfl rfl rfl (Nat.le_of_ble_eq_true rfl) (cs_openSeats (d := 0) V hl ⟨by omega, by omega⟩) (by omega) (fun o q171 hq => am_B2_is ?_ hq)
              refine ar_aload_n rfl rfl ?_
              refine ar_gfIv rfl rfl rfl (by omega) (hB.1 6 45 rfl) ?_
              refine ar_icmp_lt rfl rfl (by omega) (by omega) (fun h178 => ?_) (fun h178 => ?_)
              · have hnx : ¬ (goOn s N g a (100 * (f : Int) + (j : Int)) ∧ canGo s (100 * (f : Int) + (j : Int)) b own ≠ 0) := by first | exact fun z => hlo.1 hn124 z.1.1 | exact fun z => absurd z.1.2.2.2.1 (by omega) | exact fun z => absurd ((hcg _).mp z.2) (fun y => by have y1 := y.1; have y2 := y.2; omega)
                refine ar_inc7 rfl ?_
                refine ar_goto rfl rfl ?_
                exact ih (j + 1) _ _ _ (by omega) ⟨by omega, Or.inl (by omega), hI, by { rw [it2_nx hnx]; exact hD }, hS, hG⟩ K
              · refine ar_aload_n rfl rfl ?_
                refine ar_gfR rfl rfl rfl (by omega) (V.1.1 810 _ rfl) ?_
                rw [← SM_l hS a]
                refine ar_aload_n rfl rfl ?_
                refine ar_aload rfl rfl ?_
                refine ar_cv2 rfl rfl rfl (Nat.le_of_ble_eq_true rfl) (cs_offer2 (d := 0) hI hD ha hl bl) (by omega) (fun o q188 hq => ?_)
                obtain ⟨rfl, I188, D188, S188, G188⟩ := hq
                rw [SM_l hS a]
                refine ar_goto rfl rfl ?_
                first | exact K _ _ _ I188 (by rw [it2_off B hN ha.1 hW (by omega) hj61 hl hfr hto (by omega) ((hcg _).mpr ⟨by omega, by omega⟩)]; exact D188) (SM_t hS S188) (CG_t hG G188) | exact K _ _ _ hI (by rw [it2_lt B hN (by omega) hj61 (by omega)]; exact hD) hS hG | exact K _ _ _ hI (by rw [it2_c61, show 61 = j by omega]; exact hD) hS hG
          · refine ar_goto rfl rfl ?_
            first | exact K _ _ _ I188 (by rw [it2_off B hN ha.1 hW (by omega) hj61 hl hfr hto (by omega) ((hcg _).mpr ⟨by omega, by omega⟩)]; exact D188) (SM_t hS S188) (CG_t hG G188) | exact K _ _ _ hI (by rw [it2_lt B hN (by omega) hj61 (by omega)]; exact hD) hS hG | exact K _ _ _ hI (by rw [it2_c61, show 61 = j by omega]; exact hD) hS hG
        · refine ar_goto rfl rfl ?_
          have hnx : ¬ (goOn s N g a (100 * (f : Int) + (j : Int)) ∧ canGo s (100 * (f : Int) + (j : Int)) b own ≠ 0) := by first | exact fun z => hlo.1 hn124 z.1.1 | exact fun z => absurd z.1.2.2.2.1 (by omega) | exact fun z => absurd ((hcg _).mp z.2) (fun y => by have y1 := y.1; have y2 := y.2; omega)
          refine ar_inc7 rfl ?_
          refine ar_goto rfl rfl ?_
          exact ih (j + 1) _ _ _ (by omega) ⟨by omega, Or.inl (by omega), hI, by { rw [it2_nx hnx]; exact hD }, hS, hG⟩ K
theorem lp_of1 {d : Nat} {q : am_A} {Q : am_O → am_A → Prop} {e b : Nat} {s : am_Z} {N N' own a g : Int} {W : am_Y} (hb : (b : Int) < rI s 44) (ha : legP s a) (hN : ∀ t, t ≤ 1600 → (t ≤ N ↔ t ≤ N')) (bN : in32 N') (ho : legP s own) (hgo : rA s 6 (own / 100) = g) (hcg : ∀ l, canGo s l b own ≠ 0 ↔ cgP s b l) (hW : wI1 N a W)  : ∀ (m : Nat) (f : Nat) (k : Int) (q1 : am_A) (x6 x7 x8 : Option am_V), (rI s 3).toNat - f < m → (k = f ∧ (f : Int) ≤ rI s 3 ∧ am_CI e q1 s ∧ am_DR q1 N' (it2 s b own N g a (100 * f) W) ∧ am_SM q q1 ∧ am_CG q q1) → (∀ x5 x6 x7 x8 q1, am_CI e q1 s → am_DR q1 N' (it2 s b own N g a (100 * rI s 3).toNat W) → am_SM q q1 → am_CG q q1 → am_W2 (d + 5) m_X_offerFrom 206 [some (aR 8 0), some (aR 0 b), some (aR 5 (lId q own)), some (aR 5 (lId q a)), some (aI (zI (arv s a + 1))), x5, x6, x7, x8] [] (q1) Q) → am_W2 (d + 5) m_X_offerFrom 38 [some (aR 8 0), some (aR 0 b), some (aR 5 (lId q own)), some (aR 5 (lId q a)), some (aI (zI (arv s a + 1))), some (aI (zI k)), x6, x7, x8] [] (q1) Q := by
  intro m
  induction m with
  | zero => intro f k q1 x6 x7 x8 hm; exact absurd hm (Nat.not_lt_zero _)
  | succ m ih =>
    intro f k q1 x6 x7 x8 hm ⟨hj, hj2, hI, hD, hS, hG⟩ K
    subst hj
    have V := hI.1
    have B := CV_B V
    have b3 := B.2.1 3 0 12 rfl
    have hga := V.2.2.2.1.1 a ha
    have hgw := V.2.2.2.1.1 own ho
    have ha1 := ha.1
    have ha2 := ha.2.1
    have ho1 := ho.1
    have ho2 := ho.2.1
    have hfa := V.2.2.1.2.2.1 (a / 100).toNat (by omega)
    have hfo := V.2.2.1.2.2.1 (own / 100).toNat (by omega)
    have ea : (((a / 100).toNat : Nat) : Int) = a / 100 := by omega
    have eo : (((own / 100).toNat : Nat) : Int) = own / 100 := by omega
    have baa := arv_b B (legP_R B ha)
    have c1 := B.1 5 f 0 5 rfl
    have c2 := B.1 6 f 0 5 rfl
    have c3 := B.1 6 (a / 100) 0 5 rfl
    have c4 := B.1 6 (own / 100) 0 5 rfl
    refine ar_iload rfl rfl ?_
    refine ar_aload_n rfl rfl ?_
    refine ar_gfR rfl rfl rfl (by omega) (V.1.1 802 _ rfl) ?_
    refine ar_cv0 rfl rfl rfl (Nat.le_of_ble_eq_true rfl) (cl_szF (d := 0) V) (by omega) (fun o q44 hq => am_B2_is ?_ hq)
    refine ar_icmp_ge rfl rfl (by omega) (by omega) (fun h47 => ?_) (fun h47 => ?_)
    · have ej : 100 * f = (100 * rI s 3).toNat := by omega
      rw [ej] at hD
      exact K _ _ _ _ _ hI hD hS hG
    · refine ar_aload_n rfl rfl ?_
      refine ar_gfR rfl rfl rfl (by omega) (V.1.1 802 _ rfl) ?_
      refine ar_iload rfl rfl ?_
      refine ar_cv1 rfl rfl rfl (Nat.le_of_ble_eq_true rfl) (cl_getF (d := 0) V (by omega)) (by omega) (fun o q56 hq => am_B2_is ?_ hq)
      rw [Int.toNat_natCast]
      have hf3 : ((f : Nat) : Int) < rI s 3 := by omega
      have hfl := V.2.2.1.2.2.1 f hf3
      refine ar_cast rfl rfl rfl ?_
      refine ar_stA6 rfl ?_
      refine ar_aload rfl rfl ?_
      refine ar_gfIv rfl rfl rfl (by omega) (hfl.1 402 5 rfl) ?_
      rw [← SM_l hS a, ← SM_l hS own]
      refine ar_aload_n rfl rfl ?_
      refine ar_gfR rfl rfl rfl (by omega) (hga.2.2.1) ?_
      refine ar_gfIv rfl rfl rfl (by omega) ((hfa.1 403 6 rfl).trans (by rw [ea])) ?_
      rw [SM_l hS a, SM_l hS own]
      refine ar_icmp_ne rfl rfl (by omega) (by omega) (fun h76 => ?_) (fun h76 => ?_)
      · refine ar_inc5 rfl ?_
        refine ar_goto rfl rfl ?_
        first | exact ih (f + 1) _ _ _ _ _ (by omega) ⟨by omega, by omega, I2, D2, SM_t hS S2, CG_t hG G2⟩ K | exact ih (f + 1) _ _ _ _ _ (by omega) ⟨by omega, by omega, hI, by { rw [show 100 * (f + 1) = 100 * f + 100 by omega, it2_fl (fun z => by have z1 := z.1; have z2 := z.2; omega)]; exact hD }, hS, hG⟩ K
      · refine ar_aload rfl rfl ?_
        refine ar_gfIv rfl rfl rfl (by omega) (hfl.1 403 6 rfl) ?_
        rw [← SM_l hS a, ← SM_l hS own]
        refine ar_aload_n rfl rfl ?_
        refine ar_gfR rfl rfl rfl (by omega) (hgw.2.2.1) ?_
        refine ar_gfIv rfl rfl rfl (by omega) ((hfo.1 403 6 rfl).trans (by rw [eo])) ?_
        rw [SM_l hS a, SM_l hS own]
        refine ar_icmp_eq rfl rfl (by omega) (by omega) (fun h91 => ?_) (fun h91 => ?_)
        · refine ar_aload rfl rfl ?_
          refine ar_iload rfl rfl ?_
          refine ar_cv1 rfl rfl rfl (Nat.le_of_ble_eq_true rfl) (cs_dayFrom (d := 0) (fh := fhS s f) hfl.2.2.1 (by have c7 := B.1 7 f 0 23 rfl; have c8 := B.1 1 (rA s 5 f) (-12) 14 rfl; unfold fhS; omega) (by omega)) (by omega) (fun o q101 hq => am_B2_is ?_ hq)
          refine ar_stI7 rfl ?_
          have c7 := B.1 7 f 0 23 rfl
          have c8 := B.1 1 (rA s 5 f) (-12) 14 rfl
          have efh : fhS s f = rA s 7 f - rA s 1 (rA s 5 f) := rfl
          rw [← SM_l hS a]
          refine lp_of2 (d := d) (q := q1) (e := e) (own := own) (g := g) hb hf3 ha hN bN (by omega) (by omega) hcg hW 63 (min 61 (max 0 ((arv s a + 1 - fhS s f) / 24))).toNat _ _ _ (by omega) ⟨by omega, by omega, hI, by { rw [it2_d0 B (by omega) (by omega)]; exact hD }, SM_r, CG_r⟩ (fun x7 x8 q2 I2 D2 S2 G2 => ?_)
          rw [SM_l hS a]
          rw [show 100 * f + 100 = 100 * (f + 1) by omega] at D2
          refine ar_inc5 rfl ?_
          refine ar_goto rfl rfl ?_
          first | exact ih (f + 1) _ _ _ _ _ (by omega) ⟨by omega, by omega, I2, D2, SM_t hS S2, CG_t hG G2⟩ K | exact ih (f + 1) _ _ _ _ _ (by omega) ⟨by omega, by omega, hI, by { rw [show 100 * (f + 1) = 100 * f + 100 by omega, it2_fl (fun z => by have z1 := z.1; have z2 := z.2; omega)]; exact hD }, hS, hG⟩ K
        · refine ar_goto rfl rfl ?_
          refine ar_inc5 rfl ?_
          refine ar_goto rfl rfl ?_
          first | exact ih (f + 1) _ _ _ _ _ (by omega) ⟨by omega, by omega, I2, D2, SM_t hS S2, CG_t hG G2⟩ K | exact ih (f + 1) _ _ _ _ _ (by omega) ⟨by omega, by omega, hI, by { rw [show 100 * (f + 1) = 100 * f + 100 by omega, it2_fl (fun z => by have z1 := z.1; have z2 := z.2; omega)]; exact hD }, hS, hG⟩ K
end

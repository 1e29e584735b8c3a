noncomputable section
theorem cs_offerFrom {d : Nat} {q : am_A} {e b : Nat} {s : am_Z} {N N' own E L a g : Int} {W : am_Y} (I : am_CI e q s) (D : am_DR q N' W) (hb : (b : Int) < rI s 44) (ho : legP s own) (hA : canA s b own E L a) (hgo : rA s 6 (own / 100) = g) (hN : ∀ t, t ≤ 1600 → (t ≤ N ↔ t ≤ N')) (bN : in32 N') (hcg : ∀ l, canGo s l b own ≠ 0 ↔ cgP s b l) (hW : wI1 N a W) : am_C2 (d + 5) m_X_offerFrom [aR 8 0, aR 0 b, aR 5 (lId q own), aR 5 (lId q a)] q (am_OFP e q s N' (stpA s b own E L N g a W)) := by
  refine am_C2_i (ls := [some (aR 8 0), some (aR 0 b), some (aR 5 (lId q own)), some (aR 5 (lId q a)), none, none, none, none, none]) rfl ?_
  have V := I.1
  have B := CV_B V
  have b3 := B.2.1 3 0 12 rfl
  have ha := hA.1
  have hga := V.2.2.2.1.1 a ha
  have hgw := V.2.2.2.1.1 own ho
  have ha1 := ha.1
  have ha2 := ha.2.1
  have ho1 := ho.1
  have ho2 := ho.2.1
  have hfa := V.2.2.1.2.2.1 (a / 100).toNat (by omega)
  have hfo := V.2.2.1.2.2.1 (own / 100).toNat (by omega)
  have ea : (((a / 100).toNat : Nat) : Int) = a / 100 := by omega
  have eo : (((own / 100).toNat : Nat) : Int) = own / 100 := by omega
  have baa := arv_b B (legP_R B ha)
  have c3 := B.1 6 (a / 100) 0 5 rfl
  have c4 := B.1 6 (own / 100) 0 5 rfl
  refine ar_aload_n rfl rfl ?_
  refine ar_gfR rfl rfl rfl (by omega) (hga.2.2.1) ?_
  refine ar_gfIv rfl rfl rfl (by omega) ((hfa.1 403 6 rfl).trans (by rw [ea])) ?_
  refine ar_aload_n rfl rfl ?_
  refine ar_gfR rfl rfl rfl (by omega) (hgw.2.2.1) ?_
  refine ar_gfIv rfl rfl rfl (by omega) ((hfo.1 403 6 rfl).trans (by rw [eo])) ?_
  refine ar_icmp_ne rfl rfl (by omega) (by omega) (fun h14 => ?_) (fun h14 => ?_)
  · refine ar_aload_n rfl rfl ?_
    refine ar_gfIv rfl rfl rfl (by omega) (hga.2.2.2.2.2.2.1) ?_
    refine ar_iconst rfl ?_
    refine ar_iadd rfl ?_
    refine ar_stI4 rfl ?_
    refine ar_iconst rfl ?_
    refine ar_stI5 rfl ?_
    refine lp_of1 (d := d) (q := q) (e := e) (own := own) (g := g) hb ha hN bN ho hgo hcg hW ((rI s 3).toNat + 1) 0 0 _ _ _ _ (by omega) ⟨rfl, by omega, I, D, SM_r, CG_r⟩ (fun x5 x6 x7 x8 q2 I2 D2 S2 G2 => ?_)
    exact ar_ret rfl rfl (⟨rfl, I2, by rw [stpA_two hA (by omega)]; exact D2, S2, G2⟩)
  · refine ar_aload_n rfl rfl ?_
    refine ar_gfR rfl rfl rfl (by omega) (V.1.1 810 _ rfl) ?_
    refine ar_aload_n rfl rfl ?_
    refine ar_null rfl ?_
    refine ar_cv2 rfl rfl rfl (Nat.le_of_ble_eq_true rfl) (cs_offer1 (d := 0) I D ha (lat1_32 bN hW)) (by omega) (fun o q23 hq => ?_)
    obtain ⟨rfl, I23, D23, S23, G23⟩ := hq
    exact ar_ret rfl rfl (⟨rfl, I23, by rw [stpA_dir (by omega), stp1_of hN (by omega) hW hA (by omega)]; exact D23, S23, G23⟩)
section FDR
variable {s : am_Z} {b own E L N N' g : Int} {W : am_Y} {f j : Nat}
theorem itA_c61 : itA s b own E L N g (100 * f + 100) W = itA s b own E L N g (100 * f + 61) W := itA_skip _ (by omega) (fun k h1 h2 => stpA_no (fun z => by have := z.1.2.2.1; omega))
theorem itA_br (B : in_S s) (hN : ∀ t, t ≤ 1600 → (t ≤ N ↔ t ≤ N')) (hf : f < 12) (hj : j < 61) (h : L < dep s (100 * f + j) ∨ latD N' (itA s b own E L N g (100 * f + j) W) < arv s (100 * f + j)) : itA s b own E L N g (100 * f + 100) W = itA s b own E L N g (100 * f + j) W := by
  refine itA_skip _ (by omega) (fun k h1 h2 => ?_)
  by_cases hl : legP s (k : Int)
  · have hak := arv_b B (legP_R B hl)
    have h3 : dep s (100 * f + j) ≤ dep s k ∧ arv s (100 * f + j) ≤ arv s k := by
      by_cases e : k = 100 * f + j
      · rw [e, show (((100 * f + j : Nat)) : Int) = 100 * (f : Int) + j by omega]
        exact ⟨Int.le_refl _, Int.le_refl _⟩
      · have h3 := day_late B (f := f) (d := j) (d' := (k : Int) - 100 * f) (by omega) (by omega)
        rw [show 100 * (f : Int) + ((k : Int) - 100 * f) = k by omega] at h3
        omega
    rcases h with h | h
    · exact stpA_no (fun z => by have := z.2.2.1.2; omega)
    · exact stpA_late B hN hl (by omega) (by omega)
  · exact stpA_no (fun z => hl z.1)
theorem itA_nx (h : ¬ canA s b own E L (100 * f + j)) : itA s b own E L N g (100 * f + (j + 1)) W = itA s b own E L N g (100 * f + j) W := by
  rw [show 100 * f + (j + 1) = (100 * f + j) + 1 by omega, itA_s, show (((100 * f + j : Nat)) : Int) = 100 * (f : Int) + j by omega]
  exact stpA_no h
theorem itA_st : itA s b own E L N g (100 * f + (j + 1)) W = stpA s b own E L N g (100 * f + j) (itA s b own E L N g (100 * f + j) W) := by
  rw [show 100 * f + (j + 1) = (100 * f + j) + 1 by omega, itA_s, show (((100 * f + j : Nat)) : Int) = 100 * (f : Int) + j by omega]
theorem itA_d0 (B : in_S s) (hf : f < 12) (hj : (j : Int) = min 61 (max 0 ((E - fhS s f) / 24))) : itA s b own E L N g (100 * f + j) W = itA s b own E L N g (100 * f) W := by
  refine itA_skip (j := 100 * f) _ (by omega) (fun k h1 h2 => stpA_no (fun z => ?_))
  have h3 := z.2.2.1.1
  have h4 := dep_fd (s := s) f ((k : Int) - 100 * f) (by omega)
  rw [show 100 * (f : Int) + ((k : Int) - 100 * f) = k by omega] at h4
  have b1 := B.1 17 (61 * f + ((k : Int) - 100 * f)) 0 8 rfl
  omega
theorem itA_fl (h : ¬ rA s 5 f = rA s 5 (own / 100)) : itA s b own E L N g (100 * f + 100) W = itA s b own E L N g (100 * f) W := by
  refine itA_skip (j := 100 * f) _ (by omega) (fun k h1 h2 => stpA_no (fun z => ?_))
  have e : (k : Int) / 100 = f := by omega
  have z2 := z.2.1
  rw [e] at z2
  exact h z2
end FDR
theorem lp_fd2 {d : Nat} {q : am_A} {Q : am_O → am_A → Prop} {e b f : Nat} {s : am_Z} {N N' own E L g : Int} {x2 x4 x5 : Option am_V} (hb : (b : Int) < rI s 44) (hf : (f : Int) < rI s 3) (ho : legP s own) (hN : ∀ t, t ≤ 1600 → (t ≤ N ↔ t ≤ N')) (bN : in32 N') (hfr : rA s 5 f = rA s 5 (own / 100)) (hgo : rA s 6 (own / 100) = g) (hL : L = dep s own + 48) (bE : -100 ≤ E ∧ E ≤ 70000) (hcg : ∀ l, canGo s l b own ≠ 0 ↔ cgP s b l)  : ∀ (m : Nat) (j : Nat) (k : Int) (q1 : am_A) (x10 : Option am_V), 62 - j < m → (j ≤ 61 ∧ (k = j ∨ (j = 61 ∧ 61 ≤ k ∧ k ≤ 5000)) ∧ am_CI e q1 s ∧ am_DR q1 N' (itA s b own E L N g (100 * f + j) (0, -1, -1)) ∧ am_SM q q1 ∧ am_CG q q1) → (∀ x9 x10 q1, am_CI e q1 s → am_DR q1 N' (itA s b own E L N g (100 * f + 100) (0, -1, -1)) → am_SM q q1 → am_CG q q1 → am_W2 (d + 6) m_X_findDetour 233 [some (aR 8 0), some (aR 0 b), x2, some (aR 5 (lId q own)), x4, x5, some (aI (zI E)), some (aI (zI f)), some (aR 4 f), x9, x10] [] (q1) Q) → am_W2 (d + 6) m_X_findDetour 129 [some (aR 8 0), some (aR 0 b), x2, some (aR 5 (lId q own)), x4, x5, some (aI (zI E)), some (aI (zI f)), some (aR 4 f), some (aI (zI k)), x10] [] (q1) Q := by
  intro m
  induction m with
  | zero => intro j k q1 x10 hm; exact absurd hm (Nat.not_lt_zero _)
  | succ m ih =>
    intro j k q1 x10 hm ⟨hj, hk, hI, hD, hS, hG⟩ K
    have V := hI.1
    have B := CV_B V
    have b3 := B.2.1 3 0 12 rfl
    have hfl := V.2.2.1.2.2.1 f hf
    have hi := itA_inv (own := own) (g := g) (b := b) (E := E) (L := L) (N := N) B (100 * f + j)
    have bl := lat1_32 bN hi
    have hB := V.2.2.2.2.2.2.1.2.2.1 b hb
    have b45 := B.1 45 b 0 9 rfl
    have bdo := dep_b B (legP_R B ho)
    have hgw := V.2.2.2.1.1 own ho
    refine ar_iload rfl rfl ?_
    refine ar_bipush (x := 61) rfl rfl ?_
    refine ar_icmp_ge rfl rfl (by omega) (by omega) (fun h133 => ?_) (fun h133 => ?_)
    · first | exact K _ _ _ hI (by rw [itA_br B hN (by omega) hj61 (by omega)]; exact hD) hS hG | exact K _ _ _ hI (by rw [itA_c61, show 61 = j by omega]; exact hD) hS hG
    · have ek : k = j := by omega
      have hj61 : j < 61 := by omega
      subst ek
      refine ar_aload rfl rfl ?_
      refine ar_iload rfl rfl ?_
      refine ar_cv1 rfl rfl rfl (Nat.le_of_ble_eq_true rfl) (cs_on (d := 0) hfl.2.2.2.2.1 hfl.2.2.2.2.2.2.2.1 (by omega)) (by omega) (fun o q140 hq => am_B2_is ?_ hq)
      rw [on_O, if_pos hj61]
      have hlo := leg_on V (l := (100 * (f : Int) + (j : Int))) ⟨by omega, by omega, by omega⟩
      refine ar_stA10 rfl ?_
      refine ar_aload rfl rfl ?_
      refine ar_ifnull rfl rfl (fun hn147 => ?_) (fun r147 hr147 => ?_)
      · try have hnx : ¬ canA s b own E L (100 * (f : Int) + (j : Int)) := by first | exact fun z => hlo.1 hn147 z.1 | exact fun z => absurd z.2.2.1.1 (by omega) | exact fun z => absurd ((hcg _).mp z.2.2.2) (fun y => by have y1 := y.1; have y2 := y.2; omega)
        refine ar_inc9 rfl ?_
        refine ar_goto rfl rfl ?_
        first | exact ih (j + 1) _ _ _ (by omega) ⟨by omega, Or.inl (by omega), I234, by { rw [itA_st]; exact D234 }, SM_t hS S234, CG_t hG G234⟩ K | exact ih (j + 1) _ _ _ (by omega) ⟨by omega, Or.inl (by omega), hI, by { rw [itA_nx hnx]; exact hD }, hS, hG⟩ K
      · have hlr := hlo.2 _ hr147
        have hl := hlr.1
        rw [hlr.2]
        have hg := V.2.2.2.1.1 _ hl
        have bdl := dep_b B (legP_R B hl)
        have bal := arv_b B (legP_R B hl)
        have bus := usR_b s b (100 * (f : Int) + (j : Int)) 12 0
        have bop := openS_b B (100 * (f : Int) + (j : Int)) 0
        have e100 : (100 * (f : Int) + (j : Int)) / 100 = (f : Int) := by omega
        refine ar_aload rfl rfl ?_
        refine ar_gfIv rfl rfl rfl (by omega) (hg.2.2.2.2.2.1) ?_
        refine ar_iload rfl rfl ?_
        refine ar_icmp_ge rfl rfl (by omega) (by omega) (fun h157 => ?_) (fun h157 => ?_)
        · refine ar_aload rfl rfl ?_
          refine ar_gfIv rfl rfl rfl (by omega) (hg.2.2.2.2.2.1) ?_
          rw [← SM_l hS own]
          refine ar_aload_n rfl rfl ?_
          refine ar_gfIv rfl rfl rfl (by omega) (hgw.2.2.2.2.2.1) ?_
          rw [SM_l hS own]
          refine ar_bipush (x := 48) rfl rfl ?_
          refine ar_iadd rfl ?_
          refine ar_icmp_gt rfl rfl (by omega) (by omega) (fun h175 => ?_) (fun h175 => ?_)
          · first | exact K _ _ _ hI (by rw [itA_br B hN (by omega) hj61 (by omega)]; exact hD) hS hG | exact K _ _ _ hI (by rw [itA_c61, show 61 = j by omega]; exact hD) hS hG
          · refine ar_aload rfl rfl ?_
            refine ar_gfIv rfl rfl rfl (by omega) (hg.2.2.2.2.2.2.1) ?_
            refine ar_aload_n rfl rfl ?_
            refine ar_gfR rfl rfl rfl (by omega) (V.1.1 810 _ rfl) ?_
            refine ar_gfIv rfl rfl rfl (by omega) (hD.2.2) ?_
            refine ar_icmp_le rfl rfl (by omega) (by omega) (fun h190 => ?_) (fun h190 => ?_)
            · refine ar_aload_n rfl rfl ?_
              refine ar_aload rfl rfl ?_
              refine ar_cv1 rfl rfl rfl (Nat.le_of_ble_eq_true rfl) (cs_usesLeg (d := 0) V hl hb) (by omega) (fun o q199 hq => am_B2_is ?_ hq)
              refine ar_if_ne rfl rfl (by omega) (fun h202 => ?_) (fun h202 => ?_)
              · try have hnx : ¬ canA s b own E L (100 * (f : Int) + (j : Int)) := by first | exact fun z => hlo.1 hn147 z.1 | exact fun z => absurd z.2.2.1.1 (by omega) | exact fun z => absurd ((hcg _).mp z.2.2.2) (fun y => by have y1 := y.1; have y2 := y.2; omega)
                refine ar_inc9 rfl ?_
                refine ar_goto rfl rfl ?_
                first | exact ih (j + 1) _ _ _ (by omega) ⟨by omega, Or.inl (by omega), I234, by { rw [itA_st]; exact D234 }, SM_t hS S234, CG_t hG G234⟩ K | exact ih (j + 1) _ _ _ (by omega) ⟨by omega, Or.inl (by omega), hI, by { rw [itA_nx hnx]; exact hD }, hS, hG⟩ K
              · refine ar_aload_n rfl rfl ?_
                refine ar_aload rfl rfl ?_
                refine ar_iconst rfl ?_
                refine ar_cv2 rfl rfl rfl (Nat.le_of_ble_eq_true rfl) (cs_openSeats (d := 0) V hl ⟨by omega, by omega⟩) (by omega) (fun o q209 hq => am_B2_is ?_ hq)
                refine ar_aload_n rfl rfl ?_
                refine ar_gfIv rfl rfl rfl (by omega) (hB.1 6 45 rfl) ?_
                refine ar_icmp_lt rfl rfl (by omega) (by omega) (fun h216 => ?_) (fun h216 => ?_)
                · try have hnx : ¬ canA s b own E L (100 * (f : Int) + (j : Int)) := by first | exact fun z => hlo.1 hn147 z.1 | exact fun z => absurd z.2.2.1.1 (by omega) | exact fun z => absurd ((hcg _).mp z.2.2.2) (fun y => by have y1 := y.1; have y2 := y.2; omega)
                  refine ar_inc9 rfl ?_
                  refine ar_goto rfl rfl ?_
                  first | exact ih (j + 1) _ _ _ (by omega) ⟨by omega, Or.inl (by omega), I234, by { rw [itA_st]; exact D234 }, SM_t hS S234, CG_t hG G234⟩ K | exact ih (j + 1) _ _ _ (by omega) ⟨by omega, Or.inl (by omega), hI, by { rw [itA_nx hnx]; exact hD }, hS, hG⟩ K
                · refine ar_aload_n rfl rfl ?_
                  refine ar_aload_n rfl rfl ?_
                  rw [← SM_l hS own]
                  refine ar_aload_n rfl rfl ?_
                  refine ar_aload rfl rfl ?_
                  refine ar_cv3 rfl rfl rfl (Nat.le_of_ble_eq_true rfl) (cs_offerFrom (d := 0) (E := E) (L := L) (N := N) (g := g) hI hD hb ho (show canA s b own E L (100 * (f : Int) + (j : Int)) from ⟨hl, by rw [e100]; exact hfr, ⟨by omega, by omega⟩, (hcg _).mpr ⟨by omega, by omega⟩⟩) hgo hN bN hcg (by have e0 : (((100 * f + j : Nat)) : Int) = (100 * (f : Int) + (j : Int)) := (by omega); rw [← e0]; exact hi)) (by omega) (fun o q224 hq => ?_)
                  obtain ⟨rfl, I234, D234, S234, G234⟩ := hq
                  rw [SM_l hS own]
                  try have hnx : ¬ canA s b own E L (100 * (f : Int) + (j : Int)) := by first | exact fun z => hlo.1 hn147 z.1 | exact fun z => absurd z.2.2.1.1 (by omega) | exact fun z => absurd ((hcg _).mp z.2.2.2) (fun y => by have y1 := y.1; have y2 := y.2; omega)
                  refine ar_inc9 rfl ?_
                  refine ar_goto rfl rfl ?_
                  first | exact ih (j + 1) _ _ _ (by omega) ⟨by omega, Or.inl (by omega), I234, by { rw [itA_st]; exact D234 }, SM_t hS S234, CG_t hG G234⟩ K | exact ih (j + 1) _ _ _ (by omega) ⟨by omega, Or.inl (by omega), hI, by { rw [itA_nx hnx]; exact hD }, hS, hG⟩ K
            · refine ar_goto rfl rfl ?_
              first | exact K _ _ _ hI (by rw [itA_br B hN (by omega) hj61 (by omega)]; exact hD) hS hG | exact K _ _ _ hI (by rw [itA_c61, show 61 = j by omega]; exact hD) hS hG
        · refine ar_goto rfl rfl ?_
          try have hnx : ¬ canA s b own E L (100 * (f : Int) + (j : Int)) := by first | exact fun z => hlo.1 hn147 z.1 | exact fun z => absurd z.2.2.1.1 (by omega) | exact fun z => absurd ((hcg _).mp z.2.2.2) (fun y => by have y1 := y.1; have y2 := y.2; omega)
          refine ar_inc9 rfl ?_
          refine ar_goto rfl rfl ?_
          first | exact ih (j + 1) _ _ _ (by omega) ⟨by omega, Or.inl (by omega), I234, by { rw [itA_st]; exact D234 }, SM_t hS S234, CG_t hG G234⟩ K | exact ih (j + 1) _ _ _ (by omega) ⟨by omega, Or.inl (by omega), hI, by { rw [itA_nx hnx]; exact hD }, hS, hG⟩ K
theorem lp_fd1 {d : Nat} {q : am_A} {Q : am_O → am_A → Prop} {e b : Nat} {s : am_Z} {N N' own E L g : Int} {x2 x4 x5 : Option am_V} (hb : (b : Int) < rI s 44) (ho : legP s own) (hN : ∀ t, t ≤ 1600 → (t ≤ N ↔ t ≤ N')) (bN : in32 N') (hgo : rA s 6 (own / 100) = g) (hL : L = dep s own + 48) (bE : -100 ≤ E ∧ E ≤ 70000) (hcg : ∀ l, canGo s l b own ≠ 0 ↔ cgP s b l)  : ∀ (m : Nat) (f : Nat) (k : Int) (q1 : am_A) (x8 x9 x10 : Option am_V), (rI s 3).toNat - f < m → (k = f ∧ (f : Int) ≤ rI s 3 ∧ am_CI e q1 s ∧ am_DR q1 N' (itA s b own E L N g (100 * f) (0, -1, -1)) ∧ am_SM q q1 ∧ am_CG q q1) → (∀ x7 x8 x9 x10 q1, am_CI e q1 s → am_DR q1 N' (itA s b own E L N g (100 * rI s 3).toNat (0, -1, -1)) → am_SM q q1 → am_CG q q1 → am_W2 (d + 6) m_X_findDetour 239 [some (aR 8 0), some (aR 0 b), x2, some (aR 5 (lId q own)), x4, x5, some (aI (zI E)), x7, x8, x9, x10] [] (q1) Q) → am_W2 (d + 6) m_X_findDetour 76 [some (aR 8 0), some (aR 0 b), x2, some (aR 5 (lId q own)), x4, x5, some (aI (zI E)), some (aI (zI k)), x8, x9, x10] [] (q1) Q := by
  intro m
  induction m with
  | zero => intro f k q1 x8 x9 x10 hm; exact absurd hm (Nat.not_lt_zero _)
  | succ m ih =>
    intro f k q1 x8 x9 x10 hm ⟨hj, hj2, hI, hD, hS, hG⟩ K
    subst hj
    have V := hI.1
    have B := CV_B V
    have b3 := B.2.1 3 0 12 rfl
    have hgw := V.2.2.2.1.1 own ho
    have ho1 := ho.1
    have ho2 := ho.2.1
    have hfo := V.2.2.1.2.2.1 (own / 100).toNat (by omega)
    have eo : (((own / 100).toNat : Nat) : Int) = own / 100 := by omega
    have c1 := B.1 5 f 0 5 rfl
    have c4 := B.1 5 (own / 100) 0 5 rfl
    refine ar_iload rfl rfl ?_
    refine ar_aload_n rfl rfl ?_
    refine ar_gfR rfl rfl rfl (by omega) (V.1.1 802 _ rfl) ?_
    refine ar_cv0 rfl rfl rfl (Nat.le_of_ble_eq_true rfl) (cl_szF (d := 0) V) (by omega) (fun o q82 hq => am_B2_is ?_ hq)
    refine ar_icmp_ge rfl rfl (by omega) (by omega) (fun h85 => ?_) (fun h85 => ?_)
    · have ej : 100 * f = (100 * rI s 3).toNat := by omega
      rw [ej] at hD
      exact K _ _ _ _ _ hI hD hS hG
    · refine ar_aload_n rfl rfl ?_
      refine ar_gfR rfl rfl rfl (by omega) (V.1.1 802 _ rfl) ?_
      refine ar_iload rfl rfl ?_
      refine ar_cv1 rfl rfl rfl (Nat.le_of_ble_eq_true rfl) (cl_getF (d := 0) V (by omega)) (by omega) (fun o q94 hq => am_B2_is ?_ hq)
      rw [Int.toNat_natCast]
      have hf3 : ((f : Nat) : Int) < rI s 3 := by omega
      have hfl := V.2.2.1.2.2.1 f hf3
      refine ar_cast rfl rfl rfl ?_
      refine ar_stA8 rfl ?_
      refine ar_aload rfl rfl ?_
      refine ar_gfIv rfl rfl rfl (by omega) (hfl.1 402 5 rfl) ?_
      rw [← SM_l hS own]
      refine ar_aload_n rfl rfl ?_
      refine ar_gfR rfl rfl rfl (by omega) (hgw.2.2.1) ?_
      refine ar_gfIv rfl rfl rfl (by omega) ((hfo.1 402 5 rfl).trans (by rw [eo])) ?_
      rw [SM_l hS own]
      refine ar_icmp_eq rfl rfl (by omega) (by omega) (fun h114 => ?_) (fun h114 => ?_)
      · refine ar_aload rfl rfl ?_
        refine ar_iload rfl rfl ?_
        refine ar_cv1 rfl rfl rfl (Nat.le_of_ble_eq_true rfl) (cs_dayFrom (d := 0) (fh := fhS s f) hfl.2.2.1 (by have c7 := B.1 7 f 0 23 rfl; have c8 := B.1 1 (rA s 5 f) (-12) 14 rfl; unfold fhS; omega) (by omega)) (by omega) (fun o q124 hq => am_B2_is ?_ hq)
        refine ar_stI9 rfl ?_
        have c7 := B.1 7 f 0 23 rfl
        have c8 := B.1 1 (rA s 5 f) (-12) 14 rfl
        have efh : fhS s f = rA s 7 f - rA s 1 (rA s 5 f) := rfl
        rw [← SM_l hS own]
        refine lp_fd2 (d := d) (q := q1) (e := e) (own := own) (g := g) hb hf3 ho hN bN (by omega) hgo hL bE hcg 63 (min 61 (max 0 ((E - fhS s f) / 24))).toNat _ _ _ (by omega) ⟨by omega, by omega, hI, by { rw [itA_d0 B (by omega) (by omega)]; exact hD }, SM_r, CG_r⟩ (fun x9 x10 q2 I2 D2 S2 G2 => ?_)
        rw [SM_l hS own]
        rw [show 100 * f + 100 = 100 * (f + 1) by omega] at D2
        refine ar_inc7 rfl ?_
        refine ar_goto rfl rfl ?_
        first | exact ih (f + 1) _ _ _ _ _ (by omega) ⟨by omega, by omega, I2, D2, SM_t hS S2, CG_t hG G2⟩ K | exact ih (f + 1) _ _ _ _ _ (by omega) ⟨by omega, by omega, hI, by { rw [show 100 * (f + 1) = 100 * f + 100 by omega, itA_fl (by omega)]; exact hD }, hS, hG⟩ K
      · refine ar_goto rfl rfl ?_
        refine ar_inc7 rfl ?_
        refine ar_goto rfl rfl ?_
        first | exact ih (f + 1) _ _ _ _ _ (by omega) ⟨by omega, by omega, I2, D2, SM_t hS S2, CG_t hG G2⟩ K | exact ih (f + 1) _ _ _ _ _ (by omega) ⟨by omega, by omega, hI, by { rw [show 100 * (f + 1) = 100 * f + 100 by omega, itA_fl (by omega)]; exact hD }, hS, hG⟩ K
end

noncomputable section
theorem canL_iff {s : am_Z} {l : Int} : canL s l ≠ 0 ↔ (rI s 33 < 4 ∧ (rI s 33 = 0 ∨ connP s l)) ∧ ∀ k : Nat, k < (rI s 33).toNat → rA s 34 k ≠ l := by
  unfold canL
  rw [andN_iff]
  constructor
  · rintro ⟨h1, h2⟩
    refine ⟨Classical.byContradiction (fun z => h1 (if_neg z)), fun k hk z => h2 k hk ?_⟩
    unfold fDrf
    exact if_neg (fun y => y z)
  · rintro ⟨h1, h2⟩
    refine ⟨by rw [if_pos h1]; omega, fun k hk => ?_⟩
    unfold fDrf
    rw [if_pos (h2 k hk)]
    omega
theorem kLegA_1 {s : am_Z} {l : Int} (h : ¬ legP s l) : kLegA s l = 1 := by unfold kLegA; rw [if_pos h]
theorem kLegA_2 {s : am_Z} {l : Int} (h : legP s l) (h2 : ¬ (canL s l ≠ 0)) : kLegA s l = 2 := by unfold kLegA; rw [if_neg (fun z => z h), if_neg h2]
theorem kLegA_0 {s : am_Z} {l : Int} (h : legP s l) (h2 : canL s l ≠ 0) : kLegA s l = 0 := by unfold kLegA; rw [if_neg (fun z => z h), if_pos h2]
theorem lp_cleg {d : Nat} {q : am_A} {Q : am_O → am_A → Prop} {s : am_Z} (V : am_CV q s) {l : Int} (hl : legP s l) {x1 : Option am_V} (KX : ∀ i : Nat, (i : Int) < rI s 33 → rA s 34 i = l → Q (.inr 15) (uNO q 15 6)) : ∀ (m : Nat) (j : Nat) (k : Int), (rI s 33).toNat - j < m → (k = j ∧ (j : Int) ≤ rI s 33 ∧ ∀ i : Nat, i < j → rA s 34 i ≠ l) → ((∀ i : Nat, i < (rI s 33).toNat → rA s 34 i ≠ l) → ∀ x4, am_W2 (d + 3) m_X_leg 63 [some (aR 8 0), x1, some (aR 5 (lId q l)), some (aI (zI (rI s 33))), x4] [] (q) Q) → am_W2 (d + 3) m_X_leg 30 [some (aR 8 0), x1, some (aR 5 (lId q l)), some (aI (zI (rI s 33))), some (aI (zI k))] [] (q) Q := by
  intro m
  induction m with
  | zero => intro j k hm; exact absurd hm (Nat.not_lt_zero _)
  | succ m ih =>
    intro j k hm ⟨hj, hj2, hall⟩ K
    subst hj
    have b33 := (CV_B V).2.1 33 0 4 rfl
    refine ar_iload rfl rfl ?_
    refine ar_iload_n rfl rfl ?_
    refine ar_icmp_ge rfl rfl (by omega) (by omega) (fun h33 => ?_) (fun h33 => ?_)
    · exact K (fun i hi => hall i (by omega)) _
    · have hinj : some (5, lId q (rA s 34 (j : Int))) = some (5, lId q l) → rA s 34 (j : Int) = l := fun z => lId_inj V (V.2.2.2.2.2.1.2 j (by omega)).2 hl (congrArg Prod.snd (Option.some.inj z))
      refine cq_join (pc' := 54) (V := if rA s 34 (j : Int) = l then 0 else 1) ?_ (fun K54 => ?_)
      · refine ar_cs1 rfl rfl (Nat.le_of_ble_eq_true rfl) (cs_needState (d := 0) (by omega)) (by omega) (fun o q54 hq => am_B2_T rfl (fun h54 => ?_) (fun h54 => ?_) hq)
        · refine ar_inc4 rfl ?_
          refine ar_goto rfl rfl ?_
          exact ih (j + 1) _ (by omega) ⟨by omega, by omega, fun i hi z => (Nat.lt_or_ge i j).elim (fun y => hall i y z) (fun y => h54 (if_pos (by rw [show j = i by omega]; exact z)))⟩ K
        · exact KX j (by omega) (Classical.byContradiction (fun z => h54 (by rw [if_neg z]; omega)))
      · refine ar_aload_n rfl rfl ?_
        refine ar_gfR rfl rfl rfl (by omega) (V.1.1 804 _ rfl) ?_
        refine ar_iload rfl rfl ?_
        refine ar_cv1 rfl rfl rfl (Nat.le_of_ble_eq_true rfl) (cl_getD (d := 0) V (by omega)) (by omega) (fun o q42 hq => am_B2_is ?_ hq)
        refine ar_aload_n rfl rfl ?_
        refine ar_acmp_eq rfl rfl (fun h46 => ?_) (fun h46 => ?_)
        · refine ar_iconst rfl ?_
          exact K54 _ (by first | (rw [if_pos (hinj h46)]) | (rw [if_neg (fun z => h46 (by rw [z]))]))
        · refine ar_iconst rfl ?_
          refine ar_goto rfl rfl ?_
          exact K54 _ (by first | (rw [if_pos (hinj h46)]) | (rw [if_neg (fun z => h46 (by rw [z]))]))
theorem cs_leg {d : Nat} {q : am_A} {s : am_Z} (V : am_CV q s) {l : Int} (hl : in32 l) : am_C2 (d + 6) m_X_leg [aR 8 0, aI (zI l)] q (am_OK (kLegA s l) kd2 (some (aI (zI (rI s 33 + 1)))) q (fun q2 => q2 = qAdd q (1804, 0) (5, lId q l) ∧ (qLS q (1804, 0)).length ≤ qCP q (1804, 0))) := by
  refine am_C2_i (ls := [some (aR 8 0), some (aI (zI l)), none, none, none]) rfl ?_
  have b3 := (CV_B V).2.1 3 0 12 rfl
  have b33 := (CV_B V).2.1 33 0 4 rfl
  refine ar_aload_n rfl rfl ?_
  refine ar_iload_n rfl rfl ?_
  refine ar_cv1 rfl rfl rfl (Nat.le_of_ble_eq_true rfl) (cs_findLeg (d := 0) V (by omega)) (by omega) (fun o q2 hq => am_B2_T rfl (fun h2 => ?_) (fun h2 => ?_) hq)
  · have hg := V.2.2.2.1.1 l h2
    have hf := V.2.2.1.2.2.1 (l / 100).toNat (by omega)
    have el : (((l / 100).toNat : Nat) : Int) = l / 100 := by omega
    have hd := dep_b (CV_B V) (l := l) (by omega)
    have c5 := (CV_B V).1 5 (l / 100) 0 5 rfl
    have c6 := (CV_B V).1 6 (rA s 34 (rI s 33 - 1) / 100) 0 5 rfl
    refine ar_stA2 rfl ?_
    refine ar_aload_n rfl rfl ?_
    refine ar_gfR rfl rfl rfl (by omega) (V.1.1 804 _ rfl) ?_
    refine ar_cv0 rfl rfl rfl (Nat.le_of_ble_eq_true rfl) (cl_szD (d := 0) V) (by omega) (fun o q10 hq => am_B2_is ?_ hq)
    refine ar_stI3 rfl ?_
    refine cq_join (pc' := 24) (V := if rI s 33 < 4 then 1 else 0) ?_ (fun K24 => ?_)
    · refine ar_cs1 rfl rfl (Nat.le_of_ble_eq_true rfl) (cs_needState (d := 0) (by omega)) (by omega) (fun o q24 hq => am_B2_T rfl (fun h24 => ?_) (fun h24 => ?_) hq)
      · refine ar_iconst rfl ?_
        refine ar_stI4 rfl ?_
        refine lp_cleg (d := d + 3) V h2 (fun i hi hz => ⟨fun z => absurd z (by rw [kLegA_2 h2 (fun z => (canL_iff.mp z).2 i (by omega) hz)]; omega), fun _ => by { rw [kLegA_2 h2 (fun z => (canL_iff.mp z).2 i (by omega) hz)]; exact ⟨rfl, rfl⟩ }⟩) ((rI s 33).toNat + 1) 0 0 (by omega) ⟨rfl, by omega, fun i hi => absurd hi (Nat.not_lt_zero i)⟩ (fun hall x4 => ?_)
        refine ar_iload_n rfl rfl ?_
        refine ar_if_le rfl rfl (by omega) (fun h64 => ?_) (fun h64 => ?_)
        · refine ar_aload_n rfl rfl ?_
          refine ar_gfR rfl rfl rfl (by omega) (V.1.1 804 _ rfl) ?_
          refine ar_aload_n rfl rfl ?_
          refine ar_cv1 rfl rfl rfl (Nat.le_of_ble_eq_true rfl) (sq_addL (d := 0) rfl (by omega) (V.1.2.2.2 1804 rfl) (Nat.le_trans (V.2.2.2.2.2.2.2.2.1 1804 rfl) (by omega)) ⟨rfl, by omega⟩) (by omega) (fun o q127 hq => ?_)
          obtain ⟨rfl, rfl, hc127⟩ := hq
          refine ar_pop rfl rfl ?_
          refine ar_iload_n rfl rfl ?_
          refine ar_iconst rfl ?_
          refine ar_iadd rfl ?_
          exact ar_iret rfl (Or.inl rfl) (⟨fun _ => ⟨rfl, rfl, hc127⟩, fun z => absurd (kLegA_0 h2 (canL_iff.mpr ⟨⟨by omega, by first | exact Or.inl (by omega) | exact Or.inr (Classical.byContradiction (fun z => h119 (if_neg z)))⟩, hall⟩)) z⟩)
        · have hpa : legP s (rA s 34 (rI s 33 - 1)) := by { have z := (V.2.2.2.2.2.1.2 (rI s 33 - 1).toNat (by omega)).2; rw [show (((rI s 33 - 1).toNat : Nat) : Int) = rI s 33 - 1 by omega] at z; exact z }
          have hga := V.2.2.2.1.1 _ hpa
          have hfa := V.2.2.1.2.2.1 (rA s 34 (rI s 33 - 1) / 100).toNat (by omega)
          have ela : (((rA s 34 (rI s 33 - 1) / 100).toNat : Nat) : Int) = rA s 34 (rI s 33 - 1) / 100 := by omega
          have hda := arv_b (CV_B V) (l := rA s 34 (rI s 33 - 1)) (by omega)
          refine ar_aload_n rfl rfl ?_
          refine ar_gfR rfl rfl rfl (by omega) (V.1.1 804 _ rfl) ?_
          refine ar_iload_n rfl rfl ?_
          refine ar_iconst rfl ?_
          refine ar_isub rfl ?_
          refine ar_cv1 rfl rfl rfl (Nat.le_of_ble_eq_true rfl) (cl_getD (d := 0) V (by omega)) (by omega) (fun o q74 hq => am_B2_is ?_ hq)
          refine ar_cast rfl rfl rfl ?_
          refine ar_stA4 rfl ?_
          refine cq_join (pc' := 119) (V := if connP s l then 1 else 0) ?_ (fun K119 => ?_)
          · refine ar_cs1 rfl rfl (Nat.le_of_ble_eq_true rfl) (cs_needState (d := 0) (by omega)) (by omega) (fun o q119 hq => am_B2_T rfl (fun h119 => ?_) (fun h119 => ?_) hq)
            · refine ar_aload_n rfl rfl ?_
              refine ar_gfR rfl rfl rfl (by omega) (V.1.1 804 _ rfl) ?_
              refine ar_aload_n rfl rfl ?_
              refine ar_cv1 rfl rfl rfl (Nat.le_of_ble_eq_true rfl) (sq_addL (d := 0) rfl (by omega) (V.1.2.2.2 1804 rfl) (Nat.le_trans (V.2.2.2.2.2.2.2.2.1 1804 rfl) (by omega)) ⟨rfl, by omega⟩) (by omega) (fun o q127 hq => ?_)
              obtain ⟨rfl, rfl, hc127⟩ := hq
              refine ar_pop rfl rfl ?_
              refine ar_iload_n rfl rfl ?_
              refine ar_iconst rfl ?_
              refine ar_iadd rfl ?_
              exact ar_iret rfl (Or.inl rfl) (⟨fun _ => ⟨rfl, rfl, hc127⟩, fun z => absurd (kLegA_0 h2 (canL_iff.mpr ⟨⟨by omega, by first | exact Or.inl (by omega) | exact Or.inr (Classical.byContradiction (fun z => h119 (if_neg z)))⟩, hall⟩)) z⟩)
            · exact ⟨fun z => absurd z (by rw [kLegA_2 h2 (fun z => h119 (by rw [if_pos ((canL_iff.mp z).1.2.resolve_left (by omega))]; omega))]; omega), fun _ => by { rw [kLegA_2 h2 (fun z => h119 (by rw [if_pos ((canL_iff.mp z).1.2.resolve_left (by omega))]; omega))]; exact ⟨rfl, rfl⟩ }⟩
          · refine ar_aload rfl rfl ?_
            refine ar_gfR rfl rfl rfl (by omega) (hga.2.2.1) ?_
            refine ar_gfIv rfl rfl rfl (by omega) ((hfa.1 403 6 rfl).trans (by rw [ela])) ?_
            refine ar_aload_n rfl rfl ?_
            refine ar_gfR rfl rfl rfl (by omega) (hg.2.2.1) ?_
            refine ar_gfIv rfl rfl rfl (by omega) ((hf.1 402 5 rfl).trans (by rw [el])) ?_
            refine ar_icmp_ne rfl rfl (by omega) (by omega) (fun h97 => ?_) (fun h97 => ?_)
            · refine ar_iconst rfl ?_
              exact K119 _ (by first | (rw [if_pos ⟨by omega, by omega⟩]) | (rw [if_neg (fun z => by have z1 := z.1; have z2 := z.2; omega)]))
            · refine ar_aload_n rfl rfl ?_
              refine ar_gfIv rfl rfl rfl (by omega) (hg.2.2.2.2.2.1) ?_
              refine ar_aload rfl rfl ?_
              refine ar_gfIv rfl rfl rfl (by omega) (hga.2.2.2.2.2.2.1) ?_
              refine ar_iconst rfl ?_
              refine ar_iadd rfl ?_
              refine ar_icmp_lt rfl rfl (by omega) (by omega) (fun h111 => ?_) (fun h111 => ?_)
              · refine ar_iconst rfl ?_
                exact K119 _ (by first | (rw [if_pos ⟨by omega, by omega⟩]) | (rw [if_neg (fun z => by have z1 := z.1; have z2 := z.2; omega)]))
              · refine ar_iconst rfl ?_
                refine ar_goto rfl rfl ?_
                exact K119 _ (by first | (rw [if_pos ⟨by omega, by omega⟩]) | (rw [if_neg (fun z => by have z1 := z.1; have z2 := z.2; omega)]))
      · exact ⟨fun z => absurd z (by rw [kLegA_2 h2 (fun z => h24 (by rw [if_pos (canL_iff.mp z).1.1]; omega))]; omega), fun _ => by { rw [kLegA_2 h2 (fun z => h24 (by rw [if_pos (canL_iff.mp z).1.1]; omega))]; exact ⟨rfl, rfl⟩ }⟩
    · refine ar_iload_n rfl rfl ?_
      refine ar_iconst rfl ?_
      refine ar_icmp_ge rfl rfl (by omega) (by omega) (fun h16 => ?_) (fun h16 => ?_)
      · refine ar_iconst rfl ?_
        exact K24 _ (by first | (rw [if_pos (by omega)]) | (rw [if_neg (by omega)]))
      · refine ar_iconst rfl ?_
        refine ar_goto rfl rfl ?_
        exact K24 _ (by first | (rw [if_pos (by omega)]) | (rw [if_neg (by omega)]))
  · exact ⟨fun z => absurd z (by rw [kLegA_1 h2]; omega), fun _ => by { rw [kLegA_1 h2]; exact ⟨rfl, rfl⟩ }⟩
theorem cs_dropLegs {d : Nat} {q : am_A} {s : am_Z} (V : am_CV q s)  : am_C2 (d + 1) m_X_dropLegs [aR 8 0] q (fun o q2 => o = .inl (some (aI (zI (rI s 33)))) ∧ q2 = uLS q (1804, 0) []) := by
  refine am_C2_i (ls := [some (aR 8 0), none]) rfl ?_
  refine ar_aload_n rfl rfl ?_
  refine ar_gfR rfl rfl rfl (by omega) (V.1.1 804 _ rfl) ?_
  refine ar_cv0 rfl rfl rfl (Nat.le_of_ble_eq_true rfl) (cl_szD (d := 0) V) (by omega) (fun o q4 hq => am_B2_is ?_ hq)
  refine ar_stI1 rfl ?_
  refine ar_aload_n rfl rfl ?_
  refine ar_gfR rfl rfl rfl (by omega) (V.1.1 804 _ rfl) ?_
  refine ar_cv0 rfl rfl rfl (Nat.le_of_ble_eq_true rfl) (sq_clear (d := 0) rfl (by omega) (V.1.2.2.2 1804 rfl)) (by omega) (fun o q12 hq => ?_)
  obtain ⟨rfl, rfl⟩ := hq
  refine ar_iload_n rfl rfl ?_
  exact ar_iret rfl (Or.inl rfl) (⟨rfl, rfl⟩)
def legS (s : am_Z) (l : Int) : am_Z := wI (wA s 34 (rI s 33) l) 33 (rI s 33 + 1)
/-- the draft alone is touched -/
theorem CV_draft {q q' : am_A} {s s' : am_Z} (V : am_CV q s) (G : am_GD (fun t _ => t = 1804) q q') (cn : ∀ t, qCN q' t = qCN q t) (m : ∀ j x, j ≠ 34 → rA s' j x = rA s j x) (n : ∀ j, j ≠ 33 → rI s' j = rI s j) (B : in_S s') (hL : am_LL q' s' (1804, 0) (rI s' 33) (fun k => rA s' 34 k)) (hc : qCP q' (1804, 0) ≤ 60) : am_CV q' s' := by
  obtain ⟨v1, v2, v3, v4, v5, v6, v7, v8, v9, -⟩ := V
  have hm : ∀ l, legP s l → legP s' l := fun l h => (legP_cg (fun j x hj => m j x (by omega)) (n 3 (by omega))).mpr h
  have hO : ∀ l, legP s l → legO q' l = legO q l := fun l h => legO_G G h.1 h.2.1 (fun i _ => by omega)
  have cnm : ∀ t, qCN q t ≤ qCN q' t := fun t => by rw [cn t]; exact Nat.le_refl _
  refine ⟨CT_G v1 G (by omega) (fun x _ => (G 6 0 (by omega)).2.1 x) (fun k c hk => (G k 0 (by have := cLen_r k c hk; omega)).2.2.2.2.1) cnm, CN_G v2 G (by omega) ⟨by omega, by omega, by omega, by omega⟩ (fun j x h => m j x (by omega)) (n 0 (by omega)) (n 68 (by omega)), ?_, ?_, ?_, hL, ?_, ?_, fun k hk => ?_, B⟩
  · exact CF_G v3 G (by omega) (fun i _ => ⟨by omega, by omega⟩) (fun i _ => (G 1408 i (by omega)).2.2.2.2.1) (fun t h => cn t) (fun j x h => m j x (by omega)) (n 3 (by omega))
  · exact CL_G v4 G (fun i _ => by omega) (fun j _ => by omega) (cnm 5) (fun j x h => m j x (by omega)) (n 3 (by omega))
  · exact CA_G v5 G (by omega) (fun i _ => by omega) (cn 3) (fun j x h => m j x (by omega)) (n 20 (by omega))
  · exact CB_G v7 G (by omega) (fun b _ => ⟨by omega, by omega, by omega, by omega⟩) (fun j _ => by omega) cnm hO hm (fun j x h => m j x (by omega)) (n 44 (by omega))
  · exact CW_G v8 G (by omega) (fun w _ => ⟨by omega, by omega⟩) cnm hO hm (fun j x h => m j x (by omega)) (n 61 (by omega))
  · by_cases e : k = 1804
    · rw [e]; exact hc
    · rw [(G k 0 e).2.2.2.2.2.2]; exact v9 k hk
theorem CV_leg {q : am_A} {s : am_Z} {l : Int} (V : am_CV q s) (hl : legP s l) (h3 : rI s 33 ≤ 3) : am_CV (qAdd q (1804, 0) (5, lId q l)) (legS s l) := by
  have b33 := (CV_B V).2.1 33 0 4 rfl
  have b3 := (CV_B V).2.1 3 0 12 rfl
  have hlen := V.2.2.2.2.2.1.1
  have m : ∀ j x, j ≠ 34 → rA (legS s l) j x = rA s j x := fun j x h => if_neg (fun z => h z.1)
  have n : ∀ j, j ≠ 33 → rI (legS s l) j = rI s j := fun j h => if_neg h
  have n33 : rI (legS s l) 33 = rI s 33 + 1 := rfl
  have hI : ∀ x, lId (qAdd q (1804, 0) (5, lId q l)) x = lId q x := fun x => lId_cg (fun i k => by rw [qAdd_AR])
  have hm : ∀ x, legP s x → legP (legS s l) x := fun x h => (legP_cg (fun j y hj => m j y (by omega)) (n 3 (by omega))).mpr h
  have m34 : ∀ x, x ≠ rI s 33 → rA (legS s l) 34 x = rA s 34 x := fun x h => if_neg (fun z => h z.2)
  have v34 : rA (legS s l) 34 (rI s 33) = l := if_pos ⟨rfl, rfl⟩
  refine CV_draft V (GD_Add GD_r rfl) (fun t => congrFun qAdd_CN t) m n ?_ ⟨?_, fun k hk => ?_⟩ (qAdd_CP (by omega) (V.2.2.2.2.2.2.2.2.1 1804 rfl))
  · refine in_S_I (in_S_A (CV_B V) (fun lo hi h => by cases h; have := hl.1; have := hl.2.1; omega) (fun _ => by have := hl.2.2.1; omega)) (fun lo hi h => by cases h; omega)
  · rw [qAdd_LS, List.length_append, n33]
    show (((qLS q (1804, 0)).length + 1 : Nat) : Int) = _
    omega
  · rw [n33] at hk
    rw [qAdd_LS]
    by_cases e : (k : Int) = rI s 33
    · have ek : k = (qLS q (1804, 0)).length := by omega
      have e34 : rA (legS s l) 34 (k : Int) = l := by rw [e]; exact v34
      show (qLS q (1804, 0) ++ [(5, lId q l)])[k]? = some (5, lId _ (rA (legS s l) 34 k)) ∧ legP (legS s l) (rA (legS s l) 34 k)
      rw [e34, hI, ek, List.getElem?_append_right (Nat.le_refl _), Nat.sub_self]
      exact ⟨rfl, hm l hl⟩
    · have h2 := V.2.2.2.2.2.1.2 k (by omega)
      show (qLS q (1804, 0) ++ [(5, lId q l)])[k]? = some (5, lId _ (rA (legS s l) 34 k)) ∧ legP (legS s l) (rA (legS s l) 34 k)
      rw [m34 _ e, hI, List.getElem?_append_left (by omega)]
      exact ⟨h2.1, hm _ h2.2⟩
theorem co_leg {d e : Nat} {q : am_A} {s : am_Z} (I : am_CI e q s) {l : Int} (hl : in32 l) : am_C2 (d + 6) m_X_leg [aR 8 0, aI (zI l)] q (am_OP e (kLegA s l) kd2 (some (aI (zI (rI s 33 + 1)))) q (if kLegA s l = 0 then legS s l else s)) := by
  refine am_C2_imp (cs_leg (d := d) I.1 hl) (fun o q' h => OP_of I (fun _ => kd2_b) h (fun h0 hq => ?_) (fun h => if_neg h))
  rw [if_pos h0]
  obtain ⟨rfl, hq2⟩ := hq
  have hk : legP s l ∧ canL s l ≠ 0 := by
    by_cases h1 : legP s l
    · by_cases h2 : canL s l ≠ 0
      · exact ⟨h1, h2⟩
      · rw [kLegA_2 h1 h2] at h0; omega
    · rw [kLegA_1 h1] at h0; omega
  have h4 := (canL_iff.mp hk.2).1.1
  have b33 := (CV_B I.1).2.1 33 0 4 rfl
  have hlen := I.1.2.2.2.2.2.1.1
  refine ⟨CI_le ⟨CV_leg I.1 hk.1 (by omega), CX_G I.2.1 (fun t _ => congrFun qAdd_CN t) (fun t i ht => qAdd_CPn (fun z => by have := congrArg Prod.fst z; simp only at this; omega)) (fun x => rfl) (sumI_c (fun i _ _ => rfl)) ⟨rfl, rfl⟩, RM_Add I.2.2 (Or.inl ⟨rfl, by show 1804 = 1802 ∨ 1804 = 1803 ∨ 1804 = 1804 ∨ 1804 = 1806 ∨ 1804 = 1807 ∨ 1804 = 1808 ∨ 1804 = 1809 ∨ 1804 = 1601 ∨ 1804 = 1603; omega⟩) (by omega) hq2⟩ (Nat.le_succ e), CG_Add CG_r (by show cK 1804; omega)⟩
theorem CV_drop {q : am_A} {s : am_Z} (V : am_CV q s) : am_CV (uLS q (1804, 0) []) (wI s 33 0) := by
  refine CV_draft V (GD_LS GD_r rfl) (fun t => rfl) (fun j x h => rfl) (fun j h => if_neg h) (in_S_I (CV_B V) (fun lo hi h => by cases h; omega)) ⟨?_, fun k hk => ?_⟩ (V.2.2.2.2.2.2.2.2.1 1804 rfl)
  · show (((if ((1804, 0) : am_R) = (1804, 0) then [] else qLS q (1804, 0)).length : Nat) : Int) = if 33 = 33 then 0 else rI s 33
    rw [if_pos rfl, if_pos rfl]
    rfl
  · have : (k : Int) < if 33 = 33 then 0 else rI s 33 := hk
    rw [if_pos rfl] at this
    omega
theorem co_dropLegs {d e : Nat} {q : am_A} {s : am_Z} (I : am_CI e q s) : am_C2 (d + 1) m_X_dropLegs [aR 8 0] q (am_OP e 0 kd1 (some (aI (zI (rI s 33)))) q (wI s 33 0)) := by
  refine am_C2_imp (cs_dropLegs (d := d) I.1) (fun o q' h => ?_)
  obtain ⟨rfl, rfl⟩ := h
  exact ⟨fun _ => rfl, fun z => absurd rfl z, CI_le ⟨CV_drop I.1, I.2.1, I.2.2⟩ (Nat.le_succ e), CG_LS CG_r (by show cK 1804; omega)⟩
end

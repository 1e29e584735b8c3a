noncomputable section
abbrev pfM (s : am_Z) (b l k : Int) : Prop := rA s 53 (10 * b + k) = l ∧ (rA s 55 (10 * b + k) = 0 ∨ rA s 55 (10 * b + k) = 1)
def pfR (s : am_Z) (b l : Int) : Nat → Int → Int
  | 0, _ => -1
  | n + 1, k => if k < rA s 52 b then (if pfM s b l k then k else pfR s b l n (k + 1)) else -1
def pfS (s : am_Z) (b l : Int) : Int := pfR s b l 12 0
theorem pfR_b (s : am_Z) (b l : Int) (n : Nat) (k : Int) (h : 0 ≤ k) : pfR s b l n k = -1 ∨ (0 ≤ pfR s b l n k ∧ pfR s b l n k < rA s 52 b ∧ pfM s b l (pfR s b l n k)) := by
  induction n generalizing k with
  | zero => exact Or.inl rfl
  | succ n ih =>
    rw [pfR]
    split
    · split
      · rename_i h1 h2; exact Or.inr ⟨h, h1, h2⟩
      · exact ih (k + 1) (by omega)
    · exact Or.inl rfl
abbrev usM (s : am_Z) (b l k : Int) : Prop := rA s 53 (10 * b + k) = l ∧ ¬ (rA s 55 (10 * b + k) = 4 ∨ rA s 55 (10 * b + k) = 5)
def usR (s : am_Z) (b l : Int) : Nat → Int → Int
  | 0, _ => 0
  | n + 1, k => if k < rA s 52 b then (if usM s b l k then 1 else usR s b l n (k + 1)) else 0
theorem usR_b (s : am_Z) (b l : Int) (n : Nat) (k : Int) : 0 ≤ usR s b l n k ∧ usR s b l n k ≤ 1 := by
  induction n generalizing k with
  | zero => simp [usR]
  | succ n ih =>
    rw [usR]
    split
    · split
      · omega
      · exact ih _
    · omega
theorem nbR_m {s : am_Z} {b t : Int} (h10 : rA s 52 b ≤ 10) (ht : t = 1 ∨ t = -1) (n : Nat) (k : Int) (h : (if t = 1 then 10 - k else k + 1) ≤ n) : nbR s b t n k = nbR s b t (n + 1) k := by
  induction n generalizing k with
  | zero =>
    rw [nbR, nbR, if_neg (by split at h <;> omega)]
  | succ n ih =>
    rw [nbR, nbR]
    by_cases h1 : 0 ≤ k ∧ k < rA s 52 b
    · rw [if_pos h1, if_pos h1]
      by_cases h2 : 4 ≤ rA s 55 (10 * b + k)
      · rw [if_pos h2, if_pos h2]
        exact ih (k + t) (by split at h <;> (first | rw [if_pos (by assumption)] | rw [if_neg (by assumption)]) <;> omega)
      · rw [if_neg h2, if_neg h2]
    · rw [if_neg h1, if_neg h1]
def pfK (q : am_A) (b : Nat) (c : Int) : Option am_R := if c = -1 then none else some (1, cId q b c.toNat)
/-- the coupon to fly -/
def pfO (q : am_A) (s : am_Z) (b : Nat) (l : Int) : Option am_R := pfK q b (pfS s b l)
theorem pfS_b {s : am_Z} {b : Nat} {l : Int} (B : in_S s) (h : pfS s b l ≠ -1) : (0 ≤ pfS s b l ∧ pfS s b l < rA s 52 b) ∧ pfS s b l ≤ 9 ∧ pfM s b l (pfS s b l) ∧ 10 * (b : Int) + (((pfS s b l).toNat : Nat) : Int) = 10 * b + pfS s b l := by
  have h1 := pfR_b s b l 12 0 (by omega)
  have h2 := B.1 52 b 0 10 rfl
  have h3 : pfS s b l = pfR s b l 12 0 := rfl
  rw [← h3] at h1
  rcases h1 with h1 | ⟨h4, h5, h6⟩
  · exact absurd h1 h
  · exact ⟨⟨h4, h5⟩, by omega, h6, by omega⟩
theorem pfO_n {q : am_A} {s : am_Z} {b : Nat} {l : Int} (h : pfO q s b l = none) : pfS s b l = -1 := Classical.byContradiction fun z => by
  unfold pfO pfK at h
  rw [if_neg z] at h
  cases h
theorem pfO_s {q : am_A} {s : am_Z} {b : Nat} {l : Int} {r : am_R} (h : pfO q s b l = some r) : pfS s b l ≠ -1 := fun z => by
  unfold pfO pfK at h
  rw [if_pos z] at h
  cases h
def nbL (q : am_A) (s : am_Z) (b v : Int) : Option am_R := if v = -1 then none else some (5, lId q (rA s 53 (10 * b + v)))
theorem lp_usesLeg {d : Nat} {q : am_A} {Q : am_O → am_A → Prop} {s : am_Z} (V : am_CV q s) {l : Int} {b : Nat} (hl : legP s l) (hb : (b : Int) < rI s 44) : ∀ (m : Nat) (j : Nat) (k : Int), 11 - j < m → (k = j ∧ j ≤ 10) → (∀ v, v = usR s b l m k → Q (.inl (some (aI (zI v)))) q) → am_W2 (d + 3) m_Bk_usesLeg 2 [some (aR 0 b), some (aR 5 (lId q l)), some (aI (zI k))] [] (q) Q := by
  intro m
  induction m with
  | zero => intro j k hm; exact absurd hm (Nat.not_lt_zero _)
  | succ m ih =>
    intro j k hm ⟨hj, hj2⟩ K
    subst hj
    have b52 := (CV_B V).1 52 b 0 10 rfl
    have hBk := V.2.2.2.2.2.2.1.2.2.1 b hb
    have ho := V.2.2.2.2.2.2.1.2.2.2.1 b j hb
    have b55 := (CV_B V).1 55 (10 * (b : Int) + (j : Int)) 0 5 rfl
    refine ar_iload_n rfl rfl ?_
    refine ar_aload_n rfl rfl ?_
    refine ar_gfR rfl rfl rfl (by omega) (hBk.2.1.1) ?_
    refine ar_cv0 rfl rfl rfl (Nat.le_of_ble_eq_true rfl) (cl_szC (d := 0) V hb) (by omega) (fun o q7 hq => am_B2_is ?_ hq)
    refine ar_icmp_ge rfl rfl (by omega) (by omega) (fun h10 => ?_) (fun h10 => ?_)
    · refine ar_iconst rfl ?_
      exact ar_iret rfl (Or.inr ⟨rfl, by omega⟩) (K _ (by rw [usR, if_neg (by omega)]))
    · refine ar_aload_n rfl rfl ?_
      refine ar_gfR rfl rfl rfl (by omega) (hBk.2.1.1) ?_
      refine ar_iload_n rfl rfl ?_
      refine ar_cv1 rfl rfl rfl (Nat.le_of_ble_eq_true rfl) (cl_getC (d := 0) V hb (by omega)) (by omega) (fun o q18 hq => am_B2_is ?_ hq)
      rw [Int.toNat_natCast]
      refine ar_cast rfl rfl rfl ?_
      refine ar_gfR rfl rfl rfl (by omega) ((ho (by omega)).2.2.1) ?_
      refine ar_aload_n rfl rfl ?_
      refine ar_acmp_ne rfl rfl (fun h28 => ?_) (fun h28 => ?_)
      · try have hle : rA s 53 (10 * (b : Int) + (j : Int)) ≠ l := fun z => h28 (by rw [z])
        refine ar_inc2 rfl ?_
        refine ar_goto rfl rfl ?_
        exact ih (j + 1) _ (by omega) ⟨by omega, by omega⟩ (fun v hv => K v (by rw [hv, usR, if_pos (by omega), if_neg (by omega)]))
      · have hle : rA s 53 (10 * (b : Int) + (j : Int)) = l := lId_inj V (ho (by omega)).2.2.2.1 hl (congrArg Prod.snd (Option.some.inj h28))
        refine ar_aload_n rfl rfl ?_
        refine ar_gfR rfl rfl rfl (by omega) (hBk.2.1.1) ?_
        refine ar_iload_n rfl rfl ?_
        refine ar_cv1 rfl rfl rfl (Nat.le_of_ble_eq_true rfl) (cl_getC (d := 0) V hb (by omega)) (by omega) (fun o q36 hq => am_B2_is ?_ hq)
        rw [Int.toNat_natCast]
        refine ar_cast rfl rfl rfl ?_
        refine ar_cv0 rfl rfl rfl (Nat.le_of_ble_eq_true rfl) (cs_isReplaced (d := 0) ((ho (by omega)).2.2.2.2 105 55 rfl) (by omega)) (by omega) (fun o q42 hq => am_B2_is ?_ hq)
        refine ar_if_neB rfl rfl (fun h45 => ?_) (fun h45 => ?_)
        · try have hle : rA s 53 (10 * (b : Int) + (j : Int)) ≠ l := fun z => h28 (by rw [z])
          refine ar_inc2 rfl ?_
          refine ar_goto rfl rfl ?_
          exact ih (j + 1) _ (by omega) ⟨by omega, by omega⟩ (fun v hv => K v (by rw [hv, usR, if_pos (by omega), if_neg (by omega)]))
        · refine ar_iconst rfl ?_
          exact ar_iret rfl (Or.inr ⟨rfl, by omega⟩) (K 1 (by rw [usR, if_pos (by omega), if_pos (by omega)]))
theorem cs_usesLeg {d : Nat} {q : am_A} {s : am_Z} (V : am_CV q s) {l : Int} {b : Nat} (hl : legP s l) (hb : (b : Int) < rI s 44) : am_C2 (d + 3) m_Bk_usesLeg [aR 0 b, aR 5 (lId q l)] q (am_is2 (aI (zI (usR s b l 12 0))) q) := by
  refine am_C2_i (ls := [some (aR 0 b), some (aR 5 (lId q l)), none]) rfl ?_
  refine ar_iconst rfl ?_
  refine ar_stI2 rfl ?_
  exact lp_usesLeg (d := d) V hl hb 12 0 0 (by omega) ⟨rfl, by omega⟩ (fun v hv => by rw [hv]; exact ⟨rfl, rfl⟩)
theorem lp_couponToFly {d : Nat} {q : am_A} {Q : am_O → am_A → Prop} {s : am_Z} (V : am_CV q s) {l : Int} {b : Nat} (hl : legP s l) (hb : (b : Int) < rI s 44) : ∀ (m : Nat) (j : Nat) (k : Int) (x3 : Option am_V), 11 - j < m → (k = j ∧ j ≤ 10) → (∀ v, v = pfK q b (pfR s b l m k) → Q (.inl (some (aO v))) q) → am_W2 (d + 3) m_Bk_couponToFly 2 [some (aR 0 b), some (aR 5 (lId q l)), some (aI (zI k)), x3] [] (q) Q := by
  intro m
  induction m with
  | zero => intro j k x3 hm; exact absurd hm (Nat.not_lt_zero _)
  | succ m ih =>
    intro j k x3 hm ⟨hj, hj2⟩ K
    subst hj
    have b52 := (CV_B V).1 52 b 0 10 rfl
    have hBk := V.2.2.2.2.2.2.1.2.2.1 b hb
    have ho := V.2.2.2.2.2.2.1.2.2.2.1 b j hb
    have b55 := (CV_B V).1 55 (10 * (b : Int) + (j : Int)) 0 5 rfl
    refine ar_iload_n rfl rfl ?_
    refine ar_aload_n rfl rfl ?_
    refine ar_gfR rfl rfl rfl (by omega) (hBk.2.1.1) ?_
    refine ar_cv0 rfl rfl rfl (Nat.le_of_ble_eq_true rfl) (cl_szC (d := 0) V hb) (by omega) (fun o q7 hq => am_B2_is ?_ hq)
    refine ar_icmp_ge rfl rfl (by omega) (by omega) (fun h10 => ?_) (fun h10 => ?_)
    · refine ar_null rfl ?_
      exact ar_aret rfl rfl (K _ (by rw [pfR, if_neg (by omega)]; exact (if_pos rfl).symm))
    · refine ar_aload_n rfl rfl ?_
      refine ar_gfR rfl rfl rfl (by omega) (hBk.2.1.1) ?_
      refine ar_iload_n rfl rfl ?_
      refine ar_cv1 rfl rfl rfl (Nat.le_of_ble_eq_true rfl) (cl_getC (d := 0) V hb (by omega)) (by omega) (fun o q18 hq => am_B2_is ?_ hq)
      rw [Int.toNat_natCast]
      refine ar_cast rfl rfl rfl ?_
      refine ar_stA3 rfl ?_
      refine ar_aload_n rfl rfl ?_
      refine ar_gfR rfl rfl rfl (by omega) ((ho (by omega)).2.2.1) ?_
      refine ar_aload_n rfl rfl ?_
      refine ar_acmp_ne rfl rfl (fun h30 => ?_) (fun h30 => ?_)
      · try have hle : rA s 53 (10 * (b : Int) + (j : Int)) ≠ l := fun z => h30 (by rw [z])
        refine ar_inc2 rfl ?_
        refine ar_goto rfl rfl ?_
        exact ih (j + 1) _ _ (by omega) ⟨by omega, by omega⟩ (fun v hv => K v (by rw [hv, pfR, if_pos (by omega), if_neg (by omega)]))
      · have hle : rA s 53 (10 * (b : Int) + (j : Int)) = l := lId_inj V (ho (by omega)).2.2.2.1 hl (congrArg Prod.snd (Option.some.inj h30))
        refine ar_aload_n rfl rfl ?_
        refine ar_cv0 rfl rfl rfl (Nat.le_of_ble_eq_true rfl) (cs_isToFly (d := 0) ((ho (by omega)).2.2.2.2 105 55 rfl) (by omega)) (by omega) (fun o q34 hq => am_B2_is ?_ hq)
        refine ar_if_eqB rfl rfl (fun h37 => ?_) (fun h37 => ?_)
        · try have hle : rA s 53 (10 * (b : Int) + (j : Int)) ≠ l := fun z => h30 (by rw [z])
          refine ar_inc2 rfl ?_
          refine ar_goto rfl rfl ?_
          exact ih (j + 1) _ _ (by omega) ⟨by omega, by omega⟩ (fun v hv => K v (by rw [hv, pfR, if_pos (by omega), if_neg (by omega)]))
        · refine ar_aload_n rfl rfl ?_
          exact ar_aret rfl rfl (K _ (by rw [pfR, if_pos (by omega), if_pos (by omega)]; exact (if_neg (by omega)).symm))
theorem cs_couponToFly {d : Nat} {q : am_A} {s : am_Z} (V : am_CV q s) {l : Int} {b : Nat} (hl : legP s l) (hb : (b : Int) < rI s 44) : am_C2 (d + 3) m_Bk_couponToFly [aR 0 b, aR 5 (lId q l)] q (am_is2 (aO (pfO q s b l)) q) := by
  refine am_C2_i (ls := [some (aR 0 b), some (aR 5 (lId q l)), none, none]) rfl ?_
  refine ar_iconst rfl ?_
  refine ar_stI2 rfl ?_
  exact lp_couponToFly (d := d) V hl hb 12 0 0 none (by omega) ⟨rfl, by omega⟩ (fun v hv => by rw [hv]; exact ⟨rfl, rfl⟩)
theorem lp_placeOf {d : Nat} {q : am_A} {Q : am_O → am_A → Prop} {s : am_Z} (V : am_CV q s) {c : Int} {b : Nat} (hb : (b : Int) < rI s 44) (hc : 0 ≤ c ∧ c < rA s 52 b) : ∀ (m : Nat) (j : Nat) (k : Int), 11 - j < m → (k = j ∧ (j : Int) ≤ c) → (∀ v, v = c → Q (.inl (some (aI (zI v)))) q) → am_W2 (d + 3) m_Bk_placeOf 2 [some (aR 0 b), some (aR 1 (cId q b c.toNat)), some (aI (zI k))] [] (q) Q := by
  intro m
  induction m with
  | zero => intro j k hm; exact absurd hm (Nat.not_lt_zero _)
  | succ m ih =>
    intro j k hm ⟨hj, hj2⟩ K
    subst hj
    have b52 := (CV_B V).1 52 b 0 10 rfl
    have hBk := V.2.2.2.2.2.2.1.2.2.1 b hb
    have hin := V.2.2.2.2.2.2.1.2.2.2.2 b j b c.toNat hb (by omega) hb (by omega)
    refine ar_iload_n rfl rfl ?_
    refine ar_aload_n rfl rfl ?_
    refine ar_gfR rfl rfl rfl (by omega) (hBk.2.1.1) ?_
    refine ar_cv0 rfl rfl rfl (Nat.le_of_ble_eq_true rfl) (cl_szC (d := 0) V hb) (by omega) (fun o q7 hq => am_B2_is ?_ hq)
    refine ar_icmp_ge rfl rfl (by omega) (by omega) (fun ht => by omega) (fun h10 => ?_)
    refine ar_aload_n rfl rfl ?_
    refine ar_gfR rfl rfl rfl (by omega) (hBk.2.1.1) ?_
    refine ar_iload_n rfl rfl ?_
    refine ar_cv1 rfl rfl rfl (Nat.le_of_ble_eq_true rfl) (cl_getC (d := 0) V hb (by omega)) (by omega) (fun o q18 hq => am_B2_is ?_ hq)
    rw [Int.toNat_natCast]
    refine ar_aload_n rfl rfl ?_
    refine ar_acmp_ne rfl rfl (fun h22 => ?_) (fun h22 => ?_)
    · have e22 : (j : Int) ≠ c := fun z => h22 (by rw [show c.toNat = j by omega])
      refine ar_inc2 rfl ?_
      refine ar_goto rfl rfl ?_
      exact ih (j + 1) _ (by omega) ⟨by omega, by omega⟩ (fun v hv => K v hv)
    · have e22 := (hin (congrArg Prod.snd (Option.some.inj h22))).2
      refine ar_iload_n rfl rfl ?_
      exact ar_iret rfl (Or.inl rfl) (K _ (by omega))
theorem cs_placeOf {d : Nat} {q : am_A} {s : am_Z} (V : am_CV q s) {c : Int} {b : Nat} (hb : (b : Int) < rI s 44) (hc : 0 ≤ c ∧ c < rA s 52 b) : am_C2 (d + 3) m_Bk_placeOf [aR 0 b, aR 1 (cId q b c.toNat)] q (am_is2 (aI (zI c)) q) := by
  refine am_C2_i (ls := [some (aR 0 b), some (aR 1 (cId q b c.toNat)), none]) rfl ?_
  have b52 := (CV_B V).1 52 b 0 10 rfl
  refine ar_iconst rfl ?_
  refine ar_stI2 rfl ?_
  exact lp_placeOf (d := d) V hb hc 12 0 0 (by omega) ⟨rfl, by omega⟩ (fun v hv => by rw [hv]; exact ⟨rfl, rfl⟩)

theorem lp_near {d : Nat} {q : am_A} {Q : am_O → am_A → Prop} {s : am_Z} (V : am_CV q s) {x1 : Option am_V} {t : Int} {b : Nat} (hb : (b : Int) < rI s 44) (ht : t = 1 ∨ t = -1) : ∀ (m : Nat) (j : Nat) (i k : Int), 11 - j < m → (k = j ∧ j ≤ 10 ∧ -1 ≤ i ∧ i ≤ 10) → (∀ v, v = nbL q s b (nbR s b t (10 - j) i) → Q (.inl (some (aO v))) q) → am_W2 (d + 3) m_Bk_nearestLeg 11 [some (aR 0 b), x1, some (aI (zI t)), some (aI (zI i)), some (aI (zI k))] [] (q) Q := by
  intro m
  induction m with
  | zero => intro j i k hm; exact absurd hm (Nat.not_lt_zero _)
  | succ m ih =>
    intro j i k hm ⟨hj, hj2, hi1, hi2⟩ K
    subst hj
    have b52 := (CV_B V).1 52 b 0 10 rfl
    have hBk := V.2.2.2.2.2.2.1.2.2.1 b hb
    have ho := V.2.2.2.2.2.2.1.2.2.2.1 b i.toNat hb
    have b55 := (CV_B V).1 55 (10 * (b : Int) + i) 0 5 rfl
    have ei : 0 ≤ i → 10 * (b : Int) + ((i.toNat : Nat) : Int) = 10 * b + i := fun z => by omega
    refine ar_iload rfl rfl ?_
    refine ar_bipush (x := 10) rfl rfl ?_
    refine ar_icmp_ge rfl rfl (by omega) (by omega) (fun h15 => ?_) (fun h15 => ?_)
    · refine ar_null rfl ?_
      exact ar_aret rfl rfl (K _ (by rw [show 10 - j = 0 by omega]; rfl))
    · refine ar_iload_n rfl rfl ?_
      refine ar_if_lt rfl rfl (by omega) (fun h19 => ?_) (fun h19 => ?_)
      · refine ar_null rfl ?_
        exact ar_aret rfl rfl (K _ (by { by_cases hjj : j = 10; rw [hjj]; rfl; rw [show 10 - j = (10 - (j + 1)) + 1 by omega, nbR, if_neg (by omega)]; rfl }))
      · refine ar_iload_n rfl rfl ?_
        refine ar_aload_n rfl rfl ?_
        refine ar_gfR rfl rfl rfl (by omega) (hBk.2.1.1) ?_
        refine ar_cv0 rfl rfl rfl (Nat.le_of_ble_eq_true rfl) (cl_szC (d := 0) V hb) (by omega) (fun o q27 hq => am_B2_is ?_ hq)
        refine ar_icmp_lt rfl rfl (by omega) (by omega) (fun h30 => ?_) (fun h30 => ?_)
        · refine ar_aload_n rfl rfl ?_
          refine ar_gfR rfl rfl rfl (by omega) (hBk.2.1.1) ?_
          refine ar_iload_n rfl rfl ?_
          refine ar_cv1 rfl rfl rfl (Nat.le_of_ble_eq_true rfl) (cl_getC (d := 0) V hb (by omega)) (by omega) (fun o q40 hq => am_B2_is ?_ hq)
          refine ar_cast rfl rfl rfl ?_
          refine ar_cv0 rfl rfl rfl (Nat.le_of_ble_eq_true rfl) (cs_isReplaced (d := 0) (((ho (by omega)).2.2.2.2 105 55 rfl).trans (by rw [ei (by omega)])) (by omega)) (by omega) (fun o q46 hq => am_B2_is ?_ hq)
          refine ar_if_neB rfl rfl (fun h49 => ?_) (fun h49 => ?_)
          · refine ar_iload_n rfl rfl ?_
            refine ar_iload_n rfl rfl ?_
            refine ar_iadd rfl ?_
            refine ar_stI3 rfl ?_
            refine ar_inc4 rfl ?_
            refine ar_goto rfl rfl ?_
            exact ih (j + 1) (i + t) _ (by omega) ⟨by omega, by omega, by omega, by omega⟩ (fun v hv => K v (by rw [hv, show 10 - j = (10 - (j + 1)) + 1 by omega, nbR, if_pos (by omega), if_pos (by omega)]))
          · refine ar_aload_n rfl rfl ?_
            refine ar_gfR rfl rfl rfl (by omega) (hBk.2.1.1) ?_
            refine ar_iload_n rfl rfl ?_
            refine ar_cv1 rfl rfl rfl (Nat.le_of_ble_eq_true rfl) (cl_getC (d := 0) V hb (by omega)) (by omega) (fun o q57 hq => am_B2_is ?_ hq)
            refine ar_cast rfl rfl rfl ?_
            refine ar_gfR rfl rfl rfl (by omega) ((ho (by omega)).2.2.1) ?_
            exact ar_aret rfl rfl (K _ (by rw [show 10 - j = (10 - (j + 1)) + 1 by omega, nbR, if_pos (by omega), if_neg (by omega), ei (by omega)]; unfold nbL; rw [if_neg (by omega)]))
        · refine ar_null rfl ?_
          exact ar_aret rfl rfl (K _ (by { by_cases hjj : j = 10; rw [hjj]; rfl; rw [show 10 - j = (10 - (j + 1)) + 1 by omega, nbR, if_neg (by omega)]; rfl }))
theorem cs_nearestLeg {d : Nat} {q : am_A} {s : am_Z} (V : am_CV q s) {c t : Int} {b : Nat} (hb : (b : Int) < rI s 44) (ht : t = 1 ∨ t = -1) (hc : 0 ≤ c ∧ c < rA s 52 b) : am_C2 (d + 4) m_Bk_nearestLeg [aR 0 b, aR 1 (cId q b c.toNat), aI (zI t)] q (am_is2 (aO (nbL q s b (nbS s b c t))) q) := by
  refine am_C2_i (ls := [some (aR 0 b), some (aR 1 (cId q b c.toNat)), some (aI (zI t)), none, none]) rfl ?_
  have b52 := (CV_B V).1 52 b 0 10 rfl
  have e1 := nbR_m (s := s) (b := b) (by omega) ht 10 (c + t) (by split <;> omega)
  have e2 := nbR_m (s := s) (b := b) (by omega) ht 11 (c + t) (by split <;> omega)
  refine ar_aload_n rfl rfl ?_
  refine ar_aload_n rfl rfl ?_
  refine ar_cv1 rfl rfl rfl (Nat.le_of_ble_eq_true rfl) (cs_placeOf (d := 0) V hb hc) (by omega) (fun o q2 hq => am_B2_is ?_ hq)
  refine ar_iload_n rfl rfl ?_
  refine ar_iadd rfl ?_
  refine ar_stI3 rfl ?_
  refine ar_iconst rfl ?_
  refine ar_stI4 rfl ?_
  exact lp_near (d := d + 1) V hb ht 12 0 (c + t) 0 (by omega) ⟨rfl, by omega, by omega, by omega⟩ (fun v hv => by rw [hv]; exact ⟨by unfold nbS; rw [show 10 - 0 = 10 from rfl, e1, e2], rfl⟩)
end

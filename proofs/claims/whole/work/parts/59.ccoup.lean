noncomputable section
abbrev pfM (s : am_Z) (b l k : Int) : Prop := rA s 53 (10 * b + k) = l ∧ (rA s 55 (10 * b + k) = 0 ∨ rA s 55 (10 * b + k) = 1)
def pfR (s : am_Z) (b l : Int) : Nat → Int → Int
  | 0, _ => -1
  | n + 1, k => if k < rA s 52 b then (if pfM s b l k then k else pfR s b l n (k + 1)) else -1
def pfS (s : am_Z) (b l : Int) : Int := pfR s b l 12 0
theorem pfR_b (s : am_Z) (b l : Int) (n : Nat) (k : Int) (h : 0 ≤ k) : pfR s b l n k = -1 ∨ (0 ≤ pfR s b l n k ∧ pfR s b l n k < rA s 52 b ∧ pfM s b l (pfR s b l n k)) := by
  induction n generalizing k with
  | zero => exact Or.inl rfl
  | succ n ih =>
    rw [pfR]
    split
    · split
      · rename_i h1 h2; exact Or.inr ⟨h, h1, h2⟩
      · exact ih (k + 1) (by omega)
    · exact Or.inl rfl
abbrev usM (s : am_Z) (b l k : Int) : Prop := rA s 53 (10 * b + k) = l ∧ ¬ (rA s 55 (10 * b + k) = 4 ∨ rA s 55 (10 * b + k) = 5)
def usR (s : am_Z) (b l : Int) : Nat → Int → Int
  | 0, _ => 0
  | n + 1, k => if k < rA s 52 b then (if usM s b l k then 1 else usR s b l n (k + 1)) else 0
theorem usR_b (s : am_Z) (b l : Int) (n : Nat) (k : Int) : 0 ≤ usR s b l n k ∧ usR s b l n k ≤ 1 := by
  induction n generalizing k with
  | zero => simp [usR]
  | succ n ih =>
    rw [usR]
    split
    · split
      · omega
      · exact ih _
    · omega
theorem nbR_m {s : am_Z} {b t : Int} (h10 : rA s 52 b ≤ 10) (ht : t = 1 ∨ t = -1) (n : Nat) (k : Int) (h : (if t = 1 then 10 - k else k + 1) ≤ n) : nbR s b t n k = nbR s b t (n + 1) k := by
  induction n generalizing k with
  | zero =>
    rw [nbR, nbR, if_neg (by split at h <;> omega)]
  | succ n ih =>
    rw [nbR, nbR]
    by_cases h1 : 0 ≤ k ∧ k < rA s 52 b
    · rw [if_pos h1, if_pos h1]
      by_cases h2 : 4 ≤ rA s 55 (10 * b + k)
      · rw [if_pos h2, if_pos h2]
        exact ih (k + t) (by split at h <;> (first | rw [if_pos (by assumption)] | rw [if_neg (by assumption)]) <;> omega)
      · rw [if_neg h2, if_neg h2]
    · rw [if_neg h1, if_neg h1]
def nbL (q : am_A) (s : am_Z) (b v : Int) : Option am_R := if v = -1 then none else some (5, lId q (rA s 53 (10 * b + v)))
theorem lp_placeToFly {d : Nat} {q : am_A} {Q : am_O → am_A → Prop} {s : am_Z} (V : am_CV q s) {l : Int} {b : Nat} (hl : legP s l) (hb : (b : Int) < rI s 44) : ∀ (m : Nat) (j : Nat) (k : Int), 11 - j < m → (k = j ∧ j ≤ 10) → (∀ v, v = pfR s b l m k → Q (.inl (some (aI (zI v)))) q) → am_W2 (d + 3) m_Bk_placeToFly 2 [some (aR 0 b), some (aR 5 (lId q l)), some (aI (zI k))] [] (q) Q := by
  intro m
  induction m with
  | zero => intro j k hm; exact absurd hm (Nat.not_lt_zero _)
  | succ m ih =>
    intro j k hm ⟨hj, hj2⟩ K
    subst hj
    have b52 := (CV_B V).1 52 b 0 10 rfl
    have hBk := V.2.2.2.2.2.2.1.2.2.1 b hb
    have ho := V.2.2.2.2.2.2.1.2.2.2.1 b j hb
    have b55 := (CV_B V).1 55 (10 * (b : Int) + (j : Int)) 0 5 rfl
    refine ar_iload_n rfl rfl ?_
    refine ar_aload_n rfl rfl ?_
    refine ar_gfR rfl rfl rfl (by omega) (hBk.2.1.1) ?_
    refine ar_cv0 rfl rfl rfl (Nat.le_of_ble_eq_true rfl) (cl_szC (d := 0) V hb) (by omega) (fun o q7 hq => am_B2_is ?_ hq)
    refine ar_icmp_ge rfl rfl (by omega) (by omega) (fun h10 => ?_) (fun h10 => ?_)
    · refine ar_iconst rfl ?_
      exact ar_iret rfl (Or.inl rfl) (K _ (by rw [pfR, if_neg (by omega)]))
    · refine ar_aload_n rfl rfl ?_
      refine ar_gfR rfl rfl rfl (by omega) (hBk.2.1.1) ?_
      refine ar_iload_n rfl rfl ?_
      refine ar_cv1 rfl rfl rfl (Nat.le_of_ble_eq_true rfl) (cl_getC (d := 0) V hb (by omega)) (by omega) (fun o q18 hq => am_B2_is ?_ hq)
      rw [Int.toNat_natCast]
      refine ar_cast rfl rfl rfl ?_
      refine ar_gfR rfl rfl rfl (by omega) ((ho (by omega)).2.2.1) ?_
      refine ar_aload_n rfl rfl ?_
      refine ar_acmp_ne rfl rfl (fun h28 => ?_) (fun h28 => ?_)
      · try have hle : rA s 53 (10 * (b : Int) + (j : Int)) ≠ l := fun z => h28 (by rw [z])
        refine ar_inc2 rfl ?_
        refine ar_goto rfl rfl ?_
        exact ih (j + 1) _ (by omega) ⟨by omega, by omega⟩ (fun v hv => K v (by rw [hv, pfR, if_pos (by omega), if_neg (by omega)]))
      · have hle : rA s 53 (10 * (b : Int) + (j : Int)) = l := lId_inj V (ho (by omega)).2.2.2.1 hl (congrArg Prod.snd (Option.some.inj h28))
        refine ar_aload_n rfl rfl ?_
        refine ar_gfR rfl rfl rfl (by omega) (hBk.2.1.1) ?_
        refine ar_iload_n rfl rfl ?_
        refine ar_cv1 rfl rfl rfl (Nat.le_of_ble_eq_true rfl) (cl_getC (d := 0) V hb (by omega)) (by omega) (fun o q36 hq => am_B2_is ?_ hq)
        rw [Int.toNat_natCast]
        refine ar_cast rfl rfl rfl ?_
        refine ar_cv0 rfl rfl rfl (Nat.le_of_ble_eq_true rfl) (cs_isToFly (d := 0) ((ho (by omega)).2.2.2.2 105 55 rfl) (by omega)) (by omega) (fun o q42 hq => am_B2_is ?_ hq)
        refine ar_if_eqB rfl rfl (fun h45 => ?_) (fun h45 => ?_)
        · try have hle : rA s 53 (10 * (b : Int) + (j : Int)) ≠ l := fun z => h28 (by rw [z])
          refine ar_inc2 rfl ?_
          refine ar_goto rfl rfl ?_
          exact ih (j + 1) _ (by omega) ⟨by omega, by omega⟩ (fun v hv => K v (by rw [hv, pfR, if_pos (by omega), if_neg (by omega)]))
        · refine ar_iload_n rfl rfl ?_
          exact ar_iret rfl (Or.inl rfl) (K (j : Int) (by rw [pfR, if_pos (by omega), if_pos (by omega)]))
theorem cs_placeToFly {d : Nat} {q : am_A} {s : am_Z} (V : am_CV q s) {l : Int} {b : Nat} (hl : legP s l) (hb : (b : Int) < rI s 44) : am_C2 (d + 3) m_Bk_placeToFly [aR 0 b, aR 5 (lId q l)] q (am_is2 (aI (zI (pfS s b l))) q) := by
  refine am_C2_i (ls := [some (aR 0 b), some (aR 5 (lId q l)), none]) rfl ?_
  refine ar_iconst rfl ?_
  refine ar_stI2 rfl ?_
  exact lp_placeToFly (d := d) V hl hb 12 0 0 (by omega) ⟨rfl, by omega⟩ (fun v hv => by rw [hv]; exact ⟨rfl, rfl⟩)
theorem lp_usesLeg {d : Nat} {q : am_A} {Q : am_O → am_A → Prop} {s : am_Z} (V : am_CV q s) {l : Int} {b : Nat} (hl : legP s l) (hb : (b : Int) < rI s 44) : ∀ (m : Nat) (j : Nat) (k : Int), 11 - j < m → (k = j ∧ j ≤ 10) → (∀ v, v = usR s b l m k → Q (.inl (some (aI (zI v)))) q) → am_W2 (d + 3) m_Bk_usesLeg 2 [some (aR 0 b), some (aR 5 (lId q l)), some (aI (zI k))] [] (q) Q := by
  intro m
  induction m with
  | zero => intro j k hm; exact absurd hm (Nat.not_lt_zero _)
  | succ m ih =>
    intro j k hm ⟨hj, hj2⟩ K
    subst hj
    have b52 := (CV_B V).1 52 b 0 10 rfl
    have hBk := V.2.2.2.2.2.2.1.2.2.1 b hb
    have ho := V.2.2.2.2.2.2.1.2.2.2.1 b j hb
    have b55 := (CV_B V).1 55 (10 * (b : Int) + (j : Int)) 0 5 rfl
    refine ar_iload_n rfl rfl ?_
    refine ar_aload_n rfl rfl ?_
    refine ar_gfR rfl rfl rfl (by omega) (hBk.2.1.1) ?_
    refine ar_cv0 rfl rfl rfl (Nat.le_of_ble_eq_true rfl) (cl_szC (d := 0) V hb) (by omega) (fun o q7 hq => am_B2_is ?_ hq)
    refine ar_icmp_ge rfl rfl (by omega) (by omega) (fun h10 => ?_) (fun h10 => ?_)
    · refine ar_iconst rfl ?_
      exact ar_iret rfl (Or.inr ⟨rfl, by omega⟩) (K _ (by rw [usR, if_neg (by omega)]))
    · refine ar_aload_n rfl rfl ?_
      refine ar_gfR rfl rfl rfl (by omega) (hBk.2.1.1) ?_
      refine ar_iload_n rfl rfl ?_
      refine ar_cv1 rfl rfl rfl (Nat.le_of_ble_eq_true rfl) (cl_getC (d := 0) V hb (by omega)) (by omega) (fun o q18 hq => am_B2_is ?_ hq)
      rw [Int.toNat_natCast]
      refine ar_cast rfl rfl rfl ?_
      refine ar_gfR rfl rfl rfl (by omega) ((ho (by omega)).2.2.1) ?_
      refine ar_aload_n rfl rfl ?_
      refine ar_acmp_ne rfl rfl (fun h28 => ?_) (fun h28 => ?_)
      · try have hle : rA s 53 (10 * (b : Int) + (j : Int)) ≠ l := fun z => h28 (by rw [z])
        refine ar_inc2 rfl ?_
        refine ar_goto rfl rfl ?_
        exact ih (j + 1) _ (by omega) ⟨by omega, by omega⟩ (fun v hv => K v (by rw [hv, usR, if_pos (by omega), if_neg (by omega)]))
      · have hle : rA s 53 (10 * (b : Int) + (j : Int)) = l := lId_inj V (ho (by omega)).2.2.2.1 hl (congrArg Prod.snd (Option.some.inj h28))
        refine ar_aload_n rfl rfl ?_
        refine ar_gfR rfl rfl rfl (by omega) (hBk.2.1.1) ?_
        refine ar_iload_n rfl rfl ?_
        refine ar_cv1 rfl rfl rfl (Nat.le_of_ble_eq_true rfl) (cl_getC (d := 0) V hb (by omega)) (by omega) (fun o q36 hq => am_B2_is ?_ hq)
        rw [Int.toNat_natCast]
        refine ar_cast rfl rfl rfl ?_
        refine ar_cv0 rfl rfl rfl (Nat.le_of_ble_eq_true rfl) (cs_isReplaced (d := 0) ((ho (by omega)).2.2.2.2 105 55 rfl) (by omega)) (by omega) (fun o q42 hq => am_B2_is ?_ hq)
        refine ar_if_neB rfl rfl (fun h45 => ?_) (fun h45 => ?_)
        · try have hle : rA s 53 (10 * (b : Int) + (j : Int)) ≠ l := fun z => h28 (by rw [z])
          refine ar_inc2 rfl ?_
          refine ar_goto rfl rfl ?_
          exact ih (j + 1) _ (by omega) ⟨by omega, by omega⟩ (fun v hv => K v (by rw [hv, usR, if_pos (by omega), if_neg (by omega)]))
        · refine ar_iconst rfl ?_
          exact ar_iret rfl (Or.inr ⟨rfl, by omega⟩) (K 1 (by rw [usR, if_pos (by omega), if_pos (by omega)]))
theorem cs_usesLeg {d : Nat} {q : am_A} {s : am_Z} (V : am_CV q s) {l : Int} {b : Nat} (hl : legP s l) (hb : (b : Int) < rI s 44) : am_C2 (d + 3) m_Bk_usesLeg [aR 0 b, aR 5 (lId q l)] q (am_is2 (aI (zI (usR s b l 12 0))) q) := by
  refine am_C2_i (ls := [some (aR 0 b), some (aR 5 (lId q l)), none]) rfl ?_
  refine ar_iconst rfl ?_
  refine ar_stI2 rfl ?_
  exact lp_usesLeg (d := d) V hl hb 12 0 0 (by omega) ⟨rfl, by omega⟩ (fun v hv => by rw [hv]; exact ⟨rfl, rfl⟩)

theorem lp_near {d : Nat} {q : am_A} {Q : am_O → am_A → Prop} {s : am_Z} (V : am_CV q s) {c t : Int} {b : Nat} (hb : (b : Int) < rI s 44) (ht : t = 1 ∨ t = -1) : ∀ (m : Nat) (j : Nat) (i k : Int), 11 - j < m → (k = j ∧ j ≤ 10 ∧ -1 ≤ i ∧ i ≤ 10) → (∀ v, v = nbL q s b (nbR s b t (10 - j) i) → Q (.inl (some (aO v))) q) → am_W2 (d + 3) m_Bk_nearestLeg 7 [some (aR 0 b), some (aI (zI c)), some (aI (zI t)), some (aI (zI i)), some (aI (zI k))] [] (q) Q := by
  intro m
  induction m with
  | zero => intro j i k hm; exact absurd hm (Nat.not_lt_zero _)
  | succ m ih =>
    intro j i k hm ⟨hj, hj2, hi1, hi2⟩ K
    subst hj
    have b52 := (CV_B V).1 52 b 0 10 rfl
    have hBk := V.2.2.2.2.2.2.1.2.2.1 b hb
    have ho := V.2.2.2.2.2.2.1.2.2.2.1 b i.toNat hb
    have b55 := (CV_B V).1 55 (10 * (b : Int) + i) 0 5 rfl
    have ei : 0 ≤ i → 10 * (b : Int) + ((i.toNat : Nat) : Int) = 10 * b + i := fun z => by omega
    refine ar_iload rfl rfl ?_
    refine ar_bipush (x := 10) rfl rfl ?_
    refine ar_icmp_ge rfl rfl (by omega) (by omega) (fun h11 => ?_) (fun h11 => ?_)
    · refine ar_null rfl ?_
      exact ar_aret rfl rfl (K _ (by rw [show 10 - j = 0 by omega]; rfl))
    · refine ar_iload_n rfl rfl ?_
      refine ar_if_lt rfl rfl (by omega) (fun h15 => ?_) (fun h15 => ?_)
      · refine ar_null rfl ?_
        exact ar_aret rfl rfl (K _ (by { by_cases hjj : j = 10; rw [hjj]; rfl; rw [show 10 - j = (10 - (j + 1)) + 1 by omega, nbR, if_neg (by omega)]; rfl }))
      · refine ar_iload_n rfl rfl ?_
        refine ar_aload_n rfl rfl ?_
        refine ar_gfR rfl rfl rfl (by omega) (hBk.2.1.1) ?_
        refine ar_cv0 rfl rfl rfl (Nat.le_of_ble_eq_true rfl) (cl_szC (d := 0) V hb) (by omega) (fun o q23 hq => am_B2_is ?_ hq)
        refine ar_icmp_lt rfl rfl (by omega) (by omega) (fun h26 => ?_) (fun h26 => ?_)
        · refine ar_aload_n rfl rfl ?_
          refine ar_gfR rfl rfl rfl (by omega) (hBk.2.1.1) ?_
          refine ar_iload_n rfl rfl ?_
          refine ar_cv1 rfl rfl rfl (Nat.le_of_ble_eq_true rfl) (cl_getC (d := 0) V hb (by omega)) (by omega) (fun o q36 hq => am_B2_is ?_ hq)
          refine ar_cast rfl rfl rfl ?_
          refine ar_cv0 rfl rfl rfl (Nat.le_of_ble_eq_true rfl) (cs_isReplaced (d := 0) (((ho (by omega)).2.2.2.2 105 55 rfl).trans (by rw [ei (by omega)])) (by omega)) (by omega) (fun o q42 hq => am_B2_is ?_ hq)
          refine ar_if_neB rfl rfl (fun h45 => ?_) (fun h45 => ?_)
          · refine ar_iload_n rfl rfl ?_
            refine ar_iload_n rfl rfl ?_
            refine ar_iadd rfl ?_
            refine ar_stI3 rfl ?_
            refine ar_inc4 rfl ?_
            refine ar_goto rfl rfl ?_
            exact ih (j + 1) (i + t) _ (by omega) ⟨by omega, by omega, by omega, by omega⟩ (fun v hv => K v (by rw [hv, show 10 - j = (10 - (j + 1)) + 1 by omega, nbR, if_pos (by omega), if_pos (by omega)]))
          · refine ar_aload_n rfl rfl ?_
            refine ar_gfR rfl rfl rfl (by omega) (hBk.2.1.1) ?_
            refine ar_iload_n rfl rfl ?_
            refine ar_cv1 rfl rfl rfl (Nat.le_of_ble_eq_true rfl) (cl_getC (d := 0) V hb (by omega)) (by omega) (fun o q53 hq => am_B2_is ?_ hq)
            refine ar_cast rfl rfl rfl ?_
            refine ar_gfR rfl rfl rfl (by omega) ((ho (by omega)).2.2.1) ?_
            exact ar_aret rfl rfl (K _ (by rw [show 10 - j = (10 - (j + 1)) + 1 by omega, nbR, if_pos (by omega), if_neg (by omega), ei (by omega)]; unfold nbL; rw [if_neg (by omega)]))
        · refine ar_null rfl ?_
          exact ar_aret rfl rfl (K _ (by { by_cases hjj : j = 10; rw [hjj]; rfl; rw [show 10 - j = (10 - (j + 1)) + 1 by omega, nbR, if_neg (by omega)]; rfl }))
theorem cs_nearestLeg {d : Nat} {q : am_A} {s : am_Z} (V : am_CV q s) {c t : Int} {b : Nat} (hb : (b : Int) < rI s 44) (ht : t = 1 ∨ t = -1) (hc : 0 ≤ c ∧ c ≤ 9) : am_C2 (d + 3) m_Bk_nearestLeg [aR 0 b, aI (zI c), aI (zI t)] q (am_is2 (aO (nbL q s b (nbS s b c t))) q) := by
  refine am_C2_i (ls := [some (aR 0 b), some (aI (zI c)), some (aI (zI t)), none, none]) rfl ?_
  have b52 := (CV_B V).1 52 b 0 10 rfl
  have e1 := nbR_m (s := s) (b := b) (by omega) ht 10 (c + t) (by split <;> omega)
  have e2 := nbR_m (s := s) (b := b) (by omega) ht 11 (c + t) (by split <;> omega)
  refine ar_iload_n rfl rfl ?_
  refine ar_iload_n rfl rfl ?_
  refine ar_iadd rfl ?_
  refine ar_stI3 rfl ?_
  refine ar_iconst rfl ?_
  refine ar_stI4 rfl ?_
  exact lp_near (d := d) V hb ht 12 0 (c + t) 0 (by omega) ⟨rfl, by omega, by omega, by omega⟩ (fun v hv => by rw [hv]; exact ⟨by unfold nbS; rw [show 10 - 0 = 10 from rfl, e1, e2], rfl⟩)
end

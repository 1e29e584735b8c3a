noncomputable section
theorem cl_emL {d : Nat} {q : am_A} {s : am_Z} {t i : Nat} {n : Int} {f : Int → Int} (hk : am_kc t = some 10) (h30 : t ≠ 30) (hn : i < qCN q t) (L : am_LL q s (t, i) n f) : am_C2 d m_AL_isEmpty [aR t i] q (am_is2 (aI (zI (if n = 0 then 1 else 0))) q) := by
  have h := sq_isEmpty (d := d) (t := t) (n := i) (q := q) hk h30 hn
  have e : (if qLS q (t, i) = [] then (1 : Int) else 0) = if n = 0 then 1 else 0 := by
    by_cases h0 : qLS q (t, i) = []
    · have h1 := L.1
      rw [h0] at h1
      have h2 : n = 0 := by simpa using h1.symm
      rw [if_pos h0, if_pos h2]
    · rw [if_neg h0, if_neg (fun z => h0 (List.eq_nil_of_length_eq_zero (by have := L.1; omega)))]
  rw [e] at h
  exact h
abbrev chP (s : am_Z) (b l : Int) : Prop := pfS s b l ≠ -1 ∧ rA s 55 (10 * b + pfS s b l) = 1
def chF (s : am_Z) (l b : Int) : Int := if chP s b l then rA s 45 b else 0
abbrev bgP (s : am_Z) (f l n : Int) : Prop := rA s 22 f = rA s 5 (l / 100) ∧ (rA s 26 f ≤ l % 100 + (rA s 7 (l / 100) + rA s 17 (61 * (l / 100) + l % 100)) / 24 ∧ l % 100 + (rA s 7 (l / 100) + rA s 17 (61 * (l / 100) + l % 100)) / 24 ≤ rA s 27 f) ∧ 24 * rA s 28 f ≤ dep s l - n
theorem cs_isCheckedFor0 {d : Nat} {q : am_A} {s : am_Z} (V : am_CV q s) {l : Int} {b : Nat} (hl : legP s l) (hb : (b : Int) < rI s 44) (hn : pfS s b l = -1) : am_C2 (d + 4) m_Bk_isCheckedFor [aR 0 b, aR 5 (lId q l)] q (am_is2 (aI (zI (if chP s b l then 1 else 0))) q) := by
  refine am_C2_i (ls := [some (aR 0 b), some (aR 5 (lId q l)), none]) rfl ?_
  refine ar_aload_n rfl rfl ?_
  refine ar_aload_n rfl rfl ?_
  refine ar_cv1 rfl rfl rfl (Nat.le_of_ble_eq_true rfl) (cs_couponToFly (d := 0) V hl hb) (by omega) (fun o q2 hq => am_B2_is ?_ hq)
  rw [show pfO q s b l = none from if_pos hn]
  refine ar_stA2 rfl ?_
  refine ar_aload_n rfl rfl ?_
  refine ar_ifnull rfl rfl (fun _ => ?_) (fun r hr => absurd hr (by simp))
  refine ar_iconst rfl ?_
  exact ar_iret rfl (Or.inr ⟨rfl, by first | omega | (split <;> omega)⟩) (cq_eB (by first | omega | (split <;> omega) | simp_all))
theorem cs_isCheckedFor1 {d : Nat} {q : am_A} {s : am_Z} (V : am_CV q s) {l : Int} {b : Nat} (hl : legP s l) (hb : (b : Int) < rI s 44) (hn : pfS s b l ≠ -1) : am_C2 (d + 4) m_Bk_isCheckedFor [aR 0 b, aR 5 (lId q l)] q (am_is2 (aI (zI (if chP s b l then 1 else 0))) q) := by
  refine am_C2_i (ls := [some (aR 0 b), some (aR 5 (lId q l)), none]) rfl ?_
  have hp := pfS_b (CV_B V) hn
  have b52 := (CV_B V).1 52 b 0 10 rfl
  have b55 := (CV_B V).1 55 (10 * (b : Int) + pfS s b l) 0 5 rfl
  refine ar_aload_n rfl rfl ?_
  refine ar_aload_n rfl rfl ?_
  refine ar_cv1 rfl rfl rfl (Nat.le_of_ble_eq_true rfl) (cs_couponToFly (d := 0) V hl hb) (by omega) (fun o q2 hq => am_B2_is ?_ hq)
  rw [show pfO q s b l = some (1, cId q b (pfS s b l).toNat) from if_neg hn]
  refine ar_stA2 rfl ?_
  refine ar_aload_n rfl rfl ?_
  refine ar_ifnull rfl rfl (fun hn => absurd hn (by simp)) (fun _ _ => ?_)
  refine ar_aload_n rfl rfl ?_
  refine ar_gfIv rfl rfl rfl (by omega) (((V.2.2.2.2.2.2.1.2.2.2.1 b (pfS s b l).toNat hb (by omega)).2.2.2.2 105 55 rfl).trans (by rw [hp.2.2.2])) ?_
  refine ar_iconst rfl ?_
  refine ar_icmp_ne rfl rfl (by omega) (by omega) (fun h15 => ?_) (fun h15 => ?_)
  · refine ar_iconst rfl ?_
    exact ar_iret rfl (Or.inr ⟨rfl, by first | omega | (split <;> omega)⟩) (cq_eB (by first | omega | (split <;> omega) | simp_all))
  · refine ar_iconst rfl ?_
    refine ar_goto rfl rfl ?_
    exact ar_iret rfl (Or.inr ⟨rfl, by first | omega | (split <;> omega)⟩) (cq_eB (by first | omega | (split <;> omega) | simp_all))
theorem cs_isCheckedFor {d : Nat} {q : am_A} {s : am_Z} (V : am_CV q s) {l : Int} {b : Nat} (hl : legP s l) (hb : (b : Int) < rI s 44) : am_C2 (d + 4) m_Bk_isCheckedFor [aR 0 b, aR 5 (lId q l)] q (am_is2 (aI (zI (if chP s b l then 1 else 0))) q) := by
  by_cases hn : pfS s b l = -1
  · exact cs_isCheckedFor0 (d := d) V hl hb hn
  · exact cs_isCheckedFor1 (d := d) V hl hb hn
theorem lp_chk {d : Nat} {q : am_A} {Q : am_O → am_A → Prop} {s : am_Z} (V : am_CV q s) {l : Int} (hl : legP s l) : ∀ (m : Nat) (j : Nat) (k acc : Int), (rI s 44).toNat - j < m → (k = j ∧ (j : Int) ≤ rI s 44 ∧ acc = sumI 0 j (chF s l)) → (∀ x3, am_W2 (d + 5) m_X_checkedPersons 56 [some (aR 8 0), some (aR 5 (lId q l)), some (aI (zI (sumI 0 (rI s 44).toNat (chF s l)))), x3] [] (q) Q) → am_W2 (d + 5) m_X_checkedPersons 4 [some (aR 8 0), some (aR 5 (lId q l)), some (aI (zI acc)), some (aI (zI k))] [] (q) Q := by
  intro m
  induction m with
  | zero => intro j k acc hm; exact absurd hm (Nat.not_lt_zero _)
  | succ m ih =>
    intro j k acc hm ⟨hj, hj2, hacc⟩ K
    subst hj
    subst hacc
    have b44 := (CV_B V).2.1 44 0 40 rfl
    refine ar_iload_n rfl rfl ?_
    refine ar_aload_n rfl rfl ?_
    refine ar_gfR rfl rfl rfl (by omega) (V.1.1 806 _ rfl) ?_
    refine ar_cv0 rfl rfl rfl (Nat.le_of_ble_eq_true rfl) (cl_szB (d := 0) V) (by omega) (fun o q9 hq => am_B2_is ?_ hq)
    refine ar_icmp_ge rfl rfl (by omega) (by omega) (fun h12 => ?_) (fun h12 => ?_)
    · rw [show j = (rI s 44).toNat by omega]
      exact K _
    · refine ar_aload_n rfl rfl ?_
      refine ar_gfR rfl rfl rfl (by omega) (V.1.1 806 _ rfl) ?_
      refine ar_iload_n rfl rfl ?_
      refine ar_cv1 rfl rfl rfl (Nat.le_of_ble_eq_true rfl) (cl_getB (d := 0) V (by omega)) (by omega) (fun o q20 hq => am_B2_is ?_ hq)
      rw [Int.toNat_natCast]
      refine ar_cast rfl rfl rfl ?_
      refine ar_aload_n rfl rfl ?_
      refine ar_cv1 rfl rfl rfl (Nat.le_of_ble_eq_true rfl) (cs_isCheckedFor (d := 0) V (by assumption) (by omega)) (by omega) (fun o q27 hq => am_B2_is ?_ hq)
      refine ar_if_eqB rfl rfl (fun h30 => ?_) (fun h30 => ?_)
      · refine ar_inc3 rfl ?_
        refine ar_goto rfl rfl ?_
        have e := sumI_s 0 j (chF s l)
        rw [Int.zero_add] at e
        have e2 : chF s l (j : Int) = if chP s (j : Int) l then rA s 45 (j : Int) else 0 := rfl
        exact ih (j + 1) _ _ (by omega) ⟨by omega, by omega, by first | (rw [if_pos (by assumption)] at e2; omega) | (rw [if_neg (by assumption)] at e2; omega)⟩ K
      · refine ar_iload_n rfl rfl ?_
        refine ar_aload_n rfl rfl ?_
        refine ar_gfR rfl rfl rfl (by omega) (V.1.1 806 _ rfl) ?_
        refine ar_iload_n rfl rfl ?_
        refine ar_cv1 rfl rfl rfl (Nat.le_of_ble_eq_true rfl) (cl_getB (d := 0) V (by omega)) (by omega) (fun o q39 hq => am_B2_is ?_ hq)
        rw [Int.toNat_natCast]
        refine ar_cast rfl rfl rfl ?_
        refine ar_gfIv rfl rfl rfl (by omega) ((V.2.2.2.2.2.2.1.2.2.1 j (by omega)).1 6 45 rfl) ?_
        refine ar_iadd rfl ?_
        refine ar_stI2 rfl ?_
        refine ar_inc3 rfl ?_
        refine ar_goto rfl rfl ?_
        have e := sumI_s 0 j (chF s l)
        rw [Int.zero_add] at e
        have e2 : chF s l (j : Int) = if chP s (j : Int) l then rA s 45 (j : Int) else 0 := rfl
        exact ih (j + 1) _ _ (by omega) ⟨by omega, by omega, by first | (rw [if_pos (by assumption)] at e2; omega) | (rw [if_neg (by assumption)] at e2; omega)⟩ K
theorem cs_checkedPersons {d : Nat} {q : am_A} {s : am_Z} (V : am_CV q s) {l : Int} (hl : legP s l) : am_C2 (d + 5) m_X_checkedPersons [aR 8 0, aR 5 (lId q l)] q (am_is2 (aI (zI (sumI 0 (rI s 44).toNat (chF s l)))) q) := by
  refine am_C2_i (ls := [some (aR 8 0), some (aR 5 (lId q l)), none, none]) rfl ?_
  have b44 := (CV_B V).2.1 44 0 40 rfl
  refine ar_iconst rfl ?_
  refine ar_stI2 rfl ?_
  refine ar_iconst rfl ?_
  refine ar_stI3 rfl ?_
  refine lp_chk (d := d) V hl ((rI s 44).toNat + 1) 0 0 0 (by omega) ⟨rfl, by omega, rfl⟩ (fun x3 => ?_)
  refine ar_iload_n rfl rfl ?_
  exact ar_iret rfl (Or.inl rfl) (cq_eP (by first | rfl | omega))
theorem cs_beginsWith {d : Nat} {q : am_A} {s : am_Z} (V : am_CV q s) {f l n : Int} (hf : 0 ≤ f ∧ f < rI s 20) (hl : legP s l) (bn : 0 ≤ n ∧ n ≤ 60000) : am_C2 (d + 1) m_Fa_beginsWith [aR 3 f.toNat, aR 5 (lId q l), aI (zI n)] q (am_is2 (aI (zI (if bgP s f l n then 1 else 0))) q) := by
  refine am_C2_i (ls := [some (aR 3 f.toNat), some (aR 5 (lId q l)), some (aI (zI n)), none]) rfl ?_
  have b3 := (CV_B V).2.1 3 0 12 rfl
  have b20 := (CV_B V).2.1 20 0 16 rfl
  have hg := V.2.2.2.1.1 l hl
  have hfl := V.2.2.1.2.2.1 (l / 100).toNat (by omega)
  have ef : ((f.toNat : Nat) : Int) = f := by omega
  have el : (((l / 100).toNat : Nat) : Int) = l / 100 := by omega
  have hfa : ∀ x j, fFa x = some j → qFI q x (3, f.toNat) = rA s j f := fun x j h => by rw [(V.2.2.2.2.1.2.2 f.toNat (by omega)).1 x j h, ef]
  have hd := dep_b (CV_B V) (l := l) (by omega)
  have c7 := (CV_B V).1 7 (l / 100) 0 23 rfl
  have c17 := (CV_B V).1 17 (61 * (l / 100) + l % 100) 0 8 rfl
  have c22 := (CV_B V).1 22 f 0 5 rfl
  have c5 := (CV_B V).1 5 (l / 100) 0 5 rfl
  have c26 := (CV_B V).1 26 f (-1) 61 rfl
  have c27 := (CV_B V).1 27 f (-1) 61 rfl
  have c28 := (CV_B V).1 28 f 0 30 rfl
  refine ar_aload_n rfl rfl ?_
  refine ar_cv0 rfl rfl rfl (Nat.le_of_ble_eq_true rfl) (cs_localDay (d := 0) hg.2.2.1 hg.2.2.2.1 ((hfl.1 404 7 rfl).trans (by rw [el])) hg.2.2.2.2.2.2.2.1 (by omega) (by omega)) (by omega) (fun o q1 hq => am_B2_is ?_ hq)
  refine ar_stI3 rfl ?_
  refine ar_aload_n rfl rfl ?_
  refine ar_gfIv rfl rfl rfl (by omega) (hfa 302 22 rfl) ?_
  refine ar_aload_n rfl rfl ?_
  refine ar_gfR rfl rfl rfl (by omega) (hg.2.2.1) ?_
  refine ar_gfIv rfl rfl rfl (by omega) ((hfl.1 402 5 rfl).trans (by rw [el])) ?_
  refine ar_icmp_ne rfl rfl (by omega) (by omega) (fun h16 => ?_) (fun h16 => ?_)
  · refine ar_iconst rfl ?_
    exact ar_iret rfl (Or.inr ⟨rfl, by first | omega | (split <;> omega)⟩) (cq_eB (by first | omega | (split <;> omega) | simp_all))
  · refine ar_iload_n rfl rfl ?_
    refine ar_aload_n rfl rfl ?_
    refine ar_gfIv rfl rfl rfl (by omega) (hfa 306 26 rfl) ?_
    refine ar_icmp_lt rfl rfl (by omega) (by omega) (fun h24 => ?_) (fun h24 => ?_)
    · refine ar_iconst rfl ?_
      exact ar_iret rfl (Or.inr ⟨rfl, by first | omega | (split <;> omega)⟩) (cq_eB (by first | omega | (split <;> omega) | simp_all))
    · refine ar_iload_n rfl rfl ?_
      refine ar_aload_n rfl rfl ?_
      refine ar_gfIv rfl rfl rfl (by omega) (hfa 307 27 rfl) ?_
      refine ar_icmp_gt rfl rfl (by omega) (by omega) (fun h32 => ?_) (fun h32 => ?_)
      · refine ar_iconst rfl ?_
        exact ar_iret rfl (Or.inr ⟨rfl, by first | omega | (split <;> omega)⟩) (cq_eB (by first | omega | (split <;> omega) | simp_all))
      · refine ar_aload_n rfl rfl ?_
        refine ar_gfIv rfl rfl rfl (by omega) (hg.2.2.2.2.2.1) ?_
        refine ar_iload_n rfl rfl ?_
        refine ar_isub rfl ?_
        refine ar_bipush (x := 24) rfl rfl ?_
        refine ar_aload_n rfl rfl ?_
        refine ar_gfIv rfl rfl rfl (by omega) (hfa 308 28 rfl) ?_
        refine ar_imul rfl ?_
        refine ar_icmp_lt rfl rfl (by omega) (by omega) (fun h48 => ?_) (fun h48 => ?_)
        · refine ar_iconst rfl ?_
          exact ar_iret rfl (Or.inr ⟨rfl, by first | omega | (split <;> omega)⟩) (cq_eB (by first | omega | (split <;> omega) | simp_all))
        · refine ar_iconst rfl ?_
          refine ar_goto rfl rfl ?_
          exact ar_iret rfl (Or.inr ⟨rfl, by first | omega | (split <;> omega)⟩) (cq_eB (by first | omega | (split <;> omega) | simp_all))
theorem cs_isBroken0 {d : Nat} {q : am_A} {s : am_Z} (V : am_CV q s) {c : Int} {b : Nat} (hb : (b : Int) < rI s 44) (hc : 0 ≤ c ∧ c < rA s 52 b) (hn : nbS s b c (-1) = -1) : am_C2 (d + 5) m_Bk_isBroken [aR 0 b, aR 1 (cId q b c.toNat)] q (am_is2 (aI (zI (if rA s 18 (61 * (rA s 53 (10 * b + c) / 100) + rA s 53 (10 * b + c) % 100) ≠ 0 ∨ lateP s b c then 1 else 0))) q) := by
  refine am_C2_i (ls := [some (aR 0 b), some (aR 1 (cId q b c.toNat)), none, none]) rfl ?_
  have b3 := (CV_B V).2.1 3 0 12 rfl
  have b52 := (CV_B V).1 52 b 0 10 rfl
  have ho := V.2.2.2.2.2.2.1.2.2.2.1 b c.toNat hb (by omega)
  have ec : 10 * (b : Int) + ((c.toNat : Nat) : Int) = 10 * b + c := by omega
  have hleg : qFR q 100 (1, cId q b c.toNat) = some (5, lId q (rA s 53 (10 * b + c))) := by { rw [ho.2.2.1, ec] }
  have hlp : legP s (rA s 53 (10 * b + c)) := by { have z := ho.2.2.2.1; rw [ec] at z; exact z }
  have hg := V.2.2.2.1.1 _ hlp
  have hd := dep_b (CV_B V) (l := rA s 53 (10 * b + c)) (by omega)
  have hcc := (CV_B V).1 18 (61 * (rA s 53 (10 * b + c) / 100) + rA s 53 (10 * b + c) % 100) 0 1 rfl
  refine ar_aload_n rfl rfl ?_
  refine ar_gfR rfl rfl rfl (by omega) (hleg) ?_
  refine ar_stA2 rfl ?_
  refine ar_aload_n rfl rfl ?_
  refine ar_aload_n rfl rfl ?_
  refine ar_iconst rfl ?_
  refine ar_cv2 rfl rfl rfl (Nat.le_of_ble_eq_true rfl) (cs_nearestLeg (d := 0) V hb (by omega) hc) (by omega) (fun o q8 hq => am_B2_is ?_ hq)
  rw [show nbL q s b (nbS s b c (-1)) = none from if_pos hn]
  refine ar_stA3 rfl ?_
  refine ar_aload_n rfl rfl ?_
  refine ar_gfIv rfl rfl rfl (by omega) (hg.2.2.2.2.2.2.2.2) ?_
  refine ar_if_ne rfl rfl (by omega) (fun h16 => ?_) (fun h16 => ?_)
  · refine ar_iconst rfl ?_
    refine ar_goto rfl rfl ?_
    exact ar_iret rfl (Or.inr ⟨rfl, by first | omega | (split <;> omega)⟩) (cq_eB (by first | omega | (split <;> omega) | simp_all))
  · refine ar_aload_n rfl rfl ?_
    refine ar_ifnull rfl rfl (fun _ => ?_) (fun r hr => absurd hr (by simp))
    refine ar_iconst rfl ?_
    exact ar_iret rfl (Or.inr ⟨rfl, by first | omega | (split <;> omega)⟩) (cq_eB (by first | omega | (split <;> omega) | simp_all))
theorem cs_isBroken1 {d : Nat} {q : am_A} {s : am_Z} (V : am_CV q s) {c : Int} {b : Nat} (hb : (b : Int) < rI s 44) (hc : 0 ≤ c ∧ c < rA s 52 b) (hn : nbS s b c (-1) ≠ -1) : am_C2 (d + 5) m_Bk_isBroken [aR 0 b, aR 1 (cId q b c.toNat)] q (am_is2 (aI (zI (if rA s 18 (61 * (rA s 53 (10 * b + c) / 100) + rA s 53 (10 * b + c) % 100) ≠ 0 ∨ lateP s b c then 1 else 0))) q) := by
  refine am_C2_i (ls := [some (aR 0 b), some (aR 1 (cId q b c.toNat)), none, none]) rfl ?_
  have b3 := (CV_B V).2.1 3 0 12 rfl
  have b52 := (CV_B V).1 52 b 0 10 rfl
  have ho := V.2.2.2.2.2.2.1.2.2.2.1 b c.toNat hb (by omega)
  have ec : 10 * (b : Int) + ((c.toNat : Nat) : Int) = 10 * b + c := by omega
  have hleg : qFR q 100 (1, cId q b c.toNat) = some (5, lId q (rA s 53 (10 * b + c))) := by { rw [ho.2.2.1, ec] }
  have hlp : legP s (rA s 53 (10 * b + c)) := by { have z := ho.2.2.2.1; rw [ec] at z; exact z }
  have hg := V.2.2.2.1.1 _ hlp
  have hd := dep_b (CV_B V) (l := rA s 53 (10 * b + c)) (by omega)
  have hcc := (CV_B V).1 18 (61 * (rA s 53 (10 * b + c) / 100) + rA s 53 (10 * b + c) % 100) 0 1 rfl
  have hnr := nbR_b s b (-1) 12 (c + -1)
  have en : nbS s b c (-1) = nbR s b (-1) 12 (c + -1) := rfl
  have ho2 := V.2.2.2.2.2.2.1.2.2.2.1 b (nbS s b c (-1)).toNat hb (by omega)
  have ec2 : 10 * (b : Int) + (((nbS s b c (-1)).toNat : Nat) : Int) = 10 * b + nbS s b c (-1) := by omega
  have hlp2 : legP s (rA s 53 (10 * b + nbS s b c (-1))) := by { have z := ho2.2.2.2.1; rw [ec2] at z; exact z }
  have hg2 := V.2.2.2.1.1 _ hlp2
  have ha2 := arv_b (CV_B V) (l := rA s 53 (10 * b + nbS s b c (-1))) (by omega)
  refine ar_aload_n rfl rfl ?_
  refine ar_gfR rfl rfl rfl (by omega) (hleg) ?_
  refine ar_stA2 rfl ?_
  refine ar_aload_n rfl rfl ?_
  refine ar_aload_n rfl rfl ?_
  refine ar_iconst rfl ?_
  refine ar_cv2 rfl rfl rfl (Nat.le_of_ble_eq_true rfl) (cs_nearestLeg (d := 0) V hb (by omega) hc) (by omega) (fun o q8 hq => am_B2_is ?_ hq)
  rw [show nbL q s b (nbS s b c (-1)) = some (5, lId q (rA s 53 (10 * b + nbS s b c (-1)))) from if_neg hn]
  refine ar_stA3 rfl ?_
  refine ar_aload_n rfl rfl ?_
  refine ar_gfIv rfl rfl rfl (by omega) (hg.2.2.2.2.2.2.2.2) ?_
  refine ar_if_ne rfl rfl (by omega) (fun h16 => ?_) (fun h16 => ?_)
  · refine ar_iconst rfl ?_
    refine ar_goto rfl rfl ?_
    exact ar_iret rfl (Or.inr ⟨rfl, by first | omega | (split <;> omega)⟩) (cq_eB (by first | omega | (split <;> omega) | simp_all))
  · refine ar_aload_n rfl rfl ?_
    refine ar_ifnull rfl rfl (fun hn => absurd hn (by simp)) (fun _ _ => ?_)
    refine ar_aload_n rfl rfl ?_
    refine ar_gfIv rfl rfl rfl (by omega) (hg.2.2.2.2.2.1) ?_
    refine ar_aload_n rfl rfl ?_
    refine ar_gfIv rfl rfl rfl (by omega) (hg2.2.2.2.2.2.2.1) ?_
    refine ar_iconst rfl ?_
    refine ar_iadd rfl ?_
    refine ar_icmp_ge rfl rfl (by omega) (by omega) (fun h33 => ?_) (fun h33 => ?_)
    · refine ar_iconst rfl ?_
      exact ar_iret rfl (Or.inr ⟨rfl, by first | omega | (split <;> omega)⟩) (cq_eB (by first | omega | (split <;> omega) | simp_all))
    · refine ar_iconst rfl ?_
      refine ar_goto rfl rfl ?_
      exact ar_iret rfl (Or.inr ⟨rfl, by first | omega | (split <;> omega)⟩) (cq_eB (by first | omega | (split <;> omega) | simp_all))
theorem cs_isBroken {d : Nat} {q : am_A} {s : am_Z} (V : am_CV q s) {c : Int} {b : Nat} (hb : (b : Int) < rI s 44) (hc : 0 ≤ c ∧ c < rA s 52 b) : am_C2 (d + 5) m_Bk_isBroken [aR 0 b, aR 1 (cId q b c.toNat)] q (am_is2 (aI (zI (if rA s 18 (61 * (rA s 53 (10 * b + c) / 100) + rA s 53 (10 * b + c) % 100) ≠ 0 ∨ lateP s b c then 1 else 0))) q) := by
  by_cases hn : nbS s b c (-1) = -1
  · exact cs_isBroken0 (d := d) V hb hc hn
  · exact cs_isBroken1 (d := d) V hb hc hn
theorem cs_waits {d : Nat} {q : am_A} {s : am_Z} (V : am_CV q s) {n : Int} {w : Nat} (hw : (w : Int) < rI s 61) (bn : 0 ≤ n ∧ n ≤ 60000) : am_C2 (d + 3) m_Wi_waits [aR 7 w, aI (zI n)] q (am_is2 (aI (zI (if rA s 66 w = -1 ∧ rA s 64 w ≠ 0 ∧ ¬ (rA s 18 (61 * (rA s 65 (4 * w) / 100) + rA s 65 (4 * w) % 100) = 0 ∧ dep s (rA s 65 (4 * w)) ≤ n) then 1 else 0))) q) := by
  refine am_C2_i (ls := [some (aR 7 w), some (aI (zI n))]) rfl ?_
  have b3 := (CV_B V).2.1 3 0 12 rfl
  have b61 := (CV_B V).2.1 61 0 20 rfl
  have hww := V.2.2.2.2.2.2.2.1.2.2 w hw
  have hcn : w < qCN q 1702 := Nat.lt_of_lt_of_le (by omega) V.2.2.2.2.2.2.2.1.2.1.2
  have b66 := (CV_B V).1 66 w (-1) 39 rfl
  have b64 := (CV_B V).1 64 w 0 4 rfl
  have e0 : 4 * (w : Int) + 0 = 4 * w := by omega
  refine ar_aload_n rfl rfl ?_
  refine ar_gfIv rfl rfl rfl (by omega) (hww.1 703 66 rfl) ?_
  refine ar_iconst rfl ?_
  refine ar_icmp_ne rfl rfl (by omega) (by omega) (fun h5 => ?_) (fun h5 => ?_)
  · refine ar_iconst rfl ?_
    exact ar_iret rfl (Or.inr ⟨rfl, by first | omega | (split <;> omega)⟩) (cq_eB (by first | omega | (split <;> omega) | simp_all))
  · refine ar_aload_n rfl rfl ?_
    refine ar_gfR rfl rfl rfl (by omega) (hww.2.1) ?_
    refine ar_cv0 rfl rfl rfl (Nat.le_of_ble_eq_true rfl) (cl_emL (d := 0) rfl (by omega) hcn hww.2.2) (by omega) (fun o q12 hq => am_B2_is ?_ hq)
    refine ar_if_neB rfl rfl (fun h15 => ?_) (fun h15 => ?_)
    · refine ar_iconst rfl ?_
      exact ar_iret rfl (Or.inr ⟨rfl, by first | omega | (split <;> omega)⟩) (cq_eB (by first | omega | (split <;> omega) | simp_all))
    · refine ar_aload_n rfl rfl ?_
      refine ar_gfR rfl rfl rfl (by omega) (hww.2.1) ?_
      refine ar_iconst rfl ?_
      refine ar_cv1 rfl rfl rfl (Nat.le_of_ble_eq_true rfl) (cl_getL (d := 0) rfl (by omega) hcn hww.2.2 (by omega)) (by omega) (fun o q23 hq => am_B2_is ?_ hq)
      rw [e0]
      have hlp : legP s (rA s 65 (4 * w)) := by { have z := LL_leg hww.2.2 (k := 0) (by omega); rw [e0] at z; exact z }
      have hg := V.2.2.2.1.1 _ hlp
      have hd := dep_b (CV_B V) (l := rA s 65 (4 * w)) (by omega)
      have hcc := (CV_B V).1 18 (61 * (rA s 65 (4 * w) / 100) + rA s 65 (4 * w) % 100) 0 1 rfl
      refine ar_cast rfl rfl rfl ?_
      refine ar_iload_n rfl rfl ?_
      refine ar_cv1 rfl rfl rfl (Nat.le_of_ble_eq_true rfl) (cs_hasDeparted (d := 0) hg.2.2.2.2.2.2.2.2 hg.2.2.2.2.2.1 (by omega) (by omega) (by omega)) (by omega) (fun o q30 hq => am_B2_is ?_ hq)
      refine ar_if_neB rfl rfl (fun h33 => ?_) (fun h33 => ?_)
      · refine ar_iconst rfl ?_
        exact ar_iret rfl (Or.inr ⟨rfl, by first | omega | (split <;> omega)⟩) (cq_eB (by first | omega | (split <;> omega) | simp_all))
      · refine ar_iconst rfl ?_
        refine ar_goto rfl rfl ?_
        exact ar_iret rfl (Or.inr ⟨rfl, by first | omega | (split <;> omega)⟩) (cq_eB (by first | omega | (split <;> omega) | simp_all))
theorem cs_wished {d : Nat} {q : am_A} {s : am_Z} (V : am_CV q s) {w : Int} (bw : in32 w) (hne : ∀ w, 0 ≤ w → w < rI s 61 → 1 ≤ rA s 64 w) : am_C2 (d + 4) m_X_wished [aR 8 0, aI (zI w)] q (am_T2 (0 ≤ w ∧ w < rI s 61) 13 (some (aI (zI (wishedS s w)))) q) := by
  refine am_C2_i (ls := [some (aR 8 0), some (aI (zI w)), none]) rfl ?_
  have b0 := (CV_B V).2.1 0 0 60000 rfl
  have b61 := (CV_B V).2.1 61 0 20 rfl
  refine ar_iload_n rfl rfl ?_
  refine ar_aload_n rfl rfl ?_
  refine ar_gfR rfl rfl rfl (by omega) (V.1.1 807 _ rfl) ?_
  refine ar_cv0 rfl rfl rfl (Nat.le_of_ble_eq_true rfl) (cl_szW (d := 0) V) (by omega) (fun o q5 hq => am_B2_is ?_ hq)
  refine ar_cs2 rfl rfl (Nat.le_of_ble_eq_true rfl) (cs_needIndex (d := 0) (by omega) (by omega)) (by omega) (fun o q8 hq => am_B2_T rfl (fun h8 => ?_) (fun h8 => ?_) hq)
  · have ew : ((w.toNat : Nat) : Int) = w := by omega
    have hf66 : qFI q 703 (7, w.toNat) = rA s 66 w := by { rw [(V.2.2.2.2.2.2.2.1.2.2 w.toNat (by omega)).1 703 66 rfl, ew] }
    have b66 := (CV_B V).1 66 w (-1) 39 rfl
    have hn1 := hne w (by omega) (by omega)
    refine ar_aload_n rfl rfl ?_
    refine ar_gfR rfl rfl rfl (by omega) (V.1.1 807 _ rfl) ?_
    refine ar_iload_n rfl rfl ?_
    refine ar_cv1 rfl rfl rfl (Nat.le_of_ble_eq_true rfl) (cl_getW (d := 0) V (by omega)) (by omega) (fun o q16 hq => am_B2_is ?_ hq)
    refine ar_cast rfl rfl rfl ?_
    refine ar_stA2 rfl ?_
    refine ar_aload_n rfl rfl ?_
    refine ar_gfIv rfl rfl rfl (by omega) (hf66) ?_
    refine ar_iconst rfl ?_
    refine ar_icmp_ne rfl rfl (by omega) (by omega) (fun h28 => ?_) (fun h28 => ?_)
    · refine ar_aload_n rfl rfl ?_
      refine ar_gfIv rfl rfl rfl (by omega) (hf66) ?_
      refine ar_goto rfl rfl ?_
      exact ar_iret rfl (Or.inl rfl) (⟨fun _ => ⟨congrArg (fun x => (Sum.inl (some (aI (zI x))) : am_O)) (by unfold wishedS; omega), rfl⟩, fun z => absurd (by omega) z⟩)
    · refine ar_aload_n rfl rfl ?_
      refine ar_aload_n rfl rfl ?_
      refine ar_gfIv rfl rfl rfl (by omega) (V.2.1.2.2.2.2.1) ?_
      refine ar_cv1 rfl rfl rfl (Nat.le_of_ble_eq_true rfl) (cs_waits (d := 0) V (by omega) (by omega)) (by omega) (fun o q36 hq => am_B2_is ?_ hq)
      rw [ew]
      refine ar_if_eqB rfl rfl (fun h39 => ?_) (fun h39 => ?_)
      · refine ar_bipush (x := -2) rfl rfl ?_
        exact ar_iret rfl (Or.inl rfl) (⟨fun _ => ⟨congrArg (fun x => (Sum.inl (some (aI (zI x))) : am_O)) (by unfold wishedS; omega), rfl⟩, fun z => absurd (by omega) z⟩)
      · refine ar_aload_n rfl rfl ?_
        refine ar_gfIv rfl rfl rfl (by omega) (hf66) ?_
        refine ar_goto rfl rfl ?_
        exact ar_iret rfl (Or.inl rfl) (⟨fun _ => ⟨congrArg (fun x => (Sum.inl (some (aI (zI x))) : am_O)) (by unfold wishedS; omega), rfl⟩, fun z => absurd (by omega) z⟩)
  · exact ⟨fun z => absurd z (by omega), fun _ => ⟨rfl, rfl⟩⟩
end

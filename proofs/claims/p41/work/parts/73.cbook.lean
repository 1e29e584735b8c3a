noncomputable section
def pfoS (s : am_Z) (b : Int) : Int := sumI (4 * b) 4 (rA s 59) + sumI (10 * b) (rA s 52 b).toNat (rA s 58)
def fBeg (s : am_Z) (b t : Int) (k : Nat) : Int := if rA s 56 (10 * b + k) = t ∧ (rA s 55 (10 * b + k) = 2 ∨ rA s 55 (10 * b + k) = 3) then 1 else 0
abbrev begP (s : am_Z) (b t : Int) : Prop := orN (fBeg s b t) (rA s 52 b).toNat ≠ 0
def cbS (s : am_Z) (b t : Int) : Int := if begP s b t then 0 else rA s 60 (4 * b + t)
def cbV (s : am_Z) (b : Int) : Int := sumI 0 4 (cbS s b) + sumI (10 * b) (rA s 52 b).toNat (gbT s)
theorem wA_same {s : am_Z} {j : Nat} {i v : Int} (h : rA s j i = v) : wA s j i v = s := by
  have e : (fun j' i' => if j' = j ∧ i' = i then v else s.1 j' i') = s.1 := by
    funext j' i'
    split
    · rename_i z
      rw [z.1, z.2]
      exact h.symm
    · rfl
  unfold wA
  rw [e]
theorem vd_1 {s : am_Z} {b : Int} {j : Nat} (h : rA s 55 (10 * b + j) ≤ 1) : wA (wB s 55 (10 * b) j (gVoid s)) 55 (10 * b + j) 5 = wB s 55 (10 * b) (j + 1) (gVoid s) := by
  have e : gVoid s (10 * b + j) = 5 := if_pos h
  rw [← wB_s, e]
theorem vd_0 {s : am_Z} {b : Int} {j : Nat} (h : ¬ rA s 55 (10 * b + j) ≤ 1) : wB s 55 (10 * b) j (gVoid s) = wB s 55 (10 * b) (j + 1) (gVoid s) := by
  have e : gVoid s (10 * b + j) = rA s 55 (10 * b + j) := if_neg h
  rw [← wB_s, e]
  exact (wA_same (wB_n s 55 (10 * b) j (gVoid s))).symm
theorem lp_pf1 {d : Nat} {q : am_A} {Q : am_O → am_A → Prop} {s : am_Z} (V : am_CV q s) {b : Nat} (hb : (b : Int) < rI s 44)  : ∀ (m : Nat) (j : Nat) (k acc : Int), 4 - j < m → (k = j ∧ j ≤ 4 ∧ acc = sumI (4 * (b : Int)) j (rA s 59)) → (∀ x2, am_W2 d m_Bk_paidForOne 24 [some (aR 0 b), some (aI (zI (sumI (4 * (b : Int)) 4 (rA s 59)))), x2] [] (q) Q) → am_W2 d m_Bk_paidForOne 4 [some (aR 0 b), some (aI (zI acc)), some (aI (zI k))] [] (q) Q := by
  intro m
  induction m with
  | zero => intro j k acc hm; exact absurd hm (Nat.not_lt_zero _)
  | succ m ih =>
    intro j k acc hm ⟨hj, hj2, hacc⟩ K
    subst hj
    subst hacc
    have hB := V.2.2.2.2.2.2.1.2.2.1 b hb
    have b52 := (CV_B V).1 52 b 0 10 rfl
    refine ar_iload_n rfl rfl ?_
    refine ar_iconst rfl ?_
    refine ar_icmp_ge rfl rfl (by omega) (by omega) (fun h6 => ?_) (fun h6 => ?_)
    · rw [show j = 4 by omega]
      exact K _
    · refine ar_iload_n rfl rfl ?_
      refine ar_aload_n rfl rfl ?_
      refine ar_gfR rfl rfl rfl (by omega) (hB.2.1.2.1) ?_
      refine ar_iload_n rfl rfl ?_
      refine ar_ia rfl rfl (hB.2.2.1.1) (by omega) (by omega) ?_
      rw [(hB.2.2.2.1 (j : Int) (by omega) (by omega)).1]
      refine ar_iadd rfl ?_
      refine ar_stI1 rfl ?_
      refine ar_inc2 rfl ?_
      refine ar_goto rfl rfl ?_
      have es := sumI_s (4 * (b : Int)) j (rA s 59)
      exact ih (j + 1) _ _ (by omega) ⟨by omega, by omega, by omega⟩ K
theorem lp_pf2 {d : Nat} {q : am_A} {Q : am_O → am_A → Prop} {s : am_Z} (V : am_CV q s) {b : Nat} (hb : (b : Int) < rI s 44) {a0 : Int}  : ∀ (m : Nat) (j : Nat) (k acc : Int), (rA s 52 b).toNat - j < m → (k = j ∧ (j : Int) ≤ rA s 52 b ∧ acc = a0 + sumI (10 * (b : Int)) j (rA s 58)) → (∀ x2, am_W2 (d + 3) m_Bk_paidForOne 60 [some (aR 0 b), some (aI (zI (a0 + sumI (10 * (b : Int)) (rA s 52 b).toNat (rA s 58)))), x2] [] (q) Q) → am_W2 (d + 3) m_Bk_paidForOne 26 [some (aR 0 b), some (aI (zI acc)), some (aI (zI k))] [] (q) Q := by
  intro m
  induction m with
  | zero => intro j k acc hm; exact absurd hm (Nat.not_lt_zero _)
  | succ m ih =>
    intro j k acc hm ⟨hj, hj2, hacc⟩ K
    subst hj
    subst hacc
    have hB := V.2.2.2.2.2.2.1.2.2.1 b hb
    have b52 := (CV_B V).1 52 b 0 10 rfl
    refine ar_iload_n rfl rfl ?_
    refine ar_aload_n rfl rfl ?_
    refine ar_gfR rfl rfl rfl (by omega) (hB.2.1.1) ?_
    refine ar_cv0 rfl rfl rfl (Nat.le_of_ble_eq_true rfl) (cl_szC (d := 0) V hb) (by omega) (fun o q31 hq => am_B2_is ?_ hq)
    refine ar_icmp_ge rfl rfl (by omega) (by omega) (fun h34 => ?_) (fun h34 => ?_)
    · rw [show j = (rA s 52 b).toNat by omega]
      exact K _
    · refine ar_iload_n rfl rfl ?_
      refine ar_aload_n rfl rfl ?_
      refine ar_gfR rfl rfl rfl (by omega) (hB.2.1.1) ?_
      refine ar_iload_n rfl rfl ?_
      refine ar_cv1 rfl rfl rfl (Nat.le_of_ble_eq_true rfl) (cl_getC (d := 0) V hb (by omega)) (by omega) (fun o q43 hq => am_B2_is ?_ hq)
      rw [Int.toNat_natCast]
      refine ar_cast rfl rfl rfl ?_
      refine ar_gfIv rfl rfl rfl (by omega) ((V.2.2.2.2.2.2.1.2.2.2.1 b j hb (by omega)).2.2.2.2 104 58 rfl) ?_
      refine ar_iadd rfl ?_
      refine ar_stI1 rfl ?_
      refine ar_inc2 rfl ?_
      refine ar_goto rfl rfl ?_
      have es := sumI_s (10 * (b : Int)) j (rA s 58)
      exact ih (j + 1) _ _ (by omega) ⟨by omega, by omega, by omega⟩ K
theorem cs_paidForOne {d : Nat} {q : am_A} {s : am_Z} (V : am_CV q s) {b : Nat} (hb : (b : Int) < rI s 44)  : am_C2 (d + 3) m_Bk_paidForOne [aR 0 b] q (am_is2 (aI (zI (pfoS s b))) q) := by
  refine am_C2_i (ls := [some (aR 0 b), none, none]) rfl ?_
  have b52 := (CV_B V).1 52 b 0 10 rfl
  refine ar_iconst rfl ?_
  refine ar_stI1 rfl ?_
  refine ar_iconst rfl ?_
  refine ar_stI2 rfl ?_
  refine lp_pf1 (d := d + 3) V hb 5 0 0 0 (by omega) ⟨rfl, by omega, rfl⟩ (fun x2 => ?_)
  refine ar_iconst rfl ?_
  refine ar_stI2 rfl ?_
  refine lp_pf2 (d := d) V hb (a0 := sumI (4 * (b : Int)) 4 (rA s 59)) ((rA s 52 b).toNat + 1) 0 0 _ (by omega) ⟨rfl, by omega, (Int.add_zero _).symm⟩ (fun x2 => ?_)
  refine ar_iload_n rfl rfl ?_
  exact ar_iret rfl (Or.inl rfl) (cq_eP rfl)
theorem cs_ticket {d : Nat} {q : am_A} {s : am_Z} (V : am_CV q s)  {b : Int} (hb : in32 b) : am_C2 (d + 4) m_X_ticket [aR 8 0, aI (zI b)] q (am_OK (kTicket s b) kd2 (some (aI (zI (rA s 45 b * pfoS s b)))) q (fun q2 => q2 = uFI q 7 (0, b.toNat) 1)) := by
  refine am_C2_i (ls := [some (aR 8 0), some (aI (zI b)), none]) rfl ?_
  have b44 := (CV_B V).2.1 44 0 40 rfl
  refine ar_aload_n rfl rfl ?_
  refine ar_iload_n rfl rfl ?_
  refine ar_cv1 rfl rfl rfl (Nat.le_of_ble_eq_true rfl) (cs_findBooking (d := 0) V (by omega)) (by omega) (fun o q2 hq => am_B2_T rfl (fun h2 => ?_) (fun h2 => ?_) hq)
  · have hB := V.2.2.2.2.2.2.1.2.2.1 b.toNat (by omega)
    have eb : ((b.toNat : Nat) : Int) = b := by omega
    have b47 := (CV_B V).1 47 b 0 3 rfl
    refine ar_stA2 rfl ?_
    refine cq_join (pc' := 18) (V := if rA s 47 b = 0 then 1 else 0) ?_ (fun K18 => ?_)
    · refine ar_cs1 rfl rfl (Nat.le_of_ble_eq_true rfl) (cs_needState (d := 0) (by omega)) (by omega) (fun o q18 hq => am_B2_T rfl (fun h18 => ?_) (fun h18 => ?_) hq)
      · refine ar_aload_n rfl rfl ?_
        refine ar_iconst rfl ?_
        refine ar_pfI rfl rfl rfl rfl (by omega) (Or.inl rfl) ?_
        have V2 : am_CV (uFI q 7 (0, b.toNat) 1) (wA s 47 b 1) := by { have z := CV_wB V (f0 := 7) (j0 := 47) (b0 := b.toNat) (v := 1) rfl (fun lo hi h => by cases h; omega); rw [eb] at z; exact z }
        refine ar_aload_n rfl rfl ?_
        refine ar_gfIv rfl rfl rfl (by omega) ((ff_ne (by omega)).trans ((hB.1 6 45 rfl).trans (by rw [eb]))) ?_
        refine ar_aload_n rfl rfl ?_
        refine ar_cv0 rfl rfl rfl (Nat.le_of_ble_eq_true rfl) (cs_paidForOne (d := 0) V2 (by show ((b.toNat : Nat) : Int) < rI s 44; omega)) (by omega) (fun o q31 hq => am_B2_is ?_ hq)
        rw [show pfoS (wA s 47 b 1) ((b.toNat : Nat) : Int) = pfoS s b from by rw [eb]; rfl]
        refine ar_imul rfl ?_
        exact ar_iret rfl (Or.inl rfl) (⟨fun _ => ⟨rfl, rfl⟩, fun z => absurd (by unfold kTicket; omega) z⟩)
      · exact ⟨fun z => absurd z (by unfold kTicket; omega), fun _ => by { rw [show kTicket s b = 2 from by { unfold kTicket; omega }]; exact ⟨rfl, rfl⟩ }⟩
    · refine ar_aload_n rfl rfl ?_
      refine ar_gfIv rfl rfl rfl (by omega) (((hB.1 7 47 rfl).trans (by rw [eb]))) ?_
      refine ar_if_ne rfl rfl (by omega) (fun h10 => ?_) (fun h10 => ?_)
      · refine ar_iconst rfl ?_
        exact K18 _ (by first | (rw [if_pos (by omega)]) | (rw [if_neg (by omega)]))
      · refine ar_iconst rfl ?_
        refine ar_goto rfl rfl ?_
        exact K18 _ (by first | (rw [if_pos (by omega)]) | (rw [if_neg (by omega)]))
  · exact ⟨fun z => absurd z (by unfold kTicket; omega), fun _ => by { rw [show kTicket s b = 1 from by { unfold kTicket; omega }]; exact ⟨rfl, rfl⟩ }⟩
theorem co_ticket {d e : Nat} {q : am_A} {s : am_Z} (I : am_CI e q s) {b : Int} (hb : in32 b) : am_C2 (d + 4) m_X_ticket [aR 8 0, aI (zI b)] q (am_OP e (kTicket s b) kd2 (some (aI (zI (rA s 45 b * pfoS s b)))) q (if kTicket s b = 0 then wA s 47 b 1 else s)) := by
  refine am_C2_imp (cs_ticket (d := d) I.1 hb) (fun o q' h => OP_of I (fun _ => kd2_b) h (fun h0 hq => ?_) (fun h => if_neg h))
  rw [if_pos h0]
  unfold kTicket at h0
  have eb : ((b.toNat : Nat) : Int) = b := by omega
  subst hq
  exact ⟨CI_w (CI_le I (Nat.le_succ e)) (by have z := CV_wB I.1 (f0 := 7) (j0 := 47) (b0 := b.toNat) (v := 1) rfl (fun lo hi h => by cases h; omega); rw [eb] at z; exact z) rfl rfl rfl rfl (fun _ => ⟨rfl, rfl⟩) ⟨rfl, rfl, rfl⟩, CG_FI CG_r (by show cK 0; omega)⟩
theorem cs_volunteer {d : Nat} {q : am_A} {s : am_Z} (V : am_CV q s)  {b : Int} (hb : in32 b) : am_C2 (d + 4) m_X_volunteer [aR 8 0, aI (zI b)] q (am_OK (kBooking s b) kd2 (some (aI (zI (1 - rA s 51 b)))) q (fun q2 => q2 = uFI q 8 (0, b.toNat) (1 - rA s 51 b))) := by
  refine am_C2_i (ls := [some (aR 8 0), some (aI (zI b)), none]) rfl ?_
  have b44 := (CV_B V).2.1 44 0 40 rfl
  refine ar_aload_n rfl rfl ?_
  refine ar_iload_n rfl rfl ?_
  refine ar_cv1 rfl rfl rfl (Nat.le_of_ble_eq_true rfl) (cs_findBooking (d := 0) V (by omega)) (by omega) (fun o q2 hq => am_B2_T rfl (fun h2 => ?_) (fun h2 => ?_) hq)
  · have hB := V.2.2.2.2.2.2.1.2.2.1 b.toNat (by omega)
    have eb : ((b.toNat : Nat) : Int) = b := by omega
    have b51 := (CV_B V).1 51 b 0 1 rfl
    refine ar_stA2 rfl ?_
    refine ar_aload_n rfl rfl ?_
    refine cq_join (pc' := 19) (V := 1 - rA s 51 b) ?_ (fun K19 => ?_)
    · refine ar_pfI rfl rfl rfl rfl (by omega) (Or.inr (by omega)) ?_
      refine ar_aload_n rfl rfl ?_
      refine ar_gfIv rfl rfl rfl (by omega) (ff_eq) ?_
      exact ar_iret rfl (Or.inr ⟨rfl, by first | omega | (split <;> omega)⟩) (⟨fun _ => ⟨rfl, rfl⟩, fun z => absurd (by unfold kBooking; omega) z⟩)
    · refine ar_aload_n rfl rfl ?_
      refine ar_gfIv rfl rfl rfl (by omega) (((hB.1 8 51 rfl).trans (by rw [eb]))) ?_
      refine ar_if_ne rfl rfl (by omega) (fun h11 => ?_) (fun h11 => ?_)
      · refine ar_iconst rfl ?_
        exact K19 _ (by omega)
      · refine ar_iconst rfl ?_
        refine ar_goto rfl rfl ?_
        exact K19 _ (by omega)
  · exact ⟨fun z => absurd z (by unfold kBooking; omega), fun _ => by { rw [show kBooking s b = 1 from by { unfold kBooking; omega }]; exact ⟨rfl, rfl⟩ }⟩
theorem co_volunteer {d e : Nat} {q : am_A} {s : am_Z} (I : am_CI e q s) {b : Int} (hb : in32 b) : am_C2 (d + 4) m_X_volunteer [aR 8 0, aI (zI b)] q (am_OP e (kBooking s b) kd2 (some (aI (zI (1 - rA s 51 b)))) q (if kBooking s b = 0 then wA s 51 b (1 - rA s 51 b) else s)) := by
  refine am_C2_imp (cs_volunteer (d := d) I.1 hb) (fun o q' h => OP_of I (fun _ => kd2_b) h (fun h0 hq => ?_) (fun h => if_neg h))
  rw [if_pos h0]
  unfold kBooking at h0
  have eb : ((b.toNat : Nat) : Int) = b := by omega
  have b51 := (CV_B I.1).1 51 b 0 1 rfl
  subst hq
  exact ⟨CI_w (CI_le I (Nat.le_succ e)) (by have z := CV_wB I.1 (f0 := 8) (j0 := 51) (b0 := b.toNat) (v := 1 - rA s 51 b) rfl (fun lo hi h => by cases h; omega); rw [eb] at z; exact z) rfl rfl rfl rfl (fun _ => ⟨rfl, rfl⟩) ⟨rfl, rfl, rfl⟩, CG_FI CG_r (by show cK 0; omega)⟩
theorem cs_check {d : Nat} {q : am_A} {s : am_Z} (V : am_CV q s)  {b c : Int} (hb : in32 b) (hc : in32 c) : am_C2 (d + 6) m_X_check [aR 8 0, aI (zI b), aI (zI c)] q (am_OK (kCheck s b c) kd2 (some (aI (zI (sumI 0 (rI s 44).toNat (chF (wA s 55 (10 * b + c) 1) (rA s 53 (10 * b + c))))))) q (fun q2 => q2 = uFI q 105 (1, cId q b.toNat c.toNat) 1)) := by
  refine am_C2_i (ls := [some (aR 8 0), some (aI (zI b)), some (aI (zI c)), none, none]) rfl ?_
  have b44 := (CV_B V).2.1 44 0 40 rfl
  have b0 := (CV_B V).2.1 0 0 60000 rfl
  have b3 := (CV_B V).2.1 3 0 12 rfl
  refine ar_aload_n rfl rfl ?_
  refine ar_iload_n rfl rfl ?_
  refine ar_iload_n rfl rfl ?_
  refine ar_cv2 rfl rfl rfl (Nat.le_of_ble_eq_true rfl) (cs_findCoupon (d := 0) V (by omega) (by omega)) (by omega) (fun o q3 hq => am_B2_T rfl (fun h3 => ?_) (fun h3 => ?_) hq)
  · have hB := V.2.2.2.2.2.2.1.2.2.1 b.toNat (by omega)
    have eb : ((b.toNat : Nat) : Int) = b := by omega
    have ec : ((c.toNat : Nat) : Int) = c := by omega
    have b47 := (CV_B V).1 47 b 0 3 rfl
    have b52 := (CV_B V).1 52 b 0 10 rfl
    have hC := V.2.2.2.2.2.2.1.2.2.2.1 b.toNat c.toNat (by omega) (by rw [eb]; omega)
    have hlp := hC.2.2.2.1
    rw [eb, ec] at hlp
    have hg := V.2.2.2.1.1 _ hlp
    have hd := dep_b (CV_B V) (l := rA s 53 (10 * b + c)) (by omega)
    have hcc := (CV_B V).1 18 (61 * (rA s 53 (10 * b + c) / 100) + rA s 53 (10 * b + c) % 100) 0 1 rfl
    have b55 := (CV_B V).1 55 (10 * b + c) 0 5 rfl
    refine ar_stA3 rfl ?_
    refine ar_aload_n rfl rfl ?_
    refine ar_gfR rfl rfl rfl (by omega) (hC.2.2.1.trans (by rw [eb, ec])) ?_
    refine ar_stA4 rfl ?_
    refine cq_join (pc' := 37) (V := if rA s 47 b = 1 ∧ rA s 55 (10 * b + c) = 0 then 1 else 0) ?_ (fun K37 => ?_)
    · refine ar_cs1 rfl rfl (Nat.le_of_ble_eq_true rfl) (cs_needState (d := 0) (by omega)) (by omega) (fun o q37 hq => am_B2_T rfl (fun h37 => ?_) (fun h37 => ?_) hq)
      · refine cq_join (pc' := 72) (V := if freeP s (rA s 53 (10 * b + c)) ∧ dep s (rA s 53 (10 * b + c)) - rI s 0 ≤ 24 then 1 else 0) ?_ (fun K72 => ?_)
        · refine ar_cs1 rfl rfl (Nat.le_of_ble_eq_true rfl) (cs_needState (d := 0) (by omega)) (by omega) (fun o q72 hq => am_B2_T rfl (fun h72 => ?_) (fun h72 => ?_) hq)
          · refine ar_aload_n rfl rfl ?_
            refine ar_iconst rfl ?_
            refine ar_pfI rfl rfl rfl rfl (by omega) (Or.inl rfl) ?_
            have V2 : am_CV (uFI q 105 (1, cId q b.toNat c.toNat) 1) (wA s 55 (10 * b + c) 1) := (by have z := CV_wC V (f0 := 105) (j0 := 55) (b0 := b.toNat) (k0 := c.toNat) (v := 1) rfl (by omega) (by rw [eb]; omega) (fun lo hi h => by cases h; omega); rw [eb, ec] at z; exact z)
            refine ar_aload_n rfl rfl ?_
            refine ar_aload rfl rfl ?_
            refine ar_cv1 rfl rfl rfl (Nat.le_of_ble_eq_true rfl) (cs_checkedPersons (d := 0) V2 (l := rA s 53 (10 * b + c)) ((legP_cg (s := s) (s' := wA s 55 (10 * b + c) 1) (fun j x h => if_neg (fun z => absurd z.1 (by omega))) rfl).mpr hlp)) (by omega) (fun o q83 hq => am_B2_is ?_ hq)
            exact ar_iret rfl (Or.inl rfl) (⟨fun _ => ⟨rfl, rfl⟩, fun z => absurd (by unfold kCheck; omega) z⟩)
          · exact ⟨fun z => absurd z (by unfold kCheck; omega), fun _ => by { rw [show kCheck s b c = 2 from by { unfold kCheck; omega }]; exact ⟨rfl, rfl⟩ }⟩
        · refine ar_aload rfl rfl ?_
          refine ar_aload_n rfl rfl ?_
          refine ar_gfIv rfl rfl rfl (by omega) (V.2.1.2.2.2.2.1) ?_
          refine ar_cv1 rfl rfl rfl (Nat.le_of_ble_eq_true rfl) (cs_isAhead (d := 0) hg.2.2.2.2.2.2.2.2 hg.2.2.2.2.2.1 (by omega) (by omega) (by omega)) (by omega) (fun o q46 hq => am_B2_is ?_ hq)
          refine ar_if_eqB rfl rfl (fun h49 => ?_) (fun h49 => ?_)
          · refine ar_iconst rfl ?_
            exact K72 _ (by first | (rw [if_pos ⟨⟨by omega, by omega⟩, by omega⟩]) | (rw [if_neg (fun z => by have z1 := z.1.1; have z2 := z.1.2; have z3 := z.2; omega)]))
          · refine ar_aload rfl rfl ?_
            refine ar_gfIv rfl rfl rfl (by omega) (hg.2.2.2.2.2.1) ?_
            refine ar_aload_n rfl rfl ?_
            refine ar_gfIv rfl rfl rfl (by omega) (V.2.1.2.2.2.2.1) ?_
            refine ar_isub rfl ?_
            refine ar_bipush (x := 24) rfl rfl ?_
            refine ar_icmp_gt rfl rfl (by omega) (by omega) (fun h64 => ?_) (fun h64 => ?_)
            · refine ar_iconst rfl ?_
              exact K72 _ (by first | (rw [if_pos ⟨⟨by omega, by omega⟩, by omega⟩]) | (rw [if_neg (fun z => by have z1 := z.1.1; have z2 := z.1.2; have z3 := z.2; omega)]))
            · refine ar_iconst rfl ?_
              refine ar_goto rfl rfl ?_
              exact K72 _ (by first | (rw [if_pos ⟨⟨by omega, by omega⟩, by omega⟩]) | (rw [if_neg (fun z => by have z1 := z.1.1; have z2 := z.1.2; have z3 := z.2; omega)]))
      · exact ⟨fun z => absurd z (by unfold kCheck; omega), fun _ => by { rw [show kCheck s b c = 2 from by { unfold kCheck; omega }]; exact ⟨rfl, rfl⟩ }⟩
    · refine ar_aload_n rfl rfl ?_
      refine ar_iload_n rfl rfl ?_
      refine ar_cv1 rfl rfl rfl (Nat.le_of_ble_eq_true rfl) (cs_findBooking (d := 0) V (by omega)) (by omega) (fun o q15 hq => am_B2_T rfl (fun h15 => ?_) (fun h15 => ?_) hq)
      · refine ar_gfIv rfl rfl rfl (by omega) (((hB.1 7 47 rfl).trans (by rw [eb]))) ?_
        refine ar_iconst rfl ?_
        refine ar_icmp_ne rfl rfl (by omega) (by omega) (fun h22 => ?_) (fun h22 => ?_)
        · refine ar_iconst rfl ?_
          exact K37 _ (by first | (rw [if_pos (by omega)]) | (rw [if_neg (by omega)]))
        · refine ar_aload_n rfl rfl ?_
          refine ar_gfIv rfl rfl rfl (by omega) ((hC.2.2.2.2 105 55 rfl).trans (by rw [eb, ec])) ?_
          refine ar_if_ne rfl rfl (by omega) (fun h29 => ?_) (fun h29 => ?_)
          · refine ar_iconst rfl ?_
            exact K37 _ (by first | (rw [if_pos (by omega)]) | (rw [if_neg (by omega)]))
          · refine ar_iconst rfl ?_
            refine ar_goto rfl rfl ?_
            exact K37 _ (by first | (rw [if_pos (by omega)]) | (rw [if_neg (by omega)]))
      · exact absurd (by omega) h15
  · exact ⟨fun z => absurd z (by unfold kCheck; omega), fun _ => by { rw [show kCheck s b c = 1 from by { unfold kCheck; omega }]; exact ⟨rfl, rfl⟩ }⟩
theorem co_check {d e : Nat} {q : am_A} {s : am_Z} (I : am_CI e q s) {b c : Int} (hb : in32 b) (hc : in32 c) : am_C2 (d + 6) m_X_check [aR 8 0, aI (zI b), aI (zI c)] q (am_OP e (kCheck s b c) kd2 (some (aI (zI (sumI 0 (rI s 44).toNat (chF (wA s 55 (10 * b + c) 1) (rA s 53 (10 * b + c))))))) q (if kCheck s b c = 0 then wA s 55 (10 * b + c) 1 else s)) := by
  refine am_C2_imp (cs_check (d := d) I.1 hb hc) (fun o q' h => OP_of I (fun _ => kd2_b) h (fun h0 hq => ?_) (fun h => if_neg h))
  rw [if_pos h0]
  unfold kCheck at h0
  have eb : ((b.toNat : Nat) : Int) = b := by omega
  have ec : ((c.toNat : Nat) : Int) = c := by omega
  subst hq
  exact ⟨CI_w (CI_le I (Nat.le_succ e)) ((by have z := CV_wC I.1 (f0 := 105) (j0 := 55) (b0 := b.toNat) (k0 := c.toNat) (v := 1) rfl (by omega) (by rw [eb]; omega) (fun lo hi h => by cases h; omega); rw [eb, ec] at z; exact z)) rfl rfl rfl rfl (fun _ => ⟨rfl, rfl⟩) ⟨rfl, rfl, rfl⟩, CG_FI CG_r (by show cK 1; omega) (fun _ => ⟨by omega, fun _ => Or.inr (by have zc := (I.1.2.2.2.2.2.2.1.2.2.2.1 b.toNat c.toNat (by omega) (by rw [eb]; omega)).2.2.2.2 105 55 rfl; rw [eb, ec] at zc; omega)⟩)⟩
theorem lp_beg {d : Nat} {q : am_A} {Q : am_O → am_A → Prop} {s : am_Z} (V : am_CV q s) {b : Nat} (hb : (b : Int) < rI s 44) {t : Int} (bt : in32 t) : ∀ (m : Nat) (j : Nat) (k : Int) (x3 : Option am_V), (rA s 52 b).toNat - j < m → (k = j ∧ (j : Int) ≤ rA s 52 b ∧ ∀ i : Nat, i < j → fBeg s b t i = 0) → (∀ v, v = (if begP s b t then 1 else 0) → Q (.inl (some (aI (zI v)))) q) → am_W2 (d + 3) m_Bk_isBegun 2 [some (aR 0 b), some (aI (zI t)), some (aI (zI k)), x3] [] (q) Q := by
  intro m
  induction m with
  | zero => intro j k x3 hm; exact absurd hm (Nat.not_lt_zero _)
  | succ m ih =>
    intro j k x3 hm ⟨hj, hj2, hall⟩ K
    subst hj
    have hB := V.2.2.2.2.2.2.1.2.2.1 b hb
    have b52 := (CV_B V).1 52 b 0 10 rfl
    refine ar_iload_n rfl rfl ?_
    refine ar_aload_n rfl rfl ?_
    refine ar_gfR rfl rfl rfl (by omega) (hB.2.1.1) ?_
    refine ar_cv0 rfl rfl rfl (Nat.le_of_ble_eq_true rfl) (cl_szC (d := 0) V hb) (by omega) (fun o q7 hq => am_B2_is ?_ hq)
    refine ar_icmp_ge rfl rfl (by omega) (by omega) (fun h10 => ?_) (fun h10 => ?_)
    · refine ar_iconst rfl ?_
      exact ar_iret rfl (Or.inr ⟨rfl, by first | omega | (split <;> omega)⟩) (K 0 (by rw [if_neg (fun z => by obtain ⟨i, h1, h2⟩ := orN_iff.mp z; exact h2 (hall i (by omega)))]))
    · refine ar_aload_n rfl rfl ?_
      refine ar_gfR rfl rfl rfl (by omega) (hB.2.1.1) ?_
      refine ar_iload_n rfl rfl ?_
      refine ar_cv1 rfl rfl rfl (Nat.le_of_ble_eq_true rfl) (cl_getC (d := 0) V hb (by omega)) (by omega) (fun o q18 hq => am_B2_is ?_ hq)
      rw [Int.toNat_natCast]
      have hC := V.2.2.2.2.2.2.1.2.2.2.1 b j hb (by omega)
      have b55 := (CV_B V).1 55 (10 * (b : Int) + j) 0 5 rfl
      have b56 := (CV_B V).1 56 (10 * (b : Int) + j) 0 3 rfl
      refine ar_cast rfl rfl rfl ?_
      refine ar_stA3 rfl ?_
      refine ar_aload_n rfl rfl ?_
      refine ar_gfIv rfl rfl rfl (by omega) ((hC.2.2.2.2 102 56 rfl)) ?_
      refine ar_iload_n rfl rfl ?_
      refine ar_icmp_ne rfl rfl (by omega) (by omega) (fun h30 => ?_) (fun h30 => ?_)
      · refine ar_inc2 rfl ?_
        refine ar_goto rfl rfl ?_
        exact ih (j + 1) _ _ (by omega) ⟨by omega, by omega, fun i hi => (Nat.lt_or_ge i j).elim (hall i) (fun y => by rw [show i = j by omega]; unfold fBeg; rw [if_neg (by omega)])⟩ K
      · refine ar_aload_n rfl rfl ?_
        refine ar_gfIv rfl rfl rfl (by omega) ((hC.2.2.2.2 105 55 rfl)) ?_
        refine ar_iconst rfl ?_
        refine ar_icmp_eq rfl rfl (by omega) (by omega) (fun h38 => ?_) (fun h38 => ?_)
        · have hf : fBeg s b t j ≠ 0 := by { unfold fBeg; rw [if_pos ⟨by omega, by omega⟩]; omega }
          refine ar_iconst rfl ?_
          exact ar_iret rfl (Or.inr ⟨rfl, by first | omega | (split <;> omega)⟩) (K 1 (by rw [if_pos (orN_iff.mpr ⟨j, by omega, hf⟩)]))
        · refine ar_aload_n rfl rfl ?_
          refine ar_gfIv rfl rfl rfl (by omega) ((hC.2.2.2.2 105 55 rfl)) ?_
          refine ar_iconst rfl ?_
          refine ar_icmp_ne rfl rfl (by omega) (by omega) (fun h46 => ?_) (fun h46 => ?_)
          · refine ar_inc2 rfl ?_
            refine ar_goto rfl rfl ?_
            exact ih (j + 1) _ _ (by omega) ⟨by omega, by omega, fun i hi => (Nat.lt_or_ge i j).elim (hall i) (fun y => by rw [show i = j by omega]; unfold fBeg; rw [if_neg (by omega)])⟩ K
          · have hf : fBeg s b t j ≠ 0 := by { unfold fBeg; rw [if_pos ⟨by omega, by omega⟩]; omega }
            refine ar_iconst rfl ?_
            exact ar_iret rfl (Or.inr ⟨rfl, by first | omega | (split <;> omega)⟩) (K 1 (by rw [if_pos (orN_iff.mpr ⟨j, by omega, hf⟩)]))
theorem cs_isBegun {d : Nat} {q : am_A} {s : am_Z} (V : am_CV q s) {b : Nat} (hb : (b : Int) < rI s 44) {t : Int} (bt : in32 t) : am_C2 (d + 3) m_Bk_isBegun [aR 0 b, aI (zI t)] q (am_is2 (aI (zI (if begP s b t then 1 else 0))) q) := by
  refine am_C2_i (ls := [some (aR 0 b), some (aI (zI t)), none, none]) rfl ?_
  have b52 := (CV_B V).1 52 b 0 10 rfl
  refine ar_iconst rfl ?_
  refine ar_stI2 rfl ?_
  exact lp_beg (d := d) V hb bt ((rA s 52 b).toNat + 1) 0 0 _ (by omega) ⟨rfl, by omega, fun i hi => absurd hi (Nat.not_lt_zero i)⟩ (fun v hv => by rw [hv]; exact ⟨rfl, rfl⟩)
theorem lp_bf1 {d : Nat} {q : am_A} {Q : am_O → am_A → Prop} {s : am_Z} (V : am_CV q s) {b : Nat} (hb : (b : Int) < rI s 44) {x3 : Option am_V}  : ∀ (m : Nat) (j : Nat) (k acc : Int), 4 - j < m → (k = j ∧ j ≤ 4 ∧ acc = sumI 0 j (cbS s b)) → (∀ x2, am_W2 (d + 4) m_Bk_backForOne 42 [some (aR 0 b), some (aI (zI (sumI 0 4 (cbS s b)))), x2, x3] [] (q) Q) → am_W2 (d + 4) m_Bk_backForOne 4 [some (aR 0 b), some (aI (zI acc)), some (aI (zI k)), x3] [] (q) Q := by
  intro m
  induction m with
  | zero => intro j k acc hm; exact absurd hm (Nat.not_lt_zero _)
  | succ m ih =>
    intro j k acc hm ⟨hj, hj2, hacc⟩ K
    subst hj
    subst hacc
    have hB := V.2.2.2.2.2.2.1.2.2.1 b hb
    have b52 := (CV_B V).1 52 b 0 10 rfl
    refine ar_iload_n rfl rfl ?_
    refine ar_iconst rfl ?_
    refine ar_icmp_ge rfl rfl (by omega) (by omega) (fun h6 => ?_) (fun h6 => ?_)
    · rw [show j = 4 by omega]
      exact K _
    · have h4 := hB.2.2.2.1 (j : Int) (by omega) (by omega)
      have b59 := (CV_B V).1 59 (4 * (b : Int) + j) 0 5000 rfl
      refine ar_aload_n rfl rfl ?_
      refine ar_iload_n rfl rfl ?_
      refine ar_cv1 rfl rfl rfl (Nat.le_of_ble_eq_true rfl) (cs_isBegun (d := 0) V hb (by omega)) (by omega) (fun o q11 hq => am_B2_is ?_ hq)
      refine ar_if_neB rfl rfl (fun h14 => ?_) (fun h14 => ?_)
      · refine ar_inc2 rfl ?_
        refine ar_goto rfl rfl ?_
        have es := sumI_s 0 j (cbS s b)
        rw [Int.zero_add] at es
        have ec : cbS s b (j : Int) = if begP s b (j : Int) then 0 else rA s 60 (4 * b + j) := rfl
        exact ih (j + 1) _ _ (by omega) ⟨by omega, by omega, by first | (rw [if_pos (by assumption)] at ec; omega) | (rw [if_neg (by assumption)] at ec; omega)⟩ K
      · refine ar_iload_n rfl rfl ?_
        refine ar_aload_n rfl rfl ?_
        refine ar_gfR rfl rfl rfl (by omega) (hB.2.1.2.1) ?_
        refine ar_iload_n rfl rfl ?_
        refine ar_ia rfl rfl (hB.2.2.1.1) (by omega) (by omega) ?_
        refine ar_aload_n rfl rfl ?_
        refine ar_gfR rfl rfl rfl (by omega) (hB.2.1.2.2) ?_
        refine ar_iload_n rfl rfl ?_
        refine ar_ia rfl rfl (hB.2.2.1.2) (by omega) (by omega) ?_
        refine ar_imul rfl ?_
        refine ar_bipush (x := 100) rfl rfl ?_
        have hm1 : 0 ≤ qAI q (1004, b) ((j : Int)).toNat * qAI q (1005, b) ((j : Int)).toNat := Int.mul_nonneg (by omega) (by omega)
        have hm2 : qAI q (1004, b) ((j : Int)).toNat * qAI q (1005, b) ((j : Int)).toNat ≤ 5000 * 100 := Int.mul_le_mul (by omega) (by omega) (by omega) (by omega)
        refine ar_idiv rfl (by omega) (by omega) ?_
        rw [h4.2.1]
        refine ar_iadd rfl ?_
        refine ar_stI1 rfl ?_
        refine ar_inc2 rfl ?_
        refine ar_goto rfl rfl ?_
        have es := sumI_s 0 j (cbS s b)
        rw [Int.zero_add] at es
        have ec : cbS s b (j : Int) = if begP s b (j : Int) then 0 else rA s 60 (4 * b + j) := rfl
        exact ih (j + 1) _ _ (by omega) ⟨by omega, by omega, by first | (rw [if_pos (by assumption)] at ec; omega) | (rw [if_neg (by assumption)] at ec; omega)⟩ K
theorem lp_bf2 {d : Nat} {q : am_A} {Q : am_O → am_A → Prop} {s : am_Z} (V : am_CV q s) {b : Nat} (hb : (b : Int) < rI s 44) {a0 : Int}  : ∀ (m : Nat) (j : Nat) (k acc : Int) (x3 : Option am_V), (rA s 52 b).toNat - j < m → (k = j ∧ (j : Int) ≤ rA s 52 b ∧ acc = a0 + sumI (10 * (b : Int)) j (gbT s)) → (∀ x2 x3, am_W2 (d + 3) m_Bk_backForOne 95 [some (aR 0 b), some (aI (zI (a0 + sumI (10 * (b : Int)) (rA s 52 b).toNat (gbT s)))), x2, x3] [] (q) Q) → am_W2 (d + 3) m_Bk_backForOne 44 [some (aR 0 b), some (aI (zI acc)), some (aI (zI k)), x3] [] (q) Q := by
  intro m
  induction m with
  | zero => intro j k acc x3 hm; exact absurd hm (Nat.not_lt_zero _)
  | succ m ih =>
    intro j k acc x3 hm ⟨hj, hj2, hacc⟩ K
    subst hj
    subst hacc
    have hB := V.2.2.2.2.2.2.1.2.2.1 b hb
    have b52 := (CV_B V).1 52 b 0 10 rfl
    refine ar_iload_n rfl rfl ?_
    refine ar_aload_n rfl rfl ?_
    refine ar_gfR rfl rfl rfl (by omega) (hB.2.1.1) ?_
    refine ar_cv0 rfl rfl rfl (Nat.le_of_ble_eq_true rfl) (cl_szC (d := 0) V hb) (by omega) (fun o q49 hq => am_B2_is ?_ hq)
    refine ar_icmp_ge rfl rfl (by omega) (by omega) (fun h52 => ?_) (fun h52 => ?_)
    · rw [show j = (rA s 52 b).toNat by omega]
      exact K _ _
    · refine ar_aload_n rfl rfl ?_
      refine ar_gfR rfl rfl rfl (by omega) (hB.2.1.1) ?_
      refine ar_iload_n rfl rfl ?_
      refine ar_cv1 rfl rfl rfl (Nat.le_of_ble_eq_true rfl) (cl_getC (d := 0) V hb (by omega)) (by omega) (fun o q60 hq => am_B2_is ?_ hq)
      rw [Int.toNat_natCast]
      have hC := V.2.2.2.2.2.2.1.2.2.2.1 b j hb (by omega)
      have b55 := (CV_B V).1 55 (10 * (b : Int) + j) 0 5 rfl
      refine ar_cast rfl rfl rfl ?_
      refine ar_stA3 rfl ?_
      refine ar_aload_n rfl rfl ?_
      refine ar_cv0 rfl rfl rfl (Nat.le_of_ble_eq_true rfl) (cs_isToFly (d := 0) (hC.2.2.2.2 105 55 rfl) (by omega)) (by omega) (fun o q68 hq => am_B2_is ?_ hq)
      refine ar_if_neB rfl rfl (fun h71 => ?_) (fun h71 => ?_)
      · refine ar_iload_n rfl rfl ?_
        refine ar_aload_n rfl rfl ?_
        refine ar_gfIv rfl rfl rfl (by omega) ((hC.2.2.2.2 104 58 rfl)) ?_
        refine ar_iadd rfl ?_
        refine ar_stI1 rfl ?_
        refine ar_inc2 rfl ?_
        refine ar_goto rfl rfl ?_
        have es := sumI_s (10 * (b : Int)) j (gbT s)
        have ec : gbT s (10 * (b : Int) + j) = if rA s 55 (10 * (b : Int) + j) ≤ 1 ∨ rA s 55 (10 * (b : Int) + j) = 5 then rA s 58 (10 * (b : Int) + j) else 0 := rfl
        exact ih (j + 1) _ _ _ (by omega) ⟨by omega, by omega, by first | (rw [if_pos (by omega)] at ec; omega) | (rw [if_neg (by omega)] at ec; omega)⟩ K
      · refine ar_aload_n rfl rfl ?_
        refine ar_gfIv rfl rfl rfl (by omega) ((hC.2.2.2.2 105 55 rfl)) ?_
        refine ar_iconst rfl ?_
        refine ar_icmp_ne rfl rfl (by omega) (by omega) (fun h79 => ?_) (fun h79 => ?_)
        · refine ar_inc2 rfl ?_
          refine ar_goto rfl rfl ?_
          have es := sumI_s (10 * (b : Int)) j (gbT s)
          have ec : gbT s (10 * (b : Int) + j) = if rA s 55 (10 * (b : Int) + j) ≤ 1 ∨ rA s 55 (10 * (b : Int) + j) = 5 then rA s 58 (10 * (b : Int) + j) else 0 := rfl
          exact ih (j + 1) _ _ _ (by omega) ⟨by omega, by omega, by first | (rw [if_pos (by omega)] at ec; omega) | (rw [if_neg (by omega)] at ec; omega)⟩ K
        · refine ar_iload_n rfl rfl ?_
          refine ar_aload_n rfl rfl ?_
          refine ar_gfIv rfl rfl rfl (by omega) ((hC.2.2.2.2 104 58 rfl)) ?_
          refine ar_iadd rfl ?_
          refine ar_stI1 rfl ?_
          refine ar_inc2 rfl ?_
          refine ar_goto rfl rfl ?_
          have es := sumI_s (10 * (b : Int)) j (gbT s)
          have ec : gbT s (10 * (b : Int) + j) = if rA s 55 (10 * (b : Int) + j) ≤ 1 ∨ rA s 55 (10 * (b : Int) + j) = 5 then rA s 58 (10 * (b : Int) + j) else 0 := rfl
          exact ih (j + 1) _ _ _ (by omega) ⟨by omega, by omega, by first | (rw [if_pos (by omega)] at ec; omega) | (rw [if_neg (by omega)] at ec; omega)⟩ K
theorem cs_backForOne {d : Nat} {q : am_A} {s : am_Z} (V : am_CV q s) {b : Nat} (hb : (b : Int) < rI s 44)  : am_C2 (d + 4) m_Bk_backForOne [aR 0 b] q (am_is2 (aI (zI (cbV s b))) q) := by
  refine am_C2_i (ls := [some (aR 0 b), none, none, none]) rfl ?_
  have b52 := (CV_B V).1 52 b 0 10 rfl
  refine ar_iconst rfl ?_
  refine ar_stI1 rfl ?_
  refine ar_iconst rfl ?_
  refine ar_stI2 rfl ?_
  refine lp_bf1 (d := d) V hb 5 0 0 0 (by omega) ⟨rfl, by omega, rfl⟩ (fun x2 => ?_)
  refine ar_iconst rfl ?_
  refine ar_stI2 rfl ?_
  refine lp_bf2 (d := d + 1) V hb (a0 := sumI 0 4 (cbS s b)) ((rA s 52 b).toNat + 1) 0 0 _ _ (by omega) ⟨rfl, by omega, (Int.add_zero _).symm⟩ (fun x2 x3 => ?_)
  refine ar_iload_n rfl rfl ?_
  exact ar_iret rfl (Or.inl rfl) (cq_eP rfl)
theorem lp_end {d : Nat} {q : am_A} {Q : am_O → am_A → Prop} {e : Nat} {s : am_Z} {v : Int} {b : Nat} (hb : (b : Int) < rI s 44) (h52 : 0 ≤ rA s 52 b ∧ rA s 52 b ≤ 10) : ∀ (m : Nat) (j : Nat) (k : Int) (q1 : am_A) (x3 : Option am_V), (rA s 52 b).toNat - j < m → (k = j ∧ (j : Int) ≤ rA s 52 b ∧ am_CI e q1 (wB s 55 (10 * b) j (gVoid s)) ∧ am_CG q q1 ∧ q1.2 = q.2) → (∀ x2 x3 q1, am_CI e q1 (voidS s b) → am_CG q q1 → q1.2 = q.2 → am_W2 (d + 3) m_Bk_end 48 [some (aR 0 b), some (aI (zI v)), x2, x3] [] (q1) Q) → am_W2 (d + 3) m_Bk_end 7 [some (aR 0 b), some (aI (zI v)), some (aI (zI k)), x3] [] (q1) Q := by
  intro m
  induction m with
  | zero => intro j k q1 x3 hm; exact absurd hm (Nat.not_lt_zero _)
  | succ m ih =>
    intro j k q1 x3 hm ⟨hj, hj2, hI, hG, h2⟩ K
    subst hj
    have V := hI.1
    have hB := V.2.2.2.2.2.2.1.2.2.1 b hb
    have e52 : rA (wB s 55 (10 * (b : Int)) j (gVoid s)) 52 b = rA s 52 b := rfl
    refine ar_iload_n rfl rfl ?_
    refine ar_aload_n rfl rfl ?_
    refine ar_gfR rfl rfl rfl (by omega) (hB.2.1.1) ?_
    refine ar_cv0 rfl rfl rfl (Nat.le_of_ble_eq_true rfl) (cl_szC (d := 0) V hb) (by omega) (fun o q12 hq => am_B2_is ?_ hq)
    rw [e52]
    refine ar_icmp_ge rfl rfl (by omega) (by omega) (fun h15 => ?_) (fun h15 => ?_)
    · have ej : j = (rA s 52 b).toNat := by omega
      rw [ej] at hI
      exact K _ _ _ hI hG h2
    · refine ar_aload_n rfl rfl ?_
      refine ar_gfR rfl rfl rfl (by omega) (hB.2.1.1) ?_
      refine ar_iload_n rfl rfl ?_
      refine ar_cv1 rfl rfl rfl (Nat.le_of_ble_eq_true rfl) (cl_getC (d := 0) V hb (by omega)) (by omega) (fun o q23 hq => am_B2_is ?_ hq)
      rw [Int.toNat_natCast]
      have hC := V.2.2.2.2.2.2.1.2.2.2.1 b j hb (by omega)
      have e55 := wB_n s 55 (10 * (b : Int)) j (gVoid s)
      have b55 := (CV_B V).1 55 (10 * (b : Int) + j) 0 5 rfl
      have hI5 : rA s 55 (10 * (b : Int) + j) ≤ 1 → am_CI e (uFI q1 105 (1, cId q1 b j) 5) (wB s 55 (10 * b) (j + 1) (gVoid s)) := fun hz => by { rw [← vd_1 hz]; exact CI_w hI (CV_wC V (f0 := 105) (j0 := 55) (v := 5) rfl hb (by rw [e52]; omega) (fun lo hi h => by cases h; omega)) rfl rfl rfl rfl (fun _ => ⟨rfl, rfl⟩) ⟨rfl, rfl, rfl⟩ }
      refine ar_cast rfl rfl rfl ?_
      refine ar_stA3 rfl ?_
      refine ar_aload_n rfl rfl ?_
      refine ar_cv0 rfl rfl rfl (Nat.le_of_ble_eq_true rfl) (cs_isToFly (d := 0) (hC.2.2.2.2 105 55 rfl) (by omega)) (by omega) (fun o q31 hq => am_B2_is ?_ hq)
      refine ar_if_eqB rfl rfl (fun h34 => ?_) (fun h34 => ?_)
      · refine ar_inc2 rfl ?_
        refine ar_goto rfl rfl ?_
        first | exact ih (j + 1) _ _ _ (by omega) ⟨by omega, by omega, hI5 (by omega), CG_FI hG (by show cK 1; omega), h2⟩ K | exact ih (j + 1) _ _ _ (by omega) ⟨by omega, by omega, by rw [← vd_0 (by omega)]; exact hI, hG, h2⟩ K
      · refine ar_aload_n rfl rfl ?_
        refine ar_iconst rfl ?_
        refine ar_pfI rfl rfl rfl rfl (by omega) (Or.inl rfl) ?_
        refine ar_inc2 rfl ?_
        refine ar_goto rfl rfl ?_
        first | exact ih (j + 1) _ _ _ (by omega) ⟨by omega, by omega, hI5 (by omega), CG_FI hG (by show cK 1; omega), h2⟩ K | exact ih (j + 1) _ _ _ (by omega) ⟨by omega, by omega, by rw [← vd_0 (by omega)]; exact hI, hG, h2⟩ K
theorem cs_end {d : Nat} {q : am_A} {e : Nat} {s : am_Z} {v : Int} {b : Nat} (I : am_CI e q s) (hb : (b : Int) < rI s 44) (hv : 0 ≤ v ∧ v ≤ 3) : am_C2 (d + 3) m_Bk_end [aR 0 b, aI (zI v)] q (fun o q' => o = .inl none ∧ am_CI e q' (voidS (wA s 47 b v) b) ∧ am_CG q q' ∧ q'.2 = q.2) := by
  refine am_C2_i (ls := [some (aR 0 b), some (aI (zI v)), none, none]) rfl ?_
  have b52 := (CV_B I.1).1 52 b 0 10 rfl
  have I1 : am_CI e (uFI q 7 (0, b) v) (wA s 47 b v) := CI_w I (CV_wB I.1 (f0 := 7) (j0 := 47) (b0 := b) (v := v) rfl (fun lo hi h => by cases h; omega)) rfl rfl rfl rfl (fun _ => ⟨rfl, rfl⟩) ⟨rfl, rfl, rfl⟩
  refine ar_aload_n rfl rfl ?_
  refine ar_iload_n rfl rfl ?_
  refine ar_pfI rfl rfl rfl rfl (by omega) (Or.inl rfl) ?_
  refine ar_iconst rfl ?_
  refine ar_stI2 rfl ?_
  refine lp_end (d := d) (q := q) (e := e) (s := wA s 47 b v) (v := v) (b := b) hb b52 ((rA s 52 b).toNat + 1) 0 0 _ _ (by show (rA s 52 b).toNat - 0 < _; omega) ⟨rfl, by show (0 : Int) ≤ rA s 52 b; omega, by rw [wB_0]; exact I1, CG_FI CG_r (by show cK 0; omega), rfl⟩ (fun x2 x3 q1 I2 G2 E2 => ?_)
  exact ar_ret rfl rfl (⟨rfl, I2, G2, E2⟩)
theorem cs_cancel {d : Nat} {q : am_A} {e : Nat} {s : am_Z} (I : am_CI e q s) {b : Int} (hb : in32 b) : am_C2 (d + 5) m_X_cancel [aR 8 0, aI (zI b)] q (am_OK (kCancel s b) kd2 (some (aI (zI (if rA s 47 b = 0 then 0 else rA s 45 b * cbV s b)))) q (fun q2 => am_CI e q2 (voidS (wA s 47 b 3) b) ∧ am_CG q q2)) := by
  refine am_C2_i (ls := [some (aR 8 0), some (aI (zI b)), none, none]) rfl ?_
  have V := I.1
  have b44 := (CV_B V).2.1 44 0 40 rfl
  refine ar_aload_n rfl rfl ?_
  refine ar_iload_n rfl rfl ?_
  refine ar_cv1 rfl rfl rfl (Nat.le_of_ble_eq_true rfl) (cs_findBooking (d := 0) V (by omega)) (by omega) (fun o q2 hq => am_B2_T rfl (fun h2 => ?_) (fun h2 => ?_) hq)
  · have hB := V.2.2.2.2.2.2.1.2.2.1 b.toNat (by omega)
    have eb : ((b.toNat : Nat) : Int) = b := by omega
    have b47 := (CV_B V).1 47 b 0 3 rfl
    refine ar_stA2 rfl ?_
    refine ar_aload_n rfl rfl ?_
    refine ar_cv0 rfl rfl rfl (Nat.le_of_ble_eq_true rfl) (cs_hasSeats (d := 0) ((hB.1 7 47 rfl).trans (by rw [eb])) (by omega)) (by omega) (fun o q7 hq => am_B2_is ?_ hq)
    refine ar_cs1 rfl rfl (Nat.le_of_ble_eq_true rfl) (cs_needState (d := 0) (by omega)) (by omega) (fun o q10 hq => am_B2_T rfl (fun h10 => ?_) (fun h10 => ?_) hq)
    · refine cq_join (pc' := 33) (V := if rA s 47 b = 0 then 0 else rA s 45 b * cbV s b) ?_ (fun K33 => ?_)
      · refine ar_stI3 rfl ?_
        refine ar_aload_n rfl rfl ?_
        refine ar_iconst rfl ?_
        refine ar_cv1 rfl rfl rfl (Nat.le_of_ble_eq_true rfl) (cs_end (d := 0) (b := b.toNat) (v := 3) I (by omega) (by omega)) (by omega) (fun o q36 hq => ?_)
        obtain ⟨rfl, I36, G36, -⟩ := hq
        rw [eb] at I36
        refine ar_iload_n rfl rfl ?_
        exact ar_iret rfl (Or.inl rfl) (⟨fun _ => ⟨rfl, I36, G36⟩, fun z => absurd (by unfold kCancel; omega) z⟩)
      · refine ar_aload_n rfl rfl ?_
        refine ar_gfIv rfl rfl rfl (by omega) (((hB.1 7 47 rfl).trans (by rw [eb]))) ?_
        refine ar_if_ne rfl rfl (by omega) (fun h17 => ?_) (fun h17 => ?_)
        · refine ar_aload_n rfl rfl ?_
          refine ar_gfIv rfl rfl rfl (by omega) (((hB.1 6 45 rfl).trans (by rw [eb]))) ?_
          refine ar_aload_n rfl rfl ?_
          refine ar_cv0 rfl rfl rfl (Nat.le_of_ble_eq_true rfl) (cs_backForOne (d := 0) V (b := b.toNat) (by omega)) (by omega) (fun o q29 hq => am_B2_is ?_ hq)
          rw [eb]
          refine ar_imul rfl ?_
          exact K33 _ (by first | (rw [if_pos (by omega)]) | (rw [if_neg (by omega)]))
        · refine ar_iconst rfl ?_
          refine ar_goto rfl rfl ?_
          exact K33 _ (by first | (rw [if_pos (by omega)]) | (rw [if_neg (by omega)]))
    · exact ⟨fun z => absurd z (by unfold kCancel; omega), fun _ => by { rw [show kCancel s b = 2 from by { unfold kCancel; omega }]; exact ⟨rfl, rfl⟩ }⟩
  · exact ⟨fun z => absurd z (by unfold kCancel; omega), fun _ => by { rw [show kCancel s b = 1 from by { unfold kCancel; omega }]; exact ⟨rfl, rfl⟩ }⟩
theorem co_cancel {d e : Nat} {q : am_A} {s : am_Z} (I : am_CI e q s) {b : Int} (hb : in32 b) : am_C2 (d + 5) m_X_cancel [aR 8 0, aI (zI b)] q (am_OP e (kCancel s b) kd2 (some (aI (zI (if rA s 47 b = 0 then 0 else rA s 45 b * cbV s b)))) q (if kCancel s b = 0 then voidS (wA s 47 b 3) b else s)) := by
  refine am_C2_imp (cs_cancel (d := d) I hb) (fun o q' h => OP_of I (fun _ => kd2_b) h (fun h0 hq => ?_) (fun h => if_neg h))
  rw [if_pos h0]
  exact ⟨CI_le hq.1 (Nat.le_succ e), hq.2⟩
end

noncomputable section
def defN (s : am_Z) (b c : Int) : Int := if nbS s b c 1 = -1 then 2147483647 else dep s (rA s 53 (10 * b + nbS s b c 1)) - 1
theorem nbL_n {q : am_A} {s : am_Z} {b v : Int} (h : nbL q s b v = none) : v = -1 := Classical.byContradiction (fun z => by unfold nbL at h; rw [if_neg z] at h; cases h)
theorem nbL_s {q : am_A} {s : am_Z} {b v : Int} {r : am_R} (h : nbL q s b v = some r) : v ≠ -1 := fun z => by unfold nbL at h; rw [if_pos z] at h; cases h
theorem nb_lg {q : am_A} {s : am_Z} (V : am_CV q s) {b : Nat} {c t : Int} (hb : (b : Int) < rI s 44) (h : nbS s b c t ≠ -1) : legP s (rA s 53 (10 * (b : Int) + nbS s b c t)) := by
  have hn := nbR_b s b t 12 (c + t)
  have en : nbS s b c t = nbR s b t 12 (c + t) := rfl
  have z := (V.2.2.2.2.2.2.1.2.2.2.1 b (nbS s b c t).toNat hb (by omega)).2.2.2.1
  rw [show (((nbS s b c t).toNat : Nat) : Int) = nbS s b c t by omega] at z
  exact z
theorem def_N {s : am_Z} {b : Nat} {c : Int} : ∀ t, t ≤ 1600 → (t ≤ endS s b c ↔ t ≤ defN s b c) := fun t ht => by
  unfold endS defN
  by_cases h : nbS s b c 1 = -1
  · rw [if_pos h, if_pos h]; omega
  · rw [if_neg h, if_neg h]
theorem cs_findDetour0 {d : Nat} {q : am_A} {e b : Nat} {s : am_Z} {c : Int} (I : am_CI e q s) (hb : (b : Int) < rI s 44) (hc : 0 ≤ c ∧ c < rA s 52 b) (h45 : 1 ≤ rA s 45 b) (h55 : rA s 55 (10 * b + c) ≤ 1) (hn : nbS s b c (-1) = -1) : am_C2 (d + 6) m_X_findDetour [aR 8 0, aR 0 b, aR 1 (cId q b c.toNat)] q (am_OFP e q s (defN s b c) (wayS s b c)) := by
  refine am_C2_i (ls := [some (aR 8 0), some (aR 0 b), some (aR 1 (cId q b c.toNat)), none, none, none, none, none, none, none, none]) rfl ?_
  have V := I.1
  have B := CV_B V
  have b3 := (CV_B V).2.1 3 0 12 rfl
  have b0 := (CV_B V).2.1 0 0 60000 rfl
  have b52 := B.1 52 b 0 10 rfl
  have hC := V.2.2.2.2.2.2.1.2.2.2.1 b c.toNat hb (by omega)
  have ec : 10 * (b : Int) + ((c.toNat : Nat) : Int) = 10 * b + c := by omega
  have hB := V.2.2.2.2.2.2.1.2.2.1 b hb
  have ho : legP s (rA s 53 (10 * (b : Int) + c)) := by { have z := hC.2.2.2.1; rw [ec] at z; exact z }
  have bdo := dep_b B (legP_R B ho)
  have hcg : ∀ l, canGo s l b (rA s 53 (10 * (b : Int) + c)) ≠ 0 ↔ cgP s b l := fun l => cg_iff B h45 hc rfl h55
  have eE : earS s b c = rI s 0 + 1 := by { unfold earS; rw [if_neg (fun z => z.1 hn)] }
  refine ar_aload_n rfl rfl ?_
  refine ar_gfR rfl rfl rfl (by omega) (hC.2.2.1.trans (by rw [ec])) ?_
  refine ar_stA3 rfl ?_
  refine ar_aload_n rfl rfl ?_
  refine ar_aload_n rfl rfl ?_
  refine ar_iconst rfl ?_
  refine ar_cv2 rfl rfl rfl (Nat.le_of_ble_eq_true rfl) (cs_nearestLeg (d := 0) V hb (Or.inr rfl) (by omega)) (by omega) (fun o q8 hq => am_B2_is ?_ hq)
  rw [show nbL q s b (nbS s b c (-1)) = none from if_pos hn]
  refine ar_stA4 rfl ?_
  refine ar_aload_n rfl rfl ?_
  refine ar_aload_n rfl rfl ?_
  refine ar_iconst rfl ?_
  refine ar_cv2 rfl rfl rfl (Nat.le_of_ble_eq_true rfl) (cs_nearestLeg (d := 0) V hb (Or.inl rfl) (by omega)) (by omega) (fun o q16 hq => am_B2_is ?_ hq)
  refine ar_stA5 rfl ?_
  refine ar_aload_n rfl rfl ?_
  refine ar_gfIv rfl rfl rfl (by omega) (V.2.1.2.2.2.2.1) ?_
  refine ar_iconst rfl ?_
  refine ar_iadd rfl ?_
  refine ar_stI6 rfl ?_
  refine ar_aload rfl rfl ?_
  refine ar_ifnull rfl rfl (fun _ => ?_) (fun r hr => absurd hr (by simp))
  refine ar_aload_n rfl rfl ?_
  refine ar_gfR rfl rfl rfl (by omega) (V.1.1 810 _ rfl) ?_
  refine cq_join (pc' := 70) (V := defN s b c) ?_ (fun K70 => ?_)
  · refine ar_cv1 rfl rfl rfl (Nat.le_of_ble_eq_true rfl) (cs_dtBegin (d := 0)) (by omega) (fun o q70 hq => ?_)
    obtain ⟨rfl, rfl⟩ := hq
    have bN : in32 (defN s b c) := by { unfold defN; by_cases z : nbS s b c 1 = -1; rw [if_pos z]; unfold in32; omega; rw [if_neg z]; have h1 := dep_b B (legP_R B (nb_lg V hb z)); unfold in32; omega }
    refine ar_iconst rfl ?_
    refine ar_stI7 rfl ?_
    refine lp_fd1 (d := d) (q := dtH q none none (defN s b c)) (e := e) (s := s) (b := b) (N := endS s b c) (N' := defN s b c) (own := (rA s 53 (10 * (b : Int) + c))) (E := rI s 0 + 1) (L := dep s (rA s 53 (10 * (b : Int) + c)) + 48) (g := rA s 6 ((rA s 53 (10 * (b : Int) + c)) / 100)) hb ho def_N bN rfl rfl (by omega) hcg ((rI s 3).toNat + 1) 0 0 _ _ _ _ (by omega) ⟨rfl, by omega, dtH_CI I, ⟨rfl, rfl, rfl⟩, SM_r, CG_r⟩ (fun x7 x8 x9 x10 q2 I2 D2 S2 G2 => ?_)
    exact ar_ret rfl rfl (⟨rfl, I2, by unfold wayS; rw [eE]; exact D2, SM_t dtH_SM S2, CG_t dtH_CG G2⟩)
  · refine ar_aload rfl rfl ?_
    refine ar_ifnonnull rfl rfl (fun hn54 => ?_) (fun r54 hr54 => ?_)
    · refine ar_ldc_w (x := 2147483647) rfl rfl ?_
      refine ar_goto rfl rfl ?_
      exact K70 _ (by unfold defN; first | (rw [if_pos (nbL_n hn54)]) | (rw [if_neg zb]))
    · have zb := nbL_s hr54
      have hlb := nb_lg V hb zb
      have hgb := V.2.2.2.1.1 _ hlb
      rw [show nbL q s b (nbS s b c 1) = some (5, lId q (rA s 53 (10 * (b : Int) + (nbS s b c 1)))) from if_neg zb]
      refine ar_aload rfl rfl ?_
      refine ar_gfIv rfl rfl rfl (by omega) (hgb.2.2.2.2.2.1) ?_
      refine ar_iconst rfl ?_
      rw [show some (5, lId q (rA s 53 (10 * (b : Int) + (nbS s b c 1)))) = nbL q s b (nbS s b c 1) from (if_neg zb).symm]
      refine ar_isub rfl ?_
      exact K70 _ (by unfold defN; first | (rw [if_pos (nbL_n hn54)]) | (rw [if_neg zb]))
theorem cs_findDetour1 {d : Nat} {q : am_A} {e b : Nat} {s : am_Z} {c : Int} (I : am_CI e q s) (hb : (b : Int) < rI s 44) (hc : 0 ≤ c ∧ c < rA s 52 b) (h45 : 1 ≤ rA s 45 b) (h55 : rA s 55 (10 * b + c) ≤ 1) (hn : nbS s b c (-1) ≠ -1) : am_C2 (d + 6) m_X_findDetour [aR 8 0, aR 0 b, aR 1 (cId q b c.toNat)] q (am_OFP e q s (defN s b c) (wayS s b c)) := by
  refine am_C2_i (ls := [some (aR 8 0), some (aR 0 b), some (aR 1 (cId q b c.toNat)), none, none, none, none, none, none, none, none]) rfl ?_
  have V := I.1
  have B := CV_B V
  have b3 := (CV_B V).2.1 3 0 12 rfl
  have b0 := (CV_B V).2.1 0 0 60000 rfl
  have b52 := B.1 52 b 0 10 rfl
  have hC := V.2.2.2.2.2.2.1.2.2.2.1 b c.toNat hb (by omega)
  have ec : 10 * (b : Int) + ((c.toNat : Nat) : Int) = 10 * b + c := by omega
  have hB := V.2.2.2.2.2.2.1.2.2.1 b hb
  have ho : legP s (rA s 53 (10 * (b : Int) + c)) := by { have z := hC.2.2.2.1; rw [ec] at z; exact z }
  have bdo := dep_b B (legP_R B ho)
  have hcg : ∀ l, canGo s l b (rA s 53 (10 * (b : Int) + c)) ≠ 0 ↔ cgP s b l := fun l => cg_iff B h45 hc rfl h55
  have hla := nb_lg V hb hn
  have hga := V.2.2.2.1.1 _ hla
  have baa := arv_b B (legP_R B hla)
  have eE : earS s b c = max (rI s 0 + 1) (arv s (rA s 53 (10 * (b : Int) + (nbS s b c (-1)))) + 1) := by { unfold earS; by_cases z : rI s 0 + 1 < arv s (rA s 53 (10 * (b : Int) + (nbS s b c (-1)))) + 1; rw [if_pos ⟨hn, z⟩]; omega; rw [if_neg (fun y => z y.2)]; omega }
  refine ar_aload_n rfl rfl ?_
  refine ar_gfR rfl rfl rfl (by omega) (hC.2.2.1.trans (by rw [ec])) ?_
  refine ar_stA3 rfl ?_
  refine ar_aload_n rfl rfl ?_
  refine ar_aload_n rfl rfl ?_
  refine ar_iconst rfl ?_
  refine ar_cv2 rfl rfl rfl (Nat.le_of_ble_eq_true rfl) (cs_nearestLeg (d := 0) V hb (Or.inr rfl) (by omega)) (by omega) (fun o q8 hq => am_B2_is ?_ hq)
  rw [show nbL q s b (nbS s b c (-1)) = some (5, lId q (rA s 53 (10 * (b : Int) + (nbS s b c (-1))))) from if_neg hn]
  refine ar_stA4 rfl ?_
  refine ar_aload_n rfl rfl ?_
  refine ar_aload_n rfl rfl ?_
  refine ar_iconst rfl ?_
  refine ar_cv2 rfl rfl rfl (Nat.le_of_ble_eq_true rfl) (cs_nearestLeg (d := 0) V hb (Or.inl rfl) (by omega)) (by omega) (fun o q16 hq => am_B2_is ?_ hq)
  refine ar_stA5 rfl ?_
  refine ar_aload_n rfl rfl ?_
  refine ar_gfIv rfl rfl rfl (by omega) (V.2.1.2.2.2.2.1) ?_
  refine ar_iconst rfl ?_
  refine ar_iadd rfl ?_
  refine ar_stI6 rfl ?_
  refine ar_aload rfl rfl ?_
  refine ar_ifnull rfl rfl (fun hn => absurd hn (by simp)) (fun _ _ => ?_)
  refine ar_iload rfl rfl ?_
  refine ar_aload rfl rfl ?_
  refine ar_gfIv rfl rfl rfl (by omega) (hga.2.2.2.2.2.2.1) ?_
  refine ar_iconst rfl ?_
  refine ar_iadd rfl ?_
  refine ar_cs2 rfl rfl (Nat.le_of_ble_eq_true rfl) (cs_max (d := 0) (by omega) (by omega)) (by omega) (fun o q43 hq => am_B2_is ?_ hq)
  refine ar_stI6 rfl ?_
  refine ar_aload_n rfl rfl ?_
  refine ar_gfR rfl rfl rfl (by omega) (V.1.1 810 _ rfl) ?_
  refine cq_join (pc' := 70) (V := defN s b c) ?_ (fun K70 => ?_)
  · refine ar_cv1 rfl rfl rfl (Nat.le_of_ble_eq_true rfl) (cs_dtBegin (d := 0)) (by omega) (fun o q70 hq => ?_)
    obtain ⟨rfl, rfl⟩ := hq
    have bN : in32 (defN s b c) := by { unfold defN; by_cases z : nbS s b c 1 = -1; rw [if_pos z]; unfold in32; omega; rw [if_neg z]; have h1 := dep_b B (legP_R B (nb_lg V hb z)); unfold in32; omega }
    refine ar_iconst rfl ?_
    refine ar_stI7 rfl ?_
    refine lp_fd1 (d := d) (q := dtH q none none (defN s b c)) (e := e) (s := s) (b := b) (N := endS s b c) (N' := defN s b c) (own := (rA s 53 (10 * (b : Int) + c))) (E := max (rI s 0 + 1) (arv s (rA s 53 (10 * (b : Int) + (nbS s b c (-1)))) + 1)) (L := dep s (rA s 53 (10 * (b : Int) + c)) + 48) (g := rA s 6 ((rA s 53 (10 * (b : Int) + c)) / 100)) hb ho def_N bN rfl rfl (by omega) hcg ((rI s 3).toNat + 1) 0 0 _ _ _ _ (by omega) ⟨rfl, by omega, dtH_CI I, ⟨rfl, rfl, rfl⟩, SM_r, CG_r⟩ (fun x7 x8 x9 x10 q2 I2 D2 S2 G2 => ?_)
    exact ar_ret rfl rfl (⟨rfl, I2, by unfold wayS; rw [eE]; exact D2, SM_t dtH_SM S2, CG_t dtH_CG G2⟩)
  · refine ar_aload rfl rfl ?_
    refine ar_ifnonnull rfl rfl (fun hn54 => ?_) (fun r54 hr54 => ?_)
    · refine ar_ldc_w (x := 2147483647) rfl rfl ?_
      refine ar_goto rfl rfl ?_
      exact K70 _ (by unfold defN; first | (rw [if_pos (nbL_n hn54)]) | (rw [if_neg zb]))
    · have zb := nbL_s hr54
      have hlb := nb_lg V hb zb
      have hgb := V.2.2.2.1.1 _ hlb
      rw [show nbL q s b (nbS s b c 1) = some (5, lId q (rA s 53 (10 * (b : Int) + (nbS s b c 1)))) from if_neg zb]
      refine ar_aload rfl rfl ?_
      refine ar_gfIv rfl rfl rfl (by omega) (hgb.2.2.2.2.2.1) ?_
      refine ar_iconst rfl ?_
      rw [show some (5, lId q (rA s 53 (10 * (b : Int) + (nbS s b c 1)))) = nbL q s b (nbS s b c 1) from (if_neg zb).symm]
      refine ar_isub rfl ?_
      exact K70 _ (by unfold defN; first | (rw [if_pos (nbL_n hn54)]) | (rw [if_neg zb]))
theorem cs_findDetour {d : Nat} {q : am_A} {e b : Nat} {s : am_Z} {c : Int} (I : am_CI e q s) (hb : (b : Int) < rI s 44) (hc : 0 ≤ c ∧ c < rA s 52 b) (h45 : 1 ≤ rA s 45 b) (h55 : rA s 55 (10 * b + c) ≤ 1) : am_C2 (d + 6) m_X_findDetour [aR 8 0, aR 0 b, aR 1 (cId q b c.toNat)] q (am_OFP e q s (defN s b c) (wayS s b c)) := by
  by_cases hn : nbS s b c (-1) = -1
  · exact cs_findDetour0 (d := d) I hb hc h45 h55 hn
  · exact cs_findDetour1 (d := d) I hb hc h45 h55 hn
end

noncomputable section
theorem jr_J (s : am_Z) : ∀ k, 0 ≤ k → k < rI s 33 → rA (jrn s) 36 k = rA s 34 k := fun k h1 h2 => if_pos ⟨rfl, h1, by omega⟩
theorem jr_A {s : am_Z} {j : Nat} {x : Int} (h : j ≠ 36) : rA (jrn s) j x = rA s j x := if_neg (fun z => h z.1)
theorem jr_I {s : am_Z} {j : Nat} (h : j ≠ 35) : rI (jrn s) j = rI s j := if_neg h
theorem CIJ {e : Nat} {q : am_A} {s : am_Z} (I : am_CI e q s) : am_CI e q (jrn s) := CI_s I (fun j x h => jr_A (by omega)) (fun j h => jr_I (by omega)) (jrn_in (CV_B I.1))
theorem CIunJ {e : Nat} {q : am_A} {s : am_Z} (B : in_S s) (I : am_CI e q (jrn s)) : am_CI e q s := CI_s I (fun j x h => (jr_A (by omega)).symm) (fun j h => (jr_I (by omega)).symm) B
theorem LL_J {e : Nat} {q : am_A} {s : am_Z} (I : am_CI e q s) : am_LL q (jrn s) (1804, 0) (rI s 33) (fun k => rA s 34 k) := LL_cg I.1.2.2.2.2.2.1 rfl (fun _ _ => rfl) rfl (fun _ _ _ => rfl) (fun j x h => jr_A (by omega)) (jr_I (by omega))
theorem best_nil {s : am_Z} (B : in_S s) {n : Int} (h : (bestW s n).1 = -1) : (bestW s n).2 = [] := by
  unfold bestW at h ⊢
  split
  · rfl
  · rename_i hz
    rw [if_neg hz] at h
    have z := tk_mem (s := s) (P := fun W => W.1 = -1 → W.2 = []) (wSub s n 4 0 []) (-1, []) (fun _ => rfl) (fun x _ y => by
      have := pSum_0 B x
      have y2 : pSum s x = -1 := y
      omega)
    exact z h
theorem cs_price {d : Nat} {q : am_A} {e : Nat} {s : am_Z} (I : am_CI e q s) {n : Int} (hn : in32 n) : am_C2 (d + 17) m_X_price [aR 8 0, aI (zI n)] q (am_OP e (kMany n) kd1 (some (aI (zI (bestW (jrn s) n).1))) q s) := by
  refine am_C2_i (ls := [some (aR 8 0), some (aI (zI n))]) rfl ?_
  have V := I.1
  have B := CV_B V
  have b33 := B.2.1 33 0 4 rfl
  refine ar_iload_n rfl rfl ?_
  refine ar_iconst rfl ?_
  refine ar_bipush (x := 9) rfl rfl ?_
  refine ar_cs3 rfl rfl (Nat.le_of_ble_eq_true rfl) (cs_needRange (d := 0) (by omega) (by omega) (by omega)) (by omega) (fun o q4 hq => am_B2_T rfl (fun h4 => ?_) (fun h4 => ?_) hq)
  · refine ar_aload_n rfl rfl ?_
    refine ar_aload_n rfl rfl ?_
    refine ar_gfR rfl rfl rfl (by omega) (V.1.1 804 _ rfl) ?_
    refine ar_iload_n rfl rfl ?_
    refine ar_cv2 rfl rfl rfl (Nat.le_of_ble_eq_true rfl) (cs_buildPrice (d := 0) (CIJ I) (t := 1804) (i := 0) rfl (by omega) (V.1.2.2.2 1804 rfl) (LL_J I) b33 (by omega) (by omega) rfl (jr_J s)) (by omega) (fun o q13 hq => ?_)
    obtain ⟨rfl, hP2, hB2⟩ := hq
    have V2 := hP2.1.1
    refine ar_aload_n rfl rfl ?_
    refine ar_gfR rfl rfl rfl (by omega) (V2.1.1 805 _ rfl) ?_
    refine ar_gfIv rfl rfl rfl (by omega) (hP2.2.2.2.2.1.2.2.2.2) ?_
    exact ar_iret rfl (Or.inl rfl) (⟨fun _ => rfl, fun z => absurd (by unfold kMany; omega) z, CI_le (CIunJ B hP2.1) (by omega), hP2.2.1⟩)
  · exact ⟨fun z => absurd z (by unfold kMany; omega), fun _ => by rw [show kMany n = 1 from by unfold kMany; omega]; rfl, CI_EX I (by omega), CG_NO CG_r (by omega)⟩
theorem cs_priceAnew {d : Nat} {q : am_A} {e : Nat} {s : am_Z} (I : am_CI e q s) {n : Int} (hn : in32 n) : am_C2 (d + 16) m_X_priceAnew [aR 8 0, aI (zI n)] q (am_OP e (kMany n) kd1 (some (aI (zI (bestW (jrn s) n).1))) q s) := by
  refine am_C2_i (ls := [some (aR 8 0), some (aI (zI n))]) rfl ?_
  have V := I.1
  have B := CV_B V
  have b33 := B.2.1 33 0 4 rfl
  refine ar_iload_n rfl rfl ?_
  refine ar_iconst rfl ?_
  refine ar_bipush (x := 9) rfl rfl ?_
  refine ar_cs3 rfl rfl (Nat.le_of_ble_eq_true rfl) (cs_needRange (d := 0) (by omega) (by omega) (by omega)) (by omega) (fun o q4 hq => am_B2_T rfl (fun h4 => ?_) (fun h4 => ?_) hq)
  · refine ar_aload_n rfl rfl ?_
    refine ar_aload_n rfl rfl ?_
    refine ar_gfR rfl rfl rfl (by omega) (V.1.1 804 _ rfl) ?_
    refine ar_iload_n rfl rfl ?_
    refine ar_cv2 rfl rfl rfl (Nat.le_of_ble_eq_true rfl) (cs_beginPrice (d := 0) (CIJ I) (t := 1804) (i := 0) rfl (by omega) (V.1.2.2.2 1804 rfl) (LL_J I) b33 (by omega) (by omega)) (by omega) (fun o q13 hq => ?_)
    obtain ⟨rfl, hP1, hB1, hT1⟩ := hq
    have V2 := hP1.1.1
    refine ar_aload_n rfl rfl ?_
    refine ar_gfR rfl rfl rfl (by omega) (V2.1.1 805 _ rfl) ?_
    refine ar_cv0 rfl rfl rfl (Nat.le_of_ble_eq_true rfl) (cs_findL (d := 0) rfl (jr_J s) hP1 hB1 hT1) (by omega) (fun o q20 hq => ?_)
    obtain ⟨rfl, hP2⟩ := hq
    have V2 := hP2.1.1
    refine ar_aload_n rfl rfl ?_
    refine ar_gfR rfl rfl rfl (by omega) (V2.1.1 805 _ rfl) ?_
    refine ar_gfIv rfl rfl rfl (by omega) (hP2.2.2.2.2.1.2.2.2.2) ?_
    exact ar_iret rfl (Or.inl rfl) (⟨fun _ => rfl, fun z => absurd (by unfold kMany; omega) z, CI_le (CIunJ B hP2.1) (by omega), hP2.2.1⟩)
  · exact ⟨fun z => absurd z (by unfold kMany; omega), fun _ => by rw [show kMany n = 1 from by unfold kMany; omega]; rfl, CI_EX I (by omega), CG_NO CG_r (by omega)⟩
theorem cs_stretch {d : Nat} {q : am_A} {e : Nat} {s : am_Z} (I : am_CI e q s) {n : Int} (hn : in32 n) {i : Int} (hi : in32 i) : am_C2 (d + 17) m_X_stretch [aR 8 0, aI (zI n), aI (zI i)] q (am_OP e (kStr s n i) kd3 (some (aI (zI (10 * pF (bestW (jrn s) n).2 i.toNat + pC (bestW (jrn s) n).2 i.toNat)))) q s) := by
  refine am_C2_i (ls := [some (aR 8 0), some (aI (zI n)), some (aI (zI i))]) rfl ?_
  have V := I.1
  have B := CV_B V
  have b33 := B.2.1 33 0 4 rfl
  refine ar_iload_n rfl rfl ?_
  refine ar_iconst rfl ?_
  refine ar_bipush (x := 9) rfl rfl ?_
  refine ar_cs3 rfl rfl (Nat.le_of_ble_eq_true rfl) (cs_needRange (d := 0) (by omega) (by omega) (by omega)) (by omega) (fun o q4 hq => am_B2_T rfl (fun h4 => ?_) (fun h4 => ?_) hq)
  · refine ar_aload_n rfl rfl ?_
    refine ar_aload_n rfl rfl ?_
    refine ar_gfR rfl rfl rfl (by omega) (V.1.1 804 _ rfl) ?_
    refine ar_iload_n rfl rfl ?_
    refine ar_cv2 rfl rfl rfl (Nat.le_of_ble_eq_true rfl) (cs_buildPrice (d := 0) (CIJ I) (t := 1804) (i := 0) rfl (by omega) (V.1.2.2.2 1804 rfl) (LL_J I) b33 (by omega) (by omega) rfl (jr_J s)) (by omega) (fun o q13 hq => ?_)
    obtain ⟨rfl, hP2, hB2⟩ := hq
    have V2 := hP2.1.1
    have hl4 := hB2.2.1
    have hnil : (bestW (jrn s) n).1 = -1 → (bestW (jrn s) n).2.length = 0 := fun z => by { rw [best_nil (jrn_in B) z]; rfl }
    refine ar_iload_n rfl rfl ?_
    refine ar_aload_n rfl rfl ?_
    refine ar_gfR rfl rfl rfl (by omega) (V2.1.1 805 _ rfl) ?_
    refine ar_gfR rfl rfl rfl (by omega) (V2.1.2.1 603 _ rfl) ?_
    refine ar_cv0 rfl rfl rfl (Nat.le_of_ble_eq_true rfl) (sq_size (d := 0) rfl (by omega) (V2.1.2.2.2 1603 rfl)) (by omega) (fun o q24 hq => am_B2_is ?_ hq)
    rw [hB2.1]
    refine ar_iconst rfl ?_
    refine ar_cs2 rfl rfl (Nat.le_of_ble_eq_true rfl) (cs_min (d := 0) (by omega) (by omega)) (by omega) (fun o q28 hq => am_B2_is ?_ hq)
    rw [show min ((bestW (jrn s) n).2.length : Int) 4 = ((bestW (jrn s) n).2.length : Int) by omega]
    refine ar_cs2 rfl rfl (Nat.le_of_ble_eq_true rfl) (cs_needIndex (d := 0) (by omega) (by omega)) (by omega) (fun o q31 hq => am_B2_T rfl (fun h31 => ?_) (fun h31 => ?_) hq)
    · have hW := hB2.2.2 i.toNat (by omega)
      have hf := hW.2.2
      have hA := (V2.2.2.2.2.1.2.2 (pF (bestW (jrn s) n).2 i.toNat).toNat (by omega)).2
      have hk : kStr s n i = 0 := by { unfold kStr; omega }
      refine ar_bipush (x := 10) rfl rfl ?_
      refine ar_aload_n rfl rfl ?_
      refine ar_gfR rfl rfl rfl (by omega) (V2.1.1 805 _ rfl) ?_
      refine ar_gfR rfl rfl rfl (by omega) (V2.1.2.1 603 _ rfl) ?_
      refine ar_iload_n rfl rfl ?_
      refine ar_cv1 rfl rfl rfl (Nat.le_of_ble_eq_true rfl) (sq_get (d := 0) (j := i.toNat) rfl (by omega) (V2.1.2.2.2 1603 rfl) (by omega) hW.1) (by omega) (fun o q44 hq => am_B2_is ?_ hq)
      refine ar_cast rfl rfl rfl ?_
      refine ar_gfIv rfl rfl rfl (by omega) (hA) ?_
      refine ar_imul rfl ?_
      refine ar_aload_n rfl rfl ?_
      refine ar_gfR rfl rfl rfl (by omega) (V2.1.1 805 _ rfl) ?_
      refine ar_gfR rfl rfl rfl (by omega) (V2.1.2.1 604 _ rfl) ?_
      refine ar_iload_n rfl rfl ?_
      refine ar_ia rfl rfl (V2.1.2.2.1 1604 4 rfl) (by omega) (by omega) ?_
      rw [hW.2.1, show (((pF (bestW (jrn s) n).2 i.toNat).toNat : Nat) : Int) = pF (bestW (jrn s) n).2 i.toNat by omega]
      refine ar_iadd rfl ?_
      exact ar_iret rfl (Or.inl rfl) (⟨fun _ => rfl, fun z => absurd hk z, CI_le (CIunJ B hP2.1) (by omega), hP2.2.1⟩)
    · exact ⟨fun z => absurd z (by unfold kStr; omega), fun _ => by rw [show kStr s n i = 1 from by unfold kStr; omega]; rfl, CI_EX (CIunJ B hP2.1) (by omega), CG_NO hP2.2.1 (by omega)⟩
  · exact ⟨fun z => absurd z (by unfold kStr; omega), fun _ => by rw [show kStr s n i = 2 from by unfold kStr; omega]; rfl, CI_EX I (by omega), CG_NO CG_r (by omega)⟩
end

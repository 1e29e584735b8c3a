noncomputable section
theorem bkC_1 {b t f a n al : Int} {i : Nat} {X Y : am_X} (h : X.1.1 = Y.1.1) (h2 : X.2 = Y.2) : (bkC b t f a n al i X).1.1 = (bkC b t f a n al i Y).1.1 ∧ (bkC b t f a n al i X).2 = (bkC b t f a n al i Y).2 := by
  obtain ⟨⟨A, I⟩, x⟩ := X
  obtain ⟨⟨A2, I2⟩, x2⟩ := Y
  dsimp only at h h2
  subst h
  subst h2
  exact ⟨rfl, rfl⟩
theorem itX_1 {g : Nat → am_X → am_X} (hg : ∀ i X Y, X.1.1 = Y.1.1 → X.2 = Y.2 → (g i X).1.1 = (g i Y).1.1 ∧ (g i X).2 = (g i Y).2) {X Y : am_X} (h : X.1.1 = Y.1.1) (h2 : X.2 = Y.2) (k : Nat) : (itX g k X).1.1 = (itX g k Y).1.1 ∧ (itX g k X).2 = (itX g k Y).2 := by
  induction k with
  | zero => exact ⟨h, h2⟩
  | succ k ih => exact hg k _ _ ih.1 ih.2
theorem bkB_1 {b : Int} {i : Nat} {X Y : am_X} (h : X.1.1 = Y.1.1) (h2 : X.2 = Y.2) : (bkB b i X).1.1 = (bkB b i Y).1.1 ∧ (bkB b i X).2 = (bkB b i Y).2 := by
  obtain ⟨⟨A, I⟩, x⟩ := X
  obtain ⟨⟨A2, I2⟩, x2⟩ := Y
  dsimp only at h h2
  subst h
  subst h2
  refine ⟨?_, rfl⟩
  exact (itX_1 (g := bkC b i (A 40 i) x (A 39 i) (sumI x (A 39 i).toNat (fLen (A, I)))) (fun i X Y a b => bkC_1 a b) (X := (bkS (A, I) b i, A 25 (A 40 i))) (Y := (bkS (A, I2) b i, A 25 (A 40 i))) rfl rfl (A 39 i).toNat).1
/-- books looks at no draft -/
theorem bkT_33 {t : am_Z} {v p m h : Int} : (∀ j x, rA (bkT (wI t 33 v) p m h) j x = rA (bkT t p m h) j x) ∧ ∀ j, rI (bkT (wI t 33 v) p m h) j = rI (wI (bkT t p m h) 33 v) j := by
  refine ⟨fun j x => ?_, fun j => ?_⟩
  · exact congrFun (congrFun (itX_1 (g := bkB (rI t 44)) (fun i X Y a b => bkB_1 a b) (X := (bk0 (wI t 33 v) (rI t 44) p m h, 0)) (Y := (bk0 t (rI t 44) p m h, 0)) rfl rfl (rI t 38).toNat).1 j) x
  · rw [bkT_I]
    show (if j = 44 then rI t 44 + 1 else if j = 33 then v else rI t j) = if j = 33 then v else rI (bkT t p m h) j
    rw [bkT_I]
    by_cases e : j = 44
    · subst e
      rfl
    · rw [if_neg e, if_neg e]
theorem in_S_eq {s t : am_Z} (B : in_S s) (m : ∀ j x, rA t j x = rA s j x) (n : ∀ j, rI t j = rI s j) : in_S t := ⟨fun j i lo hi h => by rw [m]; exact B.1 j i lo hi h, fun j lo hi h => by rw [n]; exact B.2.1 j lo hi h, fun j i h => by rw [m]; exact B.2.2 j i h⟩
theorem scr_o {j : Nat} (h : j < 39 ∨ 43 < j) : scr j = false := by
  unfold scr
  rcases h with h | h
  · rw [show Nat.ble 39 j = false from by
      cases hb : Nat.ble 39 j
      · rfl
      · have := Nat.le_of_ble_eq_true hb; omega]
    rfl
  · rw [show Nat.ble j 43 = false from by
      cases hb : Nat.ble j 43
      · rfl
      · have := Nat.le_of_ble_eq_true hb; omega, Bool.and_false]
/-- the state behind builds, for the class -/
theorem CI_R {e : Nat} {q : am_A} {s s1 : am_Z} {k : Int} (I : am_CI e q s) (R : am_BR s s1) (B1 : in_S s1) (hk : 0 ≤ k ∧ k ≤ 3) : am_CI e q (wI s1 74 k) := CI_s I (fun j x h => R.1 j x (scr_o (by omega))) (fun j h => (show (if j = 74 then k else rI s1 j) = rI s j from (if_neg (by omega)).trans (R.2 j (by omega) (by omega)))) (in_S_I B1 (fun lo hi h => by cases h; omega))
theorem best_pos {s : am_Z} {n : Int} (h : (bestW s n).1 ≠ -1) : 1 ≤ rI s 35 := by
  by_cases z : rI s 35 ≤ 0
  · unfold bestW at h
    rw [if_pos z] at h
    exact absurd rfl h
  · omega
theorem cs_hold {d : Nat} {q : am_A} {e : Nat} {s s1 : am_Z} (I : am_CI e q s) {n m h : Int} (hn : in32 n) (hm : in32 m) (hh : in32 h) (hs : kHold s n m h = 0 → am_BR (jrn s) s1 ∧ am_WQ s1 (bestW (jrn s) n) ∧ in_S s1) (hv : ∀ i, 4 * rI s 44 ≤ i → rA s 59 i = 0 ∧ rA s 60 i = 0) (hlen : ∀ k, 0 ≤ k → k < rI s 33 → 1 ≤ rA s 8 (rA s 34 k / 100)) : am_C2 (d + 17) m_X_hold [aR 8 0, aI (zI n), aI (zI m), aI (zI h)] q (am_OP e (kHold s n m h) kd3 (some (aI (zI (rI s 44)))) q (if kHold s n m h = 0 then bkT (wI (wI s1 74 0) 33 0) n m h else s)) := by
  refine am_C2_i (ls := [some (aR 8 0), some (aI (zI n)), some (aI (zI m)), some (aI (zI h)), none]) rfl ?_
  have V := I.1
  have B := CV_B V
  have b33 := B.2.1 33 0 4 rfl
  have b44 := B.2.1 44 0 40 rfl
  refine ar_iload_n rfl rfl ?_
  refine ar_iconst rfl ?_
  refine ar_cs2 rfl rfl (Nat.le_of_ble_eq_true rfl) (cs_needIndexOrNone (d := 0) (by omega) (by omega)) (by omega) (fun o q2 hq => am_B2_T rfl (fun h2 => ?_) (fun h2 => ?_) hq)
  · refine ar_iload_n rfl rfl ?_
    refine ar_iconst rfl ?_
    refine ar_bipush (x := 9) rfl rfl ?_
    refine ar_cs3 rfl rfl (Nat.le_of_ble_eq_true rfl) (cs_needRange (d := 0) (by omega) (by omega) (by omega)) (by omega) (fun o q9 hq => am_B2_T rfl (fun h9 => ?_) (fun h9 => ?_) hq)
    · refine ar_iload_n rfl rfl ?_
      refine ar_iconst rfl ?_
      refine ar_bipush (x := 72) rfl rfl ?_
      refine ar_cs3 rfl rfl (Nat.le_of_ble_eq_true rfl) (cs_needRange (d := 0) (by omega) (by omega) (by omega)) (by omega) (fun o q16 hq => am_B2_T rfl (fun h16 => ?_) (fun h16 => ?_) hq)
      · refine ar_aload_n rfl rfl ?_
        refine ar_aload_n rfl rfl ?_
        refine ar_gfR rfl rfl rfl (by omega) (V.1.1 804 _ rfl) ?_
        refine ar_iload_n rfl rfl ?_
        refine ar_cv2 rfl rfl rfl (Nat.le_of_ble_eq_true rfl) (cs_buildPrice (d := 0) (CIJ I) (t := 1804) (i := 0) rfl (by omega) (V.1.2.2.2 1804 rfl) (LL_J I) b33 (by omega) (by omega) rfl (jr_J s)) (by omega) (fun o q25 hq => ?_)
        obtain ⟨rfl, hP2, hB2⟩ := hq
        have V2 := hP2.1.1
        have bw := hP2.2.2.2.2.2.2.1
        refine cq_join (pc' := 56) (V := if (bestW (jrn s) n).1 ≠ -1 ∧ rI s 44 < 40 then 1 else 0) ?_ (fun K56 => ?_)
        · refine ar_cs1 rfl rfl (Nat.le_of_ble_eq_true rfl) (cs_needState (d := 0) (by omega)) (by omega) (fun o q56 hq => am_B2_T rfl (fun h56 => ?_) (fun h56 => ?_) hq)
          · have hk0 : kHold s n m h = 0 := by { unfold kHold; omega }
            obtain ⟨R, Q1, B1⟩ := hs hk0
            have hne : (bestW (jrn s) n).1 ≠ -1 := by omega
            have hok := bestW_ok (jrn_in B) n hne
            have h1 := best_pos hne
            have e33 : rI (jrn s) 35 = rI s 33 := rfl
            have It := CI_R (k := 0) hP2.1 R B1 (by omega)
            have rA1 : ∀ j x, (j < 36 ∨ j = 36 ∨ 43 < j) → rA s1 j x = rA (jrn s) j x := fun j x z => R.1 j x (scr_o (by omega))
            have e44 : rI (wI s1 74 0) 44 = rI s 44 := (R.2 44 (by omega) (by omega)).trans (jr_I (by omega))
            have L2 : am_LL q25 (wI s1 74 0) (1804, 0) (rI s 33) (fun k => rA s 34 k) := LL_cg hP2.2.2.2.1.1 rfl (fun _ _ => rfl) rfl (fun _ _ _ => rfl) (fun j x z => rA1 j x (by omega)) ((R.2 3 (by omega) (by omega)))
            have bW2 : am_BW q25 (wI s1 74 0) (bestW (jrn s) n) := ⟨hB2.1, hB2.2.1, fun i hi => ⟨(hB2.2.2 i hi).1, (hB2.2.2 i hi).2.1, by have z := (hB2.2.2 i hi).2.2; rw [show rI (wI s1 74 0) 20 = rI (jrn s) 20 from R.2 20 (by omega) (by omega)]; exact z⟩⟩
            refine ar_aload_n rfl rfl ?_
            refine ar_aload_n rfl rfl ?_
            refine ar_gfR rfl rfl rfl (by omega) (V2.1.1 804 _ rfl) ?_
            refine ar_iload_n rfl rfl ?_
            refine ar_iload_n rfl rfl ?_
            refine ar_iload_n rfl rfl ?_
            refine ar_cv4 rfl rfl rfl (Nat.le_of_ble_eq_true rfl) (cs_holdPriced (d := 0) It (N := (rI s 44).toNat) (by rw [e44]) (t := 1804) (i := 0) rfl (by omega) (by omega) (V2.1.2.2.2 1804 rfl) L2 (by omega) (fun k z1 z2 => (rA1 36 k (by omega)).trans (jr_J s k z1 z2)) (by omega) bW2 Q1 hok.1 (hok.2.1.trans e33) (fun k z1 z2 => by rw [show rA (wI s1 74 0) 8 (rA s 34 k / 100) = rA s 8 (rA s 34 k / 100) from (rA1 8 _ (by omega)).trans (jr_A (by omega))]; exact hlen k z1 z2) (by omega) (by omega) (by omega) (by omega) ((R.2 35 (by omega) (by omega)).trans e33) (fun i z => by rw [show rA (wI s1 74 0) 59 i = rA s 59 i from (rA1 59 _ (by omega)).trans (jr_A (by omega)), show rA (wI s1 74 0) 60 i = rA s 60 i from (rA1 60 _ (by omega)).trans (jr_A (by omega))]; exact hv i (by omega))) (by omega) (fun o q67 hq => ?_)
            obtain ⟨rfl, I3, G3⟩ := hq
            have V3 := I3.1
            rw [e44]
            refine ar_stI4 rfl ?_
            refine ar_aload_n rfl rfl ?_
            refine ar_gfR rfl rfl rfl (by omega) (V3.1.1 804 _ rfl) ?_
            refine ar_cv0 rfl rfl rfl (Nat.le_of_ble_eq_true rfl) (sq_clear (d := 0) rfl (by omega) (V3.1.2.2.2 1804 rfl)) (by omega) (fun o q76 hq => ?_)
            obtain ⟨rfl, rfl⟩ := hq
            refine ar_iload rfl rfl ?_
            exact ar_iret rfl (Or.inl rfl) (⟨fun _ => rfl, fun z => absurd hk0 z, by { rw [if_pos hk0]; have I4 : am_CI e (uLS q67 (1804, 0) []) (wI (bkT (wI s1 74 0) n m h) 33 0) := ⟨CV_drop I3.1, I3.2.1, I3.2.2⟩; have z := bkT_33 (t := wI s1 74 0) (v := 0) (p := n) (m := m) (h := h); exact CI_le (CI_s I4 (fun j x _ => z.1 j x) (fun j _ => z.2 j) (in_S_eq (CV_B I4.1) z.1 z.2)) (by omega) }, CG_LS (CG_t hP2.2.1 G3) (by show cK 1804; omega)⟩)
          · exact ⟨fun z => absurd z (by unfold kHold; omega), fun _ => by rw [show kHold s n m h = 3 from by unfold kHold; omega]; rfl, by rw [if_neg (by unfold kHold; omega)]; exact CI_EX (CIunJ B hP2.1) (by omega), CG_NO hP2.2.1 (by omega)⟩
        · refine ar_aload_n rfl rfl ?_
          refine ar_gfR rfl rfl rfl (by omega) (V2.1.1 805 _ rfl) ?_
          refine ar_gfIv rfl rfl rfl (by omega) (hP2.2.2.2.2.1.2.2.2.2) ?_
          refine ar_iconst rfl ?_
          refine ar_icmp_eq rfl rfl (by omega) (by omega) (fun h36 => ?_) (fun h36 => ?_)
          · refine ar_iconst rfl ?_
            exact K56 _ (by first | rw [if_pos (by omega)] | rw [if_neg (by omega)])
          · refine ar_aload_n rfl rfl ?_
            refine ar_gfR rfl rfl rfl (by omega) (V2.1.1 806 _ rfl) ?_
            refine ar_cv0 rfl rfl rfl (Nat.le_of_ble_eq_true rfl) (cl_szB (d := 0) V2) (by omega) (fun o q43 hq => am_B2_is ?_ hq)
            rw [show rI (jrn s) 44 = rI s 44 from jr_I (by omega)]
            refine ar_bipush (x := 40) rfl rfl ?_
            refine ar_icmp_ge rfl rfl (by omega) (by omega) (fun h48 => ?_) (fun h48 => ?_)
            · refine ar_iconst rfl ?_
              exact K56 _ (by first | rw [if_pos (by omega)] | rw [if_neg (by omega)])
            · refine ar_iconst rfl ?_
              refine ar_goto rfl rfl ?_
              exact K56 _ (by first | rw [if_pos (by omega)] | rw [if_neg (by omega)])
      · exact ⟨fun z => absurd z (by unfold kHold; omega), fun _ => by rw [show kHold s n m h = 2 from by unfold kHold; omega]; rfl, by rw [if_neg (by unfold kHold; omega)]; exact CI_EX I (by omega), CG_NO CG_r (by omega)⟩
    · exact ⟨fun z => absurd z (by unfold kHold; omega), fun _ => by rw [show kHold s n m h = 2 from by unfold kHold; omega]; rfl, by rw [if_neg (by unfold kHold; omega)]; exact CI_EX I (by omega), CG_NO CG_r (by omega)⟩
  · exact ⟨fun z => absurd z (by unfold kHold; omega), fun _ => by rw [show kHold s n m h = 1 from by unfold kHold; omega]; rfl, by rw [if_neg (by unfold kHold; omega)]; exact CI_EX I (by omega), CG_NO CG_r (by omega)⟩
end

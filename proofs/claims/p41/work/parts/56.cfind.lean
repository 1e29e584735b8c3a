noncomputable section

theorem cs_findFlight {d : Nat} {q : am_A} {s : am_Z} (V : am_CV q s) {v : Int} (hv : in32 v) : am_C2 (d + 3) m_X_findFlight [aR 8 0, aI (zI v)] q (am_T2 (0 ≤ v ∧ v < rI s 3) 13 (some (aR 4 v.toNat)) q) := by
  refine am_C2_i (ls := [some (aR 8 0), some (aI (zI v))]) rfl ?_
  have b3 := (CV_B V).2.1 3 0 12 rfl
  refine ar_iload_n rfl rfl ?_
  refine ar_aload_n rfl rfl ?_
  refine ar_gfR rfl rfl rfl (by omega) (V.1.1 802 _ rfl) ?_
  refine ar_cv0 rfl rfl rfl (Nat.le_of_ble_eq_true rfl) (cl_szF (d := 0) V) (by omega) (fun o q5 hq => am_B2_is ?_ hq)
  refine ar_cs2 rfl rfl (Nat.le_of_ble_eq_true rfl) (cs_needIndex (d := 0) (by omega) (by omega)) (by omega) (fun o q8 hq => am_B2_T rfl (fun h8 => ?_) (fun h8 => ?_) hq)
  · refine ar_aload_n rfl rfl ?_
    refine ar_gfR rfl rfl rfl (by omega) (V.1.1 802 _ rfl) ?_
    refine ar_iload_n rfl rfl ?_
    refine ar_cv1 rfl rfl rfl (Nat.le_of_ble_eq_true rfl) (cl_getF (d := 0) V (by omega)) (by omega) (fun o q16 hq => am_B2_is ?_ hq)
    refine ar_cast rfl rfl rfl ?_
    exact ar_aret rfl rfl (⟨fun _ => ⟨by first | rfl | (congr; omega), rfl⟩, fun z => absurd (by omega) z⟩)
  · exact ⟨fun z => absurd z (by omega), fun _ => ⟨rfl, rfl⟩⟩
theorem cs_findFare {d : Nat} {q : am_A} {s : am_Z} (V : am_CV q s) {v : Int} (hv : in32 v) : am_C2 (d + 3) m_X_findFare [aR 8 0, aI (zI v)] q (am_T2 (0 ≤ v ∧ v < rI s 20) 13 (some (aR 3 v.toNat)) q) := by
  refine am_C2_i (ls := [some (aR 8 0), some (aI (zI v))]) rfl ?_
  have b20 := (CV_B V).2.1 20 0 16 rfl
  refine ar_iload_n rfl rfl ?_
  refine ar_aload_n rfl rfl ?_
  refine ar_gfR rfl rfl rfl (by omega) (V.1.1 803 _ rfl) ?_
  refine ar_cv0 rfl rfl rfl (Nat.le_of_ble_eq_true rfl) (cl_szA (d := 0) V) (by omega) (fun o q5 hq => am_B2_is ?_ hq)
  refine ar_cs2 rfl rfl (Nat.le_of_ble_eq_true rfl) (cs_needIndex (d := 0) (by omega) (by omega)) (by omega) (fun o q8 hq => am_B2_T rfl (fun h8 => ?_) (fun h8 => ?_) hq)
  · refine ar_aload_n rfl rfl ?_
    refine ar_gfR rfl rfl rfl (by omega) (V.1.1 803 _ rfl) ?_
    refine ar_iload_n rfl rfl ?_
    refine ar_cv1 rfl rfl rfl (Nat.le_of_ble_eq_true rfl) (cl_getA (d := 0) V (by omega)) (by omega) (fun o q16 hq => am_B2_is ?_ hq)
    refine ar_cast rfl rfl rfl ?_
    exact ar_aret rfl rfl (⟨fun _ => ⟨by first | rfl | (congr; omega), rfl⟩, fun z => absurd (by omega) z⟩)
  · exact ⟨fun z => absurd z (by omega), fun _ => ⟨rfl, rfl⟩⟩
theorem cs_findBooking {d : Nat} {q : am_A} {s : am_Z} (V : am_CV q s) {v : Int} (hv : in32 v) : am_C2 (d + 3) m_X_findBooking [aR 8 0, aI (zI v)] q (am_T2 (0 ≤ v ∧ v < rI s 44) 13 (some (aR 0 v.toNat)) q) := by
  refine am_C2_i (ls := [some (aR 8 0), some (aI (zI v))]) rfl ?_
  have b44 := (CV_B V).2.1 44 0 40 rfl
  refine ar_iload_n rfl rfl ?_
  refine ar_aload_n rfl rfl ?_
  refine ar_gfR rfl rfl rfl (by omega) (V.1.1 806 _ rfl) ?_
  refine ar_cv0 rfl rfl rfl (Nat.le_of_ble_eq_true rfl) (cl_szB (d := 0) V) (by omega) (fun o q5 hq => am_B2_is ?_ hq)
  refine ar_cs2 rfl rfl (Nat.le_of_ble_eq_true rfl) (cs_needIndex (d := 0) (by omega) (by omega)) (by omega) (fun o q8 hq => am_B2_T rfl (fun h8 => ?_) (fun h8 => ?_) hq)
  · refine ar_aload_n rfl rfl ?_
    refine ar_gfR rfl rfl rfl (by omega) (V.1.1 806 _ rfl) ?_
    refine ar_iload_n rfl rfl ?_
    refine ar_cv1 rfl rfl rfl (Nat.le_of_ble_eq_true rfl) (cl_getB (d := 0) V (by omega)) (by omega) (fun o q16 hq => am_B2_is ?_ hq)
    refine ar_cast rfl rfl rfl ?_
    exact ar_aret rfl rfl (⟨fun _ => ⟨by first | rfl | (congr; omega), rfl⟩, fun z => absurd (by omega) z⟩)
  · exact ⟨fun z => absurd z (by omega), fun _ => ⟨rfl, rfl⟩⟩
theorem cs_findLeg {d : Nat} {q : am_A} {s : am_Z} (V : am_CV q s) {l : Int} (hl : in32 l) : am_C2 (d + 3) m_X_findLeg [aR 8 0, aI (zI l)] q (am_T2 (legP s l) 13 (some (aR 5 (lId q l))) q) := by
  refine am_C2_i (ls := [some (aR 8 0), some (aI (zI l)), none]) rfl ?_
  have b3 := (CV_B V).2.1 3 0 12 rfl
  have hv : legP s l → (if 0 ≤ l % 100 ∧ l % 100 < 61 then qAR q (1408, (l / 100).toNat) (l % 100).toNat else none) = some (5, lId q l) := fun z => by { rw [if_pos (by omega)]; exact (V.2.2.2.1.1 l z).1 }
  have hw : ¬ legP s l → 0 ≤ l → l / 100 < rI s 3 → (if 0 ≤ l % 100 ∧ l % 100 < 61 then qAR q (1408, (l / 100).toNat) (l % 100).toNat else none) = none := fun z h1 h2 => by { by_cases h3 : l % 100 < 61; rw [if_pos (by omega)]; exact V.2.2.2.1.2 l h1 h2 h3 (fun y => z ⟨h1, h2, h3, y⟩); rw [if_neg (by omega)] }
  refine ar_iload_n rfl rfl ?_
  refine ar_bipush (x := 100) rfl rfl ?_
  refine ar_aload_n rfl rfl ?_
  refine ar_gfR rfl rfl rfl (by omega) (V.1.1 802 _ rfl) ?_
  refine ar_cv0 rfl rfl rfl (Nat.le_of_ble_eq_true rfl) (cl_szF (d := 0) V) (by omega) (fun o q7 hq => am_B2_is ?_ hq)
  refine ar_imul rfl ?_
  refine ar_cs2 rfl rfl (Nat.le_of_ble_eq_true rfl) (cs_needIndex (d := 0) (by omega) (by omega)) (by omega) (fun o q11 hq => am_B2_T rfl (fun h11 => ?_) (fun h11 => ?_) hq)
  · have hfl := V.2.2.1.2.2.1 (l / 100).toNat (by omega)
    refine ar_aload_n rfl rfl ?_
    refine ar_gfR rfl rfl rfl (by omega) (V.1.1 802 _ rfl) ?_
    refine ar_iload_n rfl rfl ?_
    refine ar_bipush (x := 100) rfl rfl ?_
    refine ar_idiv rfl (by omega) (by omega) ?_
    refine ar_cv1 rfl rfl rfl (Nat.le_of_ble_eq_true rfl) (cl_getF (d := 0) V (by omega)) (by omega) (fun o q22 hq => am_B2_is ?_ hq)
    refine ar_cast rfl rfl rfl ?_
    refine ar_iload_n rfl rfl ?_
    refine ar_bipush (x := 100) rfl rfl ?_
    refine ar_irem rfl (by omega) (by omega) ?_
    refine ar_cv1 rfl rfl rfl (Nat.le_of_ble_eq_true rfl) (cs_on (d := 0) hfl.2.2.2.2.1 hfl.2.2.2.2.2.2.2.1 (by omega)) (by omega) (fun o q32 hq => am_B2_is ?_ hq)
    refine ar_stA2 rfl ?_
    refine ar_aload_n rfl rfl ?_
    refine ar_ifnonnull rfl rfl (fun hn37 => ?_) (fun r37 hr37 => ?_)
    · exact ar_throw rfl rfl rfl rfl rfl rfl rfl (Nat.le_of_ble_eq_true rfl) (by intro z; cases z) (by omega) (⟨fun z => absurd (hn37.symm.trans (hv z)) (by simp), fun _ => ⟨rfl, rfl⟩⟩)
    · refine ar_aload_n rfl rfl ?_
      exact ar_aret rfl rfl (⟨fun z => ⟨by rw [hv z], rfl⟩, fun z => absurd ((hw z (by omega) (by omega)).symm.trans hr37) (by simp)⟩)
  · exact ⟨fun z => absurd z (by omega), fun _ => ⟨rfl, rfl⟩⟩
theorem cs_findCoupon {d : Nat} {q : am_A} {s : am_Z} (V : am_CV q s) {b c : Int} (hb : in32 b) (hc : in32 c) : am_C2 (d + 4) m_X_findCoupon [aR 8 0, aI (zI b), aI (zI c)] q (am_T2 (cpP s b c) 13 (some (aR 1 (cId q b.toNat c.toNat))) q) := by
  refine am_C2_i (ls := [some (aR 8 0), some (aI (zI b)), some (aI (zI c)), none]) rfl ?_
  have b44 := (CV_B V).2.1 44 0 40 rfl
  have e52 : 0 ≤ b → rA s 52 ((b.toNat : Nat) : Int) = rA s 52 b := fun h => by rw [show ((b.toNat : Nat) : Int) = b by omega]
  have b52 := (CV_B V).1 52 b 0 10 rfl
  refine ar_aload_n rfl rfl ?_
  refine ar_iload_n rfl rfl ?_
  refine ar_cv1 rfl rfl rfl (Nat.le_of_ble_eq_true rfl) (cs_findBooking (d := 0) V (by omega)) (by omega) (fun o q2 hq => am_B2_T rfl (fun h2 => ?_) (fun h2 => ?_) hq)
  · have e52 := e52 (by omega)
    refine ar_stA3 rfl ?_
    refine ar_iload_n rfl rfl ?_
    refine ar_aload_n rfl rfl ?_
    refine ar_gfR rfl rfl rfl (by omega) ((V.2.2.2.2.2.2.1.2.2.1 b.toNat (by omega)).2.1.1) ?_
    refine ar_cv0 rfl rfl rfl (Nat.le_of_ble_eq_true rfl) (cl_szC (d := 0) V (b := b.toNat) (by omega)) (by omega) (fun o q11 hq => am_B2_is ?_ hq)
    rw [e52]
    refine ar_cs2 rfl rfl (Nat.le_of_ble_eq_true rfl) (cs_needIndex (d := 0) (by omega) (by omega)) (by omega) (fun o q14 hq => am_B2_T rfl (fun h14 => ?_) (fun h14 => ?_) hq)
    · refine ar_aload_n rfl rfl ?_
      refine ar_gfR rfl rfl rfl (by omega) ((V.2.2.2.2.2.2.1.2.2.1 b.toNat (by omega)).2.1.1) ?_
      refine ar_iload_n rfl rfl ?_
      refine ar_cv1 rfl rfl rfl (Nat.le_of_ble_eq_true rfl) (cl_getC (d := 0) V (b := b.toNat) (by omega) (by omega)) (by omega) (fun o q22 hq => am_B2_is ?_ hq)
      refine ar_cast rfl rfl rfl ?_
      exact ar_aret rfl rfl (⟨fun _ => ⟨by first | rfl | (congr; omega), rfl⟩, fun z => absurd (by omega) z⟩)
    · exact ⟨fun z => absurd z (by omega), fun _ => ⟨rfl, rfl⟩⟩
  · exact ⟨fun z => absurd z (by omega), fun _ => ⟨rfl, rfl⟩⟩
theorem cs_departure {d : Nat} {q : am_A} {s : am_Z} (V : am_CV q s) {l : Int} (hl : in32 l) : am_C2 (d + 4) m_X_departure [aR 8 0, aI (zI l)] q (am_T2 (legP s l) 13 (some (aI (zI (dep s l)))) q) := by
  refine am_C2_i (ls := [some (aR 8 0), some (aI (zI l))]) rfl ?_
  refine ar_aload_n rfl rfl ?_
  refine ar_iload_n rfl rfl ?_
  refine ar_cv1 rfl rfl rfl (Nat.le_of_ble_eq_true rfl) (cs_findLeg (d := 0) V (by omega)) (by omega) (fun o q2 hq => am_B2_T rfl (fun h2 => ?_) (fun h2 => ?_) hq)
  · refine ar_gfIv rfl rfl rfl (by omega) ((V.2.2.2.1.1 l h2).2.2.2.2.2.1) ?_
    exact ar_iret rfl (Or.inl rfl) (⟨fun _ => ⟨by first | rfl | (congr; omega), rfl⟩, fun z => absurd (by omega) z⟩)
  · exact ⟨fun z => absurd z (by omega), fun _ => ⟨rfl, rfl⟩⟩
theorem cs_standing {d : Nat} {q : am_A} {s : am_Z} (V : am_CV q s) {l : Int} (hl : in32 l) : am_C2 (d + 4) m_X_standing [aR 8 0, aI (zI l)] q (am_T2 (legP s l) 13 (some (aI (zI (standing s l)))) q) := by
  refine am_C2_i (ls := [some (aR 8 0), some (aI (zI l)), none, none]) rfl ?_
  have b3 := (CV_B V).2.1 3 0 12 rfl
  have b0 := (CV_B V).2.1 0 0 60000 rfl
  refine ar_aload_n rfl rfl ?_
  refine ar_iload_n rfl rfl ?_
  refine ar_cv1 rfl rfl rfl (Nat.le_of_ble_eq_true rfl) (cs_findLeg (d := 0) V (by omega)) (by omega) (fun o q2 hq => am_B2_T rfl (fun h2 => ?_) (fun h2 => ?_) hq)
  · have hg := V.2.2.2.1.1 l h2
    have hd := dep_b (CV_B V) (l := l) (by omega)
    have hc := (CV_B V).1 18 (61 * (l / 100) + l % 100) 0 1 rfl
    refine ar_stA2 rfl ?_
    refine ar_aload_n rfl rfl ?_
    refine ar_gfIv rfl rfl rfl (by omega) (hg.2.2.2.2.2.2.2.2) ?_
    refine ar_if_eq rfl rfl (by omega) (fun h10 => ?_) (fun h10 => ?_)
    · refine ar_iconst rfl ?_
      refine ar_stI3 rfl ?_
      refine ar_bipush (x := 10) rfl rfl ?_
      refine ar_aload_n rfl rfl ?_
      refine ar_gfIv rfl rfl rfl (by omega) (hg.2.2.2.2.2.2.2.1) ?_
      refine ar_imul rfl ?_
      refine ar_aload_n rfl rfl ?_
      refine ar_aload_n rfl rfl ?_
      refine ar_gfIv rfl rfl rfl (by omega) (V.2.1.2.2.2.2.1) ?_
      refine ar_cv1 rfl rfl rfl (Nat.le_of_ble_eq_true rfl) (cs_hasDeparted (d := 0) hg.2.2.2.2.2.2.2.2 hg.2.2.2.2.2.1 (by omega) (by omega) (by omega)) (by omega) (fun o q31 hq => am_B2_is ?_ hq)
      refine ar_if_eqB rfl rfl (fun h34 => ?_) (fun h34 => ?_)
      · refine ar_iload_n rfl rfl ?_
        refine ar_iadd rfl ?_
        exact ar_iret rfl (Or.inl rfl) (⟨fun _ => ⟨congrArg (fun x => (Sum.inl (some (aI (zI x))) : am_O)) (by unfold standing; omega), rfl⟩, fun z => absurd h2 z⟩)
      · refine ar_iconst rfl ?_
        refine ar_goto rfl rfl ?_
        refine ar_iadd rfl ?_
        exact ar_iret rfl (Or.inl rfl) (⟨fun _ => ⟨congrArg (fun x => (Sum.inl (some (aI (zI x))) : am_O)) (by unfold standing; omega), rfl⟩, fun z => absurd h2 z⟩)
    · refine ar_iconst rfl ?_
      refine ar_goto rfl rfl ?_
      refine ar_stI3 rfl ?_
      refine ar_bipush (x := 10) rfl rfl ?_
      refine ar_aload_n rfl rfl ?_
      refine ar_gfIv rfl rfl rfl (by omega) (hg.2.2.2.2.2.2.2.1) ?_
      refine ar_imul rfl ?_
      refine ar_aload_n rfl rfl ?_
      refine ar_aload_n rfl rfl ?_
      refine ar_gfIv rfl rfl rfl (by omega) (V.2.1.2.2.2.2.1) ?_
      refine ar_cv1 rfl rfl rfl (Nat.le_of_ble_eq_true rfl) (cs_hasDeparted (d := 0) hg.2.2.2.2.2.2.2.2 hg.2.2.2.2.2.1 (by omega) (by omega) (by omega)) (by omega) (fun o q31 hq => am_B2_is ?_ hq)
      refine ar_if_eqB rfl rfl (fun h34 => ?_) (fun h34 => ?_)
      · refine ar_iload_n rfl rfl ?_
        refine ar_iadd rfl ?_
        exact ar_iret rfl (Or.inl rfl) (⟨fun _ => ⟨congrArg (fun x => (Sum.inl (some (aI (zI x))) : am_O)) (by unfold standing; omega), rfl⟩, fun z => absurd h2 z⟩)
      · refine ar_iconst rfl ?_
        refine ar_goto rfl rfl ?_
        refine ar_iadd rfl ?_
        exact ar_iret rfl (Or.inl rfl) (⟨fun _ => ⟨congrArg (fun x => (Sum.inl (some (aI (zI x))) : am_O)) (by unfold standing; omega), rfl⟩, fun z => absurd h2 z⟩)
  · exact ⟨fun z => absurd z (by omega), fun _ => ⟨rfl, rfl⟩⟩
theorem cs_points {d : Nat} {q : am_A} {s : am_Z} (V : am_CV q s) {m : Int} (hm : in32 m) : am_C2 (d + 1) m_X_points [aR 8 0, aI (zI m)] q (am_T2 (0 ≤ m ∧ m < 5) 13 (some (aI (zI (rA s 69 m)))) q) := by
  refine am_C2_i (ls := [some (aR 8 0), some (aI (zI m))]) rfl ?_
  refine ar_iload_n rfl rfl ?_
  refine ar_iconst rfl ?_
  refine ar_cs2 rfl rfl (Nat.le_of_ble_eq_true rfl) (cs_needIndex (d := 0) (by omega) (by omega)) (by omega) (fun o q2 hq => am_B2_T rfl (fun h2 => ?_) (fun h2 => ?_) hq)
  · refine ar_aload_n rfl rfl ?_
    refine ar_gfR rfl rfl rfl (by omega) (V.1.1 811 _ rfl) ?_
    refine ar_iload_n rfl rfl ?_
    refine ar_ia rfl rfl (V.1.2.2.1 1811 5 rfl) (by omega) (by omega) ?_
    exact ar_iret rfl (Or.inl rfl) (⟨fun _ => ⟨by rw [V.2.1.2.2.1 m (by omega) (by omega)], rfl⟩, fun z => absurd (by omega) z⟩)
  · exact ⟨fun z => absurd z (by omega), fun _ => ⟨rfl, rfl⟩⟩
theorem cs_denied {d : Nat} {q : am_A} {s : am_Z} (V : am_CV q s)  : am_C2 d m_X_denied [aR 8 0] q (am_is2 (aI (zI (rI s 68))) q) := by
  refine am_C2_i (ls := [some (aR 8 0)]) rfl ?_
  refine ar_aload_n rfl rfl ?_
  refine ar_gfIv rfl rfl rfl (by omega) (V.2.1.2.2.2.2.2) ?_
  exact ar_iret rfl (Or.inl rfl) (cq_eP (by first | rfl | omega))
theorem cs_owed {d : Nat} {q : am_A} {s : am_Z} (V : am_CV q s) {a b : Int} (ha : in32 a) (hb : in32 b) : am_C2 (d + 1) m_X_owed [aR 8 0, aI (zI a), aI (zI b)] q (am_T2 ((0 ≤ a ∧ a < 3) ∧ 0 ≤ b ∧ b < 3) 13 (some (aI (zI (rA s 70 (a * 3 + b))))) q) := by
  refine am_C2_i (ls := [some (aR 8 0), some (aI (zI a)), some (aI (zI b))]) rfl ?_
  refine ar_iload_n rfl rfl ?_
  refine ar_iconst rfl ?_
  refine ar_cs2 rfl rfl (Nat.le_of_ble_eq_true rfl) (cs_needIndex (d := 0) (by omega) (by omega)) (by omega) (fun o q2 hq => am_B2_T rfl (fun h2 => ?_) (fun h2 => ?_) hq)
  · refine ar_iload_n rfl rfl ?_
    refine ar_iconst rfl ?_
    refine ar_cs2 rfl rfl (Nat.le_of_ble_eq_true rfl) (cs_needIndex (d := 0) (by omega) (by omega)) (by omega) (fun o q7 hq => am_B2_T rfl (fun h7 => ?_) (fun h7 => ?_) hq)
    · refine ar_aload_n rfl rfl ?_
      refine ar_gfR rfl rfl rfl (by omega) (V.1.1 812 _ rfl) ?_
      refine ar_iload_n rfl rfl ?_
      refine ar_iconst rfl ?_
      refine ar_imul rfl ?_
      refine ar_iload_n rfl rfl ?_
      refine ar_iadd rfl ?_
      refine ar_ia rfl rfl (V.1.2.2.1 1812 9 rfl) (by omega) (by omega) ?_
      exact ar_iret rfl (Or.inl rfl) (⟨fun _ => ⟨by rw [V.2.1.2.2.2.1 (a * 3 + b) (by omega) (by omega)], rfl⟩, fun z => absurd (by omega) z⟩)
    · exact ⟨fun z => absurd z (by omega), fun _ => ⟨rfl, rfl⟩⟩
  · exact ⟨fun z => absurd z (by omega), fun _ => ⟨rfl, rfl⟩⟩


end

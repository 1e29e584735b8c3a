noncomputable section
theorem cs_setZone {d : Nat} {q : am_A} {s : am_Z} (V : am_CV q s)  {i v : Int} (hi : in32 i) (hv : in32 v) : am_C2 (d + 2) m_X_setZone [aR 8 0, aI (zI i), aI (zI v)] q (am_OK (kSetZone s i v) kd3 (some (aI (zI (rA s 1 i)))) q (fun q2 => q2 = uAI q (1800, 0) i.toNat v)) := by
  refine am_C2_i (ls := [some (aR 8 0), some (aI (zI i)), some (aI (zI v)), none]) rfl ?_
  have b3 := (CV_B V).2.1 3 0 12 rfl
  have hl := rng_l (rI s 3).toNat 4
  have hem : qLS q (1802, 0) = [] ↔ rI s 3 = 0 := by { rw [V.2.2.1.1]; exact ⟨fun z => by { rw [z] at hl; have : 0 = (rI s 3).toNat := hl; omega }, fun z => by { rw [z]; rfl }⟩ }
  have e1 : (if qLS q (1802, 0) = [] then (1 : Int) else 0) = if rI s 3 = 0 then 1 else 0 := by { by_cases z : rI s 3 = 0; rw [if_pos z, if_pos (hem.mpr z)]; rw [if_neg z, if_neg (fun y => z (hem.mp y))] }
  refine ar_iload_n rfl rfl ?_
  refine ar_bipush (x := 6) rfl rfl ?_
  refine ar_cs2 rfl rfl (Nat.le_of_ble_eq_true rfl) (cs_needIndex (d := 0) (by omega) (by omega)) (by omega) (fun o q3 hq => am_B2_T rfl (fun h3 => ?_) (fun h3 => ?_) hq)
  · refine ar_iload_n rfl rfl ?_
    refine ar_bipush (x := -12) rfl rfl ?_
    refine ar_bipush (x := 14) rfl rfl ?_
    refine ar_cs3 rfl rfl (Nat.le_of_ble_eq_true rfl) (cs_needRange (d := 0) (by omega) (by omega) (by omega)) (by omega) (fun o q11 hq => am_B2_T rfl (fun h11 => ?_) (fun h11 => ?_) hq)
    · refine ar_aload_n rfl rfl ?_
      refine ar_gfR rfl rfl rfl (by omega) (V.1.1 802 _ rfl) ?_
      refine ar_cv0 rfl rfl rfl (Nat.le_of_ble_eq_true rfl) (sq_isEmpty (d := 0) (n := 0) rfl (by omega) (V.1.2.2.2 1802 rfl)) (by omega) (fun o q18 hq => am_B2_is ?_ hq)
      rw [e1]
      refine ar_cs1 rfl rfl (Nat.le_of_ble_eq_true rfl) (cs_needState (d := 0) (by omega)) (by omega) (fun o q21 hq => am_B2_T rfl (fun h21 => ?_) (fun h21 => ?_) hq)
      · refine ar_aload_n rfl rfl ?_
        refine ar_gfR rfl rfl rfl (by omega) (V.1.1 800 _ rfl) ?_
        refine ar_iload_n rfl rfl ?_
        refine ar_ia rfl rfl (V.1.2.2.1 1800 6 rfl) (by omega) (by omega) ?_
        rw [V.2.1.1 i (by omega) (by omega)]
        refine ar_stI3 rfl ?_
        refine ar_aload_n rfl rfl ?_
        refine ar_gfR rfl rfl rfl (by omega) (V.1.1 800 _ rfl) ?_
        refine ar_iload_n rfl rfl ?_
        refine ar_iload_n rfl rfl ?_
        refine ar_ias rfl ⟨rfl, by omega⟩ (V.1.2.2.1 1800 6 rfl) (by omega) (by omega) ?_
        refine ar_iload_n rfl rfl ?_
        exact ar_iret rfl (Or.inl rfl) (⟨fun _ => ⟨rfl, rfl⟩, fun z => absurd (by unfold kSetZone; omega) z⟩)
      · exact ⟨fun z => absurd z (by unfold kSetZone; omega), fun _ => by { rw [show kSetZone s i v = 3 from by { unfold kSetZone; omega }]; exact ⟨rfl, rfl⟩ }⟩
    · exact ⟨fun z => absurd z (by unfold kSetZone; omega), fun _ => by { rw [show kSetZone s i v = 2 from by { unfold kSetZone; omega }]; exact ⟨rfl, rfl⟩ }⟩
  · exact ⟨fun z => absurd z (by unfold kSetZone; omega), fun _ => by { rw [show kSetZone s i v = 1 from by { unfold kSetZone; omega }]; exact ⟨rfl, rfl⟩ }⟩
theorem co_setZone {d e : Nat} {q : am_A} {s : am_Z} (I : am_CI e q s) {i v : Int} (hi : in32 i) (hv : in32 v) : am_C2 (d + 2) m_X_setZone [aR 8 0, aI (zI i), aI (zI v)] q (am_OP e (kSetZone s i v) kd3 (some (aI (zI (rA s 1 i)))) q (if kSetZone s i v = 0 then wA s 1 i v else s)) := by
  refine am_C2_imp (cs_setZone (d := d) I.1 hi hv) (fun o q' h => OP_of I (fun _ => kd3_b) h (fun h0 hq => ?_) (fun h => if_neg h))
  rw [if_pos h0]
  unfold kSetZone at h0
  have b3 := (CV_B I.1).2.1 3 0 12 rfl
  subst hq
  exact ⟨CI_w (CI_le I (Nat.le_succ e)) (CV_zone I.1 (by omega) (by omega) (by omega)) rfl rfl rfl rfl (fun _ => ⟨rfl, rfl⟩) ⟨rfl, rfl, rfl⟩, CG_AI CG_r (by omega)⟩
theorem cs_setTax {d : Nat} {q : am_A} {s : am_Z} (V : am_CV q s)  {i v : Int} (hi : in32 i) (hv : in32 v) : am_C2 (d + 2) m_X_setTax [aR 8 0, aI (zI i), aI (zI v)] q (am_OK (kSetTax s i v) kd3 (some (aI (zI (rA s 2 i)))) q (fun q2 => q2 = uAI q (1801, 0) i.toNat v)) := by
  refine am_C2_i (ls := [some (aR 8 0), some (aI (zI i)), some (aI (zI v)), none]) rfl ?_
  refine ar_iload_n rfl rfl ?_
  refine ar_bipush (x := 6) rfl rfl ?_
  refine ar_cs2 rfl rfl (Nat.le_of_ble_eq_true rfl) (cs_needIndex (d := 0) (by omega) (by omega)) (by omega) (fun o q3 hq => am_B2_T rfl (fun h3 => ?_) (fun h3 => ?_) hq)
  · refine ar_iload_n rfl rfl ?_
    refine ar_iconst rfl ?_
    refine ar_sipush (x := 500) rfl rfl ?_
    refine ar_cs3 rfl rfl (Nat.le_of_ble_eq_true rfl) (cs_needRange (d := 0) (by omega) (by omega) (by omega)) (by omega) (fun o q11 hq => am_B2_T rfl (fun h11 => ?_) (fun h11 => ?_) hq)
    · refine ar_aload_n rfl rfl ?_
      refine ar_gfR rfl rfl rfl (by omega) (V.1.1 801 _ rfl) ?_
      refine ar_iload_n rfl rfl ?_
      refine ar_ia rfl rfl (V.1.2.2.1 1801 6 rfl) (by omega) (by omega) ?_
      rw [V.2.1.2.1 i (by omega) (by omega)]
      refine ar_stI3 rfl ?_
      refine ar_aload_n rfl rfl ?_
      refine ar_gfR rfl rfl rfl (by omega) (V.1.1 801 _ rfl) ?_
      refine ar_iload_n rfl rfl ?_
      refine ar_iload_n rfl rfl ?_
      refine ar_ias rfl ⟨rfl, by omega⟩ (V.1.2.2.1 1801 6 rfl) (by omega) (by omega) ?_
      refine ar_iload_n rfl rfl ?_
      exact ar_iret rfl (Or.inl rfl) (⟨fun _ => ⟨rfl, rfl⟩, fun z => absurd (by unfold kSetTax; omega) z⟩)
    · exact ⟨fun z => absurd z (by unfold kSetTax; omega), fun _ => by { rw [show kSetTax s i v = 2 from by { unfold kSetTax; omega }]; exact ⟨rfl, rfl⟩ }⟩
  · exact ⟨fun z => absurd z (by unfold kSetTax; omega), fun _ => by { rw [show kSetTax s i v = 1 from by { unfold kSetTax; omega }]; exact ⟨rfl, rfl⟩ }⟩
theorem co_setTax {d e : Nat} {q : am_A} {s : am_Z} (I : am_CI e q s) {i v : Int} (hi : in32 i) (hv : in32 v) : am_C2 (d + 2) m_X_setTax [aR 8 0, aI (zI i), aI (zI v)] q (am_OP e (kSetTax s i v) kd3 (some (aI (zI (rA s 2 i)))) q (if kSetTax s i v = 0 then wA s 2 i v else s)) := by
  refine am_C2_imp (cs_setTax (d := d) I.1 hi hv) (fun o q' h => OP_of I (fun _ => kd3_b) h (fun h0 hq => ?_) (fun h => if_neg h))
  rw [if_pos h0]
  unfold kSetTax at h0
  subst hq
  exact ⟨CI_w (CI_le I (Nat.le_succ e)) (CV_tax I.1 (by omega) (by omega)) rfl rfl rfl rfl (fun _ => ⟨rfl, rfl⟩) ⟨rfl, rfl, rfl⟩, CG_AI CG_r (by omega)⟩
theorem cs_limit {d : Nat} {q : am_A} {s : am_Z} (V : am_CV q s)  {f b v : Int} (hf : in32 f) (hb : in32 b) (hv : in32 v) : am_C2 (d + 4) m_X_limit [aR 8 0, aI (zI f), aI (zI b), aI (zI v)] q (am_OK (kLimit s f b v) kd3 (some (aI (zI (rA s 14 (4 * f + b))))) q (fun q2 => q2 = uAI q (1407, f.toNat) b.toNat v)) := by
  refine am_C2_i (ls := [some (aR 8 0), some (aI (zI f)), some (aI (zI b)), some (aI (zI v)), none, none]) rfl ?_
  have b3 := (CV_B V).2.1 3 0 12 rfl
  have b9 := (CV_B V).1 9 f 0 60 rfl
  refine ar_aload_n rfl rfl ?_
  refine ar_iload_n rfl rfl ?_
  refine ar_cv1 rfl rfl rfl (Nat.le_of_ble_eq_true rfl) (cs_findFlight (d := 0) V (by omega)) (by omega) (fun o q2 hq => am_B2_T rfl (fun h2 => ?_) (fun h2 => ?_) hq)
  · have hfl := (V.2.2.1.2.2.1 f.toNat (by omega))
    have ef : ((f.toNat : Nat) : Int) = f := by omega
    refine ar_stA4 rfl ?_
    refine ar_iload_n rfl rfl ?_
    refine ar_iconst rfl ?_
    refine ar_cs2 rfl rfl (Nat.le_of_ble_eq_true rfl) (cs_needIndex (d := 0) (by omega) (by omega)) (by omega) (fun o q9 hq => am_B2_T rfl (fun h9 => ?_) (fun h9 => ?_) hq)
    · refine ar_iload_n rfl rfl ?_
      refine ar_iconst rfl ?_
      refine ar_aload rfl rfl ?_
      refine ar_gfIv rfl rfl rfl (by omega) ((hfl.1 406 9 rfl).trans (by rw [ef])) ?_
      refine ar_bipush (x := 10) rfl rfl ?_
      refine ar_iadd rfl ?_
      refine ar_cs3 rfl rfl (Nat.le_of_ble_eq_true rfl) (cs_needRange (d := 0) (by omega) (by omega) (by omega)) (by omega) (fun o q22 hq => am_B2_T rfl (fun h22 => ?_) (fun h22 => ?_) hq)
      · refine ar_aload rfl rfl ?_
        refine ar_gfR rfl rfl rfl (by omega) (hfl.2.2.2.1) ?_
        refine ar_iload_n rfl rfl ?_
        refine ar_ia rfl rfl (hfl.2.2.2.2.2.2.1) (by omega) (by omega) ?_
        rw [hfl.2.2.2.2.2.2.2.2 b (by omega) (by omega), ef]
        refine ar_stI5 rfl ?_
        refine ar_aload rfl rfl ?_
        refine ar_gfR rfl rfl rfl (by omega) (hfl.2.2.2.1) ?_
        refine ar_iload_n rfl rfl ?_
        refine ar_iload_n rfl rfl ?_
        refine ar_ias rfl ⟨rfl, by omega⟩ (hfl.2.2.2.2.2.2.1) (by omega) (by omega) ?_
        refine ar_iload rfl rfl ?_
        exact ar_iret rfl (Or.inl rfl) (⟨fun _ => ⟨rfl, rfl⟩, fun z => absurd (by unfold kLimit; omega) z⟩)
      · exact ⟨fun z => absurd z (by unfold kLimit; omega), fun _ => by { rw [show kLimit s f b v = 2 from by { unfold kLimit; omega }]; exact ⟨rfl, rfl⟩ }⟩
    · exact ⟨fun z => absurd z (by unfold kLimit; omega), fun _ => by { rw [show kLimit s f b v = 1 from by { unfold kLimit; omega }]; exact ⟨rfl, rfl⟩ }⟩
  · exact ⟨fun z => absurd z (by unfold kLimit; omega), fun _ => by { rw [show kLimit s f b v = 1 from by { unfold kLimit; omega }]; exact ⟨rfl, rfl⟩ }⟩
theorem co_limit {d e : Nat} {q : am_A} {s : am_Z} (I : am_CI e q s) {f b v : Int} (hf : in32 f) (hb : in32 b) (hv : in32 v) : am_C2 (d + 4) m_X_limit [aR 8 0, aI (zI f), aI (zI b), aI (zI v)] q (am_OP e (kLimit s f b v) kd3 (some (aI (zI (rA s 14 (4 * f + b))))) q (if kLimit s f b v = 0 then wA s 14 (4 * f + b) v else s)) := by
  refine am_C2_imp (cs_limit (d := d) I.1 hf hb hv) (fun o q' h => OP_of I (fun _ => kd3_b) h (fun h0 hq => ?_) (fun h => if_neg h))
  rw [if_pos h0]
  unfold kLimit at h0
  have b3 := (CV_B I.1).2.1 3 0 12 rfl
  have b9 := (CV_B I.1).1 9 f 0 60 rfl
  have he : 4 * ((f.toNat : Nat) : Int) + b = 4 * f + b := by omega
  subst hq
  exact ⟨CI_w (CI_le I (Nat.le_succ e)) (by rw [← he]; exact CV_limit I.1 (by omega) (by omega)) rfl rfl rfl rfl (fun _ => ⟨rfl, rfl⟩) ⟨rfl, rfl, rfl⟩, CG_AI CG_r (by omega)⟩
theorem cs_back {d : Nat} {q : am_A} {s : am_Z} (V : am_CV q s)  {f v : Int} (hf : in32 f) (hv : in32 v) : am_C2 (d + 4) m_X_back [aR 8 0, aI (zI f), aI (zI v)] q (am_OK (kBack s f v) kd3 (some (aI (zI (rA s 32 f)))) q (fun q2 => q2 = uFI q 312 (3, f.toNat) v)) := by
  refine am_C2_i (ls := [some (aR 8 0), some (aI (zI f)), some (aI (zI v)), none, none]) rfl ?_
  have b20 := (CV_B V).2.1 20 0 16 rfl
  refine ar_aload_n rfl rfl ?_
  refine ar_iload_n rfl rfl ?_
  refine ar_cv1 rfl rfl rfl (Nat.le_of_ble_eq_true rfl) (cs_findFare (d := 0) V (by omega)) (by omega) (fun o q2 hq => am_B2_T rfl (fun h2 => ?_) (fun h2 => ?_) hq)
  · have hfa := V.2.2.2.2.1.2.2 f.toNat (by omega)
    have ef : ((f.toNat : Nat) : Int) = f := by omega
    refine ar_stA3 rfl ?_
    refine ar_iload_n rfl rfl ?_
    refine ar_iconst rfl ?_
    refine ar_bipush (x := 100) rfl rfl ?_
    refine ar_cs3 rfl rfl (Nat.le_of_ble_eq_true rfl) (cs_needRange (d := 0) (by omega) (by omega) (by omega)) (by omega) (fun o q10 hq => am_B2_T rfl (fun h10 => ?_) (fun h10 => ?_) hq)
    · refine ar_aload_n rfl rfl ?_
      refine ar_gfIv rfl rfl rfl (by omega) ((hfa.1 312 32 rfl).trans (by rw [ef])) ?_
      refine ar_stI4 rfl ?_
      refine ar_aload_n rfl rfl ?_
      refine ar_iload_n rfl rfl ?_
      refine ar_pfI rfl rfl rfl rfl (by omega) (Or.inl rfl) ?_
      refine ar_iload rfl rfl ?_
      exact ar_iret rfl (Or.inl rfl) (⟨fun _ => ⟨rfl, rfl⟩, fun z => absurd (by unfold kBack; omega) z⟩)
    · exact ⟨fun z => absurd z (by unfold kBack; omega), fun _ => by { rw [show kBack s f v = 2 from by { unfold kBack; omega }]; exact ⟨rfl, rfl⟩ }⟩
  · exact ⟨fun z => absurd z (by unfold kBack; omega), fun _ => by { rw [show kBack s f v = 1 from by { unfold kBack; omega }]; exact ⟨rfl, rfl⟩ }⟩
theorem co_back {d e : Nat} {q : am_A} {s : am_Z} (I : am_CI e q s) {f v : Int} (hf : in32 f) (hv : in32 v) : am_C2 (d + 4) m_X_back [aR 8 0, aI (zI f), aI (zI v)] q (am_OP e (kBack s f v) kd3 (some (aI (zI (rA s 32 f)))) q (if kBack s f v = 0 then wA s 32 f v else s)) := by
  refine am_C2_imp (cs_back (d := d) I.1 hf hv) (fun o q' h => OP_of I (fun _ => kd3_b) h (fun h0 hq => ?_) (fun h => if_neg h))
  rw [if_pos h0]
  unfold kBack at h0
  have he : ((f.toNat : Nat) : Int) = f := by omega
  subst hq
  exact ⟨CI_w (CI_le I (Nat.le_succ e)) (by have z := CV_wA I.1 (f0 := 312) (j0 := 32) (i0 := f.toNat) (v := v) rfl (fun lo hi h => by cases h; omega); rw [he] at z; exact z) rfl rfl rfl rfl (fun _ => ⟨rfl, rfl⟩) ⟨rfl, rfl, rfl⟩, CG_FI CG_r (by omega)⟩
theorem cs_rules {d : Nat} {q : am_A} {s : am_Z} (V : am_CV q s)  {f a b ad p st w : Int} (hf : in32 f) (ha : in32 a) (hb : in32 b) (had : in32 ad) (hst : in32 st) (hp : p = 0 ∨ p = 1) (hw : w = 0 ∨ w = 1) : am_C2 (d + 4) m_X_rules [aR 8 0, aI (zI f), aI (zI a), aI (zI b), aI (zI ad), aI (zI p), aI (zI st), aI (zI w)] q (am_OK (kRules s f a b ad st) kd3 (none) q (fun q2 => q2 = uFI (uFI (uFI (uFI (uFI (uFI q 306 (3, f.toNat) a) 307 (3, f.toNat) b) 308 (3, f.toNat) ad) 309 (3, f.toNat) p) 310 (3, f.toNat) st) 311 (3, f.toNat) w)) := by
  refine am_C2_i (ls := [some (aR 8 0), some (aI (zI f)), some (aI (zI a)), some (aI (zI b)), some (aI (zI ad)), some (aI (zI p)), some (aI (zI st)), some (aI (zI w)), none]) rfl ?_
  have b20 := (CV_B V).2.1 20 0 16 rfl
  refine ar_aload_n rfl rfl ?_
  refine ar_iload_n rfl rfl ?_
  refine ar_cv1 rfl rfl rfl (Nat.le_of_ble_eq_true rfl) (cs_findFare (d := 0) V (by omega)) (by omega) (fun o q2 hq => am_B2_T rfl (fun h2 => ?_) (fun h2 => ?_) hq)
  · refine ar_stA8 rfl ?_
    refine ar_iload_n rfl rfl ?_
    refine ar_iconst rfl ?_
    refine ar_bipush (x := 61) rfl rfl ?_
    refine ar_cs3 rfl rfl (Nat.le_of_ble_eq_true rfl) (cs_needRange (d := 0) (by omega) (by omega) (by omega)) (by omega) (fun o q11 hq => am_B2_T rfl (fun h11 => ?_) (fun h11 => ?_) hq)
    · refine ar_iload_n rfl rfl ?_
      refine ar_iload_n rfl rfl ?_
      refine ar_bipush (x := 61) rfl rfl ?_
      refine ar_cs3 rfl rfl (Nat.le_of_ble_eq_true rfl) (cs_needRange (d := 0) (by omega) (by omega) (by omega)) (by omega) (fun o q18 hq => am_B2_T rfl (fun h18 => ?_) (fun h18 => ?_) hq)
      · refine ar_iload rfl rfl ?_
        refine ar_iconst rfl ?_
        refine ar_bipush (x := 30) rfl rfl ?_
        refine ar_cs3 rfl rfl (Nat.le_of_ble_eq_true rfl) (cs_needRange (d := 0) (by omega) (by omega) (by omega)) (by omega) (fun o q26 hq => am_B2_T rfl (fun h26 => ?_) (fun h26 => ?_) hq)
        · refine ar_iload rfl rfl ?_
          refine ar_iconst rfl ?_
          refine ar_bipush (x := 30) rfl rfl ?_
          refine ar_cs3 rfl rfl (Nat.le_of_ble_eq_true rfl) (cs_needRange (d := 0) (by omega) (by omega) (by omega)) (by omega) (fun o q34 hq => am_B2_T rfl (fun h34 => ?_) (fun h34 => ?_) hq)
          · refine ar_aload rfl rfl ?_
            refine ar_iload_n rfl rfl ?_
            refine ar_pfI rfl rfl rfl rfl (by omega) (Or.inl rfl) ?_
            refine ar_aload rfl rfl ?_
            refine ar_iload_n rfl rfl ?_
            refine ar_pfI rfl rfl rfl rfl (by omega) (Or.inl rfl) ?_
            refine ar_aload rfl rfl ?_
            refine ar_iload rfl rfl ?_
            refine ar_pfI rfl rfl rfl rfl (by omega) (Or.inl rfl) ?_
            refine ar_aload rfl rfl ?_
            refine ar_iload rfl rfl ?_
            refine ar_pfI rfl rfl rfl rfl (by omega) (Or.inr (by omega)) ?_
            refine ar_aload rfl rfl ?_
            refine ar_iload rfl rfl ?_
            refine ar_pfI rfl rfl rfl rfl (by omega) (Or.inl rfl) ?_
            refine ar_aload rfl rfl ?_
            refine ar_iload rfl rfl ?_
            refine ar_pfI rfl rfl rfl rfl (by omega) (Or.inr (by omega)) ?_
            exact ar_ret rfl rfl (⟨fun _ => ⟨rfl, rfl⟩, fun z => absurd (by unfold kRules; omega) z⟩)
          · exact ⟨fun z => absurd z (by unfold kRules; omega), fun _ => by { rw [show kRules s f a b ad st = 2 from by { unfold kRules; omega }]; exact ⟨rfl, rfl⟩ }⟩
        · exact ⟨fun z => absurd z (by unfold kRules; omega), fun _ => by { rw [show kRules s f a b ad st = 2 from by { unfold kRules; omega }]; exact ⟨rfl, rfl⟩ }⟩
      · exact ⟨fun z => absurd z (by unfold kRules; omega), fun _ => by { rw [show kRules s f a b ad st = 2 from by { unfold kRules; omega }]; exact ⟨rfl, rfl⟩ }⟩
    · exact ⟨fun z => absurd z (by unfold kRules; omega), fun _ => by { rw [show kRules s f a b ad st = 2 from by { unfold kRules; omega }]; exact ⟨rfl, rfl⟩ }⟩
  · exact ⟨fun z => absurd z (by unfold kRules; omega), fun _ => by { rw [show kRules s f a b ad st = 1 from by { unfold kRules; omega }]; exact ⟨rfl, rfl⟩ }⟩
theorem co_rules {d e : Nat} {q : am_A} {s : am_Z} (I : am_CI e q s) {f a b ad p st w : Int} (hf : in32 f) (ha : in32 a) (hb : in32 b) (had : in32 ad) (hst : in32 st) (hp : p = 0 ∨ p = 1) (hw : w = 0 ∨ w = 1) : am_C2 (d + 4) m_X_rules [aR 8 0, aI (zI f), aI (zI a), aI (zI b), aI (zI ad), aI (zI p), aI (zI st), aI (zI w)] q (am_OP e (kRules s f a b ad st) kd3 (none) q (if kRules s f a b ad st = 0 then wA (wA (wA (wA (wA (wA s 26 f a) 27 f b) 28 f ad) 29 f p) 30 f st) 31 f w else s)) := by
  refine am_C2_imp (cs_rules (d := d) I.1 hf ha hb had hst hp hw) (fun o q' h => OP_of I (fun _ => kd3_b) h (fun h0 hq => ?_) (fun h => if_neg h))
  rw [if_pos h0]
  unfold kRules at h0
  have he : ((f.toNat : Nat) : Int) = f := by omega
  subst hq
  exact ⟨CI_w (CI_le I (Nat.le_succ e)) (by have z := (CV_wA (CV_wA (CV_wA (CV_wA (CV_wA (CV_wA I.1 (f0 := 306) (j0 := 26) (i0 := f.toNat) (v := a) rfl (fun lo hi h => by cases h; omega)) (f0 := 307) (j0 := 27) (i0 := f.toNat) (v := b) rfl (fun lo hi h => by cases h; omega)) (f0 := 308) (j0 := 28) (i0 := f.toNat) (v := ad) rfl (fun lo hi h => by cases h; omega)) (f0 := 309) (j0 := 29) (i0 := f.toNat) (v := p) rfl (fun lo hi h => by cases h; omega)) (f0 := 310) (j0 := 30) (i0 := f.toNat) (v := st) rfl (fun lo hi h => by cases h; omega)) (f0 := 311) (j0 := 31) (i0 := f.toNat) (v := w) rfl (fun lo hi h => by cases h; omega)); rw [he] at z; exact z) rfl rfl rfl rfl (fun _ => ⟨rfl, rfl⟩) ⟨rfl, rfl, rfl⟩, CG_FI (CG_FI (CG_FI (CG_FI (CG_FI (CG_FI CG_r (by omega)) (by omega)) (by omega)) (by omega)) (by omega)) (by omega)⟩
theorem cs_link0 {d : Nat} {q : am_A} {s : am_Z} (V : am_CV q s)  {f g n : Int} (hf : in32 f) (hg : in32 g) (hn : n = 0 ∨ n = 1) (hx : g = -1) : am_C2 (d + 4) m_X_link [aR 8 0, aI (zI f), aI (zI g), aI (zI n)] q (am_OK (kLink s f g) kd3 (some (aI (zI (rA s 15 f)))) q (fun q2 => q2 = uFI (uFR q 411 (4, f.toNat) none) 412 (4, f.toNat) n)) := by
  refine am_C2_i (ls := [some (aR 8 0), some (aI (zI f)), some (aI (zI g)), some (aI (zI n)), none, none, none]) rfl ?_
  have b3 := (CV_B V).2.1 3 0 12 rfl
  have b5 := (CV_B V).1 5 g 0 5 rfl
  have b6 := (CV_B V).1 6 f 0 5 rfl
  refine ar_aload_n rfl rfl ?_
  refine ar_iload_n rfl rfl ?_
  refine ar_cv1 rfl rfl rfl (Nat.le_of_ble_eq_true rfl) (cs_findFlight (d := 0) V (by omega)) (by omega) (fun o q2 hq => am_B2_T rfl (fun h2 => ?_) (fun h2 => ?_) hq)
  · have hfl := (V.2.2.1.2.2.1 f.toNat (by omega))
    have ef : ((f.toNat : Nat) : Int) = f := by omega
    have b15 := V.2.2.1.2.2.2 f (by omega) (by omega)
    have bf := (CV_B V).1 15 f (-1) 11 rfl
    refine ar_stA4 rfl ?_
    refine ar_iload_n rfl rfl ?_
    refine ar_iconst rfl ?_
    refine ar_icmp_ne rfl rfl (by omega) (by omega) (fun ht => by omega) (fun h9 => ?_)
    refine ar_null rfl ?_
    refine ar_goto rfl rfl ?_
    refine ar_stA5 rfl ?_
    refine ar_aload rfl rfl ?_
    refine ar_ifnull rfl rfl (fun _ => ?_) (fun r hr => absurd hr (by simp))
    refine ar_iconst rfl ?_
    refine ar_goto rfl rfl ?_
    refine ar_cs1 rfl rfl (Nat.le_of_ble_eq_true rfl) (cs_needArgument (d := 0) (by omega)) (by omega) (fun o q46 hq => am_B2_T rfl (fun h46 => ?_) (fun h46 => ?_) hq)
    · refine cq_join (pc' := 69) (V := rA s 15 f) ?_ (fun K69 => ?_)
      · refine ar_stI6 rfl ?_
        refine ar_aload rfl rfl ?_
        refine ar_aload rfl rfl ?_
        refine ar_pfR rfl rfl rfl rfl (by omega) ?_
        refine ar_aload rfl rfl ?_
        refine ar_iload_n rfl rfl ?_
        refine ar_pfI rfl rfl rfl rfl (by omega) (Or.inr (by omega)) ?_
        refine ar_iload rfl rfl ?_
        exact ar_iret rfl (Or.inl rfl) (⟨fun _ => ⟨rfl, rfl⟩, fun z => absurd (by unfold kLink; omega) z⟩)
      · refine ar_aload rfl rfl ?_
        refine ar_gfR rfl rfl rfl (by omega) (hfl.2.2.2.2.2.1.trans (by rw [ef])) ?_
        refine ar_ifnonnull rfl rfl (fun hn54 => ?_) (fun r54 hr54 => ?_)
        · refine ar_iconst rfl ?_
          refine ar_goto rfl rfl ?_
          exact K69 _ (by first | omega | exact Classical.byContradiction (fun y => by rw [if_neg (fun z => y z.symm)] at hn54; cases hn54))
        · refine ar_aload rfl rfl ?_
          refine ar_gfR rfl rfl rfl (by omega) (hfl.2.2.2.2.2.1.trans (by rw [ef])) ?_
          have z54 : rA s 15 f ≠ -1 := fun y => by { rw [if_pos y] at hr54; cases hr54 }
          rw [if_neg z54]
          refine ar_gfIv rfl rfl rfl (by omega) ((show qFI q 400 (4, (rA s 15 f).toNat) = rA s 15 f from (V.2.2.1.2.2.1 (rA s 15 f).toNat (by omega)).2.1.trans (by omega))) ?_
          exact K69 _ (by first | omega | exact Classical.byContradiction (fun y => by rw [if_neg (fun z => y z.symm)] at hn54; cases hn54))
    · exact ⟨fun z => absurd z (by unfold kLink; omega), fun _ => by { rw [show kLink s f g = 2 from by { unfold kLink; omega }]; exact ⟨rfl, rfl⟩ }⟩
  · exact ⟨fun z => absurd z (by unfold kLink; omega), fun _ => by { rw [show kLink s f g = 1 from by { unfold kLink; omega }]; exact ⟨rfl, rfl⟩ }⟩
theorem cs_link1 {d : Nat} {q : am_A} {s : am_Z} (V : am_CV q s)  {f g n : Int} (hf : in32 f) (hg : in32 g) (hn : n = 0 ∨ n = 1) (hx : g ≠ -1) : am_C2 (d + 4) m_X_link [aR 8 0, aI (zI f), aI (zI g), aI (zI n)] q (am_OK (kLink s f g) kd3 (some (aI (zI (rA s 15 f)))) q (fun q2 => q2 = uFI (uFR q 411 (4, f.toNat) (some (4, g.toNat))) 412 (4, f.toNat) n)) := by
  refine am_C2_i (ls := [some (aR 8 0), some (aI (zI f)), some (aI (zI g)), some (aI (zI n)), none, none, none]) rfl ?_
  have b3 := (CV_B V).2.1 3 0 12 rfl
  have b5 := (CV_B V).1 5 g 0 5 rfl
  have b6 := (CV_B V).1 6 f 0 5 rfl
  refine ar_aload_n rfl rfl ?_
  refine ar_iload_n rfl rfl ?_
  refine ar_cv1 rfl rfl rfl (Nat.le_of_ble_eq_true rfl) (cs_findFlight (d := 0) V (by omega)) (by omega) (fun o q2 hq => am_B2_T rfl (fun h2 => ?_) (fun h2 => ?_) hq)
  · have hfl := (V.2.2.1.2.2.1 f.toNat (by omega))
    have ef : ((f.toNat : Nat) : Int) = f := by omega
    have b15 := V.2.2.1.2.2.2 f (by omega) (by omega)
    have bf := (CV_B V).1 15 f (-1) 11 rfl
    refine ar_stA4 rfl ?_
    refine ar_iload_n rfl rfl ?_
    refine ar_iconst rfl ?_
    refine ar_icmp_ne rfl rfl (by omega) (by omega) (fun h9 => ?_) (fun hf => by omega)
    refine ar_aload_n rfl rfl ?_
    refine ar_iload_n rfl rfl ?_
    refine ar_cv1 rfl rfl rfl (Nat.le_of_ble_eq_true rfl) (cs_findFlight (d := 0) V (by omega)) (by omega) (fun o q18 hq => am_B2_T rfl (fun h18 => ?_) (fun h18 => ?_) hq)
    · refine ar_stA5 rfl ?_
      refine ar_aload rfl rfl ?_
      refine ar_ifnull rfl rfl (fun hn => absurd hn (by simp)) (fun _ _ => ?_)
      refine cq_join (pc' := 46) (V := if rA s 5 g = rA s 6 f then 1 else 0) ?_ (fun K46 => ?_)
      · refine ar_cs1 rfl rfl (Nat.le_of_ble_eq_true rfl) (cs_needArgument (d := 0) (by omega)) (by omega) (fun o q46 hq => am_B2_T rfl (fun h46 => ?_) (fun h46 => ?_) hq)
        · refine cq_join (pc' := 69) (V := rA s 15 f) ?_ (fun K69 => ?_)
          · refine ar_stI6 rfl ?_
            refine ar_aload rfl rfl ?_
            refine ar_aload rfl rfl ?_
            refine ar_pfR rfl rfl rfl rfl (by omega) ?_
            refine ar_aload rfl rfl ?_
            refine ar_iload_n rfl rfl ?_
            refine ar_pfI rfl rfl rfl rfl (by omega) (Or.inr (by omega)) ?_
            refine ar_iload rfl rfl ?_
            exact ar_iret rfl (Or.inl rfl) (⟨fun _ => ⟨rfl, rfl⟩, fun z => absurd (by unfold kLink; omega) z⟩)
          · refine ar_aload rfl rfl ?_
            refine ar_gfR rfl rfl rfl (by omega) (hfl.2.2.2.2.2.1.trans (by rw [ef])) ?_
            refine ar_ifnonnull rfl rfl (fun hn54 => ?_) (fun r54 hr54 => ?_)
            · refine ar_iconst rfl ?_
              refine ar_goto rfl rfl ?_
              exact K69 _ (by first | omega | exact Classical.byContradiction (fun y => by rw [if_neg (fun z => y z.symm)] at hn54; cases hn54))
            · refine ar_aload rfl rfl ?_
              refine ar_gfR rfl rfl rfl (by omega) (hfl.2.2.2.2.2.1.trans (by rw [ef])) ?_
              have z54 : rA s 15 f ≠ -1 := fun y => by { rw [if_pos y] at hr54; cases hr54 }
              rw [if_neg z54]
              refine ar_gfIv rfl rfl rfl (by omega) ((show qFI q 400 (4, (rA s 15 f).toNat) = rA s 15 f from (V.2.2.1.2.2.1 (rA s 15 f).toNat (by omega)).2.1.trans (by omega))) ?_
              exact K69 _ (by first | omega | exact Classical.byContradiction (fun y => by rw [if_neg (fun z => y z.symm)] at hn54; cases hn54))
        · exact ⟨fun z => absurd z (by unfold kLink; omega), fun _ => by { rw [show kLink s f g = 2 from by { unfold kLink; omega }]; exact ⟨rfl, rfl⟩ }⟩
      · refine ar_aload rfl rfl ?_
        refine ar_gfIv rfl rfl rfl (by omega) (((V.2.2.1.2.2.1 g.toNat (by omega)).1 402 5 rfl).trans (by rw [show ((g.toNat : Nat) : Int) = g by omega])) ?_
        refine ar_aload rfl rfl ?_
        refine ar_gfIv rfl rfl rfl (by omega) ((hfl.1 403 6 rfl).trans (by rw [ef])) ?_
        refine ar_icmp_ne rfl rfl (by omega) (by omega) (fun h38 => ?_) (fun h38 => ?_)
        · refine ar_iconst rfl ?_
          exact K46 _ (by first | (rw [if_pos (by omega)]) | (rw [if_neg (by omega)]))
        · refine ar_iconst rfl ?_
          refine ar_goto rfl rfl ?_
          exact K46 _ (by first | (rw [if_pos (by omega)]) | (rw [if_neg (by omega)]))
    · exact ⟨fun z => absurd z (by unfold kLink; omega), fun _ => by { rw [show kLink s f g = 1 from by { unfold kLink; omega }]; exact ⟨rfl, rfl⟩ }⟩
  · exact ⟨fun z => absurd z (by unfold kLink; omega), fun _ => by { rw [show kLink s f g = 1 from by { unfold kLink; omega }]; exact ⟨rfl, rfl⟩ }⟩
theorem cs_link {d : Nat} {q : am_A} {s : am_Z} (V : am_CV q s) {f g n : Int} (hf : in32 f) (hg : in32 g) (hn : n = 0 ∨ n = 1) : am_C2 (d + 4) m_X_link [aR 8 0, aI (zI f), aI (zI g), aI (zI n)] q (am_OK (kLink s f g) kd3 (some (aI (zI (rA s 15 f)))) q (fun q2 => q2 = uFI (uFR q 411 (4, f.toNat) (if g = -1 then none else some (4, g.toNat))) 412 (4, f.toNat) n)) := by
  by_cases hx : g = -1
  · rw [show (if g = -1 then none else some ((4, g.toNat) : am_R)) = none from if_pos hx]
    exact cs_link0 (d := d) V hf hg hn hx
  · rw [show (if g = -1 then none else some ((4, g.toNat) : am_R)) = some (4, g.toNat) from if_neg hx]
    exact cs_link1 (d := d) V hf hg hn hx
theorem co_link {d e : Nat} {q : am_A} {s : am_Z} (I : am_CI e q s) {f g n : Int} (hf : in32 f) (hg : in32 g) (hn : n = 0 ∨ n = 1) : am_C2 (d + 4) m_X_link [aR 8 0, aI (zI f), aI (zI g), aI (zI n)] q (am_OP e (kLink s f g) kd3 (some (aI (zI (rA s 15 f)))) q (if kLink s f g = 0 then wA (wA s 15 f g) 16 f n else s)) := by
  refine am_C2_imp (cs_link (d := d) I.1 hf hg hn) (fun o q' h => OP_of I (fun _ => kd3_b) h (fun h0 hq => ?_) (fun h => if_neg h))
  rw [if_pos h0]
  unfold kLink at h0
  have b3 := (CV_B I.1).2.1 3 0 12 rfl
  have he : ((f.toNat : Nat) : Int) = f := by omega
  subst hq
  exact ⟨CI_w (CI_le I (Nat.le_succ e)) (by have z := CV_link I.1 (f0 := f.toNat) (g := g) (n := n) (by omega) hn; rw [he] at z; exact z) rfl rfl rfl rfl (fun _ => ⟨rfl, rfl⟩) ⟨rfl, rfl, rfl⟩, CG_FI (CG_FR CG_r (by omega)) (by omega)⟩
end

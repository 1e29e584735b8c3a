noncomputable section
theorem fq_fin (s : Bool) (c : Nat) (q : Int) (hc : c < 9007199254740992) (hq : q ≤ 971) : FP.Core.encode FP.Core.b64 (.fin s c q) % 9223372036854775808 ≤ 9218868437227405312 ∧ FP.Core.encode FP.Core.b64 (.fin s c q) < 18446744073709551616 := by
  have e1 : FP.Core.b64.tails = 4503599627370496 := by decide
  have e2 : FP.Core.b64.exps = 2048 := by decide
  have e3 : FP.Core.b64.qmin = -1074 := by decide
  show (if c < FP.Core.b64.tails then FP.Core.assemble FP.Core.b64 s 0 c else FP.Core.assemble FP.Core.b64 s ((q - FP.Core.b64.qmin).toNat + 1) (c - FP.Core.b64.tails)) % 9223372036854775808 ≤ 9218868437227405312 ∧ (if c < FP.Core.b64.tails then FP.Core.assemble FP.Core.b64 s 0 c else FP.Core.assemble FP.Core.b64 s ((q - FP.Core.b64.qmin).toNat + 1) (c - FP.Core.b64.tails)) < 18446744073709551616
  unfold FP.Core.assemble
  rw [e1, e2, e3]
  have hs : s.toNat ≤ 1 := by cases s <;> decide
  split
  · omega
  · omega
theorem fq_inf (s : Bool) : FP.Core.encode FP.Core.b64 (.inf s) % 9223372036854775808 ≤ 9218868437227405312 ∧ FP.Core.encode FP.Core.b64 (.inf s) < 18446744073709551616 := by
  cases s <;> decide
theorem fq_rr (s : Bool) (n d : Nat) (e : Int) : FP.Core.encode FP.Core.b64 (FP.Core.roundRatio FP.Core.b64 s n d e) % 9223372036854775808 ≤ 9218868437227405312 ∧ FP.Core.encode FP.Core.b64 (FP.Core.roundRatio FP.Core.b64 s n d e) < 18446744073709551616 := by
  have e1 : FP.Core.b64.tails = 4503599627370496 := by decide
  have e4 : FP.Core.b64.qmax = 971 := by decide
  have e3 : FP.Core.b64.qmin = -1074 := by decide
  have e5 : 2 ^ FP.Core.b64.p = 9007199254740992 := by decide
  have hb : ∀ (c : Nat) (q : Int), c < 9007199254740992 → FP.Core.encode FP.Core.b64 (FP.Core.bound FP.Core.b64 s c q) % 9223372036854775808 ≤ 9218868437227405312 ∧ FP.Core.encode FP.Core.b64 (FP.Core.bound FP.Core.b64 s c q) < 18446744073709551616 := fun c q hc => by
    unfold FP.Core.bound
    split
    · rename_i h
      exact fq_fin s c q hc (by rw [e4] at h; exact h)
    · exact fq_inf s
  unfold FP.Core.roundRatio
  split
  · exact fq_fin s 0 _ (by omega) (by rw [e3]; omega)
  · unfold FP.Core.roundAt FP.Core.settle
    split
    · rename_i h
      exact hb _ _ (by rw [e5] at h; exact h)
    · exact hb _ _ (by rw [e1]; omega)
theorem fq_dec {n : Nat} (h : n % 9223372036854775808 ≤ 9218868437227405312) : FP.Core.decode FP.Core.b64 n ≠ .nan := by
  have e1 : FP.Core.b64.tails = 4503599627370496 := by decide
  have e2 : FP.Core.b64.exps = 2048 := by decide
  unfold FP.Core.decode FP.Core.fieldE FP.Core.fieldT
  rw [e1, e2]
  split
  · split
    · exact fun z => FP.Core.Datum.noConfusion z
    · omega
  · split
    · exact fun z => FP.Core.Datum.noConfusion z
    · exact fun z => FP.Core.Datum.noConfusion z
theorem fp_mask {a : UInt32} (h : a &&& 0x7fffffff ≤ 0x7f800000) : FP.Core.decode FP.Core.b32 a.toNat ≠ .nan := by
  refine fp_dec ?_
  rw [UInt32.le_iff_toNat_le, UInt32.toNat_and, show (0x7fffffff : UInt32).toNat = 2 ^ 31 - 1 from rfl, Nat.and_two_pow_sub_one_eq_mod] at h
  exact h
theorem fq_f2d {a : UInt32} (h : FP.Core.decode FP.Core.b32 a.toNat ≠ .nan) : ∃ m : Nat, FP.f2d a = UInt64.ofNat m ∧ m % 9223372036854775808 ≤ 9218868437227405312 ∧ m < 18446744073709551616 := by
  refine ⟨FP.Core.encode FP.Core.b64 (FP.Core.round FP.Core.b64 (FP.Core.decode FP.Core.b32 a.toNat)), ?_, ?_⟩
  · show (if FP.Core.fIsNaN a then _ else FP.Core.f2d a) = _
    exact (if_neg (fun z => h (of_decide_eq_true z))).trans rfl
  generalize FP.Core.decode FP.Core.b32 a.toNat = x at h ⊢
  cases x with
  | nan => exact absurd rfl h
  | inf s => exact fq_inf s
  | fin s c q => exact fq_rr _ _ _ _
theorem fq_guard {a : UInt32} (h : FP.Core.decode FP.Core.b32 a.toNat ≠ .nan) : FP.f2d a &&& 0x7fffffffffffffff ≤ 0x7ff0000000000000 := by
  obtain ⟨m, e, h1, h2⟩ := fq_f2d h
  rw [e, UInt64.le_iff_toNat_le, UInt64.toNat_and, UInt64.toNat_ofNat_of_lt' (by exact h2), show (0x7fffffffffffffff : UInt64).toNat = 2 ^ 63 - 1 from rfl, Nat.and_two_pow_sub_one_eq_mod]
  exact h1
theorem aJ_eq {q : am_A} {r : am_R} {k : Nat} {v : Int64} : qAJ (uAJ q r k v) r k = v := if_pos ⟨rfl, rfl⟩
theorem aD_eq {q : am_A} {r : am_R} {k : Nat} {v : UInt64} : qAD (uAD q r k v) r k = v := if_pos ⟨rfl, rfl⟩
theorem fq_cmp {a : UInt32} (h : FP.Core.decode FP.Core.b32 a.toNat ≠ .nan) : FP.dcmp (FP.f2d a) (FP.f2d a) = some .eq := by
  obtain ⟨m, e, h1, h2⟩ := fq_f2d h
  have hd : FP.Core.decode FP.Core.b64 (FP.f2d a).toNat ≠ .nan := by
    rw [e, UInt64.toNat_ofNat_of_lt' (by exact h2)]
    exact fq_dec h1
  show FP.Core.order (FP.Core.decode FP.Core.b64 (FP.f2d a).toNat) (FP.Core.decode FP.Core.b64 (FP.f2d a).toNat) = some .eq
  have hc : ∀ z : Int, compare z z = .eq := fun z => by
    unfold compare
    simp [instOrdInt, compareOfLessAndEq]
  generalize FP.Core.decode FP.Core.b64 (FP.f2d a).toNat = x at hd ⊢
  cases x with
  | nan => exact absurd rfl hd
  | inf s => exact congrArg some (hc _)
  | fin s c q => exact congrArg some (hc _)
theorem wl_setZone {d e : Nat} {q : am_A} {s s1 sR : am_Z} {L : Nat} {X : Nat → Int} (P : am_LP e q s sR L X) {p1 p2 k : Int} {v : Int} {kd : Int → Nat} (bk : 0 ≤ k ∧ k ≤ 3) (x1 : kd 1 = 13) (x2 : kd 2 = 14) (x3 : kd 3 = 15) (hC : am_C2 20 m_X_setZone [aR 8 0, aI (zI p1), aI (zI p2)] q (am_OQ e k kd (some (aI (zI v))) q s1)) : am_C2 (d + 21) m_L_setZone [aR 8 0, aI (zI p1), aI (zI p2), aR 26 0] q (fun o q' => o = .inl (some (aI (zI k))) ∧ am_LP (e + 1) q' s1 sR L X ∧ (k = 0 → qAJ q' (26, 0) 0 = (zI v).toInt64)) := by
  refine am_C2_i (ls := [some (aR 8 0), some (aI (zI p1)), some (aI (zI p2)), some (aR 26 0), none]) rfl ?_
  refine ar_aload_n rfl rfl ?_
  refine ar_iconst rfl ?_
  refine ar_aload_n rfl rfl ?_
  refine ar_iload_n rfl rfl ?_
  refine ar_iload_n rfl rfl ?_
  refine ar_cv2 rfl rfl rfl (Nat.le_of_ble_eq_true rfl) hC (by omega) (fun o q1 hq => B2_OQ hq (fun hk I1 Y1 F1 => ?_) (fun hk I1 Y1 F1 => ?_))
  · have P1 := LP_CY P I1 Y1 F1
    refine ar_i2l rfl ?_
    refine ar_lastore (j := 0) rfl rfl rfl (by rw [P1.2.2.2.1.1]; omega) (by rw [P1.2.2.2.1.1]; omega) ?_
    refine ar_goto rfl rfl ?_
    refine ar_iconst rfl ?_
    exact ar_iret rfl (Or.inl rfl) (⟨by rw [hk], LP_J P1, fun _ => aJ_eq⟩)
  · have P1 := LP_CY P I1 Y1 F1
    have hk2 : k = 1 ∨ k = 2 ∨ k = 3 := by omega
    rcases hk2 with rfl | rfl | rfl
    · rw [x1]
      refine B2_H rfl rfl (Nat.le_of_ble_eq_true rfl) ?_
      refine ar_iconst rfl ?_
      exact ar_iret rfl (Or.inl rfl) (⟨rfl, P1, fun z => absurd z (by omega)⟩)
    · rw [x2]
      refine B2_H rfl rfl (Nat.le_of_ble_eq_true rfl) ?_
      refine ar_iconst rfl ?_
      exact ar_iret rfl (Or.inl rfl) (⟨rfl, P1, fun z => absurd z (by omega)⟩)
    · rw [x3]
      refine B2_H rfl rfl (Nat.le_of_ble_eq_true rfl) ?_
      refine ar_iconst rfl ?_
      exact ar_iret rfl (Or.inl rfl) (⟨rfl, P1, fun z => absurd z (by omega)⟩)
theorem wl_setTax {d e : Nat} {q : am_A} {s s1 sR : am_Z} {L : Nat} {X : Nat → Int} (P : am_LP e q s sR L X) {p1 p2 k : Int} {v : Int} {kd : Int → Nat} (bk : 0 ≤ k ∧ k ≤ 2) (x1 : kd 1 = 13) (x2 : kd 2 = 14) (hC : am_C2 20 m_X_setTax [aR 8 0, aI (zI p1), aI (zI p2)] q (am_OQ e k kd (some (aI (zI v))) q s1)) : am_C2 (d + 21) m_L_setTax [aR 8 0, aI (zI p1), aI (zI p2), aR 26 0] q (fun o q' => o = .inl (some (aI (zI k))) ∧ am_LP (e + 1) q' s1 sR L X ∧ (k = 0 → qAJ q' (26, 0) 0 = (zI v).toInt64)) := by
  refine am_C2_i (ls := [some (aR 8 0), some (aI (zI p1)), some (aI (zI p2)), some (aR 26 0), none]) rfl ?_
  refine ar_aload_n rfl rfl ?_
  refine ar_iconst rfl ?_
  refine ar_aload_n rfl rfl ?_
  refine ar_iload_n rfl rfl ?_
  refine ar_iload_n rfl rfl ?_
  refine ar_cv2 rfl rfl rfl (Nat.le_of_ble_eq_true rfl) hC (by omega) (fun o q1 hq => B2_OQ hq (fun hk I1 Y1 F1 => ?_) (fun hk I1 Y1 F1 => ?_))
  · have P1 := LP_CY P I1 Y1 F1
    refine ar_i2l rfl ?_
    refine ar_lastore (j := 0) rfl rfl rfl (by rw [P1.2.2.2.1.1]; omega) (by rw [P1.2.2.2.1.1]; omega) ?_
    refine ar_goto rfl rfl ?_
    refine ar_iconst rfl ?_
    exact ar_iret rfl (Or.inl rfl) (⟨by rw [hk], LP_J P1, fun _ => aJ_eq⟩)
  · have P1 := LP_CY P I1 Y1 F1
    have hk2 : k = 1 ∨ k = 2 := by omega
    rcases hk2 with rfl | rfl
    · rw [x1]
      refine B2_H rfl rfl (Nat.le_of_ble_eq_true rfl) ?_
      refine ar_iconst rfl ?_
      exact ar_iret rfl (Or.inl rfl) (⟨rfl, P1, fun z => absurd z (by omega)⟩)
    · rw [x2]
      refine B2_H rfl rfl (Nat.le_of_ble_eq_true rfl) ?_
      refine ar_iconst rfl ?_
      exact ar_iret rfl (Or.inl rfl) (⟨rfl, P1, fun z => absurd z (by omega)⟩)
theorem wl_flight {d e : Nat} {q : am_A} {s s1 sR : am_Z} {L : Nat} {X : Nat → Int} (P : am_LP e q s sR L X) {p1 p2 p3 p4 p5 p6 k : Int} {v : Int} {kd : Int → Nat} (bk : 0 ≤ k ∧ k ≤ 3) (x1 : kd 1 = 13) (x2 : kd 2 = 14) (x3 : kd 3 = 15) (hC : am_C2 20 m_X_flight [aR 8 0, aI (zI p1), aI (zI p2), aI (zI p3), aI (zI p4), aI (zI p5), aI (zI p6)] q (am_OQ e k kd (some (aI (zI v))) q s1)) : am_C2 (d + 21) m_L_flight [aR 8 0, aI (zI p1), aI (zI p2), aI (zI p3), aI (zI p4), aI (zI p5), aI (zI p6), aR 26 0] q (fun o q' => o = .inl (some (aI (zI k))) ∧ am_LP (e + 1) q' s1 sR L X ∧ (k = 0 → qAJ q' (26, 0) 0 = (zI v).toInt64)) := by
  refine am_C2_i (ls := [some (aR 8 0), some (aI (zI p1)), some (aI (zI p2)), some (aI (zI p3)), some (aI (zI p4)), some (aI (zI p5)), some (aI (zI p6)), some (aR 26 0), none]) rfl ?_
  refine ar_aload rfl rfl ?_
  refine ar_iconst rfl ?_
  refine ar_aload_n rfl rfl ?_
  refine ar_iload_n rfl rfl ?_
  refine ar_iload_n rfl rfl ?_
  refine ar_iload_n rfl rfl ?_
  refine ar_iload rfl rfl ?_
  refine ar_iload rfl rfl ?_
  refine ar_iload rfl rfl ?_
  refine ar_cv6 rfl rfl rfl (Nat.le_of_ble_eq_true rfl) hC (by omega) (fun o q1 hq => B2_OQ hq (fun hk I1 Y1 F1 => ?_) (fun hk I1 Y1 F1 => ?_))
  · have P1 := LP_CY P I1 Y1 F1
    refine ar_i2l rfl ?_
    refine ar_lastore (j := 0) rfl rfl rfl (by rw [P1.2.2.2.1.1]; omega) (by rw [P1.2.2.2.1.1]; omega) ?_
    refine ar_goto rfl rfl ?_
    refine ar_iconst rfl ?_
    exact ar_iret rfl (Or.inl rfl) (⟨by rw [hk], LP_J P1, fun _ => aJ_eq⟩)
  · have P1 := LP_CY P I1 Y1 F1
    have hk2 : k = 1 ∨ k = 2 ∨ k = 3 := by omega
    rcases hk2 with rfl | rfl | rfl
    · rw [x1]
      refine B2_H rfl rfl (Nat.le_of_ble_eq_true rfl) ?_
      refine ar_iconst rfl ?_
      exact ar_iret rfl (Or.inl rfl) (⟨rfl, P1, fun z => absurd z (by omega)⟩)
    · rw [x2]
      refine B2_H rfl rfl (Nat.le_of_ble_eq_true rfl) ?_
      refine ar_iconst rfl ?_
      exact ar_iret rfl (Or.inl rfl) (⟨rfl, P1, fun z => absurd z (by omega)⟩)
    · rw [x3]
      refine B2_H rfl rfl (Nat.le_of_ble_eq_true rfl) ?_
      refine ar_iconst rfl ?_
      exact ar_iret rfl (Or.inl rfl) (⟨rfl, P1, fun z => absurd z (by omega)⟩)
theorem wl_days {d e : Nat} {q : am_A} {s s1 sR : am_Z} {L : Nat} {X : Nat → Int} (P : am_LP e q s sR L X) {p1 p2 p3 p4 k : Int} {v : Int} {kd : Int → Nat} (bk : 0 ≤ k ∧ k ≤ 3) (x1 : kd 1 = 13) (x2 : kd 2 = 14) (x3 : kd 3 = 15) (hC : am_C2 20 m_X_days [aR 8 0, aI (zI p1), aI (zI p2), aI (zI p3), aI (zI p4)] q (am_OQ e k kd (some (aI (zI v))) q s1)) : am_C2 (d + 21) m_L_days [aR 8 0, aI (zI p1), aI (zI p2), aI (zI p3), aI (zI p4), aR 26 0] q (fun o q' => o = .inl (some (aI (zI k))) ∧ am_LP (e + 1) q' s1 sR L X ∧ (k = 0 → qAJ q' (26, 0) 0 = (zI v).toInt64)) := by
  refine am_C2_i (ls := [some (aR 8 0), some (aI (zI p1)), some (aI (zI p2)), some (aI (zI p3)), some (aI (zI p4)), some (aR 26 0), none]) rfl ?_
  refine ar_aload rfl rfl ?_
  refine ar_iconst rfl ?_
  refine ar_aload_n rfl rfl ?_
  refine ar_iload_n rfl rfl ?_
  refine ar_iload_n rfl rfl ?_
  refine ar_iload_n rfl rfl ?_
  refine ar_iload rfl rfl ?_
  refine ar_cv4 rfl rfl rfl (Nat.le_of_ble_eq_true rfl) hC (by omega) (fun o q1 hq => B2_OQ hq (fun hk I1 Y1 F1 => ?_) (fun hk I1 Y1 F1 => ?_))
  · have P1 := LP_CY P I1 Y1 F1
    refine ar_i2l rfl ?_
    refine ar_lastore (j := 0) rfl rfl rfl (by rw [P1.2.2.2.1.1]; omega) (by rw [P1.2.2.2.1.1]; omega) ?_
    refine ar_goto rfl rfl ?_
    refine ar_iconst rfl ?_
    exact ar_iret rfl (Or.inl rfl) (⟨by rw [hk], LP_J P1, fun _ => aJ_eq⟩)
  · have P1 := LP_CY P I1 Y1 F1
    have hk2 : k = 1 ∨ k = 2 ∨ k = 3 := by omega
    rcases hk2 with rfl | rfl | rfl
    · rw [x1]
      refine B2_H rfl rfl (Nat.le_of_ble_eq_true rfl) ?_
      refine ar_iconst rfl ?_
      exact ar_iret rfl (Or.inl rfl) (⟨rfl, P1, fun z => absurd z (by omega)⟩)
    · rw [x2]
      refine B2_H rfl rfl (Nat.le_of_ble_eq_true rfl) ?_
      refine ar_iconst rfl ?_
      exact ar_iret rfl (Or.inl rfl) (⟨rfl, P1, fun z => absurd z (by omega)⟩)
    · rw [x3]
      refine B2_H rfl rfl (Nat.le_of_ble_eq_true rfl) ?_
      refine ar_iconst rfl ?_
      exact ar_iret rfl (Or.inl rfl) (⟨rfl, P1, fun z => absurd z (by omega)⟩)
theorem wl_limit {d e : Nat} {q : am_A} {s s1 sR : am_Z} {L : Nat} {X : Nat → Int} (P : am_LP e q s sR L X) {p1 p2 p3 k : Int} {v : Int} {kd : Int → Nat} (bk : 0 ≤ k ∧ k ≤ 2) (x1 : kd 1 = 13) (x2 : kd 2 = 14) (hC : am_C2 20 m_X_limit [aR 8 0, aI (zI p1), aI (zI p2), aI (zI p3)] q (am_OQ e k kd (some (aI (zI v))) q s1)) : am_C2 (d + 21) m_L_limit [aR 8 0, aI (zI p1), aI (zI p2), aI (zI p3), aR 26 0] q (fun o q' => o = .inl (some (aI (zI k))) ∧ am_LP (e + 1) q' s1 sR L X ∧ (k = 0 → qAJ q' (26, 0) 0 = (zI v).toInt64)) := by
  refine am_C2_i (ls := [some (aR 8 0), some (aI (zI p1)), some (aI (zI p2)), some (aI (zI p3)), some (aR 26 0), none]) rfl ?_
  refine ar_aload rfl rfl ?_
  refine ar_iconst rfl ?_
  refine ar_aload_n rfl rfl ?_
  refine ar_iload_n rfl rfl ?_
  refine ar_iload_n rfl rfl ?_
  refine ar_iload_n rfl rfl ?_
  refine ar_cv3 rfl rfl rfl (Nat.le_of_ble_eq_true rfl) hC (by omega) (fun o q1 hq => B2_OQ hq (fun hk I1 Y1 F1 => ?_) (fun hk I1 Y1 F1 => ?_))
  · have P1 := LP_CY P I1 Y1 F1
    refine ar_i2l rfl ?_
    refine ar_lastore (j := 0) rfl rfl rfl (by rw [P1.2.2.2.1.1]; omega) (by rw [P1.2.2.2.1.1]; omega) ?_
    refine ar_goto rfl rfl ?_
    refine ar_iconst rfl ?_
    exact ar_iret rfl (Or.inl rfl) (⟨by rw [hk], LP_J P1, fun _ => aJ_eq⟩)
  · have P1 := LP_CY P I1 Y1 F1
    have hk2 : k = 1 ∨ k = 2 := by omega
    rcases hk2 with rfl | rfl
    · rw [x1]
      refine B2_H rfl rfl (Nat.le_of_ble_eq_true rfl) ?_
      refine ar_iconst rfl ?_
      exact ar_iret rfl (Or.inl rfl) (⟨rfl, P1, fun z => absurd z (by omega)⟩)
    · rw [x2]
      refine B2_H rfl rfl (Nat.le_of_ble_eq_true rfl) ?_
      refine ar_iconst rfl ?_
      exact ar_iret rfl (Or.inl rfl) (⟨rfl, P1, fun z => absurd z (by omega)⟩)
theorem wl_link {d e : Nat} {q : am_A} {s s1 sR : am_Z} {L : Nat} {X : Nat → Int} (P : am_LP e q s sR L X) {p1 p2 p3 k : Int} {v : Int} {kd : Int → Nat} (bk : 0 ≤ k ∧ k ≤ 2) (x1 : kd 1 = 13) (x2 : kd 2 = 14) (hC : am_C2 20 m_X_link [aR 8 0, aI (zI p1), aI (zI p2), aI (zI p3)] q (am_OQ e k kd (some (aI (zI v))) q s1)) : am_C2 (d + 21) m_L_link [aR 8 0, aI (zI p1), aI (zI p2), aI (zI p3), aR 26 0] q (fun o q' => o = .inl (some (aI (zI k))) ∧ am_LP (e + 1) q' s1 sR L X ∧ (k = 0 → qAJ q' (26, 0) 0 = (zI v).toInt64)) := by
  refine am_C2_i (ls := [some (aR 8 0), some (aI (zI p1)), some (aI (zI p2)), some (aI (zI p3)), some (aR 26 0), none]) rfl ?_
  refine ar_aload rfl rfl ?_
  refine ar_iconst rfl ?_
  refine ar_aload_n rfl rfl ?_
  refine ar_iload_n rfl rfl ?_
  refine ar_iload_n rfl rfl ?_
  refine ar_iload_n rfl rfl ?_
  refine ar_cv3 rfl rfl rfl (Nat.le_of_ble_eq_true rfl) hC (by omega) (fun o q1 hq => B2_OQ hq (fun hk I1 Y1 F1 => ?_) (fun hk I1 Y1 F1 => ?_))
  · have P1 := LP_CY P I1 Y1 F1
    refine ar_i2l rfl ?_
    refine ar_lastore (j := 0) rfl rfl rfl (by rw [P1.2.2.2.1.1]; omega) (by rw [P1.2.2.2.1.1]; omega) ?_
    refine ar_goto rfl rfl ?_
    refine ar_iconst rfl ?_
    exact ar_iret rfl (Or.inl rfl) (⟨by rw [hk], LP_J P1, fun _ => aJ_eq⟩)
  · have P1 := LP_CY P I1 Y1 F1
    have hk2 : k = 1 ∨ k = 2 := by omega
    rcases hk2 with rfl | rfl
    · rw [x1]
      refine B2_H rfl rfl (Nat.le_of_ble_eq_true rfl) ?_
      refine ar_iconst rfl ?_
      exact ar_iret rfl (Or.inl rfl) (⟨rfl, P1, fun z => absurd z (by omega)⟩)
    · rw [x2]
      refine B2_H rfl rfl (Nat.le_of_ble_eq_true rfl) ?_
      refine ar_iconst rfl ?_
      exact ar_iret rfl (Or.inl rfl) (⟨rfl, P1, fun z => absurd z (by omega)⟩)
theorem wl_fare {d e : Nat} {q : am_A} {s s1 sR : am_Z} {L : Nat} {X : Nat → Int} (P : am_LP e q s sR L X) {p1 p2 p3 p4 p5 k : Int} {v : Int} {kd : Int → Nat} (bk : 0 ≤ k ∧ k ≤ 3) (x1 : kd 1 = 13) (x2 : kd 2 = 14) (x3 : kd 3 = 15) (hC : am_C2 20 m_X_fare [aR 8 0, aI (zI p1), aI (zI p2), aI (zI p3), aI (zI p4), aI (zI p5)] q (am_OQ e k kd (some (aI (zI v))) q s1)) : am_C2 (d + 21) m_L_fare [aR 8 0, aI (zI p1), aI (zI p2), aI (zI p3), aI (zI p4), aI (zI p5), aR 26 0] q (fun o q' => o = .inl (some (aI (zI k))) ∧ am_LP (e + 1) q' s1 sR L X ∧ (k = 0 → qAJ q' (26, 0) 0 = (zI v).toInt64)) := by
  refine am_C2_i (ls := [some (aR 8 0), some (aI (zI p1)), some (aI (zI p2)), some (aI (zI p3)), some (aI (zI p4)), some (aI (zI p5)), some (aR 26 0), none]) rfl ?_
  refine ar_aload rfl rfl ?_
  refine ar_iconst rfl ?_
  refine ar_aload_n rfl rfl ?_
  refine ar_iload_n rfl rfl ?_
  refine ar_iload_n rfl rfl ?_
  refine ar_iload_n rfl rfl ?_
  refine ar_iload rfl rfl ?_
  refine ar_iload rfl rfl ?_
  refine ar_cv5 rfl rfl rfl (Nat.le_of_ble_eq_true rfl) hC (by omega) (fun o q1 hq => B2_OQ hq (fun hk I1 Y1 F1 => ?_) (fun hk I1 Y1 F1 => ?_))
  · have P1 := LP_CY P I1 Y1 F1
    refine ar_i2l rfl ?_
    refine ar_lastore (j := 0) rfl rfl rfl (by rw [P1.2.2.2.1.1]; omega) (by rw [P1.2.2.2.1.1]; omega) ?_
    refine ar_goto rfl rfl ?_
    refine ar_iconst rfl ?_
    exact ar_iret rfl (Or.inl rfl) (⟨by rw [hk], LP_J P1, fun _ => aJ_eq⟩)
  · have P1 := LP_CY P I1 Y1 F1
    have hk2 : k = 1 ∨ k = 2 ∨ k = 3 := by omega
    rcases hk2 with rfl | rfl | rfl
    · rw [x1]
      refine B2_H rfl rfl (Nat.le_of_ble_eq_true rfl) ?_
      refine ar_iconst rfl ?_
      exact ar_iret rfl (Or.inl rfl) (⟨rfl, P1, fun z => absurd z (by omega)⟩)
    · rw [x2]
      refine B2_H rfl rfl (Nat.le_of_ble_eq_true rfl) ?_
      refine ar_iconst rfl ?_
      exact ar_iret rfl (Or.inl rfl) (⟨rfl, P1, fun z => absurd z (by omega)⟩)
    · rw [x3]
      refine B2_H rfl rfl (Nat.le_of_ble_eq_true rfl) ?_
      refine ar_iconst rfl ?_
      exact ar_iret rfl (Or.inl rfl) (⟨rfl, P1, fun z => absurd z (by omega)⟩)
theorem wl_rules {d e : Nat} {q : am_A} {s s1 sR : am_Z} {L : Nat} {X : Nat → Int} (P : am_LP e q s sR L X) {p1 p2 p3 p4 p5 p6 p7 k : Int} {kd : Int → Nat} (bk : 0 ≤ k ∧ k ≤ 2) (x1 : kd 1 = 13) (x2 : kd 2 = 14) (hC : am_C2 20 m_X_rules [aR 8 0, aI (zI p1), aI (zI p2), aI (zI p3), aI (zI p4), aI (zI p5), aI (zI p6), aI (zI p7)] q (am_OQ e k kd none q s1)) : am_C2 (d + 21) m_L_rules [aR 8 0, aI (zI p1), aI (zI p2), aI (zI p3), aI (zI p4), aI (zI p5), aI (zI p6), aI (zI p7)] q (fun o q' => o = .inl (some (aI (zI k))) ∧ am_LP (e + 1) q' s1 sR L X) := by
  refine am_C2_i (ls := [some (aR 8 0), some (aI (zI p1)), some (aI (zI p2)), some (aI (zI p3)), some (aI (zI p4)), some (aI (zI p5)), some (aI (zI p6)), some (aI (zI p7)), none]) rfl ?_
  refine ar_aload_n rfl rfl ?_
  refine ar_iload_n rfl rfl ?_
  refine ar_iload_n rfl rfl ?_
  refine ar_iload_n rfl rfl ?_
  refine ar_iload rfl rfl ?_
  refine ar_iload rfl rfl ?_
  refine ar_iload rfl rfl ?_
  refine ar_iload rfl rfl ?_
  refine ar_cv7 rfl rfl rfl (Nat.le_of_ble_eq_true rfl) hC (by omega) (fun o q1 hq => B2_OQ hq (fun hk I1 Y1 F1 => ?_) (fun hk I1 Y1 F1 => ?_))
  · have P1 := LP_CY P I1 Y1 F1
    refine ar_goto rfl rfl ?_
    refine ar_iconst rfl ?_
    exact ar_iret rfl (Or.inl rfl) (⟨by rw [hk], P1⟩)
  · have P1 := LP_CY P I1 Y1 F1
    have hk2 : k = 1 ∨ k = 2 := by omega
    rcases hk2 with rfl | rfl
    · rw [x1]
      refine B2_H rfl rfl (Nat.le_of_ble_eq_true rfl) ?_
      refine ar_iconst rfl ?_
      exact ar_iret rfl (Or.inl rfl) (⟨rfl, P1⟩)
    · rw [x2]
      refine B2_H rfl rfl (Nat.le_of_ble_eq_true rfl) ?_
      refine ar_iconst rfl ?_
      exact ar_iret rfl (Or.inl rfl) (⟨rfl, P1⟩)
theorem wl_back {d e : Nat} {q : am_A} {s s1 sR : am_Z} {L : Nat} {X : Nat → Int} (P : am_LP e q s sR L X) {p1 p2 k : Int} {v : Int} {kd : Int → Nat} (bk : 0 ≤ k ∧ k ≤ 2) (x1 : kd 1 = 13) (x2 : kd 2 = 14) (hC : am_C2 20 m_X_back [aR 8 0, aI (zI p1), aI (zI p2)] q (am_OQ e k kd (some (aI (zI v))) q s1)) : am_C2 (d + 21) m_L_back [aR 8 0, aI (zI p1), aI (zI p2), aR 26 0] q (fun o q' => o = .inl (some (aI (zI k))) ∧ am_LP (e + 1) q' s1 sR L X ∧ (k = 0 → qAJ q' (26, 0) 0 = (zI v).toInt64)) := by
  refine am_C2_i (ls := [some (aR 8 0), some (aI (zI p1)), some (aI (zI p2)), some (aR 26 0), none]) rfl ?_
  refine ar_aload_n rfl rfl ?_
  refine ar_iconst rfl ?_
  refine ar_aload_n rfl rfl ?_
  refine ar_iload_n rfl rfl ?_
  refine ar_iload_n rfl rfl ?_
  refine ar_cv2 rfl rfl rfl (Nat.le_of_ble_eq_true rfl) hC (by omega) (fun o q1 hq => B2_OQ hq (fun hk I1 Y1 F1 => ?_) (fun hk I1 Y1 F1 => ?_))
  · have P1 := LP_CY P I1 Y1 F1
    refine ar_i2l rfl ?_
    refine ar_lastore (j := 0) rfl rfl rfl (by rw [P1.2.2.2.1.1]; omega) (by rw [P1.2.2.2.1.1]; omega) ?_
    refine ar_goto rfl rfl ?_
    refine ar_iconst rfl ?_
    exact ar_iret rfl (Or.inl rfl) (⟨by rw [hk], LP_J P1, fun _ => aJ_eq⟩)
  · have P1 := LP_CY P I1 Y1 F1
    have hk2 : k = 1 ∨ k = 2 := by omega
    rcases hk2 with rfl | rfl
    · rw [x1]
      refine B2_H rfl rfl (Nat.le_of_ble_eq_true rfl) ?_
      refine ar_iconst rfl ?_
      exact ar_iret rfl (Or.inl rfl) (⟨rfl, P1, fun z => absurd z (by omega)⟩)
    · rw [x2]
      refine B2_H rfl rfl (Nat.le_of_ble_eq_true rfl) ?_
      refine ar_iconst rfl ?_
      exact ar_iret rfl (Or.inl rfl) (⟨rfl, P1, fun z => absurd z (by omega)⟩)
theorem wl_departure {d e : Nat} {q : am_A} {s s1 sR : am_Z} {L : Nat} {X : Nat → Int} (P : am_LP e q s sR L X) {p1 k : Int} {v : Int} {kd : Int → Nat} (bk : 0 ≤ k ∧ k ≤ 1) (x1 : kd 1 = 13) (hC : am_C2 20 m_X_departure [aR 8 0, aI (zI p1)] q (am_OQ e k kd (some (aI (zI v))) q s1)) : am_C2 (d + 21) m_L_departure [aR 8 0, aI (zI p1), aR 26 0] q (fun o q' => o = .inl (some (aI (zI k))) ∧ am_LP (e + 1) q' s1 sR L X ∧ (k = 0 → qAJ q' (26, 0) 0 = (zI v).toInt64)) := by
  refine am_C2_i (ls := [some (aR 8 0), some (aI (zI p1)), some (aR 26 0), none]) rfl ?_
  refine ar_aload_n rfl rfl ?_
  refine ar_iconst rfl ?_
  refine ar_aload_n rfl rfl ?_
  refine ar_iload_n rfl rfl ?_
  refine ar_cv1 rfl rfl rfl (Nat.le_of_ble_eq_true rfl) hC (by omega) (fun o q1 hq => B2_OQ hq (fun hk I1 Y1 F1 => ?_) (fun hk I1 Y1 F1 => ?_))
  · have P1 := LP_CY P I1 Y1 F1
    refine ar_i2l rfl ?_
    refine ar_lastore (j := 0) rfl rfl rfl (by rw [P1.2.2.2.1.1]; omega) (by rw [P1.2.2.2.1.1]; omega) ?_
    refine ar_goto rfl rfl ?_
    refine ar_iconst rfl ?_
    exact ar_iret rfl (Or.inl rfl) (⟨by rw [hk], LP_J P1, fun _ => aJ_eq⟩)
  · have P1 := LP_CY P I1 Y1 F1
    have hk2 : k = 1 := by omega
    subst hk2
    rw [x1]
    refine B2_H rfl rfl (Nat.le_of_ble_eq_true rfl) ?_
    refine ar_iconst rfl ?_
    exact ar_iret rfl (Or.inl rfl) (⟨rfl, P1, fun z => absurd z (by omega)⟩)
theorem wl_standing {d e : Nat} {q : am_A} {s s1 sR : am_Z} {L : Nat} {X : Nat → Int} (P : am_LP e q s sR L X) {p1 k : Int} {v : Int} {kd : Int → Nat} (bk : 0 ≤ k ∧ k ≤ 1) (x1 : kd 1 = 13) (hC : am_C2 20 m_X_standing [aR 8 0, aI (zI p1)] q (am_OQ e k kd (some (aI (zI v))) q s1)) : am_C2 (d + 21) m_L_standing [aR 8 0, aI (zI p1), aR 26 0] q (fun o q' => o = .inl (some (aI (zI k))) ∧ am_LP (e + 1) q' s1 sR L X ∧ (k = 0 → qAJ q' (26, 0) 0 = (zI v).toInt64)) := by
  refine am_C2_i (ls := [some (aR 8 0), some (aI (zI p1)), some (aR 26 0), none]) rfl ?_
  refine ar_aload_n rfl rfl ?_
  refine ar_iconst rfl ?_
  refine ar_aload_n rfl rfl ?_
  refine ar_iload_n rfl rfl ?_
  refine ar_cv1 rfl rfl rfl (Nat.le_of_ble_eq_true rfl) hC (by omega) (fun o q1 hq => B2_OQ hq (fun hk I1 Y1 F1 => ?_) (fun hk I1 Y1 F1 => ?_))
  · have P1 := LP_CY P I1 Y1 F1
    refine ar_i2l rfl ?_
    refine ar_lastore (j := 0) rfl rfl rfl (by rw [P1.2.2.2.1.1]; omega) (by rw [P1.2.2.2.1.1]; omega) ?_
    refine ar_goto rfl rfl ?_
    refine ar_iconst rfl ?_
    exact ar_iret rfl (Or.inl rfl) (⟨by rw [hk], LP_J P1, fun _ => aJ_eq⟩)
  · have P1 := LP_CY P I1 Y1 F1
    have hk2 : k = 1 := by omega
    subst hk2
    rw [x1]
    refine B2_H rfl rfl (Nat.le_of_ble_eq_true rfl) ?_
    refine ar_iconst rfl ?_
    exact ar_iret rfl (Or.inl rfl) (⟨rfl, P1, fun z => absurd z (by omega)⟩)
theorem wl_open {d e : Nat} {q : am_A} {s s1 sR : am_Z} {L : Nat} {X : Nat → Int} (P : am_LP e q s sR L X) {p1 p2 k : Int} {v : Int} {kd : Int → Nat} (bk : 0 ≤ k ∧ k ≤ 1) (x1 : kd 1 = 13) (hC : am_C2 20 m_X_open [aR 8 0, aI (zI p1), aI (zI p2)] q (am_OQ e k kd (some (aI (zI v))) q s1)) : am_C2 (d + 21) m_L_open [aR 8 0, aI (zI p1), aI (zI p2), aR 26 0] q (fun o q' => o = .inl (some (aI (zI k))) ∧ am_LP (e + 1) q' s1 sR L X ∧ (k = 0 → qAJ q' (26, 0) 0 = (zI v).toInt64)) := by
  refine am_C2_i (ls := [some (aR 8 0), some (aI (zI p1)), some (aI (zI p2)), some (aR 26 0), none]) rfl ?_
  refine ar_aload_n rfl rfl ?_
  refine ar_iconst rfl ?_
  refine ar_aload_n rfl rfl ?_
  refine ar_iload_n rfl rfl ?_
  refine ar_iload_n rfl rfl ?_
  refine ar_cv2 rfl rfl rfl (Nat.le_of_ble_eq_true rfl) hC (by omega) (fun o q1 hq => B2_OQ hq (fun hk I1 Y1 F1 => ?_) (fun hk I1 Y1 F1 => ?_))
  · have P1 := LP_CY P I1 Y1 F1
    refine ar_i2l rfl ?_
    refine ar_lastore (j := 0) rfl rfl rfl (by rw [P1.2.2.2.1.1]; omega) (by rw [P1.2.2.2.1.1]; omega) ?_
    refine ar_goto rfl rfl ?_
    refine ar_iconst rfl ?_
    exact ar_iret rfl (Or.inl rfl) (⟨by rw [hk], LP_J P1, fun _ => aJ_eq⟩)
  · have P1 := LP_CY P I1 Y1 F1
    have hk2 : k = 1 := by omega
    subst hk2
    rw [x1]
    refine B2_H rfl rfl (Nat.le_of_ble_eq_true rfl) ?_
    refine ar_iconst rfl ?_
    exact ar_iret rfl (Or.inl rfl) (⟨rfl, P1, fun z => absurd z (by omega)⟩)
theorem wl_load {d e : Nat} {q : am_A} {s s1 sR : am_Z} {L : Nat} {X : Nat → Int} (P : am_LP e q s sR L X) {p1 k : Int} {v : UInt32} (hv : FP.Core.decode FP.Core.b32 v.toNat ≠ .nan) {kd : Int → Nat} (bk : 0 ≤ k ∧ k ≤ 1) (x1 : kd 1 = 13) (hC : am_C2 20 m_X_load [aR 8 0, aI (zI p1)] q (am_OQ e k kd (some (aF v)) q s1)) : am_C2 (d + 21) m_L_load [aR 8 0, aI (zI p1), aR 27 0] q (fun o q' => o = .inl (some (aI (zI k))) ∧ am_LP (e + 1) q' s1 sR L X ∧ (k = 0 → qAD q' (27, 0) 0 = FP.f2d v)) := by
  refine am_C2_i (ls := [some (aR 8 0), some (aI (zI p1)), some (aR 27 0), none]) rfl ?_
  refine ar_aload_n rfl rfl ?_
  refine ar_iconst rfl ?_
  refine ar_aload_n rfl rfl ?_
  refine ar_iload_n rfl rfl ?_
  refine ar_cv1 rfl rfl rfl (Nat.le_of_ble_eq_true rfl) hC (by omega) (fun o q1 hq => B2_OQ hq (fun hk I1 Y1 F1 => ?_) (fun hk I1 Y1 F1 => ?_))
  · have P1 := LP_CY P I1 Y1 F1
    refine ar_f2d rfl (fq_guard hv) ?_
    refine ar_dastore (j := 0) rfl rfl rfl (by rw [P1.2.2.2.1.2.1]; omega) (by rw [P1.2.2.2.1.2.1]; omega) ?_
    refine ar_goto rfl rfl ?_
    refine ar_iconst rfl ?_
    exact ar_iret rfl (Or.inl rfl) (⟨by rw [hk], LP_D P1, fun _ => aD_eq⟩)
  · have P1 := LP_CY P I1 Y1 F1
    have hk2 : k = 1 := by omega
    subst hk2
    rw [x1]
    refine B2_H rfl rfl (Nat.le_of_ble_eq_true rfl) ?_
    refine ar_iconst rfl ?_
    exact ar_iret rfl (Or.inl rfl) (⟨rfl, P1, fun z => absurd z (by omega)⟩)
theorem wl_cancelLeg {d e : Nat} {q : am_A} {s s1 sR : am_Z} {L : Nat} {X : Nat → Int} (P : am_LP e q s sR L X) {p1 k : Int} {v : Int} {kd : Int → Nat} (bk : 0 ≤ k ∧ k ≤ 2) (x1 : kd 1 = 13) (x2 : kd 2 = 15) (hC : am_C2 20 m_X_cancelLeg [aR 8 0, aI (zI p1)] q (am_OQ e k kd (some (aI (zI v))) q s1)) : am_C2 (d + 21) m_L_cancelLeg [aR 8 0, aI (zI p1), aR 26 0] q (fun o q' => o = .inl (some (aI (zI k))) ∧ am_LP (e + 1) q' s1 sR L X ∧ (k = 0 → qAJ q' (26, 0) 0 = (zI v).toInt64)) := by
  refine am_C2_i (ls := [some (aR 8 0), some (aI (zI p1)), some (aR 26 0), none]) rfl ?_
  refine ar_aload_n rfl rfl ?_
  refine ar_iconst rfl ?_
  refine ar_aload_n rfl rfl ?_
  refine ar_iload_n rfl rfl ?_
  refine ar_cv1 rfl rfl rfl (Nat.le_of_ble_eq_true rfl) hC (by omega) (fun o q1 hq => B2_OQ hq (fun hk I1 Y1 F1 => ?_) (fun hk I1 Y1 F1 => ?_))
  · have P1 := LP_CY P I1 Y1 F1
    refine ar_i2l rfl ?_
    refine ar_lastore (j := 0) rfl rfl rfl (by rw [P1.2.2.2.1.1]; omega) (by rw [P1.2.2.2.1.1]; omega) ?_
    refine ar_goto rfl rfl ?_
    refine ar_iconst rfl ?_
    exact ar_iret rfl (Or.inl rfl) (⟨by rw [hk], LP_J P1, fun _ => aJ_eq⟩)
  · have P1 := LP_CY P I1 Y1 F1
    have hk2 : k = 1 ∨ k = 2 := by omega
    rcases hk2 with rfl | rfl
    · rw [x1]
      refine B2_H rfl rfl (Nat.le_of_ble_eq_true rfl) ?_
      refine ar_iconst rfl ?_
      exact ar_iret rfl (Or.inl rfl) (⟨rfl, P1, fun z => absurd z (by omega)⟩)
    · rw [x2]
      refine B2_H rfl rfl (Nat.le_of_ble_eq_true rfl) ?_
      refine ar_iconst rfl ?_
      exact ar_iret rfl (Or.inl rfl) (⟨rfl, P1, fun z => absurd z (by omega)⟩)
theorem wl_delay {d e : Nat} {q : am_A} {s s1 sR : am_Z} {L : Nat} {X : Nat → Int} (P : am_LP e q s sR L X) {p1 p2 k : Int} {v : Int} {kd : Int → Nat} (bk : 0 ≤ k ∧ k ≤ 3) (x1 : kd 1 = 13) (x2 : kd 2 = 14) (x3 : kd 3 = 15) (hC : am_C2 20 m_X_delay [aR 8 0, aI (zI p1), aI (zI p2)] q (am_OQ e k kd (some (aI (zI v))) q s1)) : am_C2 (d + 21) m_L_delay [aR 8 0, aI (zI p1), aI (zI p2), aR 26 0] q (fun o q' => o = .inl (some (aI (zI k))) ∧ am_LP (e + 1) q' s1 sR L X ∧ (k = 0 → qAJ q' (26, 0) 0 = (zI v).toInt64)) := by
  refine am_C2_i (ls := [some (aR 8 0), some (aI (zI p1)), some (aI (zI p2)), some (aR 26 0), none]) rfl ?_
  refine ar_aload_n rfl rfl ?_
  refine ar_iconst rfl ?_
  refine ar_aload_n rfl rfl ?_
  refine ar_iload_n rfl rfl ?_
  refine ar_iload_n rfl rfl ?_
  refine ar_cv2 rfl rfl rfl (Nat.le_of_ble_eq_true rfl) hC (by omega) (fun o q1 hq => B2_OQ hq (fun hk I1 Y1 F1 => ?_) (fun hk I1 Y1 F1 => ?_))
  · have P1 := LP_CY P I1 Y1 F1
    refine ar_i2l rfl ?_
    refine ar_lastore (j := 0) rfl rfl rfl (by rw [P1.2.2.2.1.1]; omega) (by rw [P1.2.2.2.1.1]; omega) ?_
    refine ar_goto rfl rfl ?_
    refine ar_iconst rfl ?_
    exact ar_iret rfl (Or.inl rfl) (⟨by rw [hk], LP_J P1, fun _ => aJ_eq⟩)
  · have P1 := LP_CY P I1 Y1 F1
    have hk2 : k = 1 ∨ k = 2 ∨ k = 3 := by omega
    rcases hk2 with rfl | rfl | rfl
    · rw [x1]
      refine B2_H rfl rfl (Nat.le_of_ble_eq_true rfl) ?_
      refine ar_iconst rfl ?_
      exact ar_iret rfl (Or.inl rfl) (⟨rfl, P1, fun z => absurd z (by omega)⟩)
    · rw [x2]
      refine B2_H rfl rfl (Nat.le_of_ble_eq_true rfl) ?_
      refine ar_iconst rfl ?_
      exact ar_iret rfl (Or.inl rfl) (⟨rfl, P1, fun z => absurd z (by omega)⟩)
    · rw [x3]
      refine B2_H rfl rfl (Nat.le_of_ble_eq_true rfl) ?_
      refine ar_iconst rfl ?_
      exact ar_iret rfl (Or.inl rfl) (⟨rfl, P1, fun z => absurd z (by omega)⟩)
theorem wl_leg {d e : Nat} {q : am_A} {s s1 sR : am_Z} {L : Nat} {X : Nat → Int} (P : am_LP e q s sR L X) {p1 k : Int} {v : Int} {kd : Int → Nat} (bk : 0 ≤ k ∧ k ≤ 2) (x1 : kd 1 = 13) (x2 : kd 2 = 15) (hC : am_C2 20 m_X_leg [aR 8 0, aI (zI p1)] q (am_OQ e k kd (some (aI (zI v))) q s1)) : am_C2 (d + 21) m_L_leg [aR 8 0, aI (zI p1), aR 26 0] q (fun o q' => o = .inl (some (aI (zI k))) ∧ am_LP (e + 1) q' s1 sR L X ∧ (k = 0 → qAJ q' (26, 0) 0 = (zI v).toInt64)) := by
  refine am_C2_i (ls := [some (aR 8 0), some (aI (zI p1)), some (aR 26 0), none]) rfl ?_
  refine ar_aload_n rfl rfl ?_
  refine ar_iconst rfl ?_
  refine ar_aload_n rfl rfl ?_
  refine ar_iload_n rfl rfl ?_
  refine ar_cv1 rfl rfl rfl (Nat.le_of_ble_eq_true rfl) hC (by omega) (fun o q1 hq => B2_OQ hq (fun hk I1 Y1 F1 => ?_) (fun hk I1 Y1 F1 => ?_))
  · have P1 := LP_CY P I1 Y1 F1
    refine ar_i2l rfl ?_
    refine ar_lastore (j := 0) rfl rfl rfl (by rw [P1.2.2.2.1.1]; omega) (by rw [P1.2.2.2.1.1]; omega) ?_
    refine ar_goto rfl rfl ?_
    refine ar_iconst rfl ?_
    exact ar_iret rfl (Or.inl rfl) (⟨by rw [hk], LP_J P1, fun _ => aJ_eq⟩)
  · have P1 := LP_CY P I1 Y1 F1
    have hk2 : k = 1 ∨ k = 2 := by omega
    rcases hk2 with rfl | rfl
    · rw [x1]
      refine B2_H rfl rfl (Nat.le_of_ble_eq_true rfl) ?_
      refine ar_iconst rfl ?_
      exact ar_iret rfl (Or.inl rfl) (⟨rfl, P1, fun z => absurd z (by omega)⟩)
    · rw [x2]
      refine B2_H rfl rfl (Nat.le_of_ble_eq_true rfl) ?_
      refine ar_iconst rfl ?_
      exact ar_iret rfl (Or.inl rfl) (⟨rfl, P1, fun z => absurd z (by omega)⟩)
theorem wl_price {d e : Nat} {q : am_A} {s s1 sR : am_Z} {L : Nat} {X : Nat → Int} (P : am_LP e q s sR L X) {p1 k : Int} {v : Int} {kd : Int → Nat} (bk : 0 ≤ k ∧ k ≤ 1) (x1 : kd 1 = 14) (hC : am_C2 20 m_X_price [aR 8 0, aI (zI p1)] q (am_OQ e k kd (some (aI (zI v))) q s1)) : am_C2 (d + 21) m_L_price [aR 8 0, aI (zI p1), aR 26 0] q (fun o q' => o = .inl (some (aI (zI k))) ∧ am_LP (e + 1) q' s1 sR L X ∧ (k = 0 → qAJ q' (26, 0) 0 = (zI v).toInt64)) := by
  refine am_C2_i (ls := [some (aR 8 0), some (aI (zI p1)), some (aR 26 0), none]) rfl ?_
  refine ar_aload_n rfl rfl ?_
  refine ar_iconst rfl ?_
  refine ar_aload_n rfl rfl ?_
  refine ar_iload_n rfl rfl ?_
  refine ar_cv1 rfl rfl rfl (Nat.le_of_ble_eq_true rfl) hC (by omega) (fun o q1 hq => B2_OQ hq (fun hk I1 Y1 F1 => ?_) (fun hk I1 Y1 F1 => ?_))
  · have P1 := LP_CY P I1 Y1 F1
    refine ar_i2l rfl ?_
    refine ar_lastore (j := 0) rfl rfl rfl (by rw [P1.2.2.2.1.1]; omega) (by rw [P1.2.2.2.1.1]; omega) ?_
    refine ar_goto rfl rfl ?_
    refine ar_iconst rfl ?_
    exact ar_iret rfl (Or.inl rfl) (⟨by rw [hk], LP_J P1, fun _ => aJ_eq⟩)
  · have P1 := LP_CY P I1 Y1 F1
    have hk2 : k = 1 := by omega
    subst hk2
    rw [x1]
    refine B2_H rfl rfl (Nat.le_of_ble_eq_true rfl) ?_
    refine ar_iconst rfl ?_
    exact ar_iret rfl (Or.inl rfl) (⟨rfl, P1, fun z => absurd z (by omega)⟩)
theorem wl_priceAnew {d e : Nat} {q : am_A} {s s1 sR : am_Z} {L : Nat} {X : Nat → Int} (P : am_LP e q s sR L X) {p1 k : Int} {v : Int} {kd : Int → Nat} (bk : 0 ≤ k ∧ k ≤ 1) (x1 : kd 1 = 14) (hC : am_C2 20 m_X_priceAnew [aR 8 0, aI (zI p1)] q (am_OQ e k kd (some (aI (zI v))) q s1)) : am_C2 (d + 21) m_L_priceAnew [aR 8 0, aI (zI p1), aR 26 0] q (fun o q' => o = .inl (some (aI (zI k))) ∧ am_LP (e + 1) q' s1 sR L X ∧ (k = 0 → qAJ q' (26, 0) 0 = (zI v).toInt64)) := by
  refine am_C2_i (ls := [some (aR 8 0), some (aI (zI p1)), some (aR 26 0), none]) rfl ?_
  refine ar_aload_n rfl rfl ?_
  refine ar_iconst rfl ?_
  refine ar_aload_n rfl rfl ?_
  refine ar_iload_n rfl rfl ?_
  refine ar_cv1 rfl rfl rfl (Nat.le_of_ble_eq_true rfl) hC (by omega) (fun o q1 hq => B2_OQ hq (fun hk I1 Y1 F1 => ?_) (fun hk I1 Y1 F1 => ?_))
  · have P1 := LP_CY P I1 Y1 F1
    refine ar_i2l rfl ?_
    refine ar_lastore (j := 0) rfl rfl rfl (by rw [P1.2.2.2.1.1]; omega) (by rw [P1.2.2.2.1.1]; omega) ?_
    refine ar_goto rfl rfl ?_
    refine ar_iconst rfl ?_
    exact ar_iret rfl (Or.inl rfl) (⟨by rw [hk], LP_J P1, fun _ => aJ_eq⟩)
  · have P1 := LP_CY P I1 Y1 F1
    have hk2 : k = 1 := by omega
    subst hk2
    rw [x1]
    refine B2_H rfl rfl (Nat.le_of_ble_eq_true rfl) ?_
    refine ar_iconst rfl ?_
    exact ar_iret rfl (Or.inl rfl) (⟨rfl, P1, fun z => absurd z (by omega)⟩)
theorem wl_stretch {d e : Nat} {q : am_A} {s s1 sR : am_Z} {L : Nat} {X : Nat → Int} (P : am_LP e q s sR L X) {p1 p2 k : Int} {v : Int} {kd : Int → Nat} (bk : 0 ≤ k ∧ k ≤ 2) (x1 : kd 1 = 13) (x2 : kd 2 = 14) (hC : am_C2 20 m_X_stretch [aR 8 0, aI (zI p1), aI (zI p2)] q (am_OQ e k kd (some (aI (zI v))) q s1)) : am_C2 (d + 21) m_L_stretch [aR 8 0, aI (zI p1), aI (zI p2), aR 26 0] q (fun o q' => o = .inl (some (aI (zI k))) ∧ am_LP (e + 1) q' s1 sR L X ∧ (k = 0 → qAJ q' (26, 0) 0 = (zI v).toInt64)) := by
  refine am_C2_i (ls := [some (aR 8 0), some (aI (zI p1)), some (aI (zI p2)), some (aR 26 0), none]) rfl ?_
  refine ar_aload_n rfl rfl ?_
  refine ar_iconst rfl ?_
  refine ar_aload_n rfl rfl ?_
  refine ar_iload_n rfl rfl ?_
  refine ar_iload_n rfl rfl ?_
  refine ar_cv2 rfl rfl rfl (Nat.le_of_ble_eq_true rfl) hC (by omega) (fun o q1 hq => B2_OQ hq (fun hk I1 Y1 F1 => ?_) (fun hk I1 Y1 F1 => ?_))
  · have P1 := LP_CY P I1 Y1 F1
    refine ar_i2l rfl ?_
    refine ar_lastore (j := 0) rfl rfl rfl (by rw [P1.2.2.2.1.1]; omega) (by rw [P1.2.2.2.1.1]; omega) ?_
    refine ar_goto rfl rfl ?_
    refine ar_iconst rfl ?_
    exact ar_iret rfl (Or.inl rfl) (⟨by rw [hk], LP_J P1, fun _ => aJ_eq⟩)
  · have P1 := LP_CY P I1 Y1 F1
    have hk2 : k = 1 ∨ k = 2 := by omega
    rcases hk2 with rfl | rfl
    · rw [x1]
      refine B2_H rfl rfl (Nat.le_of_ble_eq_true rfl) ?_
      refine ar_iconst rfl ?_
      exact ar_iret rfl (Or.inl rfl) (⟨rfl, P1, fun z => absurd z (by omega)⟩)
    · rw [x2]
      refine B2_H rfl rfl (Nat.le_of_ble_eq_true rfl) ?_
      refine ar_iconst rfl ?_
      exact ar_iret rfl (Or.inl rfl) (⟨rfl, P1, fun z => absurd z (by omega)⟩)
theorem wl_hold {d e : Nat} {q : am_A} {s s1 sR : am_Z} {L : Nat} {X : Nat → Int} (P : am_LP e q s sR L X) {p1 p2 p3 k : Int} {v : Int} {kd : Int → Nat} (bk : 0 ≤ k ∧ k ≤ 3) (x1 : kd 1 = 13) (x2 : kd 2 = 14) (x3 : kd 3 = 15) (hC : am_C2 20 m_X_hold [aR 8 0, aI (zI p1), aI (zI p2), aI (zI p3)] q (am_OQ e k kd (some (aI (zI v))) q s1)) : am_C2 (d + 21) m_L_hold [aR 8 0, aI (zI p1), aI (zI p2), aI (zI p3), aR 26 0] q (fun o q' => o = .inl (some (aI (zI k))) ∧ am_LP (e + 1) q' s1 sR L X ∧ (k = 0 → qAJ q' (26, 0) 0 = (zI v).toInt64)) := by
  refine am_C2_i (ls := [some (aR 8 0), some (aI (zI p1)), some (aI (zI p2)), some (aI (zI p3)), some (aR 26 0), none]) rfl ?_
  refine ar_aload rfl rfl ?_
  refine ar_iconst rfl ?_
  refine ar_aload_n rfl rfl ?_
  refine ar_iload_n rfl rfl ?_
  refine ar_iload_n rfl rfl ?_
  refine ar_iload_n rfl rfl ?_
  refine ar_cv3 rfl rfl rfl (Nat.le_of_ble_eq_true rfl) hC (by omega) (fun o q1 hq => B2_OQ hq (fun hk I1 Y1 F1 => ?_) (fun hk I1 Y1 F1 => ?_))
  · have P1 := LP_CY P I1 Y1 F1
    refine ar_i2l rfl ?_
    refine ar_lastore (j := 0) rfl rfl rfl (by rw [P1.2.2.2.1.1]; omega) (by rw [P1.2.2.2.1.1]; omega) ?_
    refine ar_goto rfl rfl ?_
    refine ar_iconst rfl ?_
    exact ar_iret rfl (Or.inl rfl) (⟨by rw [hk], LP_J P1, fun _ => aJ_eq⟩)
  · have P1 := LP_CY P I1 Y1 F1
    have hk2 : k = 1 ∨ k = 2 ∨ k = 3 := by omega
    rcases hk2 with rfl | rfl | rfl
    · rw [x1]
      refine B2_H rfl rfl (Nat.le_of_ble_eq_true rfl) ?_
      refine ar_iconst rfl ?_
      exact ar_iret rfl (Or.inl rfl) (⟨rfl, P1, fun z => absurd z (by omega)⟩)
    · rw [x2]
      refine B2_H rfl rfl (Nat.le_of_ble_eq_true rfl) ?_
      refine ar_iconst rfl ?_
      exact ar_iret rfl (Or.inl rfl) (⟨rfl, P1, fun z => absurd z (by omega)⟩)
    · rw [x3]
      refine B2_H rfl rfl (Nat.le_of_ble_eq_true rfl) ?_
      refine ar_iconst rfl ?_
      exact ar_iret rfl (Or.inl rfl) (⟨rfl, P1, fun z => absurd z (by omega)⟩)
theorem wl_wish {d e : Nat} {q : am_A} {s s1 sR : am_Z} {L : Nat} {X : Nat → Int} (P : am_LP e q s sR L X) {p1 p2 k : Int} {v : Int} {kd : Int → Nat} (bk : 0 ≤ k ∧ k ≤ 3) (x1 : kd 1 = 13) (x2 : kd 2 = 14) (x3 : kd 3 = 15) (hC : am_C2 20 m_X_wish [aR 8 0, aI (zI p1), aI (zI p2)] q (am_OQ e k kd (some (aI (zI v))) q s1)) : am_C2 (d + 21) m_L_wish [aR 8 0, aI (zI p1), aI (zI p2), aR 26 0] q (fun o q' => o = .inl (some (aI (zI k))) ∧ am_LP (e + 1) q' s1 sR L X ∧ (k = 0 → qAJ q' (26, 0) 0 = (zI v).toInt64)) := by
  refine am_C2_i (ls := [some (aR 8 0), some (aI (zI p1)), some (aI (zI p2)), some (aR 26 0), none]) rfl ?_
  refine ar_aload_n rfl rfl ?_
  refine ar_iconst rfl ?_
  refine ar_aload_n rfl rfl ?_
  refine ar_iload_n rfl rfl ?_
  refine ar_iload_n rfl rfl ?_
  refine ar_cv2 rfl rfl rfl (Nat.le_of_ble_eq_true rfl) hC (by omega) (fun o q1 hq => B2_OQ hq (fun hk I1 Y1 F1 => ?_) (fun hk I1 Y1 F1 => ?_))
  · have P1 := LP_CY P I1 Y1 F1
    refine ar_i2l rfl ?_
    refine ar_lastore (j := 0) rfl rfl rfl (by rw [P1.2.2.2.1.1]; omega) (by rw [P1.2.2.2.1.1]; omega) ?_
    refine ar_goto rfl rfl ?_
    refine ar_iconst rfl ?_
    exact ar_iret rfl (Or.inl rfl) (⟨by rw [hk], LP_J P1, fun _ => aJ_eq⟩)
  · have P1 := LP_CY P I1 Y1 F1
    have hk2 : k = 1 ∨ k = 2 ∨ k = 3 := by omega
    rcases hk2 with rfl | rfl | rfl
    · rw [x1]
      refine B2_H rfl rfl (Nat.le_of_ble_eq_true rfl) ?_
      refine ar_iconst rfl ?_
      exact ar_iret rfl (Or.inl rfl) (⟨rfl, P1, fun z => absurd z (by omega)⟩)
    · rw [x2]
      refine B2_H rfl rfl (Nat.le_of_ble_eq_true rfl) ?_
      refine ar_iconst rfl ?_
      exact ar_iret rfl (Or.inl rfl) (⟨rfl, P1, fun z => absurd z (by omega)⟩)
    · rw [x3]
      refine B2_H rfl rfl (Nat.le_of_ble_eq_true rfl) ?_
      refine ar_iconst rfl ?_
      exact ar_iret rfl (Or.inl rfl) (⟨rfl, P1, fun z => absurd z (by omega)⟩)
theorem wl_wished {d e : Nat} {q : am_A} {s s1 sR : am_Z} {L : Nat} {X : Nat → Int} (P : am_LP e q s sR L X) {p1 k : Int} {v : Int} {kd : Int → Nat} (bk : 0 ≤ k ∧ k ≤ 1) (x1 : kd 1 = 13) (hC : am_C2 20 m_X_wished [aR 8 0, aI (zI p1)] q (am_OQ e k kd (some (aI (zI v))) q s1)) : am_C2 (d + 21) m_L_wished [aR 8 0, aI (zI p1), aR 26 0] q (fun o q' => o = .inl (some (aI (zI k))) ∧ am_LP (e + 1) q' s1 sR L X ∧ (k = 0 → qAJ q' (26, 0) 0 = (zI v).toInt64)) := by
  refine am_C2_i (ls := [some (aR 8 0), some (aI (zI p1)), some (aR 26 0), none]) rfl ?_
  refine ar_aload_n rfl rfl ?_
  refine ar_iconst rfl ?_
  refine ar_aload_n rfl rfl ?_
  refine ar_iload_n rfl rfl ?_
  refine ar_cv1 rfl rfl rfl (Nat.le_of_ble_eq_true rfl) hC (by omega) (fun o q1 hq => B2_OQ hq (fun hk I1 Y1 F1 => ?_) (fun hk I1 Y1 F1 => ?_))
  · have P1 := LP_CY P I1 Y1 F1
    refine ar_i2l rfl ?_
    refine ar_lastore (j := 0) rfl rfl rfl (by rw [P1.2.2.2.1.1]; omega) (by rw [P1.2.2.2.1.1]; omega) ?_
    refine ar_goto rfl rfl ?_
    refine ar_iconst rfl ?_
    exact ar_iret rfl (Or.inl rfl) (⟨by rw [hk], LP_J P1, fun _ => aJ_eq⟩)
  · have P1 := LP_CY P I1 Y1 F1
    have hk2 : k = 1 := by omega
    subst hk2
    rw [x1]
    refine B2_H rfl rfl (Nat.le_of_ble_eq_true rfl) ?_
    refine ar_iconst rfl ?_
    exact ar_iret rfl (Or.inl rfl) (⟨rfl, P1, fun z => absurd z (by omega)⟩)
theorem wl_ticket {d e : Nat} {q : am_A} {s s1 sR : am_Z} {L : Nat} {X : Nat → Int} (P : am_LP e q s sR L X) {p1 k : Int} {v : Int} {kd : Int → Nat} (bk : 0 ≤ k ∧ k ≤ 2) (x1 : kd 1 = 13) (x2 : kd 2 = 15) (hC : am_C2 20 m_X_ticket [aR 8 0, aI (zI p1)] q (am_OQ e k kd (some (aI (zI v))) q s1)) : am_C2 (d + 21) m_L_ticket [aR 8 0, aI (zI p1), aR 26 0] q (fun o q' => o = .inl (some (aI (zI k))) ∧ am_LP (e + 1) q' s1 sR L X ∧ (k = 0 → qAJ q' (26, 0) 0 = (zI v).toInt64)) := by
  refine am_C2_i (ls := [some (aR 8 0), some (aI (zI p1)), some (aR 26 0), none]) rfl ?_
  refine ar_aload_n rfl rfl ?_
  refine ar_iconst rfl ?_
  refine ar_aload_n rfl rfl ?_
  refine ar_iload_n rfl rfl ?_
  refine ar_cv1 rfl rfl rfl (Nat.le_of_ble_eq_true rfl) hC (by omega) (fun o q1 hq => B2_OQ hq (fun hk I1 Y1 F1 => ?_) (fun hk I1 Y1 F1 => ?_))
  · have P1 := LP_CY P I1 Y1 F1
    refine ar_i2l rfl ?_
    refine ar_lastore (j := 0) rfl rfl rfl (by rw [P1.2.2.2.1.1]; omega) (by rw [P1.2.2.2.1.1]; omega) ?_
    refine ar_goto rfl rfl ?_
    refine ar_iconst rfl ?_
    exact ar_iret rfl (Or.inl rfl) (⟨by rw [hk], LP_J P1, fun _ => aJ_eq⟩)
  · have P1 := LP_CY P I1 Y1 F1
    have hk2 : k = 1 ∨ k = 2 := by omega
    rcases hk2 with rfl | rfl
    · rw [x1]
      refine B2_H rfl rfl (Nat.le_of_ble_eq_true rfl) ?_
      refine ar_iconst rfl ?_
      exact ar_iret rfl (Or.inl rfl) (⟨rfl, P1, fun z => absurd z (by omega)⟩)
    · rw [x2]
      refine B2_H rfl rfl (Nat.le_of_ble_eq_true rfl) ?_
      refine ar_iconst rfl ?_
      exact ar_iret rfl (Or.inl rfl) (⟨rfl, P1, fun z => absurd z (by omega)⟩)
theorem wl_part {d e : Nat} {q : am_A} {s s1 sR : am_Z} {L : Nat} {X : Nat → Int} (P : am_LP e q s sR L X) {p1 p2 k : Int} {v : Int} {kd : Int → Nat} (bk : 0 ≤ k ∧ k ≤ 3) (x1 : kd 1 = 13) (x2 : kd 2 = 14) (x3 : kd 3 = 15) (hC : am_C2 20 m_X_part [aR 8 0, aI (zI p1), aI (zI p2)] q (am_OQ e k kd (some (aI (zI v))) q s1)) : am_C2 (d + 21) m_L_part [aR 8 0, aI (zI p1), aI (zI p2), aR 26 0] q (fun o q' => o = .inl (some (aI (zI k))) ∧ am_LP (e + 1) q' s1 sR L X ∧ (k = 0 → qAJ q' (26, 0) 0 = (zI v).toInt64)) := by
  refine am_C2_i (ls := [some (aR 8 0), some (aI (zI p1)), some (aI (zI p2)), some (aR 26 0), none]) rfl ?_
  refine ar_aload_n rfl rfl ?_
  refine ar_iconst rfl ?_
  refine ar_aload_n rfl rfl ?_
  refine ar_iload_n rfl rfl ?_
  refine ar_iload_n rfl rfl ?_
  refine ar_cv2 rfl rfl rfl (Nat.le_of_ble_eq_true rfl) hC (by omega) (fun o q1 hq => B2_OQ hq (fun hk I1 Y1 F1 => ?_) (fun hk I1 Y1 F1 => ?_))
  · have P1 := LP_CY P I1 Y1 F1
    refine ar_i2l rfl ?_
    refine ar_lastore (j := 0) rfl rfl rfl (by rw [P1.2.2.2.1.1]; omega) (by rw [P1.2.2.2.1.1]; omega) ?_
    refine ar_goto rfl rfl ?_
    refine ar_iconst rfl ?_
    exact ar_iret rfl (Or.inl rfl) (⟨by rw [hk], LP_J P1, fun _ => aJ_eq⟩)
  · have P1 := LP_CY P I1 Y1 F1
    have hk2 : k = 1 ∨ k = 2 ∨ k = 3 := by omega
    rcases hk2 with rfl | rfl | rfl
    · rw [x1]
      refine B2_H rfl rfl (Nat.le_of_ble_eq_true rfl) ?_
      refine ar_iconst rfl ?_
      exact ar_iret rfl (Or.inl rfl) (⟨rfl, P1, fun z => absurd z (by omega)⟩)
    · rw [x2]
      refine B2_H rfl rfl (Nat.le_of_ble_eq_true rfl) ?_
      refine ar_iconst rfl ?_
      exact ar_iret rfl (Or.inl rfl) (⟨rfl, P1, fun z => absurd z (by omega)⟩)
    · rw [x3]
      refine B2_H rfl rfl (Nat.le_of_ble_eq_true rfl) ?_
      refine ar_iconst rfl ?_
      exact ar_iret rfl (Or.inl rfl) (⟨rfl, P1, fun z => absurd z (by omega)⟩)
theorem wl_cancel {d e : Nat} {q : am_A} {s s1 sR : am_Z} {L : Nat} {X : Nat → Int} (P : am_LP e q s sR L X) {p1 k : Int} {v : Int} {kd : Int → Nat} (bk : 0 ≤ k ∧ k ≤ 2) (x1 : kd 1 = 13) (x2 : kd 2 = 15) (hC : am_C2 20 m_X_cancel [aR 8 0, aI (zI p1)] q (am_OQ e k kd (some (aI (zI v))) q s1)) : am_C2 (d + 21) m_L_cancel [aR 8 0, aI (zI p1), aR 26 0] q (fun o q' => o = .inl (some (aI (zI k))) ∧ am_LP (e + 1) q' s1 sR L X ∧ (k = 0 → qAJ q' (26, 0) 0 = (zI v).toInt64)) := by
  refine am_C2_i (ls := [some (aR 8 0), some (aI (zI p1)), some (aR 26 0), none]) rfl ?_
  refine ar_aload_n rfl rfl ?_
  refine ar_iconst rfl ?_
  refine ar_aload_n rfl rfl ?_
  refine ar_iload_n rfl rfl ?_
  refine ar_cv1 rfl rfl rfl (Nat.le_of_ble_eq_true rfl) hC (by omega) (fun o q1 hq => B2_OQ hq (fun hk I1 Y1 F1 => ?_) (fun hk I1 Y1 F1 => ?_))
  · have P1 := LP_CY P I1 Y1 F1
    refine ar_i2l rfl ?_
    refine ar_lastore (j := 0) rfl rfl rfl (by rw [P1.2.2.2.1.1]; omega) (by rw [P1.2.2.2.1.1]; omega) ?_
    refine ar_goto rfl rfl ?_
    refine ar_iconst rfl ?_
    exact ar_iret rfl (Or.inl rfl) (⟨by rw [hk], LP_J P1, fun _ => aJ_eq⟩)
  · have P1 := LP_CY P I1 Y1 F1
    have hk2 : k = 1 ∨ k = 2 := by omega
    rcases hk2 with rfl | rfl
    · rw [x1]
      refine B2_H rfl rfl (Nat.le_of_ble_eq_true rfl) ?_
      refine ar_iconst rfl ?_
      exact ar_iret rfl (Or.inl rfl) (⟨rfl, P1, fun z => absurd z (by omega)⟩)
    · rw [x2]
      refine B2_H rfl rfl (Nat.le_of_ble_eq_true rfl) ?_
      refine ar_iconst rfl ?_
      exact ar_iret rfl (Or.inl rfl) (⟨rfl, P1, fun z => absurd z (by omega)⟩)
theorem wl_booking {d e : Nat} {q : am_A} {s s1 sR : am_Z} {L : Nat} {X : Nat → Int} (P : am_LP e q s sR L X) {p1 k : Int} {v : Int} {kd : Int → Nat} (bk : 0 ≤ k ∧ k ≤ 1) (x1 : kd 1 = 13) (hC : am_C2 20 m_X_booking [aR 8 0, aI (zI p1)] q (am_OQ e k kd (some (aI (zI v))) q s1)) : am_C2 (d + 21) m_L_booking [aR 8 0, aI (zI p1), aR 26 0] q (fun o q' => o = .inl (some (aI (zI k))) ∧ am_LP (e + 1) q' s1 sR L X ∧ (k = 0 → qAJ q' (26, 0) 0 = (zI v).toInt64)) := by
  refine am_C2_i (ls := [some (aR 8 0), some (aI (zI p1)), some (aR 26 0), none]) rfl ?_
  refine ar_aload_n rfl rfl ?_
  refine ar_iconst rfl ?_
  refine ar_aload_n rfl rfl ?_
  refine ar_iload_n rfl rfl ?_
  refine ar_cv1 rfl rfl rfl (Nat.le_of_ble_eq_true rfl) hC (by omega) (fun o q1 hq => B2_OQ hq (fun hk I1 Y1 F1 => ?_) (fun hk I1 Y1 F1 => ?_))
  · have P1 := LP_CY P I1 Y1 F1
    refine ar_i2l rfl ?_
    refine ar_lastore (j := 0) rfl rfl rfl (by rw [P1.2.2.2.1.1]; omega) (by rw [P1.2.2.2.1.1]; omega) ?_
    refine ar_goto rfl rfl ?_
    refine ar_iconst rfl ?_
    exact ar_iret rfl (Or.inl rfl) (⟨by rw [hk], LP_J P1, fun _ => aJ_eq⟩)
  · have P1 := LP_CY P I1 Y1 F1
    have hk2 : k = 1 := by omega
    subst hk2
    rw [x1]
    refine B2_H rfl rfl (Nat.le_of_ble_eq_true rfl) ?_
    refine ar_iconst rfl ?_
    exact ar_iret rfl (Or.inl rfl) (⟨rfl, P1, fun z => absurd z (by omega)⟩)
theorem wl_coupon {d e : Nat} {q : am_A} {s s1 sR : am_Z} {L : Nat} {X : Nat → Int} (P : am_LP e q s sR L X) {p1 p2 k : Int} {v : Int} {kd : Int → Nat} (bk : 0 ≤ k ∧ k ≤ 1) (x1 : kd 1 = 13) (hC : am_C2 20 m_X_coupon [aR 8 0, aI (zI p1), aI (zI p2)] q (am_OQ e k kd (some (aI (zI v))) q s1)) : am_C2 (d + 21) m_L_coupon [aR 8 0, aI (zI p1), aI (zI p2), aR 26 0] q (fun o q' => o = .inl (some (aI (zI k))) ∧ am_LP (e + 1) q' s1 sR L X ∧ (k = 0 → qAJ q' (26, 0) 0 = (zI v).toInt64)) := by
  refine am_C2_i (ls := [some (aR 8 0), some (aI (zI p1)), some (aI (zI p2)), some (aR 26 0), none]) rfl ?_
  refine ar_aload_n rfl rfl ?_
  refine ar_iconst rfl ?_
  refine ar_aload_n rfl rfl ?_
  refine ar_iload_n rfl rfl ?_
  refine ar_iload_n rfl rfl ?_
  refine ar_cv2 rfl rfl rfl (Nat.le_of_ble_eq_true rfl) hC (by omega) (fun o q1 hq => B2_OQ hq (fun hk I1 Y1 F1 => ?_) (fun hk I1 Y1 F1 => ?_))
  · have P1 := LP_CY P I1 Y1 F1
    refine ar_i2l rfl ?_
    refine ar_lastore (j := 0) rfl rfl rfl (by rw [P1.2.2.2.1.1]; omega) (by rw [P1.2.2.2.1.1]; omega) ?_
    refine ar_goto rfl rfl ?_
    refine ar_iconst rfl ?_
    exact ar_iret rfl (Or.inl rfl) (⟨by rw [hk], LP_J P1, fun _ => aJ_eq⟩)
  · have P1 := LP_CY P I1 Y1 F1
    have hk2 : k = 1 := by omega
    subst hk2
    rw [x1]
    refine B2_H rfl rfl (Nat.le_of_ble_eq_true rfl) ?_
    refine ar_iconst rfl ?_
    exact ar_iret rfl (Or.inl rfl) (⟨rfl, P1, fun z => absurd z (by omega)⟩)
theorem wl_share {d e : Nat} {q : am_A} {s s1 sR : am_Z} {L : Nat} {X : Nat → Int} (P : am_LP e q s sR L X) {p1 p2 k : Int} {v : Int} {kd : Int → Nat} (bk : 0 ≤ k ∧ k ≤ 1) (x1 : kd 1 = 13) (hC : am_C2 20 m_X_share [aR 8 0, aI (zI p1), aI (zI p2)] q (am_OQ e k kd (some (aI (zI v))) q s1)) : am_C2 (d + 21) m_L_share [aR 8 0, aI (zI p1), aI (zI p2), aR 26 0] q (fun o q' => o = .inl (some (aI (zI k))) ∧ am_LP (e + 1) q' s1 sR L X ∧ (k = 0 → qAJ q' (26, 0) 0 = (zI v).toInt64)) := by
  refine am_C2_i (ls := [some (aR 8 0), some (aI (zI p1)), some (aI (zI p2)), some (aR 26 0), none]) rfl ?_
  refine ar_aload_n rfl rfl ?_
  refine ar_iconst rfl ?_
  refine ar_aload_n rfl rfl ?_
  refine ar_iload_n rfl rfl ?_
  refine ar_iload_n rfl rfl ?_
  refine ar_cv2 rfl rfl rfl (Nat.le_of_ble_eq_true rfl) hC (by omega) (fun o q1 hq => B2_OQ hq (fun hk I1 Y1 F1 => ?_) (fun hk I1 Y1 F1 => ?_))
  · have P1 := LP_CY P I1 Y1 F1
    refine ar_i2l rfl ?_
    refine ar_lastore (j := 0) rfl rfl rfl (by rw [P1.2.2.2.1.1]; omega) (by rw [P1.2.2.2.1.1]; omega) ?_
    refine ar_goto rfl rfl ?_
    refine ar_iconst rfl ?_
    exact ar_iret rfl (Or.inl rfl) (⟨by rw [hk], LP_J P1, fun _ => aJ_eq⟩)
  · have P1 := LP_CY P I1 Y1 F1
    have hk2 : k = 1 := by omega
    subst hk2
    rw [x1]
    refine B2_H rfl rfl (Nat.le_of_ble_eq_true rfl) ?_
    refine ar_iconst rfl ?_
    exact ar_iret rfl (Or.inl rfl) (⟨rfl, P1, fun z => absurd z (by omega)⟩)
theorem wl_check {d e : Nat} {q : am_A} {s s1 sR : am_Z} {L : Nat} {X : Nat → Int} (P : am_LP e q s sR L X) {p1 p2 k : Int} {v : Int} {kd : Int → Nat} (bk : 0 ≤ k ∧ k ≤ 2) (x1 : kd 1 = 13) (x2 : kd 2 = 15) (hC : am_C2 20 m_X_check [aR 8 0, aI (zI p1), aI (zI p2)] q (am_OQ e k kd (some (aI (zI v))) q s1)) : am_C2 (d + 21) m_L_check [aR 8 0, aI (zI p1), aI (zI p2), aR 26 0] q (fun o q' => o = .inl (some (aI (zI k))) ∧ am_LP (e + 1) q' s1 sR L X ∧ (k = 0 → qAJ q' (26, 0) 0 = (zI v).toInt64)) := by
  refine am_C2_i (ls := [some (aR 8 0), some (aI (zI p1)), some (aI (zI p2)), some (aR 26 0), none]) rfl ?_
  refine ar_aload_n rfl rfl ?_
  refine ar_iconst rfl ?_
  refine ar_aload_n rfl rfl ?_
  refine ar_iload_n rfl rfl ?_
  refine ar_iload_n rfl rfl ?_
  refine ar_cv2 rfl rfl rfl (Nat.le_of_ble_eq_true rfl) hC (by omega) (fun o q1 hq => B2_OQ hq (fun hk I1 Y1 F1 => ?_) (fun hk I1 Y1 F1 => ?_))
  · have P1 := LP_CY P I1 Y1 F1
    refine ar_i2l rfl ?_
    refine ar_lastore (j := 0) rfl rfl rfl (by rw [P1.2.2.2.1.1]; omega) (by rw [P1.2.2.2.1.1]; omega) ?_
    refine ar_goto rfl rfl ?_
    refine ar_iconst rfl ?_
    exact ar_iret rfl (Or.inl rfl) (⟨by rw [hk], LP_J P1, fun _ => aJ_eq⟩)
  · have P1 := LP_CY P I1 Y1 F1
    have hk2 : k = 1 ∨ k = 2 := by omega
    rcases hk2 with rfl | rfl
    · rw [x1]
      refine B2_H rfl rfl (Nat.le_of_ble_eq_true rfl) ?_
      refine ar_iconst rfl ?_
      exact ar_iret rfl (Or.inl rfl) (⟨rfl, P1, fun z => absurd z (by omega)⟩)
    · rw [x2]
      refine B2_H rfl rfl (Nat.le_of_ble_eq_true rfl) ?_
      refine ar_iconst rfl ?_
      exact ar_iret rfl (Or.inl rfl) (⟨rfl, P1, fun z => absurd z (by omega)⟩)
theorem wl_volunteer {d e : Nat} {q : am_A} {s s1 sR : am_Z} {L : Nat} {X : Nat → Int} (P : am_LP e q s sR L X) {p1 k : Int} {v : Int} (hv : v = 0 ∨ v = 1) {kd : Int → Nat} (bk : 0 ≤ k ∧ k ≤ 1) (x1 : kd 1 = 13) (hC : am_C2 20 m_X_volunteer [aR 8 0, aI (zI p1)] q (am_OQ e k kd (some (aI (zI v))) q s1)) : am_C2 (d + 21) m_L_volunteer [aR 8 0, aI (zI p1), aR 26 0] q (fun o q' => o = .inl (some (aI (zI k))) ∧ am_LP (e + 1) q' s1 sR L X ∧ (k = 0 → qAJ q' (26, 0) 0 = (zI v).toInt64)) := by
  refine am_C2_i (ls := [some (aR 8 0), some (aI (zI p1)), some (aR 26 0), none]) rfl ?_
  refine ar_aload_n rfl rfl ?_
  refine ar_iconst rfl ?_
  refine ar_aload_n rfl rfl ?_
  refine ar_iload_n rfl rfl ?_
  refine ar_cv1 rfl rfl rfl (Nat.le_of_ble_eq_true rfl) hC (by omega) (fun o q1 hq => B2_OQ hq (fun hk I1 Y1 F1 => ?_) (fun hk I1 Y1 F1 => ?_))
  · have P1 := LP_CY P I1 Y1 F1
    refine ar_if_eq rfl rfl (by omega) (fun h0 => ?_) (fun h0 => ?_)
    · refine ar_lconst (x := 0) rfl rfl ?_
      refine ar_lastore (j := 0) rfl rfl rfl (by rw [P1.2.2.2.1.1]; omega) (by rw [P1.2.2.2.1.1]; omega) ?_
      refine ar_goto rfl rfl ?_
      refine ar_iconst rfl ?_
      exact ar_iret rfl (Or.inl rfl) (⟨by rw [hk], LP_J P1, fun _ => aJ_eq.trans (by rw [show v = 0 by omega]; rfl)⟩)
    · refine ar_lconst (x := 1) rfl rfl ?_
      refine ar_goto rfl rfl ?_
      refine ar_lastore (j := 0) rfl rfl rfl (by rw [P1.2.2.2.1.1]; omega) (by rw [P1.2.2.2.1.1]; omega) ?_
      refine ar_goto rfl rfl ?_
      refine ar_iconst rfl ?_
      exact ar_iret rfl (Or.inl rfl) (⟨by rw [hk], LP_J P1, fun _ => aJ_eq.trans (by rw [show v = 1 by omega]; rfl)⟩)
  · have P1 := LP_CY P I1 Y1 F1
    have hk2 : k = 1 := by omega
    subst hk2
    rw [x1]
    refine B2_H rfl rfl (Nat.le_of_ble_eq_true rfl) ?_
    refine ar_iconst rfl ?_
    exact ar_iret rfl (Or.inl rfl) (⟨rfl, P1, fun z => absurd z (by omega)⟩)
theorem wl_pass {d e : Nat} {q : am_A} {s s1 sR : am_Z} {L : Nat} {X : Nat → Int} (P : am_LP e q s sR L X) {p1 k : Int} {v : Int} {kd : Int → Nat} (bk : 0 ≤ k ∧ k ≤ 1) (x1 : kd 1 = 14) (hC : am_C2 20 m_X_pass [aR 8 0, aI (zI p1)] q (am_OQ e k kd (some (aI (zI v))) q s1)) : am_C2 (d + 21) m_L_pass [aR 8 0, aI (zI p1), aR 26 0] q (fun o q' => o = .inl (some (aI (zI k))) ∧ am_LP (e + 1) q' s1 sR L X ∧ (k = 0 → qAJ q' (26, 0) 0 = (zI v).toInt64)) := by
  refine am_C2_i (ls := [some (aR 8 0), some (aI (zI p1)), some (aR 26 0), none]) rfl ?_
  refine ar_aload_n rfl rfl ?_
  refine ar_iconst rfl ?_
  refine ar_aload_n rfl rfl ?_
  refine ar_iload_n rfl rfl ?_
  refine ar_cv1 rfl rfl rfl (Nat.le_of_ble_eq_true rfl) hC (by omega) (fun o q1 hq => B2_OQ hq (fun hk I1 Y1 F1 => ?_) (fun hk I1 Y1 F1 => ?_))
  · have P1 := LP_CY P I1 Y1 F1
    refine ar_i2l rfl ?_
    refine ar_lastore (j := 0) rfl rfl rfl (by rw [P1.2.2.2.1.1]; omega) (by rw [P1.2.2.2.1.1]; omega) ?_
    refine ar_goto rfl rfl ?_
    refine ar_iconst rfl ?_
    exact ar_iret rfl (Or.inl rfl) (⟨by rw [hk], LP_J P1, fun _ => aJ_eq⟩)
  · have P1 := LP_CY P I1 Y1 F1
    have hk2 : k = 1 := by omega
    subst hk2
    rw [x1]
    refine B2_H rfl rfl (Nat.le_of_ble_eq_true rfl) ?_
    refine ar_iconst rfl ?_
    exact ar_iret rfl (Or.inl rfl) (⟨rfl, P1, fun z => absurd z (by omega)⟩)
theorem wl_points {d e : Nat} {q : am_A} {s s1 sR : am_Z} {L : Nat} {X : Nat → Int} (P : am_LP e q s sR L X) {p1 k : Int} {v : Int} {kd : Int → Nat} (bk : 0 ≤ k ∧ k ≤ 1) (x1 : kd 1 = 13) (hC : am_C2 20 m_X_points [aR 8 0, aI (zI p1)] q (am_OQ e k kd (some (aI (zI v))) q s1)) : am_C2 (d + 21) m_L_points [aR 8 0, aI (zI p1), aR 26 0] q (fun o q' => o = .inl (some (aI (zI k))) ∧ am_LP (e + 1) q' s1 sR L X ∧ (k = 0 → qAJ q' (26, 0) 0 = (zI v).toInt64)) := by
  refine am_C2_i (ls := [some (aR 8 0), some (aI (zI p1)), some (aR 26 0), none]) rfl ?_
  refine ar_aload_n rfl rfl ?_
  refine ar_iconst rfl ?_
  refine ar_aload_n rfl rfl ?_
  refine ar_iload_n rfl rfl ?_
  refine ar_cv1 rfl rfl rfl (Nat.le_of_ble_eq_true rfl) hC (by omega) (fun o q1 hq => B2_OQ hq (fun hk I1 Y1 F1 => ?_) (fun hk I1 Y1 F1 => ?_))
  · have P1 := LP_CY P I1 Y1 F1
    refine ar_i2l rfl ?_
    refine ar_lastore (j := 0) rfl rfl rfl (by rw [P1.2.2.2.1.1]; omega) (by rw [P1.2.2.2.1.1]; omega) ?_
    refine ar_goto rfl rfl ?_
    refine ar_iconst rfl ?_
    exact ar_iret rfl (Or.inl rfl) (⟨by rw [hk], LP_J P1, fun _ => aJ_eq⟩)
  · have P1 := LP_CY P I1 Y1 F1
    have hk2 : k = 1 := by omega
    subst hk2
    rw [x1]
    refine B2_H rfl rfl (Nat.le_of_ble_eq_true rfl) ?_
    refine ar_iconst rfl ?_
    exact ar_iret rfl (Or.inl rfl) (⟨rfl, P1, fun z => absurd z (by omega)⟩)
theorem wl_owed {d e : Nat} {q : am_A} {s s1 sR : am_Z} {L : Nat} {X : Nat → Int} (P : am_LP e q s sR L X) {p1 p2 k : Int} {v : Int} {kd : Int → Nat} (bk : 0 ≤ k ∧ k ≤ 1) (x1 : kd 1 = 13) (hC : am_C2 20 m_X_owed [aR 8 0, aI (zI p1), aI (zI p2)] q (am_OQ e k kd (some (aI (zI v))) q s1)) : am_C2 (d + 21) m_L_owed [aR 8 0, aI (zI p1), aI (zI p2), aR 26 0] q (fun o q' => o = .inl (some (aI (zI k))) ∧ am_LP (e + 1) q' s1 sR L X ∧ (k = 0 → qAJ q' (26, 0) 0 = (zI v).toInt64)) := by
  refine am_C2_i (ls := [some (aR 8 0), some (aI (zI p1)), some (aI (zI p2)), some (aR 26 0), none]) rfl ?_
  refine ar_aload_n rfl rfl ?_
  refine ar_iconst rfl ?_
  refine ar_aload_n rfl rfl ?_
  refine ar_iload_n rfl rfl ?_
  refine ar_iload_n rfl rfl ?_
  refine ar_cv2 rfl rfl rfl (Nat.le_of_ble_eq_true rfl) hC (by omega) (fun o q1 hq => B2_OQ hq (fun hk I1 Y1 F1 => ?_) (fun hk I1 Y1 F1 => ?_))
  · have P1 := LP_CY P I1 Y1 F1
    refine ar_i2l rfl ?_
    refine ar_lastore (j := 0) rfl rfl rfl (by rw [P1.2.2.2.1.1]; omega) (by rw [P1.2.2.2.1.1]; omega) ?_
    refine ar_goto rfl rfl ?_
    refine ar_iconst rfl ?_
    exact ar_iret rfl (Or.inl rfl) (⟨by rw [hk], LP_J P1, fun _ => aJ_eq⟩)
  · have P1 := LP_CY P I1 Y1 F1
    have hk2 : k = 1 := by omega
    subst hk2
    rw [x1]
    refine B2_H rfl rfl (Nat.le_of_ble_eq_true rfl) ?_
    refine ar_iconst rfl ?_
    exact ar_iret rfl (Or.inl rfl) (⟨rfl, P1, fun z => absurd z (by omega)⟩)
end

noncomputable section
section GROW
variable {d : Nat} {h : am_H}
theorem zI_max {b c : Int} (hb : in32 b) (hc : in32 c) : (if zI b < zI c then zI c else zI b) = zI (max b c) := by
  by_cases hlt : b < c
  · rw [if_pos ((zI_lt hb hc).mpr hlt), Int.max_eq_right (by omega)]
  · rw [if_neg (fun z => hlt ((zI_lt hb hc).mp z)), Int.max_eq_left (by omega)]
theorem sp_newLength {a b c : Int} (ha : in32 a) (hb : in32 b) (hc : in32 c) (h0 : 0 < a + max b c) (h1 : a + max b c ≤ 2147483639) : am_C (d + 1) m_AS_newLength [aI (zI a), aI (zI b), aI (zI c)] h (am_is (aI (zI (a + max b c))) h) := by
  have hs : in32 (a + max b c) := by unfold in32; omega
  refine am_C_i (ls := [some (aI (zI a)), some (aI (zI b)), some (aI (zI c)), none]) rfl ?_
  refine s_iload_n rfl rfl ?_
  refine s_iload_n rfl rfl ?_
  refine s_iload_n rfl rfl ?_
  refine s_cs2 rfl rfl (Nat.le_of_ble_eq_true rfl) (sp_max (d := 0)) (by omega) (fun o h' hq => am_B_is ?_ hq)
  rw [zI_max hb hc]
  refine s_iadd rfl ?_
  rw [← Int32.ofInt_add]
  refine s_stI3 rfl ?_
  refine s_iconst rfl rfl ?_
  refine s_iload_n rfl rfl ?_
  refine s_icmp_ge rfl rfl (fun ht => absurd ((zI_le hs in32_0).mp ht) (by omega)) (fun _ => ?_)
  refine s_iload_n rfl rfl ?_
  refine s_ldc rfl rfl ?_
  refine s_icmp_gt rfl rfl (fun ht => absurd ((zI_lt (a := 2147483639) (by unfold in32; omega) hs).mp ht) (by omega)) (fun _ => ?_)
  refine s_iload_n rfl rfl ?_
  exact s_iret rfl (Or.inl rfl) ⟨rfl, rfl⟩
theorem sp_growE {t q : Nat} {m : Int} (hk : am_kc t = some 10) (he : hFR h 1001 (t, q) = some (32, 0)) (hz : hAL h (32, 0) = 0) (hm : in32 m) (hmx : max 10 m ≤ 1000) : am_C (d + 1) m_AL_grow [aR t q, aI (zI m)] h (fun o h' => o = .inl (some (aO (some (30, hCN h 30)))) ∧ h' = sFR (hNA h 30 (max 10 m).toNat) 1001 (t, q) (some (30, hCN h 30))) := by
  refine am_C_i (ls := [some (aR t q), some (aI (zI m)), none, none]) rfl ?_
  refine s_aload_n rfl rfl ?_
  refine s_gfR rfl hk rfl he ?_
  refine s_alen rfl rfl ?_
  rw [hz]
  refine s_stI2 rfl ?_
  refine s_iload_n rfl rfl ?_
  refine s_if_gt rfl rfl (fun ht => absurd ht (by decide)) (fun _ => ?_)
  refine s_aload_n rfl rfl ?_
  refine s_gfR rfl hk rfl he ?_
  refine s_gets rfl rfl ?_
  refine s_acmp_eq rfl rfl (fun _ => ?_) (fun hf => absurd rfl hf)
  refine s_aload_n rfl rfl ?_
  refine s_bipush rfl rfl ?_
  refine s_iload_n rfl rfl ?_
  refine s_cs2 rfl rfl (Nat.le_of_ble_eq_true rfl) (sp_max (d := 0)) (by omega) (fun o h' hq => am_B_is ?_ hq)
  rw [show (Int8.ofInt 10).toInt32 = zI 10 from rfl, zI_max (by unfold in32; omega) hm]
  refine s_newa (m := (max 10 m).toNat) rfl ((zI_toInt (by unfold in32; omega)).trans (by omega)) (by omega) ?_
  refine s_dup_x1 rfl rfl rfl ?_
  refine s_pfR rfl hk rfl rfl ?_
  exact s_aretA rfl rfl ⟨rfl, rfl⟩
theorem zI_shr1 : ∀ c : Nat, c < 1001 → zI (c : Int) >>> (zI 1 &&& 31) = zI ((c / 2 : Nat) : Int) := by decide +kernel
theorem sp_growC {t q y c w : Nat} {m : Int} (hk : am_kc t = some 10) (he : hFR h 1001 (t, q) = some (30, y)) (hcap : hAL h (30, y) = c) (h1 : 1 ≤ c) (h2 : c ≤ 1000) (hm : in32 m) (hw : (c : Int) + max (m - c) ((c / 2 : Nat) : Int) = w) (hw0 : 1 ≤ w) (hw1 : w ≤ 1000) (hmc : in32 (m - c)) : am_C (d + 2) m_AL_grow [aR t q, aI (zI m)] h (fun o h' => o = .inl (some (aO (some (30, hCN h 30)))) ∧ h' = sFR (hCO h (30, y) w) 1001 (t, q) (some (30, hCN h 30))) := by
  refine am_C_i (ls := [some (aR t q), some (aI (zI m)), none, none]) rfl ?_
  refine s_aload_n rfl rfl ?_
  refine s_gfR rfl hk rfl he ?_
  refine s_alen rfl rfl ?_
  rw [hcap, show Int32.ofNat c = zI (c : Int) from rfl]
  refine s_stI2 rfl ?_
  refine s_iload_n rfl rfl ?_
  refine s_if_gt rfl rfl (fun _ => ?_) (fun hf => absurd ((zI_lt in32_0 (by unfold in32; omega)).mpr (by omega)) hf)
  refine s_iload_n rfl rfl ?_
  refine s_iload_n rfl rfl ?_
  refine s_iload_n rfl rfl ?_
  refine s_isub rfl ?_
  rw [← Int32.ofInt_sub]
  refine s_iload_n rfl rfl ?_
  refine s_iconst rfl rfl ?_
  refine s_ishr rfl ?_
  rw [zI_shr1 c (by omega)]
  refine s_cs3 rfl rfl (Nat.le_of_ble_eq_true rfl) (sp_newLength (d := 0) (by unfold in32; omega) hmc (by unfold in32; omega) (by omega) (by omega)) (by omega) (fun o h' hq => am_B_is ?_ hq)
  rw [hw]
  refine s_stI3 rfl ?_
  refine s_aload_n rfl rfl ?_
  refine s_aload_n rfl rfl ?_
  refine s_gfR rfl hk rfl he ?_
  refine s_iload_n rfl rfl ?_
  refine s_copyOf (c' := w) rfl rfl rfl (zI_toInt (by unfold in32; omega)) hw1 (by omega) (Nat.le_of_ble_eq_true rfl) ?_
  refine s_dup_x1 rfl rfl rfl ?_
  refine s_pfR rfl hk rfl rfl ?_
  exact s_aretA rfl rfl ⟨rfl, rfl⟩
theorem sp_grow0E {t q : Nat} {n : Int} (hk : am_kc t = some 10) (hs : hFI h 1002 (t, q) = zI n) (he : hFR h 1001 (t, q) = some (32, 0)) (hz : hAL h (32, 0) = 0) (hm : in32 (n + 1)) (hmx : max 10 (n + 1) ≤ 1000) : am_C (d + 2) m_AL_grow2 [aR t q] h (fun o h' => o = .inl (some (aO (some (30, hCN h 30)))) ∧ h' = sFR (hNA h 30 (max 10 (n + 1)).toNat) 1001 (t, q) (some (30, hCN h 30))) := by
  refine am_C_i (ls := [some (aR t q)]) rfl ?_
  refine s_aload_n rfl rfl ?_
  refine s_aload_n rfl rfl ?_
  refine s_gfI rfl hk rfl ?_
  refine s_iconst rfl rfl ?_
  refine s_iadd rfl ?_
  rw [hs, ← Int32.ofInt_add]
  refine s_cv1 rfl hk rfl (Nat.le_of_ble_eq_true rfl) (sp_growE (d := 0) hk he hz hm hmx) (by omega) (fun o h' hq => ?_)
  obtain ⟨rfl, rfl⟩ := hq
  exact s_aretA rfl rfl ⟨rfl, rfl⟩
theorem sp_grow0C {t q y c w : Nat} {n : Int} (hk : am_kc t = some 10) (hs : hFI h 1002 (t, q) = zI n) (he : hFR h 1001 (t, q) = some (30, y)) (hcap : hAL h (30, y) = c) (h1 : 1 ≤ c) (h2 : c ≤ 1000) (hm : in32 (n + 1)) (hw : (c : Int) + max (n + 1 - c) ((c / 2 : Nat) : Int) = w) (hw0 : 1 ≤ w) (hw1 : w ≤ 1000) (hmc : in32 (n + 1 - c)) : am_C (d + 3) m_AL_grow2 [aR t q] h (fun o h' => o = .inl (some (aO (some (30, hCN h 30)))) ∧ h' = sFR (hCO h (30, y) w) 1001 (t, q) (some (30, hCN h 30))) := by
  refine am_C_i (ls := [some (aR t q)]) rfl ?_
  refine s_aload_n rfl rfl ?_
  refine s_aload_n rfl rfl ?_
  refine s_gfI rfl hk rfl ?_
  refine s_iconst rfl rfl ?_
  refine s_iadd rfl ?_
  rw [hs, ← Int32.ofInt_add]
  refine s_cv1 rfl hk rfl (Nat.le_of_ble_eq_true rfl) (sp_growC (d := 0) hk he hcap h1 h2 hm hw hw0 hw1 hmc) (by omega) (fun o h' hq => ?_)
  obtain ⟨rfl, rfl⟩ := hq
  exact s_aretA rfl rfl ⟨rfl, rfl⟩
theorem sp_addN {t q y c j kt kn : Nat} (hk : am_kc t = some 10) (hcap : hAL h (30, y) = c) (h2 : c ≤ 1000) (hj : j < c) (hkv : (am_kc kt).isSome = true ∧ kt < 10) : am_C d m_AL_add [aR t q, aR kt kn, aR 30 y, aI (zI (j : Int))] h (fun o h' => o = .inl none ∧ h' = sFI (sAR h (30, y) j (some (kt, kn))) 1002 (t, q) (zI ((j : Int) + 1))) := by
  refine am_C_i (ls := [some (aR t q), some (aR kt kn), some (aR 30 y), some (aI (zI (j : Int)))]) rfl ?_
  refine s_iload_n rfl rfl ?_
  refine s_aload_n rfl rfl ?_
  refine s_alen rfl rfl ?_
  rw [hcap, show Int32.ofNat c = zI (c : Int) from rfl]
  refine s_icmp_ne rfl rfl (fun _ => ?_) (fun hf => absurd ((zI_eq (by unfold in32; omega) (by unfold in32; omega)).mp (Classical.not_not.mp hf)) (by omega))
  refine s_aload_n rfl rfl ?_
  refine s_iload_n rfl rfl ?_
  refine s_aload_n rfl rfl ?_
  refine s_aastore rfl (Or.inr ⟨rfl, hkv.1, hkv.2⟩) (zI_toInt (by unfold in32; omega)) (by rw [hcap]; exact hj) ?_
  refine s_aload_n rfl rfl ?_
  refine s_iload_n rfl rfl ?_
  refine s_iconst rfl rfl ?_
  refine s_iadd rfl ?_
  rw [← Int32.ofInt_add]
  refine s_pfI rfl hk rfl rfl (Or.inl rfl) ?_
  exact s_ret rfl rfl ⟨rfl, rfl⟩
theorem sp_addE {t q kt kn : Nat} (hk : am_kc t = some 10) (hs : hFI h 1002 (t, q) = zI 0) (he : hFR h 1001 (t, q) = some (32, 0)) (hz : hAL h (32, 0) = 0) (hkv : (am_kc kt).isSome = true ∧ kt < 10) : am_C (d + 3) m_AL_add [aR t q, aR kt kn, aR 32 0, aI (zI 0)] h (fun o h' => o = .inl none ∧ h' = sFI (sAR (sFR (hNA h 30 (max 10 ((0 : Int) + 1)).toNat) 1001 (t, q) (some (30, hCN h 30))) (30, hCN h 30) 0 (some (kt, kn))) 1002 (t, q) (zI ((0 : Int) + 1))) := by
  refine am_C_i (ls := [some (aR t q), some (aR kt kn), some (aR 32 0), some (aI (zI 0))]) rfl ?_
  refine s_iload_n rfl rfl ?_
  refine s_aload_n rfl rfl ?_
  refine s_alen rfl rfl ?_
  rw [hz]
  refine s_icmp_ne rfl rfl (fun ht => absurd rfl ht) (fun _ => ?_)
  refine s_aload_n rfl rfl ?_
  refine s_cv0 rfl hk rfl (Nat.le_of_ble_eq_true rfl) (sp_grow0E (d := 0) (n := 0) hk hs he hz (by unfold in32; omega) (by omega)) (by omega) (fun o h' hq => ?_)
  obtain ⟨rfl, rfl⟩ := hq
  refine s_stA2 rfl ?_
  refine s_aload_n rfl rfl ?_
  refine s_iload_n rfl rfl ?_
  refine s_aload_n rfl rfl ?_
  refine s_aastore (j := 0) rfl (Or.inr ⟨rfl, hkv.1, hkv.2⟩) (zI_toInt in32_0) (by show 0 < am_u1 (hAL h) (30, hCN h 30) (max 10 ((0 : Int) + 1)).toNat (30, hCN h 30); unfold am_u1; rw [if_pos rfl]; decide) ?_
  refine s_aload_n rfl rfl ?_
  refine s_iload_n rfl rfl ?_
  refine s_iconst rfl rfl ?_
  refine s_iadd rfl ?_
  rw [← Int32.ofInt_add]
  refine s_pfI rfl hk rfl rfl (Or.inl rfl) ?_
  exact s_ret rfl rfl ⟨rfl, rfl⟩
theorem sp_addC {t q y c w kt kn : Nat} (hk : am_kc t = some 10) (hs : hFI h 1002 (t, q) = zI (c : Int)) (he : hFR h 1001 (t, q) = some (30, y)) (hcap : hAL h (30, y) = c) (h1 : 1 ≤ c) (h2 : c ≤ 1000) (hw : (c : Int) + max ((c : Int) + 1 - c) ((c / 2 : Nat) : Int) = w) (hw1 : w ≤ 1000) (hkv : (am_kc kt).isSome = true ∧ kt < 10) : am_C (d + 4) m_AL_add [aR t q, aR kt kn, aR 30 y, aI (zI (c : Int))] h (fun o h' => o = .inl none ∧ h' = sFI (sAR (sFR (hCO h (30, y) w) 1001 (t, q) (some (30, hCN h 30))) (30, hCN h 30) c (some (kt, kn))) 1002 (t, q) (zI ((c : Int) + 1))) := by
  refine am_C_i (ls := [some (aR t q), some (aR kt kn), some (aR 30 y), some (aI (zI (c : Int)))]) rfl ?_
  refine s_iload_n rfl rfl ?_
  refine s_aload_n rfl rfl ?_
  refine s_alen rfl rfl ?_
  rw [hcap, show Int32.ofNat c = zI (c : Int) from rfl]
  refine s_icmp_ne rfl rfl (fun ht => absurd rfl ht) (fun _ => ?_)
  refine s_aload_n rfl rfl ?_
  refine s_cv0 rfl hk rfl (Nat.le_of_ble_eq_true rfl) (sp_grow0C (d := 0) (n := c) hk hs he hcap h1 h2 (by unfold in32; omega) hw (by omega) hw1 (by unfold in32; omega)) (by omega) (fun o h' hq => ?_)
  obtain ⟨rfl, rfl⟩ := hq
  refine s_stA2 rfl ?_
  refine s_aload_n rfl rfl ?_
  refine s_iload_n rfl rfl ?_
  refine s_aload_n rfl rfl ?_
  refine s_aastore (j := c) rfl (Or.inr ⟨rfl, hkv.1, hkv.2⟩) (zI_toInt (by unfold in32; omega)) (by show c < am_u1 (hAL h) (30, hCN h 30) w (30, hCN h 30); unfold am_u1; rw [if_pos rfl]; omega) ?_
  refine s_aload_n rfl rfl ?_
  refine s_iload_n rfl rfl ?_
  refine s_iconst rfl rfl ?_
  refine s_iadd rfl ?_
  rw [← Int32.ofInt_add]
  refine s_pfI rfl hk rfl rfl (Or.inl rfl) ?_
  exact s_ret rfl rfl ⟨rfl, rfl⟩
theorem am_mc {t q j : Nat} {v : Int32} (hs : hFI h 1002 (t, q) = zI (j : Int)) : hFI (sFI h 1000 (t, q) v) 1002 (t, q) = zI (j : Int) := by
  show (if 1002 = 1000 ∧ (t, q) = (t, q) then v else hFI h 1002 (t, q)) = _
  rw [if_neg (fun z => by cases z.1)]
  exact hs
theorem sp_add2N {t q y c j kt kn : Nat} (hk : am_kc t = some 10) (hs : hFI h 1002 (t, q) = zI (j : Int)) (he : hFR h 1001 (t, q) = some (30, y)) (hcap : hAL h (30, y) = c) (h2 : c ≤ 1000) (hj : j < c) (hkv : (am_kc kt).isSome = true ∧ kt < 10) : am_C (d + 1) m_AL_add2 [aR t q, aR kt kn] h (fun o h' => o = .inl (some (aI (zI 1))) ∧ h' = sFI (sAR (sFI h 1000 (t, q) (hFI h 1000 (t, q) + zI 1)) (30, y) j (some (kt, kn))) 1002 (t, q) (zI ((j : Int) + 1))) := by
  refine am_C_i (ls := [some (aR t q), some (aR kt kn)]) rfl ?_
  refine s_aload_n rfl rfl ?_
  refine s_dup rfl rfl ?_
  refine s_gfI rfl hk rfl ?_
  refine s_iconst rfl rfl ?_
  refine s_iadd rfl ?_
  refine s_pfI rfl hk rfl rfl (Or.inl rfl) ?_
  refine s_aload_n rfl rfl ?_
  refine s_aload_n rfl rfl ?_
  refine s_aload_n rfl rfl ?_
  refine s_gfR rfl hk rfl he ?_
  refine s_aload_n rfl rfl ?_
  refine s_gfI rfl hk rfl ?_
  rw [am_mc hs]
  refine s_cv3 rfl hk rfl (Nat.le_of_ble_eq_true rfl) (sp_addN (d := 0) hk hcap h2 hj hkv) (by omega) (fun o h' hq => ?_)
  obtain ⟨rfl, rfl⟩ := hq
  refine s_iconst rfl rfl ?_
  exact s_iret rfl (Or.inr ⟨rfl, Or.inr rfl⟩) ⟨rfl, rfl⟩
theorem sp_add2E {t q kt kn : Nat} (hk : am_kc t = some 10) (hs : hFI h 1002 (t, q) = zI ((0 : Nat) : Int)) (he : hFR h 1001 (t, q) = some (32, 0)) (hz : hAL h (32, 0) = 0) (hkv : (am_kc kt).isSome = true ∧ kt < 10) : am_C (d + 4) m_AL_add2 [aR t q, aR kt kn] h (fun o h' => o = .inl (some (aI (zI 1))) ∧ h' = sFI (sAR (sFR (hNA (sFI h 1000 (t, q) (hFI h 1000 (t, q) + zI 1)) 30 (max 10 ((0 : Int) + 1)).toNat) 1001 (t, q) (some (30, hCN h 30))) (30, hCN h 30) 0 (some (kt, kn))) 1002 (t, q) (zI ((0 : Int) + 1))) := by
  refine am_C_i (ls := [some (aR t q), some (aR kt kn)]) rfl ?_
  refine s_aload_n rfl rfl ?_
  refine s_dup rfl rfl ?_
  refine s_gfI rfl hk rfl ?_
  refine s_iconst rfl rfl ?_
  refine s_iadd rfl ?_
  refine s_pfI rfl hk rfl rfl (Or.inl rfl) ?_
  refine s_aload_n rfl rfl ?_
  refine s_aload_n rfl rfl ?_
  refine s_aload_n rfl rfl ?_
  refine s_gfR rfl hk rfl he ?_
  refine s_aload_n rfl rfl ?_
  refine s_gfI rfl hk rfl ?_
  rw [am_mc hs]
  refine s_cv3 rfl hk rfl (Nat.le_of_ble_eq_true rfl) (sp_addE (d := 0) hk (am_mc hs) he hz hkv) (by omega) (fun o h' hq => ?_)
  obtain ⟨rfl, rfl⟩ := hq
  refine s_iconst rfl rfl ?_
  exact s_iret rfl (Or.inr ⟨rfl, Or.inr rfl⟩) ⟨rfl, rfl⟩
theorem sp_add2C {t q y c w kt kn : Nat} (hk : am_kc t = some 10) (hs : hFI h 1002 (t, q) = zI (c : Int)) (he : hFR h 1001 (t, q) = some (30, y)) (hcap : hAL h (30, y) = c) (h1 : 1 ≤ c) (h2 : c ≤ 1000) (hw : (c : Int) + max ((c : Int) + 1 - c) ((c / 2 : Nat) : Int) = w) (hw1 : w ≤ 1000) (hkv : (am_kc kt).isSome = true ∧ kt < 10) : am_C (d + 5) m_AL_add2 [aR t q, aR kt kn] h (fun o h' => o = .inl (some (aI (zI 1))) ∧ h' = sFI (sAR (sFR (hCO (sFI h 1000 (t, q) (hFI h 1000 (t, q) + zI 1)) (30, y) w) 1001 (t, q) (some (30, hCN h 30))) (30, hCN h 30) c (some (kt, kn))) 1002 (t, q) (zI ((c : Int) + 1))) := by
  refine am_C_i (ls := [some (aR t q), some (aR kt kn)]) rfl ?_
  refine s_aload_n rfl rfl ?_
  refine s_dup rfl rfl ?_
  refine s_gfI rfl hk rfl ?_
  refine s_iconst rfl rfl ?_
  refine s_iadd rfl ?_
  refine s_pfI rfl hk rfl rfl (Or.inl rfl) ?_
  refine s_aload_n rfl rfl ?_
  refine s_aload_n rfl rfl ?_
  refine s_aload_n rfl rfl ?_
  refine s_gfR rfl hk rfl he ?_
  refine s_aload_n rfl rfl ?_
  refine s_gfI rfl hk rfl ?_
  rw [am_mc hs]
  refine s_cv3 rfl hk rfl (Nat.le_of_ble_eq_true rfl) (sp_addC (d := 0) hk (am_mc hs) he hcap h1 h2 hw hw1 hkv) (by omega) (fun o h' hq => ?_)
  obtain ⟨rfl, rfl⟩ := hq
  refine s_iconst rfl rfl ?_
  exact s_iret rfl (Or.inr ⟨rfl, Or.inr rfl⟩) ⟨rfl, rfl⟩
end GROW
end

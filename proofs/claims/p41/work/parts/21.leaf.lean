noncomputable section
section LEAF
variable {d : Nat} {h : am_H}
theorem sp_max {a b : Int32} : am_C d m_Ma_max [aI a, aI b] h (am_is (aI (if a < b then b else a)) h) := by
  refine am_C_i (ls := [some (aI a), some (aI b)]) rfl ?_
  refine s_iload_n rfl rfl ?_
  refine s_iload_n rfl rfl ?_
  refine s_icmp_lt rfl rfl (fun h2 => ?_) (fun h2 => ?_)
  · refine s_iload_n rfl rfl ?_
    exact s_iret rfl (Or.inl rfl) ⟨by first | rw [if_pos h2] | rw [if_neg h2], rfl⟩
  · refine s_iload_n rfl rfl ?_
    refine s_goto rfl rfl ?_
    exact s_iret rfl (Or.inl rfl) ⟨by first | rw [if_pos h2] | rw [if_neg h2], rfl⟩
theorem sp_Pci {a b : Int32} {f : Option am_R} (h0 : 0 ≤ a) (hb : a < b) : am_C d m_Pc_checkIndex [aI a, aI b, aO f] h (am_is (aI a) h) := by
  refine am_C_i (ls := [some (aI a), some (aI b), some (aO f)]) rfl ?_
  refine s_iload_n rfl rfl ?_
  refine s_if_lt rfl rfl (fun ht => absurd ht (Int32.not_lt.mpr h0)) (fun _ => ?_)
  refine s_iload_n rfl rfl ?_
  refine s_iload_n rfl rfl ?_
  refine s_icmp_lt rfl rfl (fun _ => ?_) (fun hf => absurd hb hf)
  refine s_iload_n rfl rfl ?_
  exact s_iret rfl (Or.inl rfl) ⟨rfl, rfl⟩
theorem sp_Oci {a b : Int32} (h0 : 0 ≤ a) (hb : a < b) : am_C (d + 1) m_Ob_checkIndex [aI a, aI b] h (am_is (aI a) h) := by
  refine am_C_i (ls := [some (aI a), some (aI b)]) rfl ?_
  refine s_iload_n rfl rfl ?_
  refine s_iload_n rfl rfl ?_
  refine s_null rfl ?_
  refine s_cs3 rfl rfl (Nat.le_of_ble_eq_true rfl) (sp_Pci (d := 0) h0 hb) (by omega) (fun o h' hq => am_B_is ?_ hq)
  exact s_iret rfl (Or.inl rfl) ⟨rfl, rfl⟩
theorem sp_size {t q : Nat} (hk : am_kc t = some 10) : am_C d m_AL_size [aR t q] h (am_is (aI (hFI h 1002 (t, q))) h) := by
  refine am_C_i (ls := [some (aR t q)]) rfl ?_
  refine s_aload_n rfl rfl ?_
  refine s_gfI rfl hk rfl ?_
  exact s_iret rfl (Or.inl rfl) ⟨rfl, rfl⟩
theorem sp_isEmpty {t q : Nat} (hk : am_kc t = some 10) : am_C d m_AL_isEmpty [aR t q] h (am_is (aI (if hFI h 1002 (t, q) = 0 then 1 else 0)) h) := by
  refine am_C_i (ls := [some (aR t q)]) rfl ?_
  refine s_aload_n rfl rfl ?_
  refine s_gfI rfl hk rfl ?_
  refine s_if_ne rfl rfl (fun h4 => ?_) (fun h4 => ?_)
  · refine s_iconst rfl rfl ?_
    exact s_iret rfl (Or.inr ⟨rfl, by decide⟩) ⟨by first | rw [if_neg h4] ; rfl | rw [if_pos (Classical.not_not.mp h4)] ; rfl, rfl⟩
  · refine s_iconst rfl rfl ?_
    refine s_goto rfl rfl ?_
    exact s_iret rfl (Or.inr ⟨rfl, by decide⟩) ⟨by first | rw [if_neg h4] ; rfl | rw [if_pos (Classical.not_not.mp h4)] ; rfl, rfl⟩
theorem sp_eldata {t q j : Nat} {i : Int32} {x y : Nat} {v : Option am_R} (hk : am_kc t = some 10) (he : hFR h 1001 (t, q) = some (x, y)) (hx : am_ka x = some 4) (hi : i.toInt = (j : Int)) (hj : j < hAL h (x, y)) (hv : hAR h (x, y) j = v) : am_C d m_AL_elementData [aR t q, aI i] h (am_is (aO v) h) := by
  refine am_C_i (ls := [some (aR t q), some (aI i)]) rfl ?_
  refine s_aload_n rfl rfl ?_
  refine s_gfR rfl hk rfl he ?_
  refine s_iload_n rfl rfl ?_
  refine s_aaload rfl (Or.inl hx) hi hj hv ?_
  exact s_aret rfl rfl ⟨rfl, rfl⟩
theorem sp_get {t q j : Nat} {i : Int32} {x y : Nat} {v : Option am_R} (hk : am_kc t = some 10) (he : hFR h 1001 (t, q) = some (x, y)) (hx : am_ka x = some 4) (hi : i.toInt = (j : Int)) (hj : j < hAL h (x, y)) (hs : i < hFI h 1002 (t, q)) (hv : hAR h (x, y) j = v) : am_C (d + 2) m_AL_get [aR t q, aI i] h (am_is (aO v) h) := by
  refine am_C_i (ls := [some (aR t q), some (aI i)]) rfl ?_
  refine s_iload_n rfl rfl ?_
  refine s_aload_n rfl rfl ?_
  refine s_gfI rfl hk rfl ?_
  refine s_cs2 rfl rfl (Nat.le_of_ble_eq_true rfl) (sp_Oci (d := 0) (Int32.le_iff_toInt_le.mpr (by rw [hi, Int32.toInt_zero]; omega)) hs) (by omega) (fun o h' hq => am_B_is ?_ hq)
  refine s_pop rfl rfl ?_
  refine s_aload_n rfl rfl ?_
  refine s_iload_n rfl rfl ?_
  refine s_cv1 rfl hk rfl (Nat.le_of_ble_eq_true rfl) (sp_eldata (d := 0) hk he hx hi hj hv) (by omega) (fun o h' hq => am_B_is ?_ hq)
  exact s_aret rfl rfl ⟨rfl, rfl⟩
end LEAF
end

noncomputable section
section GROW
variable {d : Nat} {h : am_H}
theorem zI_max {b c : Int} (hb : in32 b) (hc : in32 c) : (if zI b < zI c then zI c else zI b) = zI (max b c) := by
  by_cases hlt : b < c
  · rw [if_pos ((zI_lt hb hc).mpr hlt), Int.max_eq_right (by omega)]
  · rw [if_neg (fun z => hlt ((zI_lt hb hc).mp z)), Int.max_eq_left (by omega)]
theorem sp_newLength {a b c : Int} (ha : in32 a) (hb : in32 b) (hc : in32 c) (h0 : 0 < a + max b c) (h1 : a + max b c ≤ 2147483639) : am_C (d + 1) m_AS_newLength [aI (zI a), aI (zI b), aI (zI c)] h (am_is (aI (zI (a + max b c))) h) := by
  have hs : in32 (a + max b c) := by unfold in32; omega
  refine am_C_i (ls := [some (aI (zI a)), some (aI (zI b)), some (aI (zI c)), none]) rfl ?_
  refine s_iload_n rfl rfl ?_
  refine s_iload_n rfl rfl ?_
  refine s_iload_n rfl rfl ?_
  refine s_cs2 rfl rfl (Nat.le_of_ble_eq_true rfl) (sp_max (d := 0)) (by omega) (fun o h' hq => am_B_is ?_ hq)
  rw [zI_max hb hc]
  refine s_iadd rfl ?_
  rw [← Int32.ofInt_add]
  refine s_stI3 rfl ?_
  refine s_iconst rfl rfl ?_
  refine s_iload_n rfl rfl ?_
  refine s_icmp_ge rfl rfl (fun ht => absurd ((zI_le hs in32_0).mp ht) (by omega)) (fun _ => ?_)
  refine s_iload_n rfl rfl ?_
  refine s_ldc rfl rfl ?_
  refine s_icmp_gt rfl rfl (fun ht => absurd ((zI_lt (a := 2147483639) (by unfold in32; omega) hs).mp ht) (by omega)) (fun _ => ?_)
  refine s_iload_n rfl rfl ?_
  exact s_iret rfl (Or.inl rfl) ⟨rfl, rfl⟩
end GROW
end

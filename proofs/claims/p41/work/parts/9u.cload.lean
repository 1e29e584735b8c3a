noncomputable section
/-- what load tells -/
def ldF (s : am_Z) (l : Int) : UInt32 := FP.fdiv (FP.i2f (zI (sold s l 0))) (FP.i2f (zI (rA s 9 (l / 100))))
theorem cs_load {d : Nat} {q : am_A} {s : am_Z} (V : am_CV q s) {l : Int} (hl : in32 l) (hse : legP s l → 1 ≤ rA s 9 (l / 100)) : am_C2 (d + 4) m_X_load [aR 8 0, aI (zI l)] q (am_T2 (legP s l) 13 (some (aF (ldF s l))) q) := by
  refine am_C2_i (ls := [some (aR 8 0), some (aI (zI l)), none]) rfl ?_
  have B := CV_B V
  have b3 := B.2.1 3 0 12 rfl
  refine ar_aload_n rfl rfl ?_
  refine ar_iload_n rfl rfl ?_
  refine ar_cv1 rfl rfl rfl (Nat.le_of_ble_eq_true rfl) (cs_findLeg (d := 0) V (by omega)) (by omega) (fun o q2 hq => am_B2_T rfl (fun h2 => ?_) (fun h2 => ?_) hq)
  · refine ar_stA2 rfl ?_
    have hL1 := h2.1
    have hL2 := h2.2.1
    have hg := V.2.2.2.1.1 _ h2
    have hF := V.2.2.1.2.2.1 (l / 100).toNat (by omega)
    have el : (((l / 100).toNat : Nat) : Int) = l / 100 := by omega
    have b9 := B.1 9 (l / 100) 0 60 rfl
    have h9 := hse h2
    refine ar_aload_n rfl rfl ?_
    refine ar_gfR rfl rfl rfl (by omega) (hg.2.2.1) ?_
    refine ar_gfIv rfl rfl rfl (by omega) ((hF.1 406 9 rfl).trans (by rw [el])) ?_
    refine ar_iconst rfl ?_
    refine ar_icmp_ge rfl rfl (by omega) (by omega) (fun h14 => ?_) (fun hf => by omega)
    refine ar_aload_n rfl rfl ?_
    refine ar_aload_n rfl rfl ?_
    refine ar_iconst rfl ?_
    refine ar_cv2 rfl rfl rfl (Nat.le_of_ble_eq_true rfl) (cs_soldSeats (d := 0) V h2 (by omega)) (by omega) (fun o q22 hq => am_B2_is ?_ hq)
    refine ar_i2f rfl ?_
    refine ar_aload_n rfl rfl ?_
    refine ar_gfR rfl rfl rfl (by omega) (hg.2.2.1) ?_
    refine ar_gfIv rfl rfl rfl (by omega) ((hF.1 406 9 rfl).trans (by rw [el])) ?_
    refine ar_i2f rfl ?_
    refine ar_fdiv rfl (fp_div (by omega)) ?_
    exact ar_fret rfl rfl (⟨fun _ => ⟨rfl, rfl⟩, fun z => absurd h2 z⟩)
  · exact ⟨fun z => absurd z (by omega), fun _ => ⟨rfl, rfl⟩⟩
end


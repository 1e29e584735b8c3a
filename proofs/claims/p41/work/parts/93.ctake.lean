noncomputable section
theorem gl0_S (s : am_Z) : (∀ j i, j ≠ 67 → rA (gl0 s) j i = rA s j i) ∧ ∀ j, rI (gl0 s) j = rI s j := ⟨fun j i h => if_neg (fun z => h z.1), fun _ => rfl⟩
theorem gl0_B {s : am_Z} (B : in_S s) : in_S (gl0 s) := by
  refine ⟨fun j i lo hi h => ?_, B.2.1, fun j i h => ?_⟩
  · show lo ≤ (if j = 67 ∧ 0 ≤ i ∧ i < 0 + ((rI s 44).toNat : Int) then (0 : Int) else rA s j i) ∧ (if j = 67 ∧ 0 ≤ i ∧ i < 0 + ((rI s 44).toNat : Int) then (0 : Int) else rA s j i) ≤ hi
    split
    · rename_i z
      rw [z.1] at h
      cases h
      omega
    · exact B.1 j i lo hi h
  · show (if j = 67 ∧ 0 ≤ i ∧ i < 0 + ((rI s 44).toNat : Int) then (0 : Int) else rA s j i) % 100 ≤ 60
    split
    · omega
    · exact B.2.2 j i h
theorem ch_sum {s : am_Z} (B : in_S s) (U : am_UQ s) (C : am_CK s) {l : Int} : sumI 0 (rI s 44).toNat (chF s l) = sumI 0 (rI s 44).toNat (fLv (gl0 s) l) := by
  refine sumI_c (fun b h1 h2 => ?_)
  have eb : ((b.toNat : Nat) : Int) = b := by omega
  have h := (ch_cf B U C (b := b.toNat) (l := l) (by omega)).1
  rw [eb] at h
  have e2 : cfS (gl0 s) b l = cfS s b l := cfS_cg (s := s) (s' := gl0 s) rfl rfl (fun _ _ => ⟨rfl, Iff.rfl⟩) l
  have e3 : rA (gl0 s) 67 b = 0 := if_pos ⟨rfl, h1, h2⟩
  have e4 : rA (gl0 s) 45 b = rA s 45 b := (gl0_S s).1 45 b (by omega)
  unfold fLv chF
  rw [e3, e2, if_pos rfl, e4]
  by_cases hc : chP s b l
  · rw [if_pos hc, if_pos (h.mpr hc)]
  · rw [if_neg hc, if_neg (fun z => hc (h.mp z))]
theorem DH_0 {q : am_A} {s : am_Z} {l : Int} (D : am_DFh q) : am_DH q (uLS q (1809, 0) []) (gl0 s) l 0 := by
  refine ⟨?_, fun k hk => by omega, fun j hj => ?_, fun b hb z => ?_, fun _ => rfl, CY_LS CY_r (by show cK 1809; omega)⟩
  · show (((if ((1809, 0) : am_R) = (1809, 0) then ([] : List am_R) else qLS q (1809, 0)).length : Nat) : Int) = 0
    rw [if_pos rfl]
    rfl
  · have d := D j hj
    exact ⟨d.1, Or.inl d.2⟩
  · have hb2 : (b : Int) < rI s 44 := hb
    exact absurd (if_pos ⟨rfl, by omega, by omega⟩) z
theorem cs_denySurplus {d : Nat} {q : am_A} {e : Nat} {s : am_Z} {l : Int} (I : am_CI e q s) (hl : legP s l) (P : am_PN s) (U : am_UQ s) (C : am_CK s) (F : am_DFh q) : am_C2 (d + 7) m_X_denySurplus [aR 8 0, aR 5 (lId q l)] q (fun o q' => o = .inl none ∧ am_CI e q' (glX s l).1 ∧ am_DH q q' (glX s l).1 l (glX s l).2 ∧ ∃ a, am_DS l (gl0 s) (glX s l).1 (sumI 0 (rI s 44).toNat (fLv (gl0 s) l)) a (glX s l).2) := by
  refine am_C2_i (ls := [some (aR 8 0), some (aR 5 (lId q l)), none, none, none, none, none, none]) rfl ?_
  have V := I.1
  have B := CV_B V
  have b44 := B.2.1 44 0 40 rfl
  have b3 := B.2.1 3 0 12 rfl
  have b9 := B.1 9 (l / 100) 0 60 rfl
  have hl1 := hl.1
  have hl2 := hl.2.1
  have hg := V.2.2.2.1.1 _ hl
  have hF := V.2.2.1.2.2.1 (l / 100).toNat (by omega)
  have el : (((l / 100).toNat : Nat) : Int) = l / 100 := by omega
  have hnv : ¬ vL s (1809, 0) := by { unfold vL; simp only; omega }
  have VC : am_CV (uLS q (1809, 0) []) s := CV_EQ V (EQ_LS hnv)
  have IC : am_CI e (uLS q (1809, 0) []) (gl0 s) := CI_s (CI_w I VC rfl rfl rfl rfl (fun _ => ⟨rfl, rfl⟩) ⟨rfl, rfl, rfl⟩) (fun j x h => (gl0_S s).1 j x (by omega)) (fun j _ => rfl) (gl0_B B)
  have hS : am_S7 s (gl0 s) := ⟨fun j i h _ => (gl0_S s).1 j i h, fun _ _ => rfl⟩
  refine ar_aload_n rfl rfl ?_
  refine ar_gfR rfl rfl rfl (by omega) (V.1.1 809 _ rfl) ?_
  refine ar_cv0 rfl rfl rfl (Nat.le_of_ble_eq_true rfl) (sq_clear (d := 0) rfl (by omega) (V.1.2.2.2 1809 rfl)) (by omega) (fun o q4 hq => ?_)
  obtain ⟨rfl, rfl⟩ := hq
  refine ar_aload_n rfl rfl ?_
  refine ar_aload_n rfl rfl ?_
  refine ar_cv1 rfl rfl rfl (Nat.le_of_ble_eq_true rfl) (cs_checkedPersons (d := 0) VC hl) (by omega) (fun o q9 hq => am_B2_is ?_ hq)
  rw [ch_sum B U C]
  refine ar_aload_n rfl rfl ?_
  refine ar_gfR rfl rfl rfl (by omega) (hg.2.2.1) ?_
  refine ar_gfIv rfl rfl rfl (by omega) ((hF.1 406 9 rfl).trans (by rw [el])) ?_
  refine ar_isub rfl ?_
  refine ar_stI2 rfl ?_
  refine ar_iconst rfl ?_
  refine ar_stI3 rfl ?_
  refine lp_ds1 (d := d) (q := q) (e := e) (s0 := gl0 s) (l := l) (a0 := (sumI 0 (rI s 44).toNat (fLv (gl0 s) l))) (S7_l hS hl) (S7_PN hS P) (S7_UQ hS U) (S7_CK hS C) b9 4 0 (sumI 0 (rI s 44).toNat (fLv (gl0 s) l)) 0 (gl0 s) _ _ _ _ _ (by omega) ⟨⟨by omega, by omega⟩, DS_0 (s0 := gl0 s) (fun i h1 h2 => if_pos ⟨rfl, h1, by have h3 : i < rI s 44 := h2; omega⟩) b44.1, IC, DH_0 F, Or.inr (MK_0 (gl0_B B) (S7_PN hS P) (fun c hc => if_pos ⟨rfl, by omega, by have h3 : (c : Int) < rI s 44 := hc; omega⟩))⟩ (fun a2 n2 s2 x3 x4 x5 x6 x7 q2 h2 D2 I2 H2 => ?_)
  exact ar_ret rfl rfl (by { have e1 : glX s l = (s2, n2) := by { have z := DS_end D2 h2; unfold glX; rw [fLv_0 B U]; exact z }; rw [e1]; exact ⟨rfl, I2, H2, a2, D2⟩ })
end

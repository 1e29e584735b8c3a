noncomputable section
/-- pricing begins -/
def pbH (q : am_A) (r : am_R) (p h : Int) : am_A := uFI (uFI (uFI (uFI (uFR (uFR q 605 (6, 0) (some (1803, 0))) 606 (6, 0) (some r)) 607 (6, 0) p) 608 (6, 0) h) 609 (6, 0) 0) 610 (6, 0) (-1)
theorem cs_begin {d : Nat} {q : am_A} {t i : Nat} {p h : Int} (hk : am_kc t = some 10) (h30 : t ≠ 30) : am_C2 d m_Pr_begin [aR 6 0, aR 1803 0, aR t i, aI (zI p), aI (zI h)] q (fun o q' => o = .inl none ∧ q' = pbH q (t, i) p h) := by
  refine am_C2_i (ls := [some (aR 6 0), some (aR 1803 0), some (aR t i), some (aI (zI p)), some (aI (zI h))]) rfl ?_
  refine ar_aload_n rfl rfl ?_
  refine ar_aload_n rfl rfl ?_
  refine ar_pfR rfl rfl rfl rfl (by omega) ?_
  refine ar_aload_n rfl rfl ?_
  refine ar_aload_n rfl rfl ?_
  refine ar_pfR rfl rfl rfl rfl (by omega) ?_
  refine ar_aload_n rfl rfl ?_
  refine ar_iload_n rfl rfl ?_
  refine ar_pfI rfl rfl rfl rfl (by omega) (Or.inl rfl) ?_
  refine ar_aload_n rfl rfl ?_
  refine ar_iload rfl rfl ?_
  refine ar_pfI rfl rfl rfl rfl (by omega) (Or.inl rfl) ?_
  refine ar_aload_n rfl rfl ?_
  refine ar_iconst rfl ?_
  refine ar_pfI rfl rfl rfl rfl (by omega) (Or.inl rfl) ?_
  refine ar_aload_n rfl rfl ?_
  refine ar_iconst rfl ?_
  refine ar_pfI rfl rfl rfl rfl (by omega) (Or.inl rfl) ?_
  exact ar_ret rfl rfl (⟨rfl, rfl⟩)
end

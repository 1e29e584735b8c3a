noncomputable section
/-- pricing begins -/
def pbH (q : am_A) (r : am_R) (p h : Int) : am_A := uFI (uFI (uFI (uFI (uFR (uFR q 605 (6, 0) (some (1803, 0))) 606 (6, 0) (some r)) 607 (6, 0) p) 608 (6, 0) h) 609 (6, 0) 0) 610 (6, 0) (-1)
theorem cs_begin {d : Nat} {q : am_A} {t i : Nat} {p h : Int} (hk : am_kc t = some 10) (h30 : t ≠ 30) : am_C2 d m_Pr_begin [aR 6 0, aR 1803 0, aR t i, aI (zI p), aI (zI h)] q (fun o q' => o = .inl none ∧ q' = pbH q (t, i) p h) := by
  refine am_C2_i (ls := [some (aR 6 0), some (aR 1803 0), some (aR t i), some (aI (zI p)), some (aI (zI h))]) rfl ?_
  refine ar_aload_n rfl rfl ?_
  refine ar_aload_n rfl rfl ?_
  refine ar_pfR rfl rfl rfl rfl (by omega) ?_
  refine ar_aload_n rfl rfl ?_
  refine ar_aload_n rfl rfl ?_
  refine ar_pfR rfl rfl rfl rfl (by omega) ?_
  refine ar_aload_n rfl rfl ?_
  refine ar_iload_n rfl rfl ?_
  refine ar_pfI rfl rfl rfl rfl (by omega) (Or.inl rfl) ?_
  refine ar_aload_n rfl rfl ?_
  refine ar_iload rfl rfl ?_
  refine ar_pfI rfl rfl rfl rfl (by omega) (Or.inl rfl) ?_
  refine ar_aload_n rfl rfl ?_
  refine ar_iconst rfl ?_
  refine ar_pfI rfl rfl rfl rfl (by omega) (Or.inl rfl) ?_
  refine ar_aload_n rfl rfl ?_
  refine ar_iconst rfl ?_
  refine ar_pfI rfl rfl rfl rfl (by omega) (Or.inl rfl) ?_
  exact ar_ret rfl rfl (⟨rfl, rfl⟩)
theorem no6 {q : am_A} {s : am_Z} : ¬ vO q s (6, 0) := by
  unfold vO
  rintro (h | h | h | h | h | h | h)
  · exact absurd (congrArg Prod.fst h) (by show ¬ (6 : Nat) = 8; omega)
  · exact absurd h (by show ¬ (6 : Nat) = 3; omega)
  · exact absurd h (by show ¬ (6 : Nat) = 4; omega)
  · exact absurd h.1 (by show ¬ (6 : Nat) = 0; omega)
  · exact absurd h.1 (by show ¬ (6 : Nat) = 1; omega)
  · exact absurd h.1 (by show ¬ (6 : Nat) = 5; omega)
  · exact absurd h.1 (by show ¬ (6 : Nat) = 7; omega)
theorem CI_6I {e f : Nat} {q : am_A} {s : am_Z} {v : Int} (I : am_CI e q s) : am_CI e (uFI q f (6, 0) v) s := ⟨CV_EQ I.1 (EQ_FI (Or.inr no6)), I.2.1, I.2.2⟩
theorem CI_6R {e f : Nat} {q : am_A} {s : am_Z} {v : Option am_R} (I : am_CI e q s) (h : 605 ≤ f) : am_CI e (uFR q f (6, 0) v) s := ⟨CV_EQ I.1 (EQ_FR (fun z => z.elim no6 (fun y => by have := y.2; omega))), I.2.1, I.2.2⟩
theorem pbH_CI {e : Nat} {q : am_A} {s : am_Z} {r : am_R} {p h : Int} (I : am_CI e q s) : am_CI e (pbH q r p h) s := CI_6I (CI_6I (CI_6I (CI_6I (CI_6R (CI_6R I (by omega)) (by omega)))))
theorem pbH_CG {q : am_A} {r : am_R} {p h : Int} : am_CG q (pbH q r p h) := CG_FI (CG_FI (CG_FI (CG_FI (CG_FR (CG_FR CG_r (by show cK 6; omega)) (by show cK 6; omega)) (by show cK 6; omega)) (by show cK 6; omega)) (by show cK 6; omega)) (by show cK 6; omega)
theorem CI_16I {e t k : Nat} {q : am_A} {s : am_Z} {v : Int} (I : am_CI e q s) (h : 1600 ≤ t ∧ t ≤ 1604) : am_CI e (uAI q (t, 0) k v) s := ⟨CV_EQ I.1 (EQ_AI (fun z => by unfold vA at z; simp only at z; omega)), I.2.1, I.2.2⟩
theorem CI_16R {e t k : Nat} {q : am_A} {s : am_Z} {v : Option am_R} (I : am_CI e q s) (h : 1600 ≤ t ∧ t ≤ 1604) : am_CI e (uAR q (t, 0) k v) s := ⟨CV_EQ I.1 (EQ_AR (by show t ≠ 1408; omega)), I.2.1, I.2.2⟩
theorem CG_16I {t k : Nat} {q q' : am_A} {v : Int} (G : am_CG q q') (h : 1600 ≤ t ∧ t ≤ 1604) : am_CG q (uAI q' (t, 0) k v) := CG_AI G (by show cK t; omega)
theorem CG_16R {t k : Nat} {q q' : am_A} {v : Option am_R} (G : am_CG q q') (h : 1600 ≤ t ∧ t ≤ 1604) : am_CG q (uAR q' (t, 0) k v) := CG_AR G (by show cK t; omega)
end

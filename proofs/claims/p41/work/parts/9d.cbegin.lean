noncomputable section
/-- pricing begins -/
def pbH (q : am_A) (r : am_R) (p h : Int) : am_A := uFI (uLS (uLS (uFI (uFI (uFR (uFR q 605 (6, 0) (some (1803, 0))) 606 (6, 0) (some r)) 607 (6, 0) p) 608 (6, 0) h) (1601, 0) []) (1603, 0) []) 609 (6, 0) (-1)
theorem cs_begin {d : Nat} {q : am_A} {s : am_Z} (V : am_CV q s) {t i : Nat} {p h : Int} (hk : am_kc t = some 10) (h30 : t ≠ 30) : am_C2 (d + 1) m_Pr_begin [aR 6 0, aR 1803 0, aR t i, aI (zI p), aI (zI h)] q (fun o q' => o = .inl none ∧ q' = pbH q (t, i) p h) := by
  refine am_C2_i (ls := [some (aR 6 0), some (aR 1803 0), some (aR t i), some (aI (zI p)), some (aI (zI h))]) rfl ?_
  refine ar_aload_n rfl rfl ?_
  refine ar_aload_n rfl rfl ?_
  refine ar_pfR rfl rfl rfl rfl (by omega) ?_
  refine ar_aload_n rfl rfl ?_
  refine ar_aload_n rfl rfl ?_
  refine ar_pfR rfl rfl rfl rfl (by omega) ?_
  refine ar_aload_n rfl rfl ?_
  refine ar_iload_n rfl rfl ?_
  refine ar_pfI rfl rfl rfl rfl (by omega) (Or.inl rfl) ?_
  refine ar_aload_n rfl rfl ?_
  refine ar_iload rfl rfl ?_
  refine ar_pfI rfl rfl rfl rfl (by omega) (Or.inl rfl) ?_
  refine ar_aload_n rfl rfl ?_
  refine ar_gfR rfl rfl rfl (by omega) (V.1.2.1 601 _ rfl) ?_
  refine ar_cv0 rfl rfl rfl (Nat.le_of_ble_eq_true rfl) (sq_clear (d := 0) rfl (by omega) (V.1.2.2.2 1601 rfl)) (by omega) (fun o q25 hq => ?_)
  obtain ⟨rfl, rfl⟩ := hq
  refine ar_aload_n rfl rfl ?_
  refine ar_gfR rfl rfl rfl (by omega) (V.1.2.1 603 _ rfl) ?_
  refine ar_cv0 rfl rfl rfl (Nat.le_of_ble_eq_true rfl) (sq_clear (d := 0) rfl (by omega) (V.1.2.2.2 1603 rfl)) (by omega) (fun o q32 hq => ?_)
  obtain ⟨rfl, rfl⟩ := hq
  refine ar_aload_n rfl rfl ?_
  refine ar_iconst rfl ?_
  refine ar_pfI rfl rfl rfl rfl (by omega) (Or.inl rfl) ?_
  exact ar_ret rfl rfl (⟨rfl, rfl⟩)
theorem no6 {q : am_A} {s : am_Z} : ¬ vO q s (6, 0) := by
  unfold vO
  rintro (h | h | h | h | h | h | h)
  · exact absurd (congrArg Prod.fst h) (by show ¬ (6 : Nat) = 8; omega)
  · exact absurd h (by show ¬ (6 : Nat) = 3; omega)
  · exact absurd h (by show ¬ (6 : Nat) = 4; omega)
  · exact absurd h.1 (by show ¬ (6 : Nat) = 0; omega)
  · exact absurd h.1 (by show ¬ (6 : Nat) = 1; omega)
  · exact absurd h.1 (by show ¬ (6 : Nat) = 5; omega)
  · exact absurd h.1 (by show ¬ (6 : Nat) = 7; omega)
theorem CI_6I {e f : Nat} {q : am_A} {s : am_Z} {v : Int} (I : am_CI e q s) : am_CI e (uFI q f (6, 0) v) s := ⟨CV_EQ I.1 (EQ_FI (Or.inr no6)), I.2.1, I.2.2⟩
theorem CI_6R {e f : Nat} {q : am_A} {s : am_Z} {v : Option am_R} (I : am_CI e q s) (h : 605 ≤ f) : am_CI e (uFR q f (6, 0) v) s := ⟨CV_EQ I.1 (EQ_FR (fun z => z.elim no6 (fun y => by have := y.2; omega))), I.2.1, I.2.2⟩
theorem nvL16 {s : am_Z} {t : Nat} (h : t = 1601 ∨ t = 1603) : ¬ vL s (t, 0) := by
  unfold vL
  simp only
  omega
theorem CI_16L {e t : Nat} {q : am_A} {s : am_Z} {xs : List am_R} (I : am_CI e q s) (h : t = 1601 ∨ t = 1603) : am_CI e (uLS q (t, 0) xs) s := ⟨CV_EQ I.1 (EQ_LS (nvL16 h)), I.2.1, I.2.2⟩
theorem CI_16A {e t : Nat} {q : am_A} {s : am_Z} {v : am_R} (I : am_CI e q s) (h : t = 1601 ∨ t = 1603) (hl : (qLS q (t, 0)).length ≤ 40) (hc : (qLS q (t, 0)).length ≤ qCP q (t, 0)) : am_CI e (qAdd q (t, 0) v) s := by
  have h60 : qCP q (t, 0) ≤ 60 := by
    rcases h with rfl | rfl
    · exact I.1.2.2.2.2.2.2.2.2.1 1601 rfl
    · exact I.1.2.2.2.2.2.2.2.2.1 1603 rfl
  refine ⟨CV_EQ I.1 (EQ_Add (nvL16 h) hl h60), CX_G I.2.1 (fun x _ => congrFun qAdd_CN x) (fun x i hx => qAdd_CPn (fun z => by have := congrArg Prod.fst z; simp only at this; omega)) (fun _ => rfl) rfl ⟨rfl, rfl⟩, RM_Add I.2.2 (Or.inl ⟨rfl, ?_⟩) hl hc⟩
  show t = 1802 ∨ t = 1803 ∨ t = 1804 ∨ t = 1806 ∨ t = 1807 ∨ t = 1808 ∨ t = 1809 ∨ t = 1601 ∨ t = 1603
  omega
theorem pbH_CI {e : Nat} {q : am_A} {s : am_Z} {r : am_R} {p h : Int} (I : am_CI e q s) : am_CI e (pbH q r p h) s := CI_6I (CI_16L (CI_16L (CI_6I (CI_6I (CI_6R (CI_6R I (by omega)) (by omega)))) (Or.inl rfl)) (Or.inr rfl))
theorem pbH_CG {q : am_A} {r : am_R} {p h : Int} : am_CG q (pbH q r p h) := CG_FI (CG_LS (CG_LS (CG_FI (CG_FI (CG_FR (CG_FR CG_r (by show cK 6; omega)) (by show cK 6; omega)) (by show cK 6; omega)) (by show cK 6; omega)) (by show cK 1601; omega)) (by show cK 1603; omega)) (by show cK 6; omega)
theorem CI_16I {e t k : Nat} {q : am_A} {s : am_Z} {v : Int} (I : am_CI e q s) (h : 1600 ≤ t ∧ t ≤ 1604) : am_CI e (uAI q (t, 0) k v) s := ⟨CV_EQ I.1 (EQ_AI (fun z => by unfold vA at z; simp only at z; omega)), I.2.1, I.2.2⟩
theorem CI_16R {e t k : Nat} {q : am_A} {s : am_Z} {v : Option am_R} (I : am_CI e q s) (h : 1600 ≤ t ∧ t ≤ 1604) : am_CI e (uAR q (t, 0) k v) s := ⟨CV_EQ I.1 (EQ_AR (by show t ≠ 1408; omega)), I.2.1, I.2.2⟩
theorem CG_16I {t k : Nat} {q q' : am_A} {v : Int} (G : am_CG q q') (h : 1600 ≤ t ∧ t ≤ 1604) : am_CG q (uAI q' (t, 0) k v) := CG_AI G (by show cK t; omega)
theorem CG_16R {t k : Nat} {q q' : am_A} {v : Option am_R} (G : am_CG q q') (h : 1600 ≤ t ∧ t ≤ 1604) : am_CG q (uAR q' (t, 0) k v) := CG_AR G (by show cK t; omega)
end

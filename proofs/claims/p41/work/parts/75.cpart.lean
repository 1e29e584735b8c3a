noncomputable section
theorem cs_Cp_init {d : Nat} {q : am_A} {c : Nat} {l : Option am_R} {bk st sh tx : Int} : am_C2 d m_Cp_init [aR 1 c, aO l, aI (zI bk), aI (zI st), aI (zI sh), aI (zI tx)] q (fun o q' => o = .inl none ∧ q' = uFs (uFR q 100 (1, c) l) (1, c) [(105, 0), (101, bk), (102, st), (103, sh), (104, tx)]) := by
  refine am_C2_i (ls := [some (aR 1 c), some (aO l), some (aI (zI bk)), some (aI (zI st)), some (aI (zI sh)), some (aI (zI tx))]) rfl ?_
  refine ar_aload_n rfl rfl ?_
  refine ar_objinit rfl rfl rfl rfl (Nat.le_of_ble_eq_true rfl) ?_
  refine ar_aload_n rfl rfl ?_
  refine ar_iconst rfl ?_
  refine ar_pfI rfl rfl rfl rfl (by omega) (Or.inl rfl) ?_
  refine ar_aload_n rfl rfl ?_
  refine ar_aload_n rfl rfl ?_
  refine ar_pfR rfl rfl rfl rfl (by omega) ?_
  refine ar_aload_n rfl rfl ?_
  refine ar_iload_n rfl rfl ?_
  refine ar_pfI rfl rfl rfl rfl (by omega) (Or.inl rfl) ?_
  refine ar_aload_n rfl rfl ?_
  refine ar_iload_n rfl rfl ?_
  refine ar_pfI rfl rfl rfl rfl (by omega) (Or.inl rfl) ?_
  refine ar_aload_n rfl rfl ?_
  refine ar_iload rfl rfl ?_
  refine ar_pfI rfl rfl rfl rfl (by omega) (Or.inl rfl) ?_
  refine ar_aload_n rfl rfl ?_
  refine ar_iload rfl rfl ?_
  refine ar_pfI rfl rfl rfl rfl (by omega) (Or.inl rfl) ?_
  exact ar_ret rfl rfl (⟨rfl, rfl⟩)
theorem cs_copied {d : Nat} {q : am_A} {j : Nat} {l : Option am_R} {bk st sh tx v : Int} (hj : j < qCN q 1) (h100 : qFR q 100 (1, j) = l) (h101 : qFI q 101 (1, j) = bk) (h102 : qFI q 102 (1, j) = st) (h103 : qFI q 103 (1, j) = sh) (h104 : qFI q 104 (1, j) = tx) (h105 : qFI q 105 (1, j) = v) : am_C2 (d + 1) m_Cp_copied [aR 1 j] q (fun o q' => o = .inl (some (aR 1 (qCN q 1))) ∧ q' = uFI (cpH q l bk st sh tx) 105 (1, qCN q 1) v) := by
  refine am_C2_i (ls := [some (aR 1 j), none]) rfl ?_
  have hne : ¬ (((1, j)) : am_R) = (1, qCN q 1) := fun z => by { have := congrArg Prod.snd z; simp only at this; omega }
  refine ar_new (kt := 1) rfl (by intro z; cases z) (by omega) ?_
  refine ar_dup rfl rfl ?_
  refine ar_aload_n rfl rfl ?_
  refine ar_gfR rfl rfl rfl (by omega) ((if_neg hne).trans h100) ?_
  refine ar_aload_n rfl rfl ?_
  refine ar_gfIv rfl rfl rfl (by omega) ((if_neg hne).trans h101) ?_
  refine ar_aload_n rfl rfl ?_
  refine ar_gfIv rfl rfl rfl (by omega) ((if_neg hne).trans h102) ?_
  refine ar_aload_n rfl rfl ?_
  refine ar_gfIv rfl rfl rfl (by omega) ((if_neg hne).trans h103) ?_
  refine ar_aload_n rfl rfl ?_
  refine ar_gfIv rfl rfl rfl (by omega) ((if_neg hne).trans h104) ?_
  refine ar_cv5 rfl rfl rfl (Nat.le_of_ble_eq_true rfl) (cs_Cp_init (d := 0) (c := qCN q 1)) (by omega) (fun o q24 hq => ?_)
  obtain ⟨rfl, rfl⟩ := hq
  refine ar_stA1 rfl ?_
  refine ar_aload_n rfl rfl ?_
  refine ar_aload_n rfl rfl ?_
  refine ar_gfIv rfl rfl rfl (by omega) (((cpH_G (q := q) (l := l) (bk := bk) (st := st) (sh := sh) (tx := tx) 1 j (by omega)).1 105).trans h105) ?_
  refine ar_pfI rfl rfl rfl rfl (by omega) (Or.inl rfl) ?_
  refine ar_aload_n rfl rfl ?_
  exact ar_aret rfl rfl (⟨rfl, rfl⟩)
theorem cs_Bk_init {d : Nat} {q : am_A} {i : Nat} {p m sl un : Int} : am_C2 (d + 3) m_Bk_init [aR 0 i, aI (zI p), aI (zI m), aI (zI sl), aI (zI un)] q (fun o q' => o = .inl none ∧ q' = uFs (uFR (uNA (uFR (uNA (uFR (uNL q 1003) 3 (0, i) (some (1003, qCN q 1003))) 1004 4) 4 (0, i) (some (1004, qCN q 1004))) 1005 4) 5 (0, i) (some (1005, qCN q 1005))) (0, i) [(7, 0), (6, p), (0, m), (1, sl), (2, un)]) := by
  refine am_C2_i (ls := [some (aR 0 i), some (aI (zI p)), some (aI (zI m)), some (aI (zI sl)), some (aI (zI un))]) rfl ?_
  refine ar_aload_n rfl rfl ?_
  refine ar_objinit rfl rfl rfl rfl (Nat.le_of_ble_eq_true rfl) ?_
  refine ar_aload_n rfl rfl ?_
  refine ar_newL (kt := 1003) rfl rfl (by omega) rfl rfl (Nat.le_of_ble_eq_true rfl) ?_
  refine ar_pfR rfl rfl rfl rfl (by omega) ?_
  refine ar_aload_n rfl rfl ?_
  refine ar_iconst rfl ?_
  refine ar_newa (kt := 1004) (m := 4) rfl (by intro z; cases z) (by omega) (by omega) rfl (by omega) ?_
  refine ar_pfR rfl rfl rfl rfl (by omega) ?_
  refine ar_aload_n rfl rfl ?_
  refine ar_iconst rfl ?_
  refine ar_newa (kt := 1005) (m := 4) rfl (by intro z; cases z) (by omega) (by omega) rfl (by omega) ?_
  refine ar_pfR rfl rfl rfl rfl (by omega) ?_
  refine ar_aload_n rfl rfl ?_
  refine ar_iconst rfl ?_
  refine ar_pfI rfl rfl rfl rfl (by omega) (Or.inl rfl) ?_
  refine ar_aload_n rfl rfl ?_
  refine ar_iload_n rfl rfl ?_
  refine ar_pfI rfl rfl rfl rfl (by omega) (Or.inl rfl) ?_
  refine ar_aload_n rfl rfl ?_
  refine ar_iload_n rfl rfl ?_
  refine ar_pfI rfl rfl rfl rfl (by omega) (Or.inl rfl) ?_
  refine ar_aload_n rfl rfl ?_
  refine ar_iload_n rfl rfl ?_
  refine ar_pfI rfl rfl rfl rfl (by omega) (Or.inl rfl) ?_
  refine ar_aload_n rfl rfl ?_
  refine ar_iload rfl rfl ?_
  refine ar_pfI rfl rfl rfl rfl (by omega) (Or.inl rfl) ?_
  exact ar_ret rfl rfl (⟨rfl, rfl⟩)
def prL (s : am_Z) (b : Nat) (p : Int) : List (Nat × Int) := [(7, 0), (6, p), (0, rA s 46 b), (1, rA s 50 b), (2, rA s 48 b), (7, rA s 47 b), (8, rA s 51 b)]
def am_PJ (e : Nat) (q : am_A) (s : am_Z) (N b : Nat) (p : Int) (j : Nat) (q1 : am_A) : Prop := am_NB e q N 0 q1 ∧ (∀ f, qFI q1 f (0, N) = (lkF f (prL s b p)).getD 0) ∧ (∀ k, k < j → qAI q1 (1004, N) k = qAI q (1004, b) k ∧ qAI q1 (1005, N) k = qAI q (1005, b) k)
def am_PK (e : Nat) (q : am_A) (s : am_Z) (N b : Nat) (p : Int) (j : Nat) (q1 : am_A) : Prop := am_NB e q N j q1 ∧ (∀ f, qFI q1 f (0, N) = (lkF f (prL s b p)).getD 0) ∧ (∀ k, k < 4 → qAI q1 (1004, N) k = qAI q (1004, b) k ∧ qAI q1 (1005, N) k = qAI q (1005, b) k) ∧ (∀ k, k < j → qFR q1 100 (1, qCN q 1 + k) = qFR q 100 (1, cId q b k) ∧ ∀ f, 101 ≤ f → f ≤ 105 → qFI q1 f (1, qCN q 1 + k) = qFI q f (1, cId q b k))
theorem PJ_0 {e N b : Nat} {q : am_A} {s : am_Z} {p : Int} (I : am_CI e q s) (hN : N = (rI s 44).toNat) : am_PJ e q s N b p 0 (uFI (uFI (bkH q N p (rA s 46 b) (rA s 50 b) (rA s 48 b)) 7 (0, N) (rA s 47 b)) 8 (0, N) (rA s 51 b)) := by
  have e0 : qCN q 0 = N := by have := I.2.1.1.1; omega
  refine ⟨NB_FI (NB_FI (NB_0 I hN)), fun f => ?_, fun k hk => absurd hk (Nat.not_lt_zero k)⟩
  by_cases h8 : f = 8
  · subst h8
    exact ff_eq
  · rw [ff_ne h8]
    by_cases h7 : f = 7
    · subst h7
      exact ff_eq
    · rw [ff_ne h7, bkH_I e0]
      unfold prL
      show (lkF f [(7, 0), (6, p), (0, rA s 46 b), (1, rA s 50 b), (2, rA s 48 b)]).getD 0 = _
      simp only [lkF]
      have n8 : Nat.beq f 8 = false := by
        cases hb : Nat.beq f 8
        · rfl
        · exact absurd (Nat.eq_of_beq_eq_true hb) h8
      have n7 : Nat.beq f 7 = false := by
        cases hb : Nat.beq f 7
        · rfl
        · exact absurd (Nat.eq_of_beq_eq_true hb) h7
      rw [n8, n7]
      rfl
theorem PJ_s {e N b j : Nat} {q q1 : am_A} {s : am_Z} {p : Int} (H : am_PJ e q s N b p j q1) (hb : b < N) : am_PJ e q s N b p (j + 1) (uAI (uAI q1 (1004, N) ((j : Int)).toNat (qAI q1 (1004, b) ((j : Int)).toNat)) (1005, N) ((j : Int)).toNat (qAI q1 (1005, b) ((j : Int)).toNat)) := by
  obtain ⟨h1, h2, h3⟩ := H
  rw [Int.toNat_natCast]
  have g4 := (h1.1 1004 b (by unfold nbD; omega)).2.2.1 j
  have g5 := (h1.1 1005 b (by unfold nbD; omega)).2.2.1 j
  refine ⟨NB_AI (NB_AI h1 (Or.inl rfl)) (Or.inr rfl), h2, fun k hk => ?_⟩
  have a4 : qAI (uAI (uAI q1 (1004, N) j (qAI q1 (1004, b) j)) (1005, N) j (qAI q1 (1005, b) j)) (1004, N) k = if k = j then qAI q1 (1004, b) j else qAI q1 (1004, N) k := by
    show (if (((1004, N)) : am_R) = (1005, N) ∧ k = j then qAI q1 (1005, b) j else if (((1004, N)) : am_R) = (1004, N) ∧ k = j then qAI q1 (1004, b) j else qAI q1 (1004, N) k) = _
    rw [if_neg (fun z => by cases z.1)]
    by_cases ek : k = j
    · rw [if_pos ⟨rfl, ek⟩, if_pos ek]
    · rw [if_neg (fun z => ek z.2), if_neg ek]
  have a5 : qAI (uAI (uAI q1 (1004, N) j (qAI q1 (1004, b) j)) (1005, N) j (qAI q1 (1005, b) j)) (1005, N) k = if k = j then qAI q1 (1005, b) j else qAI q1 (1005, N) k := by
    show (if (((1005, N)) : am_R) = (1005, N) ∧ k = j then qAI q1 (1005, b) j else if (((1005, N)) : am_R) = (1004, N) ∧ k = j then qAI q1 (1004, b) j else qAI q1 (1005, N) k) = _
    by_cases ek : k = j
    · rw [if_pos ⟨rfl, ek⟩, if_pos ek]
    · rw [if_neg (fun z => ek z.2), if_neg (fun z => ek z.2), if_neg ek]
  rw [a4, a5]
  by_cases ek : k = j
  · rw [if_pos ek, if_pos ek, ek]
    exact ⟨g4, g5⟩
  · rw [if_neg ek, if_neg ek]
    exact h3 k (by omega)
theorem PK_s {e N b j : Nat} {q q1 : am_A} {s : am_Z} {p : Int} {l : Option am_R} {bk st sh tx v : Int} (H : am_PK e q s N b p j q1) (hb : b < N) (h40 : N < 40) (hj : j < 10) (hlt : cId q b j < qCN q 1) (h100 : qFR q 100 (1, cId q b j) = l) (h101 : qFI q 101 (1, cId q b j) = bk) (h102 : qFI q 102 (1, cId q b j) = st) (h103 : qFI q 103 (1, cId q b j) = sh) (h104 : qFI q 104 (1, cId q b j) = tx) (h105 : qFI q 105 (1, cId q b j) = v)
    (hc : (qLS (uFI (cpH q1 l bk st sh tx) 105 (1, qCN q1 1) v) (1003, N)).length ≤ qCP (uFI (cpH q1 l bk st sh tx) 105 (1, qCN q1 1) v) (1003, N)) : am_PK e q s N b p (j + 1) (qAdd (uFI (cpH q1 l bk st sh tx) 105 (1, qCN q1 1) v) (1003, N) (1, qCN q1 1)) := by
  obtain ⟨h1, h2, h3, h4⟩ := H
  have G : am_GD (fun t i => t = 1 ∧ i = qCN q1 1) q1 (uFI (cpH q1 l bk st sh tx) 105 (1, qCN q1 1) v) := GD_FI cpH_G ⟨rfl, rfl⟩
  have hc1 := h1.2.2.2.1
  have G2 : am_GD (fun t i => (t = 1 ∧ i = qCN q1 1) ∨ t = 1003) q1 (qAdd (uFI (cpH q1 l bk st sh tx) 105 (1, qCN q1 1) v) (1003, N) (1, qCN q1 1)) := GD_Add (GD_w G (fun t i z => Or.inl z)) (Or.inr rfl)
  refine ⟨NB_C h1 h40 hj G (fun t => cpH_cn (l := l) (bk := bk) (st := st) (sh := sh) (tx := tx)) (RM_FI (cpH_RM h1.2.2.2.2.2.2.2.2.1)) (CG_FI cpH_CG (by show cK 1; omega) (fun _ => ⟨by omega, fun _ => Or.inr (by rw [cpH_I]; exact (show ¬ (2 ≤ (0 : Int)) by decide))⟩)) hc, fun f => ((G2 0 N (by omega)).1 f).trans (h2 f), fun k hk => ?_, fun k hk => ?_⟩
  · rw [(G2 1004 N (by omega)).2.2.1, (G2 1005 N (by omega)).2.2.1]
    exact h3 k hk
  · by_cases ek : k = j
    · subst ek
      rw [← hc1, qAdd_FR, qAdd_FI]
      refine ⟨(cpH_R (l := l) (bk := bk) (st := st) (sh := sh) (tx := tx)).trans h100.symm, fun f f1 f2 => ?_⟩
      by_cases e5 : f = 105
      · subst e5
        exact ff_eq.trans h105.symm
      · rw [ff_ne e5, cpH_I]
        have e1 : f = 101 ∨ f = 102 ∨ f = 103 ∨ f = 104 := by omega
        rcases e1 with rfl | rfl | rfl | rfl
        · exact h101.symm
        · exact h102.symm
        · exact h103.symm
        · exact h104.symm
    · have g := G2 1 (qCN q 1 + k) (by omega)
      have h5 := h4 k (by omega)
      exact ⟨(g.2.1 100).trans h5.1, fun f f1 f2 => (g.1 f).trans (h5.2 f f1 f2)⟩
theorem lp_pj {d : Nat} {q : am_A} {Q : am_O → am_A → Prop} {e N b : Nat} {s : am_Z} {p : Int} (I : am_CI e q s) (hb : (b : Int) < rI s 44) (hN : N = (rI s 44).toNat) (h40 : N < 40)  : ∀ (m : Nat) (j : Nat) (k : Int) (q1 : am_A), 4 - j < m → (k = j ∧ j ≤ 4 ∧ am_PJ e q s N b p j q1) → (∀ x3 q1, am_PJ e q s N b p 4 q1 → am_W2 d m_Bk_parted 74 [some (aR 0 b), some (aI (zI p)), some (aR 0 N), x3] [] (q1) Q) → am_W2 d m_Bk_parted 39 [some (aR 0 b), some (aI (zI p)), some (aR 0 N), some (aI (zI k))] [] (q1) Q := by
  intro m
  induction m with
  | zero => intro j k q1 hm; exact absurd hm (Nat.not_lt_zero _)
  | succ m ih =>
    intro j k q1 hm ⟨hj, hj2, H⟩ K
    subst hj
    have hB := I.1.2.2.2.2.2.2.1.2.2.1 b hb
    have h0 := H.1
    have g0 := h0.1 0 b (by unfold nbD; omega)
    have g4 := h0.1 1004 b (by unfold nbD; omega)
    have g5 := h0.1 1005 b (by unfold nbD; omega)
    refine ar_iload_n rfl rfl ?_
    refine ar_iconst rfl ?_
    refine ar_icmp_ge rfl rfl (by omega) (by omega) (fun h41 => ?_) (fun h41 => ?_)
    · have ej : j = 4 := by omega
      rw [ej] at H
      exact K _ _ H
    · refine ar_aload_n rfl rfl ?_
      refine ar_gfR rfl rfl rfl (by omega) (h0.2.2.2.2.1.2.1) ?_
      refine ar_iload_n rfl rfl ?_
      refine ar_aload_n rfl rfl ?_
      refine ar_gfR rfl rfl rfl (by omega) ((g0.2.1 4).trans hB.2.1.2.1) ?_
      refine ar_iload_n rfl rfl ?_
      refine ar_ia rfl rfl (g4.2.2.2.2.1.trans hB.2.2.1.1) (by omega) (by omega) ?_
      refine ar_ias rfl ⟨rfl, by omega⟩ (h0.2.2.2.2.2.1.1) (by omega) (by omega) ?_
      refine ar_aload_n rfl rfl ?_
      refine ar_gfR rfl rfl rfl (by omega) (h0.2.2.2.2.1.2.2) ?_
      refine ar_iload_n rfl rfl ?_
      refine ar_aload_n rfl rfl ?_
      refine ar_gfR rfl rfl rfl (by omega) ((g0.2.1 5).trans hB.2.1.2.2) ?_
      refine ar_iload_n rfl rfl ?_
      refine ar_ia rfl rfl (g5.2.2.2.2.1.trans hB.2.2.1.2) (by omega) (by omega) ?_
      refine ar_ias rfl ⟨rfl, by omega⟩ (h0.2.2.2.2.2.1.2) (by omega) (by omega) ?_
      refine ar_inc3 rfl ?_
      refine ar_goto rfl rfl ?_
      exact ih (j + 1) _ _ (by omega) ⟨by omega, by omega, PJ_s H (by omega)⟩ K
theorem lp_pk {d : Nat} {q : am_A} {Q : am_O → am_A → Prop} {e N b : Nat} {s : am_Z} {p : Int} (I : am_CI e q s) (hb : (b : Int) < rI s 44) (hN : N = (rI s 44).toNat) (h40 : N < 40)  : ∀ (m : Nat) (j : Nat) (k : Int) (q1 : am_A), (rA s 52 b).toNat - j < m → (k = j ∧ (j : Int) ≤ rA s 52 b ∧ am_PK e q s N b p j q1) → (∀ x3 q1, am_PK e q s N b p (rA s 52 b).toNat q1 → am_W2 (d + 6) m_Bk_parted 115 [some (aR 0 b), some (aI (zI p)), some (aR 0 N), x3] [] (q1) Q) → am_W2 (d + 6) m_Bk_parted 76 [some (aR 0 b), some (aI (zI p)), some (aR 0 N), some (aI (zI k))] [] (q1) Q := by
  intro m
  induction m with
  | zero => intro j k q1 hm; exact absurd hm (Nat.not_lt_zero _)
  | succ m ih =>
    intro j k q1 hm ⟨hj, hj2, H⟩ K
    subst hj
    have V0 := I.1
    have hB := V0.2.2.2.2.2.2.1.2.2.1 b hb
    have b52 := (CV_B V0).1 52 b 0 10 rfl
    have h0 := H.1
    have V := NB_CV h0 I hN
    have g0 := h0.1 0 b (by unfold nbD; omega)
    have ecid : ∀ k, cId q1 b k = cId q b k := fun k => cId_G h0.1 (by unfold nbD; omega)
    have x0 := I.2.1.1.2.1
    have x3 := h0.2.2.1.2.1
    have x8 := h0.2.2.2.2.2.2.2.1
    have hcn : ∀ l bk st sh tx v, N < qCN (uFI (cpH q1 l bk st sh tx) 105 (1, qCN q1 1) v) 1003 := fun l bk st sh tx v => by { show N < qCN (cpH q1 l bk st sh tx) 1003; rw [cpH_cn, if_neg (by omega)]; omega }
    have hcq : ∀ l bk st sh tx v, qCP (uFI (cpH q1 l bk st sh tx) 105 (1, qCN q1 1) v) (1003, N) ≤ 600 := fun l bk st sh tx v => by { show qCP (cpH q1 l bk st sh tx) (1003, N) ≤ 600; rw [(cpH_G (q := q1) (l := l) (bk := bk) (st := st) (sh := sh) (tx := tx) 1003 N (by omega)).2.2.2.2.2.2]; omega }
    refine ar_iload_n rfl rfl ?_
    refine ar_aload_n rfl rfl ?_
    refine ar_gfR rfl rfl rfl (by omega) ((g0.2.1 3).trans hB.2.1.1) ?_
    refine ar_cv0 rfl rfl rfl (Nat.le_of_ble_eq_true rfl) (cl_szC (d := 0) V hb) (by omega) (fun o q81 hq => am_B2_is ?_ hq)
    refine ar_icmp_ge rfl rfl (by omega) (by omega) (fun h84 => ?_) (fun h84 => ?_)
    · have ej : j = (rA s 52 b).toNat := by omega
      rw [ej] at H
      exact K _ _ H
    · refine ar_aload_n rfl rfl ?_
      refine ar_gfR rfl rfl rfl (by omega) (h0.2.2.2.2.1.1) ?_
      refine ar_aload_n rfl rfl ?_
      refine ar_gfR rfl rfl rfl (by omega) ((g0.2.1 3).trans hB.2.1.1) ?_
      refine ar_iload_n rfl rfl ?_
      refine ar_cv1 rfl rfl rfl (Nat.le_of_ble_eq_true rfl) (cl_getC (d := 0) V hb (by omega)) (by omega) (fun o q96 hq => am_B2_is ?_ hq)
      rw [Int.toNat_natCast, ecid]
      have hc := V0.2.2.2.2.2.2.1.2.2.2.1 b j hb (by omega)
      have gc := h0.1 1 (cId q b j) (by unfold nbD; have := hc.2.1; omega)
      refine ar_cast rfl rfl rfl ?_
      refine ar_cv0 rfl rfl rfl (Nat.le_of_ble_eq_true rfl) (cs_copied (d := 0) (j := cId q b j) (by have := hc.2.1; have := h0.2.2.2.1; omega) (gc.2.1 100) (gc.1 101) (gc.1 102) (gc.1 103) (gc.1 104) (gc.1 105)) (by omega) (fun o q102 hq => ?_)
      obtain ⟨rfl, rfl⟩ := hq
      refine ar_cv1 rfl rfl rfl (Nat.le_of_ble_eq_true rfl) (sq_addL (d := 0) rfl (by omega) (hcn _ _ _ _ _ _) (hcq _ _ _ _ _ _) ⟨rfl, by omega⟩) (by omega) (fun o q105 hq => ?_)
      obtain ⟨rfl, rfl, hc105⟩ := hq
      refine ar_pop rfl rfl ?_
      refine ar_inc3 rfl ?_
      refine ar_goto rfl rfl ?_
      exact ih (j + 1) _ _ (by omega) ⟨by omega, by omega, PK_s H (by omega) h40 (by omega) hc.2.1 rfl rfl rfl rfl rfl rfl hc105⟩ K
theorem cs_parted {d : Nat} {q : am_A} {e N b : Nat} {s : am_Z} {p : Int} (I : am_CI e q s) (hb : (b : Int) < rI s 44) (hN : N = (rI s 44).toNat) (h40 : N < 40)  : am_C2 (d + 6) m_Bk_parted [aR 0 b, aI (zI p)] q (fun o q' => o = .inl (some (aR 0 N)) ∧ am_PK e q s N b p (rA s 52 b).toNat q') := by
  refine am_C2_i (ls := [some (aR 0 b), some (aI (zI p)), none, none]) rfl ?_
  have V0 := I.1
  have hB := V0.2.2.2.2.2.2.1.2.2.1 b hb
  have b52 := (CV_B V0).1 52 b 0 10 rfl
  have b44 := (CV_B V0).2.1 44 0 40 rfl
  have b51 := (CV_B V0).1 51 b 0 1 rfl
  have e0 : qCN q 0 = N := by { have := I.2.1.1.1; omega }
  have hne : ¬ (((0, b)) : am_R) = (0, qCN q 0) := fun z => by { have := congrArg Prod.snd z; simp only at this; omega }
  have H0 : am_NB e q N 0 (bkH q N p (rA s 46 b) (rA s 50 b) (rA s 48 b)) := NB_0 I hN
  have hnd : ¬ nbD q N 0 b := by { unfold nbD; omega }
  refine ar_new (kt := 0) rfl (by intro z; cases z) (by omega) ?_
  refine ar_dup rfl rfl ?_
  refine ar_iload_n rfl rfl ?_
  refine ar_aload_n rfl rfl ?_
  refine ar_gfIv rfl rfl rfl (by omega) ((if_neg hne).trans (hB.1 0 46 rfl)) ?_
  refine ar_aload_n rfl rfl ?_
  refine ar_gfIv rfl rfl rfl (by omega) ((if_neg hne).trans (hB.1 1 50 rfl)) ?_
  refine ar_aload_n rfl rfl ?_
  refine ar_gfIv rfl rfl rfl (by omega) ((if_neg hne).trans (hB.1 2 48 rfl)) ?_
  refine ar_cv4 rfl rfl rfl (Nat.le_of_ble_eq_true rfl) (cs_Bk_init (d := 0)) (by omega) (fun o q17 hq => ?_)
  obtain ⟨rfl, rfl⟩ := hq
  refine ar_stA2 rfl ?_
  refine (congrArg (fun z => am_W2 _ _ 21 [some (aR 0 b), some (aI (zI p)), some (aR 0 z), none] [] (bkH q z p (rA s 46 b) (rA s 50 b) (rA s 48 b)) _) e0.symm).mp ?_
  refine ar_aload_n rfl rfl ?_
  refine ar_aload_n rfl rfl ?_
  refine ar_gfIv rfl rfl rfl (by omega) (((H0.1 0 b hnd).1 7).trans (hB.1 7 47 rfl)) ?_
  refine ar_pfI rfl rfl rfl rfl (by omega) (Or.inl rfl) ?_
  refine ar_aload_n rfl rfl ?_
  refine ar_aload_n rfl rfl ?_
  refine ar_gfIv rfl rfl rfl (by omega) ((((NB_FI (f := 7) (v := rA s 47 b) H0).1 0 b hnd).1 8).trans (hB.1 8 51 rfl)) ?_
  refine ar_pfI rfl rfl rfl rfl (by omega) (Or.inr (by omega)) ?_
  refine ar_iconst rfl ?_
  refine ar_stI3 rfl ?_
  refine lp_pj (d := d + 6) (q := q) (e := e) (s := s) I hb hN h40 5 0 0 _ (by omega) ⟨rfl, by omega, PJ_0 I hN⟩ (fun x3 q1 H1 => ?_)
  refine ar_iconst rfl ?_
  refine ar_stI3 rfl ?_
  refine lp_pk (d := d) (q := q) (e := e) (s := s) I hb hN h40 ((rA s 52 b).toNat + 1) 0 0 _ (by omega) ⟨rfl, by omega, H1.1, H1.2.1, H1.2.2, fun k hk => absurd hk (Nat.not_lt_zero k)⟩ (fun x3 q2 H2 => ?_)
  refine ar_aload_n rfl rfl ?_
  exact ar_aret rfl rfl (⟨rfl, H2⟩)
end

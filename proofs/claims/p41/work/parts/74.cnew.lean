noncomputable section
theorem EQ_GD {q q' : am_A} {s : am_Z} {D : Nat → Nat → Prop} (G : am_GD D q q') (hD : ∀ t i, D t i → ¬ vO q s (t, i) ∧ ¬ vA s (t, i) ∧ ¬ vL s (t, i) ∧ t ≠ 1408 ∧ t ≠ 6 ∧ ¬ (1600 ≤ t ∧ t ≤ 1604) ∧ t ≠ 1808 ∧ t ≠ 1809) (c1 : ∀ t, qCN q t ≤ qCN q' t) (c2 : ∀ t, (t = 3 ∨ t = 4 ∨ t = 1407 ∨ t = 1408) → qCN q' t = qCN q t) : am_EQ q q' s := by
  refine ⟨fun f r h _ => (G r.1 r.2 (fun z => (hD _ _ z).1 h)).1 f, fun f r h => ?_, fun r k h => (G r.1 r.2 (fun z => (hD _ _ z).2.1 h)).2.2.1 k, fun i k => (G 1408 i (fun z => (hD _ _ z).2.2.2.1 rfl)).2.2.2.1 k, fun r h => ?_, c1, c2, fun r h => (G r.1 r.2 (fun z => (hD _ _ z).2.2.1 h)).2.2.2.2.2.1, fun r h => ?_⟩
  · rcases h with h | h
    · exact (G r.1 r.2 (fun z => (hD _ _ z).1 h)).2.1 f
    · exact (G r.1 r.2 (fun z => (hD _ _ z).2.2.2.2.1 (by rw [h.1]))).2.1 f
  · rcases h with h | h | h
    · exact (G r.1 r.2 (fun z => (hD _ _ z).2.1 h)).2.2.2.2.1
    · exact (G r.1 r.2 (fun z => (hD _ _ z).2.2.2.1 h)).2.2.2.2.1
    · exact (G r.1 r.2 (fun z => (hD _ _ z).2.2.2.2.2.1 h.2)).2.2.2.2.1
  · have e : qCP q' r = qCP q r := by
      rcases h with h | h | h | h | h
      · exact (G r.1 r.2 (fun z => (hD _ _ z).2.2.1 h)).2.2.2.2.2.2
      · exact (G r.1 r.2 (fun z => (hD _ _ z).2.2.2.2.2.2.1 (by rw [h]))).2.2.2.2.2.2
      · exact (G r.1 r.2 (fun z => (hD _ _ z).2.2.2.2.2.2.2 (by rw [h]))).2.2.2.2.2.2
      · exact (G r.1 r.2 (fun z => (hD _ _ z).2.2.2.2.2.1 (by rw [h]; show 1600 ≤ 1601 ∧ 1601 ≤ 1604; omega))).2.2.2.2.2.2
      · exact (G r.1 r.2 (fun z => (hD _ _ z).2.2.2.2.2.1 (by rw [h]; show 1600 ≤ 1603 ∧ 1603 ≤ 1604; omega))).2.2.2.2.2.2
    rw [e]
    exact id
/-- a booking that is being made: number N, with m coupons -/
def nbD (q : am_A) (N : Nat) : Nat → Nat → Prop := fun t i => ((t = 0 ∨ t = 1003 ∨ t = 1004 ∨ t = 1005) ∧ i = N) ∨ (t = 1 ∧ qCN q 1 ≤ i)
def am_NB (e : Nat) (q : am_A) (N m : Nat) (q1 : am_A) : Prop := am_GD (nbD q N) q q1 ∧ (∀ t, t ≠ 0 → t ≠ 1 → t ≠ 1003 → t ≠ 1004 → t ≠ 1005 → qCN q1 t = qCN q t) ∧ (qCN q1 0 = qCN q 0 + 1 ∧ qCN q1 1003 = qCN q 1003 + 1 ∧ qCN q1 1004 = qCN q 1004 + 1 ∧ qCN q1 1005 = qCN q 1005 + 1) ∧ qCN q1 1 = qCN q 1 + m ∧ (qFR q1 3 (0, N) = some (1003, N) ∧ qFR q1 4 (0, N) = some (1004, N) ∧ qFR q1 5 (0, N) = some (1005, N)) ∧ (qAL q1 (1004, N) = 4 ∧ qAL q1 (1005, N) = 4) ∧ ((qLS q1 (1003, N)).length = m ∧ ∀ k, k < m → (qLS q1 (1003, N))[k]? = some (1, qCN q 1 + k)) ∧ (qCP q1 (1003, N) = 0 ∨ qCP q1 (1003, N) = 10) ∧ am_RM e q1 ∧ am_CG q q1
section NBS
variable {e N m : Nat} {q q1 q2 : am_A} {s : am_Z}
theorem NB_cn (H : am_NB e q N m q1) (t : Nat) : qCN q t ≤ qCN q1 t := by
  obtain ⟨-, h2, h3, h4, -⟩ := H
  by_cases e0 : t = 0
  · subst e0; omega
  by_cases e1 : t = 1
  · subst e1; omega
  by_cases e2 : t = 1003
  · subst e2; omega
  by_cases e3 : t = 1004
  · subst e3; omega
  by_cases e4 : t = 1005
  · subst e4; omega
  rw [h2 t e0 e1 e2 e3 e4]
  exact Nat.le_refl _
theorem nbD_out (hN : N = (rI s 44).toNat) {t i : Nat} (h : nbD q N t i) (b : 0 ≤ rI s 44) : ¬ vO q s (t, i) ∧ ¬ vA s (t, i) ∧ ¬ vL s (t, i) ∧ t ≠ 1408 ∧ t ≠ 6 ∧ ¬ (1600 ≤ t ∧ t ≤ 1604) ∧ t ≠ 1808 ∧ t ≠ 1809 := by
  unfold nbD at h
  unfold vO vA vL
  simp only [Prod.mk.injEq]
  omega
theorem NB_EQ (H : am_NB e q N m q1) (I : am_CI e q s) (hN : N = (rI s 44).toNat) : am_EQ q q1 s := EQ_GD H.1 (fun t i h => nbD_out hN h (by have := (CV_B I.1).2.1 44 0 40 rfl; omega)) (NB_cn H) (fun t ht => H.2.1 t (by omega) (by omega) (by omega) (by omega) (by omega))
theorem NB_CV (H : am_NB e q N m q1) (I : am_CI e q s) (hN : N = (rI s 44).toNat) : am_CV q1 s := CV_EQ I.1 (NB_EQ H I hN)
theorem NB_lO (H : am_NB e q N m q1) (l : Int) : legO q1 l = legO q l := (H.1 1408 _ (by unfold nbD; omega)).2.2.2.1 _
theorem NB_FI (H : am_NB e q N m q1) {f : Nat} {v : Int} : am_NB e q N m (uFI q1 f (0, N) v) := by
  obtain ⟨h1, h2, h3, h4, h5, h6, h7, h8, h9, h10⟩ := H
  exact ⟨GD_FI h1 (Or.inl ⟨Or.inl rfl, rfl⟩), h2, h3, h4, h5, h6, h7, h8, h9, CG_FI h10 (by show cK 0; omega)⟩
theorem NB_AI (H : am_NB e q N m q1) {t k : Nat} {v : Int} (ht : t = 1004 ∨ t = 1005) : am_NB e q N m (uAI q1 (t, N) k v) := by
  obtain ⟨h1, h2, h3, h4, h5, h6, h7, h8, h9, h10⟩ := H
  exact ⟨GD_AI h1 (Or.inl ⟨by omega, rfl⟩), h2, h3, h4, h5, h6, h7, h8, h9, CG_AI h10 (by show cK t; omega)⟩
/-- a new coupon -/
def cpH (q : am_A) (l : Option am_R) (bk st sh tx : Int) : am_A := uFs (uFR (uNO q 1 7) 100 (1, qCN q 1) l) (1, qCN q 1) [(105, 0), (101, bk), (102, st), (103, sh), (104, tx)]
theorem cpH_I {l : Option am_R} {bk st sh tx : Int} {f : Nat} : qFI (cpH q l bk st sh tx) f (1, qCN q 1) = (lkF f [(105, 0), (101, bk), (102, st), (103, sh), (104, tx)]).getD 0 := (uFs_eq _ _).trans (congrArg (fun y => (lkF f [(105, 0), (101, bk), (102, st), (103, sh), (104, tx)]).getD y) (show qFI (uNO q 1 7) f (1, qCN q 1) = 0 from if_pos rfl))
theorem cpH_R {l : Option am_R} {bk st sh tx : Int} : qFR (cpH q l bk st sh tx) 100 (1, qCN q 1) = l := by
  unfold cpH
  rw [uFs_FR]
  exact if_pos ⟨rfl, rfl⟩
theorem cpH_G {l : Option am_R} {bk st sh tx : Int} : am_GD (fun t i => t = 1 ∧ i = qCN q 1) q (cpH q l bk st sh tx) := GD_Fs (GD_FR (GD_NO GD_r ⟨rfl, rfl⟩) ⟨rfl, rfl⟩) ⟨rfl, rfl⟩
theorem cpH_cn {l : Option am_R} {bk st sh tx : Int} {t : Nat} : qCN (cpH q l bk st sh tx) t = if t = 1 then qCN q 1 + 1 else qCN q t := by
  unfold cpH
  rw [uFs_CN]
  rfl
theorem cpH_RM {l : Option am_R} {bk st sh tx : Int} (h : am_RM e q) : am_RM e (cpH q l bk st sh tx) := RM_Fs (RM_FR (RM_NO h (by omega) (by omega)))
theorem cpH_CG {l : Option am_R} {bk st sh tx : Int} : am_CG q (cpH q l bk st sh tx) := ⟨CY_Fs (CY_FR (CY_NO CY_r (by show cK 1; omega)) (by show cK 1; omega)) (by show cK 1; omega), fun j z => by
  by_cases e : j = qCN q 1
  · rw [e, cpH_I] at z
    exact absurd rfl z
  · have g := (cpH_G (q := q) (l := l) (bk := bk) (st := st) (sh := sh) (tx := tx) 1 j (by omega)).1
    exact ⟨g 106, fun y => by rw [g 105]; exact y⟩⟩
/-- one more coupon: q2 is q1 but for a new object -/
theorem NB_C (H : am_NB e q N m q1) (h40 : N < 40) (hm : m < 10) (G : am_GD (fun t i => t = 1 ∧ i = qCN q1 1) q1 q2) (c : ∀ t, qCN q2 t = if t = 1 then qCN q1 1 + 1 else qCN q1 t) (R : am_RM e q2) (C : am_CG q1 q2) (hc : (qLS q2 (1003, N)).length ≤ qCP q2 (1003, N)) : am_NB e q N (m + 1) (qAdd q2 (1003, N) (1, qCN q1 1)) := by
  obtain ⟨h1, h2, h3, h4, h5, h6, h7, h8, h9, h10⟩ := H
  have g3 := G 1003 N (by omega)
  have g0 := G 0 N (by omega)
  have cn : ∀ t, qCN (qAdd q2 (1003, N) (1, qCN q1 1)) t = if t = 1 then qCN q1 1 + 1 else qCN q1 t := fun t => (congrFun qAdd_CN t).trans (c t)
  have ls : qLS q2 (1003, N) = qLS q1 (1003, N) := g3.2.2.2.2.2.1
  have cp : qCP q2 (1003, N) = qCP q1 (1003, N) := g3.2.2.2.2.2.2
  refine ⟨GD_Add (GD_t h1 (GD_w G (fun t i z => Or.inr ⟨z.1, by omega⟩))) (Or.inl ⟨Or.inr (Or.inl rfl), rfl⟩), fun t e0 e1 e2 e3 e4 => by rw [cn, if_neg e1]; exact h2 t e0 e1 e2 e3 e4, ?_, ?_, ?_, ?_, ⟨?_, fun k hk => ?_⟩, Or.inr (qAdd_CP10 (by rw [ls]; omega) (by rw [cp]; exact h8)), RM_Add R (Or.inr (Or.inl ⟨rfl, h40⟩)) (by rw [ls]; omega) hc, CG_Add (CG_t h10 C) (by show cK 1003; omega)⟩
  · rw [cn, cn, cn, cn, if_neg (by omega), if_neg (by omega), if_neg (by omega), if_neg (by omega)]
    exact h3
  · rw [cn, if_pos rfl]
    omega
  · rw [qAdd_FR, g0.2.1, g0.2.1, g0.2.1]
    exact h5
  · rw [qAdd_AL, (G 1004 N (by omega)).2.2.2.2.1, (G 1005 N (by omega)).2.2.2.2.1]
    exact h6
  · rw [qAdd_LS, List.length_append, ls]
    show (qLS q1 (1003, N)).length + 1 = _
    omega
  · rw [qAdd_LS, ls]
    by_cases ek : k = m
    · rw [List.getElem?_append_right (by omega), show k - (qLS q1 (1003, N)).length = 0 by omega, ek, ← h4]
      rfl
    · rw [List.getElem?_append_left (by omega)]
      exact h7.2 k (by omega)
end NBS
/-- what the class makes at first of a booking -/
def bkH (q : am_A) (N : Nat) (p m sl un : Int) : am_A := uFs (uFR (uNA (uFR (uNA (uFR (uNL (uNO q 0 9) 1003) 3 (0, N) (some (1003, qCN q 1003))) 1004 4) 4 (0, N) (some (1004, qCN q 1004))) 1005 4) 5 (0, N) (some (1005, qCN q 1005))) (0, N) [(7, 0), (6, p), (0, m), (1, sl), (2, un)]
section BKH
variable {e N : Nat} {q : am_A} {s : am_Z} {p m sl un : Int}
theorem bkH_r (f : Nat) (r : am_R) : qFR (bkH q N p m sl un) f r = if f = 5 ∧ r = (0, N) then some (1005, qCN q 1005) else if f = 4 ∧ r = (0, N) then some (1004, qCN q 1004) else if f = 3 ∧ r = (0, N) then some (1003, qCN q 1003) else if r = (1003, qCN q 1003) then none else if r = (0, qCN q 0) then none else qFR q f r := by
  unfold bkH
  rw [uFs_FR]
  rfl
theorem bkH_l (r : am_R) : qAL (bkH q N p m sl un) r = if r = (1005, qCN q 1005) then 4 else if r = (1004, qCN q 1004) then 4 else qAL q r := by
  unfold bkH
  rw [uFs_AL]
  rfl
theorem bkH_a (r : am_R) (k : Nat) : qAI (bkH q N p m sl un) r k = (if r = (1005, qCN q 1005) then (fun _ => 0) else if r = (1004, qCN q 1004) then (fun _ => 0) else qAI q r) k := by
  unfold bkH
  rw [uFs_AI]
  rfl
theorem bkH_c (t : Nat) : qCN (bkH q N p m sl un) t = am_u1 (am_u1 (am_u1 (am_u1 (qCN q) 0 (qCN q 0 + 1)) 1003 (qCN q 1003 + 1)) 1004 (qCN q 1004 + 1)) 1005 (qCN q 1005 + 1) t := by
  unfold bkH
  rw [uFs_CN]
  rfl
theorem bkH_s (r : am_R) : qLS (bkH q N p m sl un) r = if r = (1003, qCN q 1003) then [] else qLS q r := by
  unfold bkH
  rw [uFs_LS]
  rfl
theorem bkH_p (r : am_R) : qCP (bkH q N p m sl un) r = if r = (1003, qCN q 1003) then 0 else qCP q r := by
  unfold bkH
  rw [uFs_CP]
  rfl
theorem bkH_I (h0 : qCN q 0 = N) (f : Nat) : qFI (bkH q N p m sl un) f (0, N) = (lkF f [(7, 0), (6, p), (0, m), (1, sl), (2, un)]).getD 0 := (uFs_eq _ _).trans (congrArg (fun y => (lkF f [(7, 0), (6, p), (0, m), (1, sl), (2, un)]).getD y) (by
  show (if (((0, N)) : am_R) = (1003, qCN q 1003) then (0 : Int) else if (((0, N)) : am_R) = (0, qCN q 0) then 0 else qFI q f (0, N)) = 0
  rw [h0, if_neg (fun z => by cases z), if_pos rfl]))
theorem NB_0 (I : am_CI e q s) (hN : N = (rI s 44).toNat) : am_NB e q N 0 (bkH q N p m sl un) := by
  obtain ⟨⟨c0, c3, c4, c5⟩, -, -, -, d1, -, -⟩ := I.2.1
  have b44 := (CV_B I.1).2.1 44 0 40 rfl
  have e0 : qCN q 0 = N := by omega
  have e3 : qCN q 1003 = N := by omega
  have e4 : qCN q 1004 = N := by omega
  have e5 : qCN q 1005 = N := by omega
  have ct : ∀ t, t ≠ 0 → t ≠ 1003 → t ≠ 1004 → t ≠ 1005 → qCN (bkH q N p m sl un) t = qCN q t := fun t a b c d => by
    rw [bkH_c]
    unfold am_u1
    rw [if_neg d, if_neg c, if_neg b, if_neg a]
  refine ⟨?_, fun t a _ b c d => ct t a b c d, ⟨by rw [bkH_c]; rfl, by rw [bkH_c]; rfl, by rw [bkH_c]; rfl, by rw [bkH_c]; rfl⟩, ct 1 (by omega) (by omega) (by omega) (by omega), ⟨?_, ?_, ?_⟩, ⟨?_, ?_⟩, ⟨?_, fun k hk => absurd hk (Nat.not_lt_zero k)⟩, Or.inl ?_, ?_, ?_⟩
  · exact GD_Fs (GD_FR (GD_NA (GD_FR (GD_NA (GD_FR (GD_NL (GD_NO GD_r (Or.inl ⟨Or.inl rfl, e0⟩)) (Or.inl ⟨Or.inr (Or.inl rfl), e3⟩)) (Or.inl ⟨Or.inl rfl, rfl⟩)) (Or.inl ⟨Or.inr (Or.inr (Or.inl rfl)), e4⟩)) (Or.inl ⟨Or.inl rfl, rfl⟩)) (Or.inl ⟨Or.inr (Or.inr (Or.inr rfl)), e5⟩)) (Or.inl ⟨Or.inl rfl, rfl⟩)) (Or.inl ⟨Or.inl rfl, rfl⟩)
  · rw [bkH_r, if_neg (fun z => absurd z.1 (by omega)), if_neg (fun z => absurd z.1 (by omega)), if_pos ⟨rfl, rfl⟩, e3]
  · rw [bkH_r, if_neg (fun z => absurd z.1 (by omega)), if_pos ⟨rfl, rfl⟩, e4]
  · rw [bkH_r, if_pos ⟨rfl, rfl⟩, e5]
  · rw [bkH_l, if_neg (fun z => by cases z), if_pos (by rw [e4])]
  · rw [bkH_l, if_pos (by rw [e5])]
  · rw [bkH_s, if_pos (by rw [e3])]
    rfl
  · rw [bkH_p, if_pos (by rw [e3])]
  · refine RM_Fs (RM_FR (RM_NA (RM_FR (RM_NA (RM_FR (RM_NL (RM_NO I.2.2 (by omega) (by omega)) (Or.inl rfl) ?_)) (by omega) (by omega))) (by omega) (by omega)))
    show qCP q (1003, qCN q 1003) = 0
    exact d1 _ (by omega)
  · exact CG_Fs (CG_FR (CG_NA (CG_FR (CG_NA (CG_FR (CG_NL (CG_NO CG_r (by show cK 0; omega)) (by show cK 1003; omega)) (by show cK 0; omega)) (by show cK 1004; omega)) (by show cK 0; omega)) (by show cK 1005; omega)) (by show cK 0; omega)) (by show cK 0; omega)
end BKH
/-- the new booking is put among the others -/
theorem CV_pub {e N m : Nat} {q q1 : am_A} {s s' : am_Z} (I : am_CI e q s) (H : am_NB e q N m q1) (hN : N = (rI s 44).toNat) (h39 : rI s 44 ≤ 39)
    (ms : ∀ j x, (j < 45 ∨ 60 < j) → rA s' j x = rA s j x) (mb : ∀ j x, 45 ≤ j → j ≤ 52 → x ≠ rI s 44 → rA s' j x = rA s j x) (mc : ∀ j x, 53 ≤ j → j ≤ 58 → x < 10 * rI s 44 → rA s' j x = rA s j x) (md : ∀ j x, j = 59 ∨ j = 60 → x < 4 * rI s 44 → rA s' j x = rA s j x) (n44 : rI s' 44 = rI s 44 + 1) (nn : ∀ j, j ≠ 44 → rI s' j = rI s j) (B : in_S s')
    (tF : ∀ f j, fBk f = some j → qFI q1 f (0, N) = rA s' j N) (tA : ∀ k : Int, 0 ≤ k → k < 4 → qAI q1 (1004, N) k.toNat = rA s' 59 (4 * N + k) ∧ qAI q1 (1004, N) k.toNat * qAI q1 (1005, N) k.toNat / 100 = rA s' 60 (4 * N + k) ∧ (0 ≤ qAI q1 (1005, N) k.toNat ∧ qAI q1 (1005, N) k.toNat ≤ 100)) (t52 : rA s' 52 N = m)
    (tC : ∀ k, k < m → qFR q1 100 (1, qCN q 1 + k) = some (5, lId q1 (rA s' 53 (10 * N + k))) ∧ legP s (rA s' 53 (10 * N + k)) ∧ ∀ f j, fCp f = some j → qFI q1 f (1, qCN q 1 + k) = rA s' j (10 * N + k)) : am_CV (qAdd q1 (1806, 0) (0, N)) s' := by
  have b44 := (CV_B I.1).2.1 44 0 40 rfl
  have V := NB_CV H I hN
  have Cn := H.2.2.1
  have C1 := H.2.2.2.1
  have hr := H.2.2.2.2.1
  have hl := H.2.2.2.2.2.1
  have hL := H.2.2.2.2.2.2.1
  have hcp := H.2.2.2.2.2.2.2.1
  have X := I.2.1
  have G : am_GD (fun t _ => t = 1806) q1 (qAdd q1 (1806, 0) (0, N)) := GD_Add GD_r rfl
  have G0 : am_GD (fun t i => nbD q N t i ∨ t = 1806) q (qAdd q1 (1806, 0) (0, N)) := GD_t (GD_w H.1 (fun t i z => Or.inl z)) (GD_w G (fun t i z => Or.inr z))
  have hnD : ∀ {t i : Nat}, t ≠ 0 → t ≠ 1 → t ≠ 1003 → t ≠ 1004 → t ≠ 1005 → t ≠ 1806 → ¬ (nbD q N t i ∨ t = 1806) := fun a b c d e f z => by unfold nbD at z; omega
  have hnB : ∀ {t b : Nat}, (b : Int) < rI s 44 → t ≠ 1 → t ≠ 1806 → ¬ (nbD q N t b ∨ t = 1806) := fun a b c z => by unfold nbD at z; omega
  have hnC : ∀ {j : Nat}, j < qCN q 1 → ¬ (nbD q N 1 j ∨ 1 = 1806) := fun a z => by unfold nbD at z; omega
  have cn : ∀ t, qCN (qAdd q1 (1806, 0) (0, N)) t = qCN q1 t := fun t => congrFun qAdd_CN t
  have cnm : ∀ t, qCN q t ≤ qCN (qAdd q1 (1806, 0) (0, N)) t := fun t => by rw [cn t]; exact NB_cn H t
  have cne : ∀ t, t ≠ 0 → t ≠ 1 → t ≠ 1003 → t ≠ 1004 → t ≠ 1005 → qCN (qAdd q1 (1806, 0) (0, N)) t = qCN q t := fun t a b c d e => (cn t).trans (H.2.1 t a b c d e)
  have hm : ∀ l, legP s l → legP s' l := fun l h => (legP_cg (fun j x hj => ms j x (by omega)) (nn 3 (by omega))).mpr h
  have hO : ∀ l, legP s l → legO (qAdd q1 (1806, 0) (0, N)) l = legO q l := fun l h => legO_G G0 h.1 h.2.1 (fun i _ => hnD (by omega) (by omega) (by omega) (by omega) (by omega) (by omega))
  have hO1 : ∀ l, lId (qAdd q1 (1806, 0) (0, N)) l = lId q1 l := fun l => lId_cg (fun i k => by rw [qAdd_AR])
  obtain ⟨v1, v2, v3, v4, v5, v6, v7, v8, v9, -⟩ := I.1
  have hlen : (qLS q1 (1806, 0)).length = (rI s 44).toNat := by rw [V.2.2.2.2.2.2.1.1, rng_l]
  have cid : ∀ k, k < m → cId (qAdd q1 (1806, 0) (0, N)) N k = qCN q 1 + k := fun k hk => by
    unfold cId
    rw [qAdd_LSn (fun z => absurd (congrArg Prod.fst z) (by show ¬ 1003 = 1806; omega)), hL.2 k hk]
  have cio : ∀ b k : Nat, (b : Int) < rI s 44 → cId (qAdd q1 (1806, 0) (0, N)) b k = cId q b k := fun b k hb => cId_G G0 (hnB hb (by omega) (by omega))
  have c52 : ∀ b : Nat, (b : Int) < rI s 44 → rA s' 52 b = rA s 52 b := fun b hb => mb 52 b (by omega) (by omega) (by omega)
  have cio2 : ∀ b k : Nat, (b : Int) < rI s 44 → (k : Int) < rA s' 52 b → cId q b k < qCN q 1 := fun b k hb hk => (v7.2.2.2.1 b k hb (by rw [← c52 b hb]; exact hk)).2.1
  refine ⟨CT_G v1 G0 (hnD (by omega) (by omega) (by omega) (by omega) (by omega) (by omega)) (fun x _ => (G0 6 0 (hnD (by omega) (by omega) (by omega) (by omega) (by omega) (by omega))).2.1 x) (fun k c hk => (G0 k 0 (by have := cLen_r k c hk; exact hnD (by omega) (by omega) (by omega) (by omega) (by omega) (by omega))).2.2.2.2.1) cnm, CN_G v2 G0 (hnD (by omega) (by omega) (by omega) (by omega) (by omega) (by omega)) ⟨hnD (by omega) (by omega) (by omega) (by omega) (by omega) (by omega), hnD (by omega) (by omega) (by omega) (by omega) (by omega) (by omega), hnD (by omega) (by omega) (by omega) (by omega) (by omega) (by omega), hnD (by omega) (by omega) (by omega) (by omega) (by omega) (by omega)⟩ (fun j x h => ms j x (by omega)) (nn 0 (by omega)) (nn 68 (by omega)), ?_, ?_, ?_, ?_, ?_, ?_, CP_add V.2.2.2.2.2.2.2.2.1 (by omega) rfl, B⟩
  · exact CF_G v3 G0 (hnD (by omega) (by omega) (by omega) (by omega) (by omega) (by omega)) (fun i _ => ⟨hnD (by omega) (by omega) (by omega) (by omega) (by omega) (by omega), hnD (by omega) (by omega) (by omega) (by omega) (by omega) (by omega)⟩) (fun i _ => (G0 1408 i (hnD (by omega) (by omega) (by omega) (by omega) (by omega) (by omega))).2.2.2.2.1) (fun t h => cne t (by omega) (by omega) (by omega) (by omega) (by omega)) (fun j x h => ms j x (by omega)) (nn 3 (by omega))
  · exact CL_G v4 G0 (fun i _ => hnD (by omega) (by omega) (by omega) (by omega) (by omega) (by omega)) (fun j _ => hnD (by omega) (by omega) (by omega) (by omega) (by omega) (by omega)) (cnm 5) (fun j x h => ms j x (by omega)) (nn 3 (by omega))
  · exact CA_G v5 G0 (hnD (by omega) (by omega) (by omega) (by omega) (by omega) (by omega)) (fun i _ => hnD (by omega) (by omega) (by omega) (by omega) (by omega) (by omega)) (cne 3 (by omega) (by omega) (by omega) (by omega) (by omega)) (fun j x h => ms j x (by omega)) (nn 20 (by omega))
  · exact LL_G v6 G0 (hnD (by omega) (by omega) (by omega) (by omega) (by omega) (by omega)) hO hm (nn 33 (by omega)) (fun k _ _ => ms 34 _ (by omega))
  · refine ⟨?_, by rw [cn, cn, cn, cn, n44]; obtain ⟨x1, -⟩ := X; omega, fun b hb => ?_, fun b k hb hk => ?_, fun b k b' k' a1 a2 a3 a4 a5 => ?_⟩
    · rw [qAdd_LS, n44, show (rI s 44 + 1).toNat = (rI s 44).toNat + 1 by omega, rng_s, V.2.2.2.2.2.2.1.1, hN]
    · rw [n44] at hb
      by_cases eb : b = N
      · subst eb
        refine ⟨fun f j hf => by rw [qAdd_FI]; exact tF f j hf, by rw [qAdd_FR]; exact hr, by rw [qAdd_AL]; exact hl, fun k z1 z2 => by rw [qAdd_AI]; exact tA k z1 z2, ?_, ?_⟩
        · rw [qAdd_LSn (fun z => absurd (congrArg Prod.fst z) (by show ¬ 1003 = 1806; omega)), hL.1, t52]
        · rw [qAdd_CPn (fun z => absurd (congrArg Prod.fst z) (by show ¬ 1003 = 1806; omega))]
          omega
      · have hb' : (b : Int) < rI s 44 := by omega
        exact Bk_G (v7.2.2.1 b hb') G0 ⟨hnB hb' (by omega) (by omega), hnB hb' (by omega) (by omega), hnB hb' (by omega) (by omega), hnB hb' (by omega) (by omega)⟩ (fun j z1 z2 => mb j _ z1 z2 (by omega)) (fun j hj k z1 z2 => md j _ hj (by omega))
    · rw [n44] at hb
      by_cases eb : b = N
      · subst eb
        rw [t52] at hk
        have hk' : k < m := by omega
        obtain ⟨u1, u2, u3⟩ := tC k hk'
        unfold am_Cp
        rw [cid k hk', cn, C1, hO1]
        refine ⟨?_, by omega, by rw [qAdd_FR]; exact u1, hm _ u2, fun f j hf => by rw [qAdd_FI]; exact u3 f j hf⟩
        rw [qAdd_LSn (fun z => absurd (congrArg Prod.fst z) (by show ¬ 1003 = 1806; omega))]
        exact hL.2 k hk'
      · have hb' : (b : Int) < rI s 44 := by omega
        have h10 := (CV_B I.1).1 52 b 0 10 rfl
        rw [c52 b hb'] at hk
        exact Cp_G (v7.2.2.2.1 b k hb' hk) G0 (hnB hb' (by omega) (by omega)) (fun j hj => hnC hj) (cnm 1) hO hm (fun j z1 z2 => mc j _ z1 z2 (by omega))
    · rw [n44] at a1 a3
      by_cases e1 : b = N
      · subst e1
        rw [t52] at a2
        rw [cid k (by omega)] at a5
        by_cases e2 : b' = b
        · subst e2
          rw [t52] at a4
          rw [cid k' (by omega)] at a5
          exact ⟨rfl, by omega⟩
        · rw [cio b' k' (by omega)] at a5
          have := cio2 b' k' (by omega) a4
          omega
      · rw [cio b k (by omega)] at a5
        have hlt := cio2 b k (by omega) a2
        by_cases e2 : b' = N
        · subst e2
          rw [t52] at a4
          rw [cid k' (by omega)] at a5
          omega
        · rw [cio b' k' (by omega)] at a5
          exact v7.2.2.2.2 b k b' k' (by omega) (by rw [← c52 b (by omega)]; exact a2) (by omega) (by rw [← c52 b' (by omega)]; exact a4) a5
  · exact CW_G v8 G0 (hnD (by omega) (by omega) (by omega) (by omega) (by omega) (by omega)) (fun w _ => ⟨hnD (by omega) (by omega) (by omega) (by omega) (by omega) (by omega), hnD (by omega) (by omega) (by omega) (by omega) (by omega) (by omega)⟩) cnm hO hm (fun j x h => ms j x (by omega)) (nn 61 (by omega))
theorem CI_pub {e N m : Nat} {q q1 : am_A} {s s' : am_Z} (I : am_CI e q s) (H : am_NB e q N m q1) (hN : N = (rI s 44).toNat) (V : am_CV (qAdd q1 (1806, 0) (0, N)) s') (h39 : rI s 44 ≤ 39) (ms : ∀ j x, (j < 45 ∨ 60 < j) → rA s' j x = rA s j x) (mb : ∀ j x, 45 ≤ j → j ≤ 52 → x ≠ rI s 44 → rA s' j x = rA s j x) (n44 : rI s' 44 = rI s 44 + 1) (nn : ∀ j, j ≠ 44 → rI s' j = rI s j) (t52 : rA s' 52 N = m) (hc : (qLS q1 (1806, 0)).length ≤ qCP q1 (1806, 0)) : am_CI e (qAdd q1 (1806, 0) (0, N)) s' := by
  have b44 := (CV_B I.1).2.1 44 0 40 rfl
  have hlen : (qLS q1 (1806, 0)).length = (rI s 44).toNat := by rw [(NB_CV H I hN).2.2.2.2.2.2.1.1, rng_l]
  refine ⟨V, ?_, RM_Add H.2.2.2.2.2.2.2.2.1 (Or.inl ⟨rfl, by show 1806 = 1802 ∨ 1806 = 1803 ∨ 1806 = 1804 ∨ 1806 = 1806 ∨ 1806 = 1807 ∨ 1806 = 1808 ∨ 1806 = 1809 ∨ 1806 = 1601 ∨ 1806 = 1603; omega⟩) (by omega) hc⟩
  obtain ⟨⟨a1, a2, a3, a4⟩, ⟨c7, c17⟩, p1, p5, d1, d2, d3⟩ := I.2.1
  obtain ⟨h1, h2, h3, h4, h5, h6, h7, h8, h9, h10⟩ := H
  have cn : ∀ t, qCN (qAdd q1 (1806, 0) (0, N)) t = qCN q1 t := fun t => congrFun qAdd_CN t
  have cp : ∀ t i, t ≠ 1806 → qCP (qAdd q1 (1806, 0) (0, N)) (t, i) = qCP q1 (t, i) := fun t i z => qAdd_CPn (fun y => z (congrArg Prod.fst y))
  have cpo : ∀ t i, t ≠ 1806 → ¬ nbD q N t i → qCP (qAdd q1 (1806, 0) (0, N)) (t, i) = qCP q (t, i) := fun t i z y => (cp t i z).trans (h1 t i y).2.2.2.2.2.2
  unfold am_CX
  rw [cn, cn, cn, cn, cn, cn, cn, cn, n44, nn 61 (by omega), nn 3 (by omega), show rA s' 10 = rA s 10 from funext (fun x => ms 10 x (by omega)), h2 7 (by omega) (by omega) (by omega) (by omega) (by omega), h2 1702 (by omega) (by omega) (by omega) (by omega) (by omega), h2 5 (by omega) (by omega) (by omega) (by omega) (by omega)]
  refine ⟨by omega, ⟨c7, c17⟩, ?_, p5, fun b hb => (cpo 1003 b (by omega) (by unfold nbD; omega)).trans (d1 b (by omega)), fun w hw => (cpo 1702 w (by omega) (by unfold nbD; omega)).trans (d2 w hw), fun b => ?_⟩
  · rw [show (rI s 44 + 1).toNat = (rI s 44).toNat + 1 by omega, sumI_s, sumI_c (g := rA s 52) (fun i z1 z2 => mb 52 i (by omega) (by omega) (by omega)), ← p1, h4, Int.zero_add, ← hN, t52]
    omega
  · by_cases eb : b = N
    · rw [eb, cp 1003 N (by omega)]
      exact h8
    · rw [cpo 1003 b (by omega) (by unfold nbD; omega)]
      exact d3 b
end

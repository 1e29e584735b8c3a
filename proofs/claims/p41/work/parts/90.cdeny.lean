noncomputable section
def dnH (q : am_A) (b k : Nat) (p : Int) : am_A := uFI (qAdd (uFI q 106 (1, cId q b k) 1) (1809, 0) (0, b)) 814 (8, 0) p
section DNH
variable {e b k : Nat} {q : am_A} {s : am_Z} {p : Int}
theorem dnH_LS : qLS (dnH q b k p) (1809, 0) = qLS q (1809, 0) ++ [(0, b)] := qAdd_LS (q := uFI q 106 (1, cId q b k) 1)
theorem dnH_LSn {r : am_R} (h : r ≠ (1809, 0)) : qLS (dnH q b k p) r = qLS q r := qAdd_LSn (q := uFI q 106 (1, cId q b k) 1) h
theorem dnH_F0 (f j : Nat) : qFI (dnH q b k p) f (1, j) = qFI (uFI q 106 (1, cId q b k) 1) f (1, j) := by
  have h1 : am_u2 (qFI (qAdd (uFI q 106 (1, cId q b k) 1) (1809, 0) (0, b))) 814 (8, 0) p f (1, j) = qFI (qAdd (uFI q 106 (1, cId q b k) 1) (1809, 0) (0, b)) f (1, j) := uf_nr (fun z => absurd (congrArg Prod.fst z) (by show ¬ (1 : Nat) = 8; omega))
  rw [qAdd_FI] at h1
  refine Eq.trans ?_ h1
  show am_u2 (qFI (qAdd (uFI q 106 (1, cId q b k) 1) (1809, 0) (0, b))) 814 (8, 0) p f (1, j) = _
  rw [qAdd_FI]
theorem dnH_F {f j : Nat} (h : f ≠ 106) : qFI (dnH q b k p) f (1, j) = qFI q f (1, j) := (dnH_F0 f j).trans (show am_u2 (qFI q) 106 (1, cId q b k) 1 f (1, j) = qFI q f (1, j) from uf_ne h)
theorem dnH_6 {j : Nat} : qFI (dnH q b k p) 106 (1, j) = if j = cId q b k then 1 else qFI q 106 (1, j) := by
  rw [dnH_F0]
  show am_u2 (qFI q) 106 (1, cId q b k) 1 106 (1, j) = _
  unfold am_u2
  by_cases h : j = cId q b k
  · rw [if_pos ⟨rfl, by rw [h]⟩, if_pos h]
  · rw [if_neg (fun z => h (congrArg Prod.snd z.2)), if_neg h]
theorem dnH_l (x : Int) : lId (dnH q b k p) x = lId q x := lId_cg (fun i j => congrFun (congrFun (qAdd_AR (q := uFI q 106 (1, cId q b k) 1) (r := (1809, 0)) (v := (0, b))) (1408, i)) j)
theorem dnH_c (x y : Nat) : cId (dnH q b k p) x y = cId q x y := by
  unfold cId
  rw [dnH_LSn (fun z => absurd (congrArg Prod.fst z) (by show ¬ (1003 : Nat) = 1809; omega))]
theorem dnH_CY : am_CY q (dnH q b k p) := CY_FI (CY_Add (CY_FI CY_r (by show cK 1; omega)) (by show cK 1809; omega)) (by show cK 8; omega)
theorem dnH_CI (I : am_CI e q s) (h39 : (qLS q (1809, 0)).length ≤ 39) (hc : (qLS q (1809, 0)).length ≤ qCP q (1809, 0)) : am_CI e (dnH q b k p) (wI s 68 p) := by
  have hnv : ¬ vL s (1809, 0) := by
    unfold vL
    simp only
    omega
  have V1 : am_CV (uFI q 106 (1, cId q b k) 1) s := CV_EQ I.1 (EQ_FI (Or.inl rfl))
  have V2 : am_CV (qAdd (uFI q 106 (1, cId q b k) 1) (1809, 0) (0, b)) s := CV_EQ V1 (EQ_Add hnv (by show (qLS q (1809, 0)).length ≤ 40; omega) (V1.2.2.2.2.2.2.2.2.1 1809 rfl))
  have X2 : am_CX (qAdd (uFI q 106 (1, cId q b k) 1) (1809, 0) (0, b)) s := CX_G I.2.1 (fun x _ => congrFun (qAdd_CN (q := uFI q 106 (1, cId q b k) 1)) x) (fun x i hx => qAdd_CPn (q := uFI q 106 (1, cId q b k) 1) (fun z => by have := congrArg Prod.fst z; simp only at this; omega)) (fun _ => rfl) rfl ⟨rfl, rfl⟩
  have R2 : am_RM e (qAdd (uFI q 106 (1, cId q b k) 1) (1809, 0) (0, b)) := RM_Add (RM_FI I.2.2) (Or.inl ⟨rfl, by show 1809 = 1802 ∨ 1809 = 1803 ∨ 1809 = 1804 ∨ 1809 = 1806 ∨ 1809 = 1807 ∨ 1809 = 1808 ∨ 1809 = 1809 ∨ 1809 = 1601 ∨ 1809 = 1603; omega⟩) (by show (qLS q (1809, 0)).length ≤ 40; omega) hc
  exact CI_w ⟨V2, X2, R2⟩ (CV_denied V2) rfl rfl rfl rfl (fun _ => ⟨rfl, rfl⟩) ⟨rfl, rfl, rfl⟩
end DNH
theorem cs_deny {d : Nat} {q : am_A} {e b : Nat} {s : am_Z} {l : Int} (I : am_CI e q s) (hl : legP s l) (hb : (b : Int) < rI s 44) (hp : pfS s b l ≠ -1) : am_C2 (d + 6) m_X_deny [aR 8 0, aR 0 b, aR 5 (lId q l)] q (fun o q' => o = .inl none ∧ q' = dnH q b (pfS s b l).toNat (rI s 68 + rA s 45 b) ∧ (qLS q (1809, 0)).length ≤ qCP q (1809, 0)) := by
  refine am_C2_i (ls := [some (aR 8 0), some (aR 0 b), some (aR 5 (lId q l)), none]) rfl ?_
  have V := I.1
  have hB := V.2.2.2.2.2.2.1.2.2.1 b hb
  have bpf := pfR_b s b l 12 0 (by omega)
  have epf : pfS s b l = pfR s b l 12 0 := rfl
  have b52 := (CV_B V).1 52 b 0 10 rfl
  refine ar_aload_n rfl rfl ?_
  refine ar_aload_n rfl rfl ?_
  refine ar_cv1 rfl rfl rfl (Nat.le_of_ble_eq_true rfl) (cs_couponToFly (d := 0) V hl hb) (by omega) (fun o q2 hq => am_B2_is ?_ hq)
  rw [show pfO q s b l = some (1, cId q b (pfS s b l).toNat) from if_neg hp]
  refine ar_stA3 rfl ?_
  refine ar_aload_n rfl rfl ?_
  refine ar_ifnull rfl rfl (fun hn => absurd hn (by simp)) (fun _ _ => ?_)
  refine ar_aload_n rfl rfl ?_
  refine ar_iconst rfl ?_
  refine ar_pfI rfl rfl rfl rfl (by omega) (Or.inr (by omega)) ?_
  refine ar_aload_n rfl rfl ?_
  refine ar_gfR rfl rfl rfl (by omega) (V.1.1 809 _ rfl) ?_
  refine ar_aload_n rfl rfl ?_
  refine ar_cv1 rfl rfl rfl (Nat.le_of_ble_eq_true rfl) (sq_addL (d := 0) rfl (by omega) (V.1.2.2.2 1809 rfl) (Nat.le_trans (V.2.2.2.2.2.2.2.2.1 1809 rfl) (by omega)) ⟨rfl, by omega⟩) (by omega) (fun o q20 hq => ?_)
  obtain ⟨rfl, rfl, hc31⟩ := hq
  refine ar_pop rfl rfl ?_
  refine ar_aload_n rfl rfl ?_
  refine ar_dup rfl rfl ?_
  refine ar_gfIv rfl rfl rfl (by omega) ((show qFI (qAdd (uFI q 106 (1, cId q b (pfS s b l).toNat) 1) (1809, 0) (0, b)) 814 (8, 0) = rI s 68 from (congrFun (congrFun qAdd_FI 814) (8, 0)).trans V.2.1.2.2.2.2.2)) ?_
  refine ar_aload_n rfl rfl ?_
  refine ar_gfIv rfl rfl rfl (by omega) ((show qFI (qAdd (uFI q 106 (1, cId q b (pfS s b l).toNat) 1) (1809, 0) (0, b)) 6 (0, b) = rA s 45 b from (congrFun (congrFun qAdd_FI 6) (0, b)).trans (hB.1 6 45 rfl))) ?_
  refine ar_iadd rfl ?_
  refine ar_pfI rfl rfl rfl rfl (by omega) (Or.inl rfl) ?_
  exact ar_ret rfl rfl (⟨rfl, rfl, hc31⟩)
/-- a coupon whose leg departs -/
def fmS (s : am_Z) (b k : Nat) (fl : Int) : am_Z := if fl ≠ 0 then s else if rA s 55 (10 * b + k) = 0 then wA s 55 (10 * b + k) 3 else flyS s b (10 * b + k) (rA s 53 (10 * b + k))
theorem fm_1 {s : am_Z} {b k : Nat} {fl : Int} (h : fl ≠ 0) : fmS s b k fl = s := if_pos h
theorem fm_0 {s : am_Z} {b k : Nat} {fl : Int} (h : ¬ fl ≠ 0) (h2 : rA s 55 (10 * b + k) = 0) : fmS s b k fl = wA s 55 (10 * b + k) 3 := (if_neg h).trans (if_pos h2)
theorem fm_2 {s : am_Z} {b k : Nat} {fl : Int} (h : ¬ fl ≠ 0) (h2 : rA s 55 (10 * b + k) ≠ 0) : fmS s b k fl = flyS s b (10 * b + k) (rA s 53 (10 * b + k)) := (if_neg h).trans (if_neg h2)
theorem wA_cm {s : am_Z} {i j : Nat} {x y u v : Int} (h : i ≠ j) : wA (wA s i x u) j y v = wA (wA s j y v) i x u := by
  have e : (fun j' i' => if j' = j ∧ i' = y then v else if j' = i ∧ i' = x then u else s.1 j' i') = (fun j' i' => if j' = i ∧ i' = x then u else if j' = j ∧ i' = y then v else s.1 j' i') := by
    funext j' i'
    by_cases a : j' = j ∧ i' = y
    · rw [if_pos a, if_neg (fun z => h (z.1.symm.trans a.1)), if_pos a]
    · rw [if_neg a]
      by_cases c : j' = i ∧ i' = x
      · rw [if_pos c, if_pos c]
      · rw [if_neg c, if_neg c, if_neg a]
  exact congrArg (fun g => (g, s.2)) e
theorem fly_m {s : am_Z} {b k l v w i : Int} (h : rA s 46 b ≠ -1) (hv : v = rA s 69 (rA s 46 b) + 10 * rA s 8 (l / 100) * rA s 45 b) (hi : i = rA s 50 b * 3 + rA s 4 (l / 100)) (hw : w = rA s 70 i + rA s 57 k * rA s 45 b) : wA (wA (wA s 55 k 2) 69 (rA s 46 b) v) 70 i w = flyS s b k l := by
  have e1 : rA s 50 b * 3 + rA s 4 (l / 100) = 3 * rA s 50 b + rA s 4 (l / 100) := by omega
  have e2 : 10 * rA s 8 (l / 100) * rA s 45 b = 10 * rA s 45 b * rA s 8 (l / 100) := by rw [Int.mul_assoc, Int.mul_assoc, Int.mul_comm (rA s 8 _)]
  rw [wA_cm (by omega)]
  unfold flyS
  rw [if_neg h, hw, hv, hi, e1, e2, Int.mul_comm (rA s 57 k)]
theorem fly_n {s : am_Z} {b k l w i : Int} (h : rA s 46 b = -1) (hi : i = rA s 50 b * 3 + rA s 4 (l / 100)) (hw : w = rA s 70 i + rA s 57 k * rA s 45 b) : wA (wA s 55 k 2) 70 i w = flyS s b k l := by
  have e1 : rA s 50 b * 3 + rA s 4 (l / 100) = 3 * rA s 50 b + rA s 4 (l / 100) := by omega
  unfold flyS
  rw [if_pos h, hw, hi, e1, Int.mul_comm (rA s 57 k)]
theorem cs_addAt1811 {d : Nat} {q : am_A} {i v : Int} (hL : qAL q (1811, 0) = 5) (hi : 0 ≤ i ∧ i < 5) : am_C2 d m_X_addAt [aR 1811 0, aI (zI i), aI (zI v)] q (fun o q' => o = .inl none ∧ q' = uAI q (1811, 0) i.toNat (qAI q (1811, 0) i.toNat + v)) := by
  refine am_C2_i (ls := [some (aR 1811 0), some (aI (zI i)), some (aI (zI v))]) rfl ?_
  refine ar_iload_n rfl rfl ?_
  refine ar_if_lt rfl rfl (by omega) (fun ht => by omega) (fun h1 => ?_)
  refine ar_iload_n rfl rfl ?_
  refine ar_aload_n rfl rfl ?_
  refine ar_alen rfl rfl (by omega) ?_
  rw [hL]
  refine ar_icmp_ge rfl rfl (by omega) (by omega) (fun ht => by omega) (fun h7 => ?_)
  refine ar_aload_n rfl rfl ?_
  refine ar_iload_n rfl rfl ?_
  refine ar_dup2 rfl rfl rfl ?_
  refine ar_ia rfl rfl (hL) (by omega) (by omega) ?_
  refine ar_iload_n rfl rfl ?_
  refine ar_iadd rfl ?_
  refine ar_ias rfl ⟨rfl, by omega⟩ (hL) (by omega) (by omega) ?_
  exact ar_ret rfl rfl (⟨rfl, rfl⟩)
theorem cs_addAt1812 {d : Nat} {q : am_A} {i v : Int} (hL : qAL q (1812, 0) = 9) (hi : 0 ≤ i ∧ i < 9) : am_C2 d m_X_addAt [aR 1812 0, aI (zI i), aI (zI v)] q (fun o q' => o = .inl none ∧ q' = uAI q (1812, 0) i.toNat (qAI q (1812, 0) i.toNat + v)) := by
  refine am_C2_i (ls := [some (aR 1812 0), some (aI (zI i)), some (aI (zI v))]) rfl ?_
  refine ar_iload_n rfl rfl ?_
  refine ar_if_lt rfl rfl (by omega) (fun ht => by omega) (fun h1 => ?_)
  refine ar_iload_n rfl rfl ?_
  refine ar_aload_n rfl rfl ?_
  refine ar_alen rfl rfl (by omega) ?_
  rw [hL]
  refine ar_icmp_ge rfl rfl (by omega) (by omega) (fun ht => by omega) (fun h7 => ?_)
  refine ar_aload_n rfl rfl ?_
  refine ar_iload_n rfl rfl ?_
  refine ar_dup2 rfl rfl rfl ?_
  refine ar_ia rfl rfl (hL) (by omega) (by omega) ?_
  refine ar_iload_n rfl rfl ?_
  refine ar_iadd rfl ?_
  refine ar_ias rfl ⟨rfl, by omega⟩ (hL) (by omega) (by omega) ?_
  exact ar_ret rfl rfl (⟨rfl, rfl⟩)
theorem cs_addAtN {d : Nat} {q : am_A} {i v : Int} (hi : i = -1) : am_C2 d m_X_addAt [aR 1811 0, aI (zI i), aI (zI v)] q (fun o q' => o = .inl none ∧ q' = q) := by
  refine am_C2_i (ls := [some (aR 1811 0), some (aI (zI i)), some (aI (zI v))]) rfl ?_
  refine ar_iload_n rfl rfl ?_
  refine ar_if_lt rfl rfl (by omega) (fun h1 => ?_) (fun hf => by omega)
  exact ar_ret rfl rfl (⟨rfl, rfl⟩)
theorem cs_flyOrMiss0 {d : Nat} {q : am_A} {e b k : Nat} {s : am_Z} {fl : Int} (I : am_CI e q s) (hb : (b : Int) < rI s 44) (hk : (k : Int) < rA s 52 b) (h55 : rA s 55 (10 * b + k) ≤ 1) (h6 : qFI q 106 (1, cId q b k) = fl) (hfl : fl = 0 ∨ fl = 1) (hm : rA s 46 b = -1) : am_C2 (d + 1) m_X_flyOrMiss [aR 8 0, aR 0 b, aR 1 (cId q b k)] q (fun o q' => o = .inl none ∧ am_CI e q' (fmS s b k fl) ∧ am_CG q q' ∧ qLS q' = qLS q ∧ (∀ x, lId q' x = lId q x) ∧ (∀ j, qFI q' 106 (1, j) = qFI q 106 (1, j))) := by
  refine am_C2_i (ls := [some (aR 8 0), some (aR 0 b), some (aR 1 (cId q b k)), none]) rfl ?_
  have V := I.1
  have B := CV_B V
  have b3 := B.2.1 3 0 12 rfl
  have hB := V.2.2.2.2.2.2.1.2.2.1 b hb
  have hC := V.2.2.2.2.2.2.1.2.2.2.1 b k hb hk
  have hl := hC.2.2.2.1
  have hl1 := hl.1
  have hl2 := hl.2.1
  have hg := V.2.2.2.1.1 _ hl
  have hF := V.2.2.1.2.2.1 ((rA s 53 (10 * b + k)) / 100).toNat (by omega)
  have el : ((((rA s 53 (10 * b + k)) / 100).toNat : Nat) : Int) = (rA s 53 (10 * b + k)) / 100 := by omega
  have b55 := B.1 55 (10 * b + k) 0 5 rfl
  have b46 := B.1 46 b (-1) 4 rfl
  have b50 := B.1 50 b 0 2 rfl
  have b4 := B.1 4 ((rA s 53 (10 * b + k)) / 100) 0 2 rfl
  have V1 : am_CV (uFI q 105 (1, cId q b k) 2) (wA s 55 (10 * b + k) 2) := CV_wC V (f0 := 105) (j0 := 55) (b0 := b) (k0 := k) (v := 2) rfl hb hk (fun lo hi h => by cases h; omega)
  have I1 : am_CI e (uFI q 105 (1, cId q b k) 2) (wA s 55 (10 * b + k) 2) := CI_w I V1 rfl rfl rfl rfl (fun _ => ⟨rfl, rfl⟩) ⟨rfl, rfl, rfl⟩
  have f6 : ∀ (v : Int) (j : Nat), qFI (uFI q 105 (1, cId q b k) v) 106 (1, j) = qFI q 106 (1, j) := fun v j => show am_u2 (qFI q) 105 (1, cId q b k) v 106 (1, j) = _ from uf_ne (by omega)
  refine ar_aload_n rfl rfl ?_
  refine ar_gfIv rfl rfl rfl (by omega) (h6) ?_
  refine ar_if_eq rfl rfl (by omega) (fun h4 => ?_) (fun h4 => ?_)
  · refine ar_aload_n rfl rfl ?_
    refine ar_gfIv rfl rfl rfl (by omega) (hC.2.2.2.2 105 55 rfl) ?_
    refine ar_if_ne rfl rfl (by omega) (fun h12 => ?_) (fun h12 => ?_)
    · refine ar_aload_n rfl rfl ?_
      refine ar_iconst rfl ?_
      refine ar_pfI rfl rfl rfl rfl (by omega) (Or.inl rfl) ?_
      refine ar_aload_n rfl rfl ?_
      refine ar_gfR rfl rfl rfl (by omega) (hC.2.2.1) ?_
      refine ar_gfR rfl rfl rfl (by omega) (hg.2.2.1) ?_
      refine ar_stA3 rfl ?_
      refine ar_aload_n rfl rfl ?_
      refine ar_gfR rfl rfl rfl (by omega) (V.1.1 811 _ rfl) ?_
      refine ar_aload_n rfl rfl ?_
      refine ar_gfIv rfl rfl rfl (by omega) (hB.1 0 46 rfl) ?_
      refine ar_bipush (x := 10) rfl rfl ?_
      refine ar_aload_n rfl rfl ?_
      refine ar_gfIv rfl rfl rfl (by omega) ((hF.1 405 8 rfl).trans (by rw [el])) ?_
      refine ar_imul rfl ?_
      refine ar_aload_n rfl rfl ?_
      refine ar_gfIv rfl rfl rfl (by omega) (hB.1 6 45 rfl) ?_
      refine ar_imul rfl ?_
      refine ar_cs3 rfl rfl (Nat.le_of_ble_eq_true rfl) (cs_addAtN (d := 0) hm) (by omega) (fun o q54 hq => ?_)
      obtain ⟨rfl, rfl⟩ := hq
      refine ar_aload_n rfl rfl ?_
      refine ar_gfR rfl rfl rfl (by omega) (V.1.1 812 _ rfl) ?_
      refine ar_aload_n rfl rfl ?_
      refine ar_gfIv rfl rfl rfl (by omega) (hB.1 1 50 rfl) ?_
      refine ar_iconst rfl ?_
      refine ar_imul rfl ?_
      refine ar_aload_n rfl rfl ?_
      refine ar_gfIv rfl rfl rfl (by omega) ((hF.1 401 4 rfl).trans (by rw [el])) ?_
      refine ar_iadd rfl ?_
      refine ar_aload_n rfl rfl ?_
      refine ar_gfIv rfl rfl rfl (by omega) (hC.2.2.2.2 103 57 rfl) ?_
      refine ar_aload_n rfl rfl ?_
      refine ar_gfIv rfl rfl rfl (by omega) (hB.1 6 45 rfl) ?_
      refine ar_imul rfl ?_
      refine ar_cs3 rfl rfl (Nat.le_of_ble_eq_true rfl) (cs_addAt1812 (d := 0) (V.1.2.2.1 1812 9 rfl) (by omega)) (by omega) (fun o q81 hq => ?_)
      obtain ⟨rfl, rfl⟩ := hq
      rw [show qAI (uFI q 105 (1, cId q b k) 2) (1812, 0) (rA s 50 b * 3 + rA s 4 ((rA s 53 (10 * b + k)) / 100)).toNat = rA s 70 (rA s 50 b * 3 + rA s 4 ((rA s 53 (10 * b + k)) / 100)) from V1.2.1.2.2.2.1 _ (by omega) (by omega)]
      exact ar_ret rfl rfl (⟨rfl, by { rw [fm_2 (by omega) (by omega)]; exact (fly_n (s := s) (b := b) (k := 10 * b + k) (l := (rA s 53 (10 * b + k))) (by omega) rfl rfl) ▸ CI_w I1 (CV_owed V1 (i := (rA s 50 b * 3 + rA s 4 ((rA s 53 (10 * b + k)) / 100))) (v := (rA s 70 (rA s 50 b * 3 + rA s 4 ((rA s 53 (10 * b + k)) / 100)) + rA s 57 (10 * b + k) * rA s 45 b)) (by omega)) rfl rfl rfl rfl (fun _ => ⟨rfl, rfl⟩) ⟨rfl, rfl, rfl⟩ }, CG_AI (CG_FI CG_r (by show cK 1; omega)) (by show cK 1812; omega), rfl, fun x => lId_cg (fun _ _ => rfl), f6 2⟩)
    · refine ar_aload_n rfl rfl ?_
      refine ar_iconst rfl ?_
      refine ar_pfI rfl rfl rfl rfl (by omega) (Or.inl rfl) ?_
      exact ar_ret rfl rfl (⟨rfl, by rw [fm_0 (by omega) (by omega)]; exact CI_w I (CV_wC V (f0 := 105) (j0 := 55) (b0 := b) (k0 := k) (v := 3) rfl hb hk (fun lo hi h => by cases h; omega)) rfl rfl rfl rfl (fun _ => ⟨rfl, rfl⟩) ⟨rfl, rfl, rfl⟩, CG_FI CG_r (by show cK 1; omega), rfl, fun x => lId_cg (fun _ _ => rfl), f6 3⟩)
  · exact ar_ret rfl rfl (⟨rfl, by rw [fm_1 (by omega)]; exact I, CG_r, rfl, fun _ => rfl, fun _ => rfl⟩)
theorem cs_flyOrMiss1 {d : Nat} {q : am_A} {e b k : Nat} {s : am_Z} {fl : Int} (I : am_CI e q s) (hb : (b : Int) < rI s 44) (hk : (k : Int) < rA s 52 b) (h55 : rA s 55 (10 * b + k) ≤ 1) (h6 : qFI q 106 (1, cId q b k) = fl) (hfl : fl = 0 ∨ fl = 1) (hm : rA s 46 b ≠ -1) : am_C2 (d + 1) m_X_flyOrMiss [aR 8 0, aR 0 b, aR 1 (cId q b k)] q (fun o q' => o = .inl none ∧ am_CI e q' (fmS s b k fl) ∧ am_CG q q' ∧ qLS q' = qLS q ∧ (∀ x, lId q' x = lId q x) ∧ (∀ j, qFI q' 106 (1, j) = qFI q 106 (1, j))) := by
  refine am_C2_i (ls := [some (aR 8 0), some (aR 0 b), some (aR 1 (cId q b k)), none]) rfl ?_
  have V := I.1
  have B := CV_B V
  have b3 := B.2.1 3 0 12 rfl
  have hB := V.2.2.2.2.2.2.1.2.2.1 b hb
  have hC := V.2.2.2.2.2.2.1.2.2.2.1 b k hb hk
  have hl := hC.2.2.2.1
  have hl1 := hl.1
  have hl2 := hl.2.1
  have hg := V.2.2.2.1.1 _ hl
  have hF := V.2.2.1.2.2.1 ((rA s 53 (10 * b + k)) / 100).toNat (by omega)
  have el : ((((rA s 53 (10 * b + k)) / 100).toNat : Nat) : Int) = (rA s 53 (10 * b + k)) / 100 := by omega
  have b55 := B.1 55 (10 * b + k) 0 5 rfl
  have b46 := B.1 46 b (-1) 4 rfl
  have b50 := B.1 50 b 0 2 rfl
  have b4 := B.1 4 ((rA s 53 (10 * b + k)) / 100) 0 2 rfl
  have V1 : am_CV (uFI q 105 (1, cId q b k) 2) (wA s 55 (10 * b + k) 2) := CV_wC V (f0 := 105) (j0 := 55) (b0 := b) (k0 := k) (v := 2) rfl hb hk (fun lo hi h => by cases h; omega)
  have I1 : am_CI e (uFI q 105 (1, cId q b k) 2) (wA s 55 (10 * b + k) 2) := CI_w I V1 rfl rfl rfl rfl (fun _ => ⟨rfl, rfl⟩) ⟨rfl, rfl, rfl⟩
  have f6 : ∀ (v : Int) (j : Nat), qFI (uFI q 105 (1, cId q b k) v) 106 (1, j) = qFI q 106 (1, j) := fun v j => show am_u2 (qFI q) 105 (1, cId q b k) v 106 (1, j) = _ from uf_ne (by omega)
  refine ar_aload_n rfl rfl ?_
  refine ar_gfIv rfl rfl rfl (by omega) (h6) ?_
  refine ar_if_eq rfl rfl (by omega) (fun h4 => ?_) (fun h4 => ?_)
  · refine ar_aload_n rfl rfl ?_
    refine ar_gfIv rfl rfl rfl (by omega) (hC.2.2.2.2 105 55 rfl) ?_
    refine ar_if_ne rfl rfl (by omega) (fun h12 => ?_) (fun h12 => ?_)
    · refine ar_aload_n rfl rfl ?_
      refine ar_iconst rfl ?_
      refine ar_pfI rfl rfl rfl rfl (by omega) (Or.inl rfl) ?_
      refine ar_aload_n rfl rfl ?_
      refine ar_gfR rfl rfl rfl (by omega) (hC.2.2.1) ?_
      refine ar_gfR rfl rfl rfl (by omega) (hg.2.2.1) ?_
      refine ar_stA3 rfl ?_
      refine ar_aload_n rfl rfl ?_
      refine ar_gfR rfl rfl rfl (by omega) (V.1.1 811 _ rfl) ?_
      refine ar_aload_n rfl rfl ?_
      refine ar_gfIv rfl rfl rfl (by omega) (hB.1 0 46 rfl) ?_
      refine ar_bipush (x := 10) rfl rfl ?_
      refine ar_aload_n rfl rfl ?_
      refine ar_gfIv rfl rfl rfl (by omega) ((hF.1 405 8 rfl).trans (by rw [el])) ?_
      refine ar_imul rfl ?_
      refine ar_aload_n rfl rfl ?_
      refine ar_gfIv rfl rfl rfl (by omega) (hB.1 6 45 rfl) ?_
      refine ar_imul rfl ?_
      refine ar_cs3 rfl rfl (Nat.le_of_ble_eq_true rfl) (cs_addAt1811 (d := 0) (V.1.2.2.1 1811 5 rfl) (by omega)) (by omega) (fun o q54 hq => ?_)
      obtain ⟨rfl, rfl⟩ := hq
      rw [show qAI (uFI q 105 (1, cId q b k) 2) (1811, 0) (rA s 46 b).toNat = rA s 69 (rA s 46 b) from V.2.1.2.2.1 _ (by omega) (by omega)]
      have V2 : am_CV (uAI (uFI q 105 (1, cId q b k) 2) (1811, 0) (rA s 46 b).toNat (rA s 69 (rA s 46 b) + 10 * rA s 8 ((rA s 53 (10 * b + k)) / 100) * rA s 45 b)) (wA (wA s 55 (10 * b + k) 2) 69 (rA s 46 b) (rA s 69 (rA s 46 b) + 10 * rA s 8 ((rA s 53 (10 * b + k)) / 100) * rA s 45 b)) := CV_points V1 (by omega)
      refine ar_aload_n rfl rfl ?_
      refine ar_gfR rfl rfl rfl (by omega) (V.1.1 812 _ rfl) ?_
      refine ar_aload_n rfl rfl ?_
      refine ar_gfIv rfl rfl rfl (by omega) (hB.1 1 50 rfl) ?_
      refine ar_iconst rfl ?_
      refine ar_imul rfl ?_
      refine ar_aload_n rfl rfl ?_
      refine ar_gfIv rfl rfl rfl (by omega) ((hF.1 401 4 rfl).trans (by rw [el])) ?_
      refine ar_iadd rfl ?_
      refine ar_aload_n rfl rfl ?_
      refine ar_gfIv rfl rfl rfl (by omega) (hC.2.2.2.2 103 57 rfl) ?_
      refine ar_aload_n rfl rfl ?_
      refine ar_gfIv rfl rfl rfl (by omega) (hB.1 6 45 rfl) ?_
      refine ar_imul rfl ?_
      refine ar_cs3 rfl rfl (Nat.le_of_ble_eq_true rfl) (cs_addAt1812 (d := 0) (V.1.2.2.1 1812 9 rfl) (by omega)) (by omega) (fun o q81 hq => ?_)
      obtain ⟨rfl, rfl⟩ := hq
      rw [show qAI (uAI (uFI q 105 (1, cId q b k) 2) (1811, 0) (rA s 46 b).toNat (rA s 69 (rA s 46 b) + 10 * rA s 8 ((rA s 53 (10 * b + k)) / 100) * rA s 45 b)) (1812, 0) (rA s 50 b * 3 + rA s 4 ((rA s 53 (10 * b + k)) / 100)).toNat = rA s 70 (rA s 50 b * 3 + rA s 4 ((rA s 53 (10 * b + k)) / 100)) from V2.2.1.2.2.2.1 _ (by omega) (by omega)]
      exact ar_ret rfl rfl (⟨rfl, by { rw [fm_2 (by omega) (by omega)]; exact (fly_m (s := s) (b := b) (k := 10 * b + k) (l := (rA s 53 (10 * b + k))) (by omega) rfl rfl rfl) ▸ CI_w I1 (CV_owed (CV_points V1 (i := rA s 46 b) (v := (rA s 69 (rA s 46 b) + 10 * rA s 8 ((rA s 53 (10 * b + k)) / 100) * rA s 45 b)) (by omega)) (i := (rA s 50 b * 3 + rA s 4 ((rA s 53 (10 * b + k)) / 100))) (v := (rA s 70 (rA s 50 b * 3 + rA s 4 ((rA s 53 (10 * b + k)) / 100)) + rA s 57 (10 * b + k) * rA s 45 b)) (by omega)) rfl rfl rfl rfl (fun _ => ⟨rfl, rfl⟩) ⟨rfl, rfl, rfl⟩ }, CG_AI (CG_AI (CG_FI CG_r (by show cK 1; omega)) (by show cK 1811; omega)) (by show cK 1812; omega), rfl, fun x => lId_cg (fun _ _ => rfl), f6 2⟩)
    · refine ar_aload_n rfl rfl ?_
      refine ar_iconst rfl ?_
      refine ar_pfI rfl rfl rfl rfl (by omega) (Or.inl rfl) ?_
      exact ar_ret rfl rfl (⟨rfl, by rw [fm_0 (by omega) (by omega)]; exact CI_w I (CV_wC V (f0 := 105) (j0 := 55) (b0 := b) (k0 := k) (v := 3) rfl hb hk (fun lo hi h => by cases h; omega)) rfl rfl rfl rfl (fun _ => ⟨rfl, rfl⟩) ⟨rfl, rfl, rfl⟩, CG_FI CG_r (by show cK 1; omega), rfl, fun x => lId_cg (fun _ _ => rfl), f6 3⟩)
  · exact ar_ret rfl rfl (⟨rfl, by rw [fm_1 (by omega)]; exact I, CG_r, rfl, fun _ => rfl, fun _ => rfl⟩)
theorem cs_flyOrMiss {d : Nat} {q : am_A} {e b k : Nat} {s : am_Z} {fl : Int} (I : am_CI e q s) (hb : (b : Int) < rI s 44) (hk : (k : Int) < rA s 52 b) (h55 : rA s 55 (10 * b + k) ≤ 1) (h6 : qFI q 106 (1, cId q b k) = fl) (hfl : fl = 0 ∨ fl = 1) : am_C2 (d + 1) m_X_flyOrMiss [aR 8 0, aR 0 b, aR 1 (cId q b k)] q (fun o q' => o = .inl none ∧ am_CI e q' (fmS s b k fl) ∧ am_CG q q' ∧ qLS q' = qLS q ∧ (∀ x, lId q' x = lId q x) ∧ (∀ j, qFI q' 106 (1, j) = qFI q 106 (1, j))) := by
  by_cases hm : rA s 46 b = -1
  · exact cs_flyOrMiss0 (d := d) I hb hk h55 h6 hfl hm
  · exact cs_flyOrMiss1 (d := d) I hb hk h55 h6 hfl hm
end

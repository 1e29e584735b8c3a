noncomputable section
theorem cpH_LS {q : am_A} {l : Option am_R} {bk st sh tx : Int} : qLS (cpH q l bk st sh tx) = qLS q := by
  unfold cpH
  rw [uFs_LS]
  rfl
theorem cpH_CP {q : am_A} {l : Option am_R} {bk st sh tx : Int} : qCP (cpH q l bk st sh tx) = qCP q := by
  unfold cpH
  rw [uFs_CP]
  rfl
theorem mv_I2 {s : am_Z} {b c : Int} : (moveS s b c).2 = (findS s b c).2 := by
  unfold moveS
  split
  · show (itS (mvF (10 * b + c)) (nWay s b c).toNat (wA (itS (shF (10 * b + rA s 52 b - 1) (nWay s b c)) (rA s 52 b - 1 - c).toNat (findS s b c)) 52 b (rA s 52 b + nWay s b c))).2 = _
    rw [itS_I (f := mvF (10 * b + c)) (fun i t => rfl)]
    show (itS (shF (10 * b + rA s 52 b - 1) (nWay s b c)) (rA s 52 b - 1 - c).toNat (findS s b c)).2 = _
    rw [sh_I]
  · rfl
theorem mv_I {s : am_Z} {b c : Int} {j : Nat} (h : j ≠ 72 ∧ j ≠ 73) : rI (moveS s b c) j = rI s j := by
  show (moveS s b c).2 j = s.2 j
  rw [mv_I2]
  show (if j = 73 then _ else if j = 72 then _ else s.2 j) = _
  rw [if_neg h.2, if_neg h.1]
theorem CI_mv {e : Nat} {q : am_A} {s s1 : am_Z} {b c : Int} (B : in_S s) (I : am_CI e q s1) (h : ∀ j x, rA (moveS s b c) j x = rA s1 j x) (h2 : s1.2 = s.2) : am_CI e q (moveS s b c) := by
  have B1 := CV_B I.1
  refine CI_s I (fun j x _ => h j x) (fun j hj => ?_) ⟨fun j x lo hi e => by rw [h]; exact B1.1 j x lo hi e, fun j lo hi e => ?_, fun j x e => by rw [h]; exact B1.2.2 j x e⟩
  · rw [mv_I (by omega)]
    exact (congrFun h2 j).symm
  · have := (find_B B (b := b) (c := c)).2.1 j lo hi e
    show lo ≤ (moveS s b c).2 j ∧ (moveS s b c).2 j ≤ hi
    rw [mv_I2]
    exact this
theorem CI_wc {e : Nat} {q : am_A} {s : am_Z} {b : Nat} {c : Int} {f j : Nat} {v : Int} (I : am_CI e q s) (hf : fCp f = some j) (hb : (b : Int) < rI s 44) (hc : 0 ≤ c ∧ c < rA s 52 b) (hv : ∀ lo hi, rRg j = some (lo, hi) → lo ≤ v ∧ v ≤ hi) : am_CI e (uFI q f (1, cId q b c.toNat) v) (wA s j (10 * b + c) v) := by
  have hr := fCp_r2 f j hf
  have z := CV_wC I.1 (f0 := f) (j0 := j) (b0 := b) (k0 := c.toNat) (v := v) hf hb (by omega) hv
  rw [show ((c.toNat : Nat) : Int) = c by omega] at z
  exact CI_w I z rfl rfl rfl rfl (fun _ => ⟨if_neg (fun z => by have := z.1; omega), if_neg (fun z => by have := z.1; omega)⟩) ⟨rfl, rfl, rfl⟩
theorem mv_f4 {H : am_A} {r : am_R} : qFI (uFI (uFI (uFI H 105 r 4) 103 r 0) 104 r 0) 105 r = 4 := by
  have h1 : am_u2 (qFI (uFI (uFI H 105 r 4) 103 r 0)) 104 r 0 105 r = qFI (uFI (uFI H 105 r 4) 103 r 0) 105 r := uf_ne (by omega)
  have h2 : am_u2 (qFI (uFI H 105 r 4)) 103 r 0 105 r = qFI (uFI H 105 r 4) 105 r := uf_ne (by omega)
  have h3 : am_u2 (qFI H) 105 r 4 105 r = 4 := if_pos ⟨rfl, rfl⟩
  exact h1.trans (h2.trans h3)
theorem mv2_rest {d : Nat} {q q8 : am_A} {e b : Nat} {s : am_Z} {c : Int} (B : in_S s) (I8 : am_CI e q8 (insC s b (c + 1) (wayS s b c).2.1 (rA s 57 (10 * (b : Int) + c)) (rA s 58 (10 * (b : Int) + c)) (rA s 56 (10 * (b : Int) + c)))) (hb : (b : Int) < rI s 44) (hc : 0 ≤ c ∧ c < rA s 52 b) (h8 : rA s 52 b ≤ 8) (hw1 : (wayS s b c).2.1 ≠ -1) (hw2 : (wayS s b c).2.2 ≠ -1) (hmv : mvP s b c) (en : nWay s b c = 2) (h201 : qFR q8 201 (2, 0) = some (5, lId q8 (wayS s b c).2.2)) (hCG : am_CG q q8) (hll : ∀ l, lId q8 l = lId q l) (hls : ∀ t i : Nat, t = 1809 ∨ (t = 1003 ∧ i ≠ b) → qLS q8 (t, i) = qLS q (t, i)) : am_W2 (d + 2) m_X_moveOn 100 [some (aR 8 0), some (aR 0 b), some (aR 1 (cId q8 b c.toNat)), some (aI (zI (nWay s b c))), some (aI (zI c))] [] q8 (fun o q' => o = .inl (some (aI (zI (if mvP s b c then 1 else 0)))) ∧ am_CI e q' (moveS s b c) ∧ am_CG q q' ∧ (∀ l, lId q' l = lId q l) ∧ (∀ t i : Nat, t = 1809 ∨ (t = 1003 ∧ i ≠ b) → qLS q' (t, i) = qLS q (t, i)) ∧ 2 ≤ qFI q' 105 (1, cId q8 b c.toNat)) := by
  have V8 := I8.1
  have b52 := B.1 52 b 0 10 rfl
  have b56 := B.1 56 (10 * (b : Int) + c) 0 3 rfl
  have ec : 10 * (b : Int) + ((c.toNat : Nat) : Int) = 10 * b + c := by omega
  have hwl := way_lg (s := s) (b := b) (c := c)
  have hl2 := hwl.2.resolve_left hw2
  have e52 : rA (insC s b (c + 1) (wayS s b c).2.1 (rA s 57 (10 * (b : Int) + c)) (rA s 58 (10 * (b : Int) + c)) (rA s 56 (10 * (b : Int) + c))) 52 (b : Int) = rA s 52 b + 1 := ins_52
  have hl2s : legP (insC s b (c + 1) (wayS s b c).2.1 (rA s 57 (10 * (b : Int) + c)) (rA s 58 (10 * (b : Int) + c)) (rA s 56 (10 * (b : Int) + c))) (wayS s b c).2.2 := (legP_cg (s := s) (s' := (insC s b (c + 1) (wayS s b c).2.1 (rA s 57 (10 * (b : Int) + c)) (rA s 58 (10 * (b : Int) + c)) (rA s 56 (10 * (b : Int) + c)))) (fun j x h => ins_o (by omega) (by omega)) rfl).mpr hl2
  have hG2 : am_GD (fun t i => (t = 1 ∧ i = qCN q8 1) ∨ (t = 1003 ∧ i = b)) q8 (inH q8 b (c + 2).toNat (wayS s b c).2.2 0 0 (rA s 56 (10 * (b : Int) + c))) := inH_G
  have hB8 := V8.2.2.2.2.2.2.1.2.2.1 b hb
  have hlen2 : ((qLS q8 (1003, b)).length : Int) = rA s 52 b + 1 := hB8.2.2.2.2.1.trans e52
  have hcp2 := I8.2.1.2.2.2.2.2.2 b
  have hcn2 : b < qCN q8 1003 := by { have z := I8.2.1.1.2.1; have z2 : rI (insC s b (c + 1) (wayS s b c).2.1 (rA s 57 (10 * (b : Int) + c)) (rA s 58 (10 * (b : Int) + c)) (rA s 56 (10 * (b : Int) + c))) 44 = rI s 44 := rfl; omega }
  have IX : am_CI e (inH q8 b (c + 2).toNat (wayS s b c).2.2 0 0 (rA s 56 (10 * (b : Int) + c))) (insC (insC s b (c + 1) (wayS s b c).2.1 (rA s 57 (10 * (b : Int) + c)) (rA s 58 (10 * (b : Int) + c)) (rA s 56 (10 * (b : Int) + c))) b (c + 2) (wayS s b c).2.2 0 0 (rA s 56 (10 * (b : Int) + c))) := by { have z := CI_ins (p := (c + 2).toNat) (l := (wayS s b c).2.2) (sh := 0) (tx := 0) (st := (rA s 56 (10 * (b : Int) + c))) I8 hb (by rw [e52]; omega) (by rw [e52]; omega) hl2s (by omega) (by omega) (by omega); rw [show (((c + 2).toNat : Nat) : Int) = c + 2 by omega] at z; exact z }
  have hC8 := V8.2.2.2.2.2.2.1.2.2.2.1 b c.toNat hb (by rw [e52]; omega)
  have hne2 : ¬ (((1, cId q8 b c.toNat)) : am_R) = (1, qCN q8 1) := fun z => by { have := congrArg Prod.snd z; have h2 := hC8.2.1; simp only at this; omega }
  have h102 : qFI q8 102 (1, cId q8 b c.toNat) = (rA s 56 (10 * (b : Int) + c)) := by { have z := hC8.2.2.2.2 102 56 rfl; rw [ec, ins_o (by omega) (by omega)] at z; exact z }
  refine ar_aload_n rfl rfl ?_
  refine ar_gfR rfl rfl rfl (by omega) (hB8.2.1.1) ?_
  refine ar_iload rfl rfl ?_
  refine ar_iconst rfl ?_
  refine ar_iadd rfl ?_
  refine ar_new (kt := 1) rfl (by intro z; cases z) (by omega) ?_
  refine ar_dup rfl rfl ?_
  refine ar_aload_n rfl rfl ?_
  refine ar_gfR rfl rfl rfl (by omega) (V8.1.1 810 _ rfl) ?_
  refine ar_gfR rfl rfl rfl (by omega) (h201) ?_
  refine ar_iconst rfl ?_
  refine ar_aload_n rfl rfl ?_
  refine ar_gfIv rfl rfl rfl (by omega) ((if_neg hne2).trans h102) ?_
  refine ar_iconst rfl ?_
  refine ar_iconst rfl ?_
  refine ar_cv5 rfl rfl rfl (Nat.le_of_ble_eq_true rfl) (cs_Cp_init (d := 0) (c := qCN q8 1)) (by omega) (fun o q126 hq => ?_)
  obtain ⟨rfl, rfl⟩ := hq
  rw [show c + 2 = (((c + 2).toNat : Nat) : Int) by omega]
  refine ar_cv2 rfl rfl rfl (Nat.le_of_ble_eq_true rfl) (sq_ins (d := 0) (q := cpH q8 (some (5, lId q8 (wayS s b c).2.2)) 0 (rA s 56 (10 * (b : Int) + c)) 0 0) (t := 1003) (n := b) (i := (c + 2).toNat) rfl (by omega) (by rw [cpH_cn, if_neg (by omega)]; exact hcn2) (by rw [cpH_LS]; omega) (by rw [cpH_CP]; exact hcp2) (by rw [cpH_LS]; omega) ⟨rfl, by omega⟩) (by omega) (fun o q129 hq => ?_)
  obtain ⟨rfl, rfl⟩ := hq
  show am_W2 _ _ 132 _ _ (inH q8 b (c + 2).toNat (wayS s b c).2.2 0 0 (rA s 56 (10 * (b : Int) + c))) _
  have ecx : cId (inH q8 b (c + 2).toNat (wayS s b c).2.2 0 0 (rA s 56 (10 * (b : Int) + c))) b c.toNat = cId q8 b c.toNat := by { rw [inH_c (by omega), if_pos (by omega)] }
  rw [← ecx]
  refine ar_aload_n rfl rfl ?_
  refine ar_iconst rfl ?_
  refine ar_pfI rfl rfl rfl rfl (by omega) (Or.inl rfl) ?_
  refine ar_aload_n rfl rfl ?_
  refine ar_iconst rfl ?_
  refine ar_pfI rfl rfl rfl rfl (by omega) (Or.inl rfl) ?_
  refine ar_aload_n rfl rfl ?_
  refine ar_iconst rfl ?_
  refine ar_pfI rfl rfl rfl rfl (by omega) (Or.inl rfl) ?_
  refine ar_iconst rfl ?_
  have hs52 : rA (insC (insC s b (c + 1) (wayS s b c).2.1 (rA s 57 (10 * (b : Int) + c)) (rA s 58 (10 * (b : Int) + c)) (rA s 56 (10 * (b : Int) + c))) b (c + 2) (wayS s b c).2.2 0 0 (rA s 56 (10 * (b : Int) + c))) 52 (b : Int) = rA s 52 b + 2 := by { rw [ins_52, ins_52]; omega }
  have IY := CI_wc (f := 104) (j := 58) (v := 0) (c := c) (CI_wc (f := 103) (j := 57) (v := 0) (c := c) (CI_wc (f := 105) (j := 55) (v := 4) (c := c) (IX) rfl hb (by show 0 ≤ c ∧ c < rA (insC (insC s b (c + 1) (wayS s b c).2.1 (rA s 57 (10 * (b : Int) + c)) (rA s 58 (10 * (b : Int) + c)) (rA s 56 (10 * (b : Int) + c))) b (c + 2) (wayS s b c).2.2 0 0 (rA s 56 (10 * (b : Int) + c))) 52 (b : Int); rw [hs52]; omega) (fun lo hi h => by cases h; omega)) rfl hb (by show 0 ≤ c ∧ c < rA (insC (insC s b (c + 1) (wayS s b c).2.1 (rA s 57 (10 * (b : Int) + c)) (rA s 58 (10 * (b : Int) + c)) (rA s 56 (10 * (b : Int) + c))) b (c + 2) (wayS s b c).2.2 0 0 (rA s 56 (10 * (b : Int) + c))) 52 (b : Int); rw [hs52]; omega) (fun lo hi h => by cases h; omega)) rfl hb (by show 0 ≤ c ∧ c < rA (insC (insC s b (c + 1) (wayS s b c).2.1 (rA s 57 (10 * (b : Int) + c)) (rA s 58 (10 * (b : Int) + c)) (rA s 56 (10 * (b : Int) + c))) b (c + 2) (wayS s b c).2.2 0 0 (rA s 56 (10 * (b : Int) + c))) 52 (b : Int); rw [hs52]; omega) (fun lo hi h => by cases h; omega)
  have IZ := CI_mv B IY (mv_2 ⟨hc.1, hc.2⟩ hmv en) rfl
  exact ar_iret rfl (Or.inr ⟨rfl, Or.inr rfl⟩) ⟨by rw [if_pos hmv], IZ, CG_FI (CG_FI (CG_FI (CG_t hCG inH_CG) (by show cK 1; omega)) (by show cK 1; omega)) (by show cK 1; omega), fun l => (inH_l (q := q8) (b := b) (p := (c + 2).toNat) (l := (wayS s b c).2.2) (sh := 0) (tx := 0) (st := (rA s 56 (10 * (b : Int) + c))) l).trans (hll l), fun t i ht => ((hG2 t i (by omega)).2.2.2.2.2.1).trans (hls t i ht), by { rw [mv_f4]; omega }⟩
theorem cs_moveOn1 {d : Nat} {q : am_A} {e b : Nat} {s : am_Z} {c : Int} (I : am_CI e q s) (hb : (b : Int) < rI s 44) (hc : 0 ≤ c ∧ c < rA s 52 b) (h45 : 1 ≤ rA s 45 b) (h55 : rA s 55 (10 * b + c) ≤ 1) (hw1 : (wayS s b c).2.1 ≠ -1) (hw2 : (wayS s b c).2.2 = -1) : am_C2 (d + 7) m_X_moveOn [aR 8 0, aR 0 b, aR 1 (cId q b c.toNat)] q (fun o q' => o = .inl (some (aI (zI (if mvP s b c then 1 else 0)))) ∧ am_CI e q' (moveS s b c) ∧ am_CG q q' ∧ (∀ l, lId q' l = lId q l) ∧ (∀ t i : Nat, t = 1809 ∨ (t = 1003 ∧ i ≠ b) → qLS q' (t, i) = qLS q (t, i)) ∧ 2 ≤ qFI q' 105 (1, cId q b c.toNat)) := by
  refine am_C2_i (ls := [some (aR 8 0), some (aR 0 b), some (aR 1 (cId q b c.toNat)), none, none]) rfl ?_
  have V := I.1
  have B := CV_B V
  have b52 := B.1 52 b 0 10 rfl
  have hB := V.2.2.2.2.2.2.1.2.2.1 b hb
  have ec : 10 * (b : Int) + ((c.toNat : Nat) : Int) = 10 * b + c := by omega
  have hwl := way_lg (s := s) (b := b) (c := c)
  have hwn := way_n B (b := b) (c := c)
  have b56 := B.1 56 (10 * (b : Int) + c) 0 3 rfl
  have b57 := B.1 57 (10 * (b : Int) + c) (-2147483648) 2147483647 rfl
  have b58 := B.1 58 (10 * (b : Int) + c) 0 500 rfl
  have enw0 : nWay s b c = if (wayS s b c).2.1 = -1 then 0 else if (wayS s b c).2.2 = -1 then 1 else 2 := rfl
  have enw : nWay s b c = 1 := by { rw [enw0, if_neg hw1, if_pos hw2] }
  refine ar_aload_n rfl rfl ?_
  refine ar_aload_n rfl rfl ?_
  refine ar_aload_n rfl rfl ?_
  refine ar_cv2 rfl rfl rfl (Nat.le_of_ble_eq_true rfl) (cs_findDetour (d := 0) I hb hc h45 h55) (by omega) (fun o q3 hq => ?_)
  obtain ⟨rfl, I15, D15, S15, hG15⟩ := hq
  rw [← SM_c S15]
  have V15 := I15.1
  have hB15 := V15.2.2.2.2.2.2.1.2.2.1 b hb
  have hC15 := V15.2.2.2.2.2.2.1.2.2.2.1 b c.toNat hb (by omega)
  have hlen : ((qLS q3 (1003, b)).length : Int) = rA s 52 b := hB15.2.2.2.2.1
  have hcp10 := I15.2.1.2.2.2.2.2.2 b
  have hcn3 : b < qCN q3 1003 := by { have := I15.2.1.1.2.1; omega }
  have hne : ¬ (((1, cId q3 b c.toNat)) : am_R) = (1, qCN q3 1) := fun z => by { have := congrArg Prod.snd z; have h2 := hC15.2.1; simp only at this; omega }
  refine ar_aload_n rfl rfl ?_
  refine ar_gfR rfl rfl rfl (by omega) (V15.1.1 810 _ rfl) ?_
  refine ar_cv0 rfl rfl rfl (Nat.le_of_ble_eq_true rfl) (cs_dtLegsD (d := 0) D15) (by omega) (fun o q10 hq => am_B2_is ?_ hq)
  rw [← enw0]
  refine ar_stI3 rfl ?_
  refine ar_aload_n rfl rfl ?_
  refine ar_aload_n rfl rfl ?_
  refine ar_cv1 rfl rfl rfl (Nat.le_of_ble_eq_true rfl) (cs_placeOf (d := 0) V15 hb hc) (by omega) (fun o q16 hq => am_B2_is ?_ hq)
  refine ar_stI4 rfl ?_
  refine ar_iload_n rfl rfl ?_
  refine ar_if_eq rfl rfl (by omega) (fun ht => by omega) (fun h22 => ?_)
  refine ar_iload rfl rfl ?_
  refine ar_iconst rfl ?_
  refine ar_icmp_eq rfl rfl (by omega) (by omega) (fun ht => by omega) (fun h28 => ?_)
  refine ar_aload_n rfl rfl ?_
  refine ar_gfR rfl rfl rfl (by omega) (hB15.2.1.1) ?_
  refine ar_cv0 rfl rfl rfl (Nat.le_of_ble_eq_true rfl) (cl_szC (d := 0) V15 hb) (by omega) (fun o q35 hq => am_B2_is ?_ hq)
  refine ar_iload_n rfl rfl ?_
  refine ar_iadd rfl ?_
  refine ar_bipush (x := 10) rfl rfl ?_
  refine ar_icmp_le rfl rfl (by omega) (by omega) (fun h42 => ?_) (fun h42 => ?_)
  · have hmv : mvP s b c := ⟨by omega, by omega⟩
    have hl1 := hwl.1.resolve_left hw1
    have hG1 : am_GD (fun t i => (t = 1 ∧ i = qCN q3 1) ∨ (t = 1003 ∧ i = b)) q3 (inH q3 b (c + 1).toNat (wayS s b c).2.1 (rA s 57 (10 * (b : Int) + c)) (rA s 58 (10 * (b : Int) + c)) (rA s 56 (10 * (b : Int) + c))) := inH_G
    have I88 : am_CI e (inH q3 b (c + 1).toNat (wayS s b c).2.1 (rA s 57 (10 * (b : Int) + c)) (rA s 58 (10 * (b : Int) + c)) (rA s 56 (10 * (b : Int) + c))) (insC s b (c + 1) (wayS s b c).2.1 (rA s 57 (10 * (b : Int) + c)) (rA s 58 (10 * (b : Int) + c)) (rA s 56 (10 * (b : Int) + c))) := by { have z := CI_ins (p := (c + 1).toNat) (l := (wayS s b c).2.1) (sh := (rA s 57 (10 * (b : Int) + c))) (tx := (rA s 58 (10 * (b : Int) + c))) (st := (rA s 56 (10 * (b : Int) + c))) I15 hb (by omega) (by omega) hl1 (by omega) (by omega) (by omega); rw [show (((c + 1).toNat : Nat) : Int) = c + 1 by omega] at z; exact z }
    refine ar_aload_n rfl rfl ?_
    refine ar_gfR rfl rfl rfl (by omega) (hB15.2.1.1) ?_
    refine ar_iload rfl rfl ?_
    refine ar_iconst rfl ?_
    refine ar_iadd rfl ?_
    refine ar_new (kt := 1) rfl (by intro z; cases z) (by omega) ?_
    refine ar_dup rfl rfl ?_
    refine ar_aload_n rfl rfl ?_
    refine ar_gfR rfl rfl rfl (by omega) (V15.1.1 810 _ rfl) ?_
    refine ar_gfR rfl rfl rfl (by omega) (D15.1.trans (if_neg hw1)) ?_
    refine ar_iconst rfl ?_
    refine ar_aload_n rfl rfl ?_
    refine ar_gfIv rfl rfl rfl (by omega) ((if_neg hne).trans ((hC15.2.2.2.2 102 56 rfl).trans (by rw [ec]))) ?_
    refine ar_aload_n rfl rfl ?_
    refine ar_gfIv rfl rfl rfl (by omega) ((if_neg hne).trans ((hC15.2.2.2.2 103 57 rfl).trans (by rw [ec]))) ?_
    refine ar_aload_n rfl rfl ?_
    refine ar_gfIv rfl rfl rfl (by omega) ((if_neg hne).trans ((hC15.2.2.2.2 104 58 rfl).trans (by rw [ec]))) ?_
    refine ar_cv5 rfl rfl rfl (Nat.le_of_ble_eq_true rfl) (cs_Cp_init (d := 0) (c := qCN q3 1)) (by omega) (fun o q84 hq => ?_)
    obtain ⟨rfl, rfl⟩ := hq
    rw [show c + 1 = (((c + 1).toNat : Nat) : Int) by omega]
    refine ar_cv2 rfl rfl rfl (Nat.le_of_ble_eq_true rfl) (sq_ins (d := 0) (q := cpH q3 (some (5, lId q3 (wayS s b c).2.1)) 0 (rA s 56 (10 * (b : Int) + c)) (rA s 57 (10 * (b : Int) + c)) (rA s 58 (10 * (b : Int) + c))) (t := 1003) (n := b) (i := (c + 1).toNat) rfl (by omega) (by rw [cpH_cn, if_neg (by omega)]; exact hcn3) (by rw [cpH_LS]; omega) (by rw [cpH_CP]; exact hcp10) (by rw [cpH_LS]; omega) ⟨rfl, by omega⟩) (by omega) (fun o q87 hq => ?_)
    obtain ⟨rfl, rfl⟩ := hq
    show am_W2 _ _ 90 _ _ (inH q3 b (c + 1).toNat (wayS s b c).2.1 (rA s 57 (10 * (b : Int) + c)) (rA s 58 (10 * (b : Int) + c)) (rA s 56 (10 * (b : Int) + c))) _
    have V88 := I88.1
    have ecid : cId (inH q3 b (c + 1).toNat (wayS s b c).2.1 (rA s 57 (10 * (b : Int) + c)) (rA s 58 (10 * (b : Int) + c)) (rA s 56 (10 * (b : Int) + c))) b c.toNat = cId q3 b c.toNat := by { rw [inH_c (by omega), if_pos (by omega)] }
    rw [← ecid]
    have hll : ∀ l, lId (inH q3 b (c + 1).toNat (wayS s b c).2.1 (rA s 57 (10 * (b : Int) + c)) (rA s 58 (10 * (b : Int) + c)) (rA s 56 (10 * (b : Int) + c))) l = lId q l := fun l => (inH_l l).trans (SM_l S15 l)
    have hls : ∀ t i : Nat, t = 1809 ∨ (t = 1003 ∧ i ≠ b) → qLS (inH q3 b (c + 1).toNat (wayS s b c).2.1 (rA s 57 (10 * (b : Int) + c)) (rA s 58 (10 * (b : Int) + c)) (rA s 56 (10 * (b : Int) + c))) (t, i) = qLS q (t, i) := fun t i ht => ((hG1 t i (by omega)).2.2.2.2.2.1).trans (congrFun S15.2.1 _)
    have hCG : am_CG q (inH q3 b (c + 1).toNat (wayS s b c).2.1 (rA s 57 (10 * (b : Int) + c)) (rA s 58 (10 * (b : Int) + c)) (rA s 56 (10 * (b : Int) + c))) := CG_t hG15 inH_CG
    refine ar_aload_n rfl rfl ?_
    refine ar_gfR rfl rfl rfl (by omega) (V88.1.1 810 _ rfl) ?_
    refine ar_gfR rfl rfl rfl (by omega) (((hG1 2 0 (by omega)).2.1 201).trans (D15.2.1.trans (if_pos hw2))) ?_
    refine ar_ifnull rfl rfl (fun _ => ?_) (fun r hr => absurd hr (by simp))
    have IX := I88
    have en := enw
    refine ar_aload_n rfl rfl ?_
    refine ar_iconst rfl ?_
    refine ar_pfI rfl rfl rfl rfl (by omega) (Or.inl rfl) ?_
    refine ar_aload_n rfl rfl ?_
    refine ar_iconst rfl ?_
    refine ar_pfI rfl rfl rfl rfl (by omega) (Or.inl rfl) ?_
    refine ar_aload_n rfl rfl ?_
    refine ar_iconst rfl ?_
    refine ar_pfI rfl rfl rfl rfl (by omega) (Or.inl rfl) ?_
    refine ar_iconst rfl ?_
    have hs52 : rA (insC s b (c + 1) (wayS s b c).2.1 (rA s 57 (10 * (b : Int) + c)) (rA s 58 (10 * (b : Int) + c)) (rA s 56 (10 * (b : Int) + c))) 52 (b : Int) = rA s 52 b + 1 := by { exact ins_52 }
    have IY := CI_wc (f := 104) (j := 58) (v := 0) (c := c) (CI_wc (f := 103) (j := 57) (v := 0) (c := c) (CI_wc (f := 105) (j := 55) (v := 4) (c := c) (IX) rfl hb (by show 0 ≤ c ∧ c < rA (insC s b (c + 1) (wayS s b c).2.1 (rA s 57 (10 * (b : Int) + c)) (rA s 58 (10 * (b : Int) + c)) (rA s 56 (10 * (b : Int) + c))) 52 (b : Int); rw [hs52]; omega) (fun lo hi h => by cases h; omega)) rfl hb (by show 0 ≤ c ∧ c < rA (insC s b (c + 1) (wayS s b c).2.1 (rA s 57 (10 * (b : Int) + c)) (rA s 58 (10 * (b : Int) + c)) (rA s 56 (10 * (b : Int) + c))) 52 (b : Int); rw [hs52]; omega) (fun lo hi h => by cases h; omega)) rfl hb (by show 0 ≤ c ∧ c < rA (insC s b (c + 1) (wayS s b c).2.1 (rA s 57 (10 * (b : Int) + c)) (rA s 58 (10 * (b : Int) + c)) (rA s 56 (10 * (b : Int) + c))) 52 (b : Int); rw [hs52]; omega) (fun lo hi h => by cases h; omega)
    have IZ := CI_mv B IY (mv_1 ⟨hc.1, hc.2⟩ hmv en) rfl
    exact ar_iret rfl (Or.inr ⟨rfl, Or.inr rfl⟩) ⟨by rw [if_pos hmv], IZ, CG_FI (CG_FI (CG_FI (hCG) (by show cK 1; omega)) (by show cK 1; omega)) (by show cK 1; omega), fun l => hll l, hls, by { rw [mv_f4]; omega }⟩
  · refine ar_aload_n rfl rfl ?_
    refine ar_iconst rfl ?_
    refine ar_pfI rfl rfl rfl rfl (by omega) (Or.inl rfl) ?_
    refine ar_iconst rfl ?_
    have hnm : ¬ mvP s b c := fun z => by have z1 := z.1; have z2 := z.2; omega
    have IA : am_CI e (uFI q3 105 (1, cId q3 b c.toNat) 5) (moveS s b c) := by { have z := CI_wc (f := 105) (j := 55) (v := 5) (c := c) I15 rfl hb hc (fun lo hi h => by cases h; omega); exact CI_mv B z (fun j x => by { unfold moveS; rw [if_neg hnm]; rfl }) rfl }
    exact ar_iret rfl (Or.inr ⟨rfl, Or.inl rfl⟩) ⟨by rw [if_neg hnm], IA, CG_FI hG15 (by show cK 1; omega), fun l => SM_l S15 l, fun t i _ => congrFun S15.2.1 _, by { rw [show qFI (uFI q3 105 (1, cId q3 b c.toNat) 5) 105 (1, cId q3 b c.toNat) = 5 from if_pos ⟨rfl, rfl⟩]; omega }⟩
theorem cs_moveOn2 {d : Nat} {q : am_A} {e b : Nat} {s : am_Z} {c : Int} (I : am_CI e q s) (hb : (b : Int) < rI s 44) (hc : 0 ≤ c ∧ c < rA s 52 b) (h45 : 1 ≤ rA s 45 b) (h55 : rA s 55 (10 * b + c) ≤ 1) (hw1 : (wayS s b c).2.1 ≠ -1) (hw2 : (wayS s b c).2.2 ≠ -1) : am_C2 (d + 7) m_X_moveOn [aR 8 0, aR 0 b, aR 1 (cId q b c.toNat)] q (fun o q' => o = .inl (some (aI (zI (if mvP s b c then 1 else 0)))) ∧ am_CI e q' (moveS s b c) ∧ am_CG q q' ∧ (∀ l, lId q' l = lId q l) ∧ (∀ t i : Nat, t = 1809 ∨ (t = 1003 ∧ i ≠ b) → qLS q' (t, i) = qLS q (t, i)) ∧ 2 ≤ qFI q' 105 (1, cId q b c.toNat)) := by
  refine am_C2_i (ls := [some (aR 8 0), some (aR 0 b), some (aR 1 (cId q b c.toNat)), none, none]) rfl ?_
  have V := I.1
  have B := CV_B V
  have b52 := B.1 52 b 0 10 rfl
  have hB := V.2.2.2.2.2.2.1.2.2.1 b hb
  have ec : 10 * (b : Int) + ((c.toNat : Nat) : Int) = 10 * b + c := by omega
  have hwl := way_lg (s := s) (b := b) (c := c)
  have hwn := way_n B (b := b) (c := c)
  have b56 := B.1 56 (10 * (b : Int) + c) 0 3 rfl
  have b57 := B.1 57 (10 * (b : Int) + c) (-2147483648) 2147483647 rfl
  have b58 := B.1 58 (10 * (b : Int) + c) 0 500 rfl
  have enw0 : nWay s b c = if (wayS s b c).2.1 = -1 then 0 else if (wayS s b c).2.2 = -1 then 1 else 2 := rfl
  have enw : nWay s b c = 2 := by { rw [enw0, if_neg hw1, if_neg hw2] }
  refine ar_aload_n rfl rfl ?_
  refine ar_aload_n rfl rfl ?_
  refine ar_aload_n rfl rfl ?_
  refine ar_cv2 rfl rfl rfl (Nat.le_of_ble_eq_true rfl) (cs_findDetour (d := 0) I hb hc h45 h55) (by omega) (fun o q3 hq => ?_)
  obtain ⟨rfl, I15, D15, S15, hG15⟩ := hq
  rw [← SM_c S15]
  have V15 := I15.1
  have hB15 := V15.2.2.2.2.2.2.1.2.2.1 b hb
  have hC15 := V15.2.2.2.2.2.2.1.2.2.2.1 b c.toNat hb (by omega)
  have hlen : ((qLS q3 (1003, b)).length : Int) = rA s 52 b := hB15.2.2.2.2.1
  have hcp10 := I15.2.1.2.2.2.2.2.2 b
  have hcn3 : b < qCN q3 1003 := by { have := I15.2.1.1.2.1; omega }
  have hne : ¬ (((1, cId q3 b c.toNat)) : am_R) = (1, qCN q3 1) := fun z => by { have := congrArg Prod.snd z; have h2 := hC15.2.1; simp only at this; omega }
  refine ar_aload_n rfl rfl ?_
  refine ar_gfR rfl rfl rfl (by omega) (V15.1.1 810 _ rfl) ?_
  refine ar_cv0 rfl rfl rfl (Nat.le_of_ble_eq_true rfl) (cs_dtLegsD (d := 0) D15) (by omega) (fun o q10 hq => am_B2_is ?_ hq)
  rw [← enw0]
  refine ar_stI3 rfl ?_
  refine ar_aload_n rfl rfl ?_
  refine ar_aload_n rfl rfl ?_
  refine ar_cv1 rfl rfl rfl (Nat.le_of_ble_eq_true rfl) (cs_placeOf (d := 0) V15 hb hc) (by omega) (fun o q16 hq => am_B2_is ?_ hq)
  refine ar_stI4 rfl ?_
  refine ar_iload_n rfl rfl ?_
  refine ar_if_eq rfl rfl (by omega) (fun ht => by omega) (fun h22 => ?_)
  refine ar_iload rfl rfl ?_
  refine ar_iconst rfl ?_
  refine ar_icmp_eq rfl rfl (by omega) (by omega) (fun ht => by omega) (fun h28 => ?_)
  refine ar_aload_n rfl rfl ?_
  refine ar_gfR rfl rfl rfl (by omega) (hB15.2.1.1) ?_
  refine ar_cv0 rfl rfl rfl (Nat.le_of_ble_eq_true rfl) (cl_szC (d := 0) V15 hb) (by omega) (fun o q35 hq => am_B2_is ?_ hq)
  refine ar_iload_n rfl rfl ?_
  refine ar_iadd rfl ?_
  refine ar_bipush (x := 10) rfl rfl ?_
  refine ar_icmp_le rfl rfl (by omega) (by omega) (fun h42 => ?_) (fun h42 => ?_)
  · have hmv : mvP s b c := ⟨by omega, by omega⟩
    have hl1 := hwl.1.resolve_left hw1
    have hG1 : am_GD (fun t i => (t = 1 ∧ i = qCN q3 1) ∨ (t = 1003 ∧ i = b)) q3 (inH q3 b (c + 1).toNat (wayS s b c).2.1 (rA s 57 (10 * (b : Int) + c)) (rA s 58 (10 * (b : Int) + c)) (rA s 56 (10 * (b : Int) + c))) := inH_G
    have I88 : am_CI e (inH q3 b (c + 1).toNat (wayS s b c).2.1 (rA s 57 (10 * (b : Int) + c)) (rA s 58 (10 * (b : Int) + c)) (rA s 56 (10 * (b : Int) + c))) (insC s b (c + 1) (wayS s b c).2.1 (rA s 57 (10 * (b : Int) + c)) (rA s 58 (10 * (b : Int) + c)) (rA s 56 (10 * (b : Int) + c))) := by { have z := CI_ins (p := (c + 1).toNat) (l := (wayS s b c).2.1) (sh := (rA s 57 (10 * (b : Int) + c))) (tx := (rA s 58 (10 * (b : Int) + c))) (st := (rA s 56 (10 * (b : Int) + c))) I15 hb (by omega) (by omega) hl1 (by omega) (by omega) (by omega); rw [show (((c + 1).toNat : Nat) : Int) = c + 1 by omega] at z; exact z }
    refine ar_aload_n rfl rfl ?_
    refine ar_gfR rfl rfl rfl (by omega) (hB15.2.1.1) ?_
    refine ar_iload rfl rfl ?_
    refine ar_iconst rfl ?_
    refine ar_iadd rfl ?_
    refine ar_new (kt := 1) rfl (by intro z; cases z) (by omega) ?_
    refine ar_dup rfl rfl ?_
    refine ar_aload_n rfl rfl ?_
    refine ar_gfR rfl rfl rfl (by omega) (V15.1.1 810 _ rfl) ?_
    refine ar_gfR rfl rfl rfl (by omega) (D15.1.trans (if_neg hw1)) ?_
    refine ar_iconst rfl ?_
    refine ar_aload_n rfl rfl ?_
    refine ar_gfIv rfl rfl rfl (by omega) ((if_neg hne).trans ((hC15.2.2.2.2 102 56 rfl).trans (by rw [ec]))) ?_
    refine ar_aload_n rfl rfl ?_
    refine ar_gfIv rfl rfl rfl (by omega) ((if_neg hne).trans ((hC15.2.2.2.2 103 57 rfl).trans (by rw [ec]))) ?_
    refine ar_aload_n rfl rfl ?_
    refine ar_gfIv rfl rfl rfl (by omega) ((if_neg hne).trans ((hC15.2.2.2.2 104 58 rfl).trans (by rw [ec]))) ?_
    refine ar_cv5 rfl rfl rfl (Nat.le_of_ble_eq_true rfl) (cs_Cp_init (d := 0) (c := qCN q3 1)) (by omega) (fun o q84 hq => ?_)
    obtain ⟨rfl, rfl⟩ := hq
    rw [show c + 1 = (((c + 1).toNat : Nat) : Int) by omega]
    refine ar_cv2 rfl rfl rfl (Nat.le_of_ble_eq_true rfl) (sq_ins (d := 0) (q := cpH q3 (some (5, lId q3 (wayS s b c).2.1)) 0 (rA s 56 (10 * (b : Int) + c)) (rA s 57 (10 * (b : Int) + c)) (rA s 58 (10 * (b : Int) + c))) (t := 1003) (n := b) (i := (c + 1).toNat) rfl (by omega) (by rw [cpH_cn, if_neg (by omega)]; exact hcn3) (by rw [cpH_LS]; omega) (by rw [cpH_CP]; exact hcp10) (by rw [cpH_LS]; omega) ⟨rfl, by omega⟩) (by omega) (fun o q87 hq => ?_)
    obtain ⟨rfl, rfl⟩ := hq
    show am_W2 _ _ 90 _ _ (inH q3 b (c + 1).toNat (wayS s b c).2.1 (rA s 57 (10 * (b : Int) + c)) (rA s 58 (10 * (b : Int) + c)) (rA s 56 (10 * (b : Int) + c))) _
    have V88 := I88.1
    have ecid : cId (inH q3 b (c + 1).toNat (wayS s b c).2.1 (rA s 57 (10 * (b : Int) + c)) (rA s 58 (10 * (b : Int) + c)) (rA s 56 (10 * (b : Int) + c))) b c.toNat = cId q3 b c.toNat := by { rw [inH_c (by omega), if_pos (by omega)] }
    rw [← ecid]
    have hll : ∀ l, lId (inH q3 b (c + 1).toNat (wayS s b c).2.1 (rA s 57 (10 * (b : Int) + c)) (rA s 58 (10 * (b : Int) + c)) (rA s 56 (10 * (b : Int) + c))) l = lId q l := fun l => (inH_l l).trans (SM_l S15 l)
    have hls : ∀ t i : Nat, t = 1809 ∨ (t = 1003 ∧ i ≠ b) → qLS (inH q3 b (c + 1).toNat (wayS s b c).2.1 (rA s 57 (10 * (b : Int) + c)) (rA s 58 (10 * (b : Int) + c)) (rA s 56 (10 * (b : Int) + c))) (t, i) = qLS q (t, i) := fun t i ht => ((hG1 t i (by omega)).2.2.2.2.2.1).trans (congrFun S15.2.1 _)
    have hCG : am_CG q (inH q3 b (c + 1).toNat (wayS s b c).2.1 (rA s 57 (10 * (b : Int) + c)) (rA s 58 (10 * (b : Int) + c)) (rA s 56 (10 * (b : Int) + c))) := CG_t hG15 inH_CG
    refine ar_aload_n rfl rfl ?_
    refine ar_gfR rfl rfl rfl (by omega) (V88.1.1 810 _ rfl) ?_
    refine ar_gfR rfl rfl rfl (by omega) (((hG1 2 0 (by omega)).2.1 201).trans (D15.2.1.trans (if_neg hw2))) ?_
    refine ar_ifnull rfl rfl (fun hn => absurd hn (by simp)) (fun _ _ => ?_)
    exact mv2_rest (d := d + 5) (q := q) (q8 := (inH q3 b (c + 1).toNat (wayS s b c).2.1 (rA s 57 (10 * (b : Int) + c)) (rA s 58 (10 * (b : Int) + c)) (rA s 56 (10 * (b : Int) + c)))) B I88 hb hc (by omega) hw1 hw2 hmv enw (((hG1 2 0 (by omega)).2.1 201).trans (D15.2.1.trans (show oLg q3 (wayS s b c).2.2 = some (5, lId (inH q3 b (c + 1).toNat (wayS s b c).2.1 (rA s 57 (10 * (b : Int) + c)) (rA s 58 (10 * (b : Int) + c)) (rA s 56 (10 * (b : Int) + c))) (wayS s b c).2.2) from (if_neg hw2).trans (by rw [hll, SM_l S15])))) hCG hll hls
  · refine ar_aload_n rfl rfl ?_
    refine ar_iconst rfl ?_
    refine ar_pfI rfl rfl rfl rfl (by omega) (Or.inl rfl) ?_
    refine ar_iconst rfl ?_
    have hnm : ¬ mvP s b c := fun z => by have z1 := z.1; have z2 := z.2; omega
    have IA : am_CI e (uFI q3 105 (1, cId q3 b c.toNat) 5) (moveS s b c) := by { have z := CI_wc (f := 105) (j := 55) (v := 5) (c := c) I15 rfl hb hc (fun lo hi h => by cases h; omega); exact CI_mv B z (fun j x => by { unfold moveS; rw [if_neg hnm]; rfl }) rfl }
    exact ar_iret rfl (Or.inr ⟨rfl, Or.inl rfl⟩) ⟨by rw [if_neg hnm], IA, CG_FI hG15 (by show cK 1; omega), fun l => SM_l S15 l, fun t i _ => congrFun S15.2.1 _, by { rw [show qFI (uFI q3 105 (1, cId q3 b c.toNat) 5) 105 (1, cId q3 b c.toNat) = 5 from if_pos ⟨rfl, rfl⟩]; omega }⟩
theorem cs_moveOn0 {d : Nat} {q : am_A} {e b : Nat} {s : am_Z} {c : Int} (I : am_CI e q s) (hb : (b : Int) < rI s 44) (hc : 0 ≤ c ∧ c < rA s 52 b) (h45 : 1 ≤ rA s 45 b) (h55 : rA s 55 (10 * b + c) ≤ 1) (hw1 : (wayS s b c).2.1 = -1) : am_C2 (d + 7) m_X_moveOn [aR 8 0, aR 0 b, aR 1 (cId q b c.toNat)] q (fun o q' => o = .inl (some (aI (zI (if mvP s b c then 1 else 0)))) ∧ am_CI e q' (moveS s b c) ∧ am_CG q q' ∧ (∀ l, lId q' l = lId q l) ∧ (∀ t i : Nat, t = 1809 ∨ (t = 1003 ∧ i ≠ b) → qLS q' (t, i) = qLS q (t, i)) ∧ 2 ≤ qFI q' 105 (1, cId q b c.toNat)) := by
  refine am_C2_i (ls := [some (aR 8 0), some (aR 0 b), some (aR 1 (cId q b c.toNat)), none, none]) rfl ?_
  have V := I.1
  have B := CV_B V
  have b52 := B.1 52 b 0 10 rfl
  have hB := V.2.2.2.2.2.2.1.2.2.1 b hb
  have ec : 10 * (b : Int) + ((c.toNat : Nat) : Int) = 10 * b + c := by omega
  have hwl := way_lg (s := s) (b := b) (c := c)
  have hwn := way_n B (b := b) (c := c)
  have b56 := B.1 56 (10 * (b : Int) + c) 0 3 rfl
  have b57 := B.1 57 (10 * (b : Int) + c) (-2147483648) 2147483647 rfl
  have b58 := B.1 58 (10 * (b : Int) + c) 0 500 rfl
  have enw0 : nWay s b c = if (wayS s b c).2.1 = -1 then 0 else if (wayS s b c).2.2 = -1 then 1 else 2 := rfl
  have enw : nWay s b c = 0 := by { rw [enw0, if_pos hw1] }
  refine ar_aload_n rfl rfl ?_
  refine ar_aload_n rfl rfl ?_
  refine ar_aload_n rfl rfl ?_
  refine ar_cv2 rfl rfl rfl (Nat.le_of_ble_eq_true rfl) (cs_findDetour (d := 0) I hb hc h45 h55) (by omega) (fun o q3 hq => ?_)
  obtain ⟨rfl, I15, D15, S15, hG15⟩ := hq
  rw [← SM_c S15]
  have V15 := I15.1
  refine ar_aload_n rfl rfl ?_
  refine ar_gfR rfl rfl rfl (by omega) (V15.1.1 810 _ rfl) ?_
  refine ar_cv0 rfl rfl rfl (Nat.le_of_ble_eq_true rfl) (cs_dtLegsD (d := 0) D15) (by omega) (fun o q10 hq => am_B2_is ?_ hq)
  rw [← enw0]
  refine ar_stI3 rfl ?_
  refine ar_aload_n rfl rfl ?_
  refine ar_aload_n rfl rfl ?_
  refine ar_cv1 rfl rfl rfl (Nat.le_of_ble_eq_true rfl) (cs_placeOf (d := 0) V15 hb hc) (by omega) (fun o q16 hq => am_B2_is ?_ hq)
  refine ar_stI4 rfl ?_
  refine ar_iload_n rfl rfl ?_
  refine ar_if_eq rfl rfl (by omega) (fun h22 => ?_) (fun hf => by omega)
  refine ar_aload_n rfl rfl ?_
  refine ar_iconst rfl ?_
  refine ar_pfI rfl rfl rfl rfl (by omega) (Or.inl rfl) ?_
  refine ar_iconst rfl ?_
  have hnm : ¬ mvP s b c := fun z => by have z1 := z.1; omega
  have IA : am_CI e (uFI q3 105 (1, cId q3 b c.toNat) 5) (moveS s b c) := by { have z := CI_wc (f := 105) (j := 55) (v := 5) (c := c) I15 rfl hb hc (fun lo hi h => by cases h; omega); exact CI_mv B z (fun j x => by { unfold moveS; rw [if_neg hnm]; rfl }) rfl }
  exact ar_iret rfl (Or.inr ⟨rfl, Or.inl rfl⟩) ⟨by rw [if_neg hnm], IA, CG_FI hG15 (by show cK 1; omega), fun l => SM_l S15 l, fun t i _ => congrFun S15.2.1 _, by { rw [show qFI (uFI q3 105 (1, cId q3 b c.toNat) 5) 105 (1, cId q3 b c.toNat) = 5 from if_pos ⟨rfl, rfl⟩]; omega }⟩
end

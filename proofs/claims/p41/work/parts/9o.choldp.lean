noncomputable section
theorem aI_ne {q : am_A} {r r' : am_R} {k k' : Nat} {v : Int} (h : r'.1 ≠ r.1) : qAI (uAI q r k v) r' k' = qAI q r' k' := u2_ne (g := qAI q) h
section HPD
variable {s : am_Z} {W : am_wQ} {n p mb hh : Int}
theorem wq_s (Q : am_WQ s W) (hok : okP W.2) (hl : pLen W.2 = n) {i : Nat} (hi : i ≤ W.2.length) : sumI 0 i (rA s 39) = sumI 0 i (fun k => pC W.2 k.toNat) := sumI_c (fun k h1 h2 => by
  have z := (Q.2.2.2 k.toNat (by omega)).2
  rw [show ((k.toNat : Nat) : Int) = k by omega] at z
  exact z)
theorem wq_S (Q : am_WQ s W) (hok : okP W.2) (hl : pLen W.2 = n) : (∀ i : Nat, (i : Int) < rI s 38 → 1 ≤ rA s 39 i) ∧ (∀ i : Nat, (i : Int) < rI s 38 → 0 ≤ sumI 0 i (rA s 39) ∧ sumI 0 i (rA s 39) + rA s 39 i ≤ n) ∧ sumI 0 W.2.length (rA s 39) = n := by
  have h38 := Q.2.1
  refine ⟨fun i hi => ?_, fun i hi => ?_, ?_⟩
  · rw [(Q.2.2.2 i (by omega)).2]
    exact (okP_F hok (by omega)).2
  · have z := pLen_part hok (i := i) (by omega)
    have y := pLen_part hok (i := i + 1) (by omega)
    rw [← wq_s Q hok hl (by omega)] at z y
    rw [sumI_s, Int.zero_add] at y
    omega
  · rw [wq_s Q hok hl (Nat.le_refl _), ← pLen_take (w := W.2) (Nat.le_refl _), List.take_length]
    exact hl
theorem bkT_52 : rA (bkT s p mb hh) 52 (rI s 44) = rI s 35 := by
  unfold bkT
  rw [(itX_u (g := bkB (rI s 44)) (fun i X => bkB_u) (rI s 38).toNat (bk0 s (rI s 44) p mb hh, 0)).1 52 _ rfl]
  show rA (bk0 s (rI s 44) p mb hh) 52 (rI s 44) = _
  unfold bk0
  rw [wA_A, if_pos ⟨rfl, rfl⟩]
theorem ZU_S {Z : am_Z} {b t : Int} (U : am_ZU s Z) : am_ZU s (bkS Z b t) := fun j x h => (bkS_o (by omega)).trans (U j x h)
theorem ZU_0 : am_ZU s (bk0 s (rI s 44) p mb hh) := fun j x h => bk0_39 j x (by omega)
theorem CI_bkT {e N : Nat} {q q1 : am_A} (I : am_CI e q s) (hN : N = (rI s 44).toNat) (h39 : rI s 44 ≤ 39) (bp : 1 ≤ p ∧ p ≤ 9) (bm : -1 ≤ mb ∧ mb ≤ 4) (bh : 1 ≤ hh ∧ hh ≤ 72) (e35 : rI s 35 = n) (n4 : 1 ≤ n ∧ n ≤ 4) (Q : am_WQ s W) (hok : okP W.2) (hl : pLen W.2 = n) (H : am_HB e q N n.toNat q1 s (bkT s p mb hh)) (hc : (qLS q1 (1806, 0)).length ≤ qCP q1 (1806, 0)) : am_CI e (qAdd q1 (1806, 0) (0, N)) (bkT s p mb hh) := by
  have b44 := (CV_B I.1).2.1 44 0 40 rfl
  have eN : ((N : Nat) : Int) = rI s 44 := by omega
  obtain ⟨h1, h2, h3, h4⟩ := H
  have w := wq_S Q hok hl
  have hS : ∀ i : Nat, (i : Int) < rI s 38 → 0 ≤ sumI 0 i (rA s 39) := fun i hi => (w.2.1 i hi).1
  have ms : ∀ j x, (j < 45 ∨ 60 < j) → rA (bkT s p mb hh) j x = rA s j x := fun j x h => bkT_U hS (Or.inl h)
  have mB : ∀ j x, 45 ≤ j → j ≤ 52 → x ≠ rI s 44 → rA (bkT s p mb hh) j x = rA s j x := fun j x a b c => bkT_U hS (Or.inr (Or.inl ⟨a, b, c⟩))
  have n44 : rI (bkT s p mb hh) 44 = rI s 44 + 1 := (bkT_I 44).trans (if_pos rfl)
  have nn : ∀ j, j ≠ 44 → rI (bkT s p mb hh) j = rI s j := fun j h => (bkT_I j).trans (if_neg h)
  have t52 : rA (bkT s p mb hh) 52 ((N : Nat) : Int) = (n.toNat : Nat) := by rw [eN, bkT_52, e35]; omega
  have V := CV_pub I h1 hN h39 ms mB (fun j x a b c => bkT_U hS (Or.inr (Or.inr (Or.inl ⟨a, b, c⟩)))) (fun j x a b => bkT_U hS (Or.inr (Or.inr (Or.inr ⟨a, b⟩)))) n44 nn (bkT_B (CV_B I.1) (by omega) (by omega) bm bh w.1 (fun i hi => by have := w.2.1 i hi; omega)) h2 h3 t52 h4
  exact CI_pub I h1 hN V h39 ms mB n44 nn t52 hc
end HPD
theorem bkB_e {s : am_Z} {X : am_X} {N j : Nat} {n fa c : Int} {f : Int → Int} (U : am_ZU s X.1) (hJ : ∀ k, 0 ≤ k → k < n → rA s 36 k = f k) (n4 : n ≤ 4) (ha : 0 ≤ X.2) (hc : 1 ≤ c ∧ X.2 + c ≤ n) (hF : rA s 40 j = fa) (hC : rA s 39 j = c) : (bkB N j X).1 = (itX (bkC N j fa X.2 c (sumI X.2 c.toNat (fun k => rA s 8 (f k / 100)))) c.toNat (bkS X.1 N j, rA s 25 fa)).1 ∧ (bkB N j X).2 = X.2 + c := by
  have e40 : rA X.1 40 j = fa := (U 40 _ (by omega)).trans hF
  have e39 : rA X.1 39 j = c := (U 39 _ (by omega)).trans hC
  unfold bkB
  rw [e40, e39, U 25 _ (by omega), show sumI X.2 c.toNat (fLen X.1) = sumI X.2 c.toNat (fun k => rA s 8 (f k / 100)) from sumI_c (fun k h1 h2 => fl_Z U hJ (by omega))]
  exact ⟨rfl, rfl⟩
theorem lp_hp {d : Nat} {q : am_A} {Q : am_O → am_A → Prop} {e N : Nat} {s : am_Z} {t i : Nat} {n : Int} {f : Int → Int} (I : am_CI e q s) (hN : N = (rI s 44).toNat) (h40 : N < 40) (hk : am_kc t = some 10) (h30 : t ≠ 30) (htt : ¬ (t = 1003)) (hn : i < qCN q t) (L : am_LL q s (t, i) n f) (n4 : 1 ≤ n ∧ n ≤ 4) (hJ : ∀ k, 0 ≤ k → k < n → rA s 36 k = f k) (hnd : ¬ nbD q N t i) {W : am_wQ} (bW : am_BW q s W) (Q0 : am_WQ s W) (hok : okP W.2) (hl : pLen W.2 = n) (hlen : ∀ k, 0 ≤ k → k < n → 1 ≤ rA s 8 (f k / 100)) {p mb hh : Int} {sl : Int} : ∀ (m : Nat) (j : Nat) (k : Int) (q1 : am_A) (X : am_X) (x8 : Option am_V), W.2.length + 1 - j < m → (k = j ∧ j ≤ W.2.length ∧ X = itX (bkB N) j (bk0 s (rI s 44) p mb hh, 0) ∧ am_HB e q N X.2.toNat q1 s X.1 ∧ am_ZU s X.1) → (∀ x7 x8 q2 X, X = itX (bkB N) W.2.length (bk0 s (rI s 44) p mb hh, 0) → am_HB e q N X.2.toNat q2 s X.1 → am_W2 (d + 7) m_X_holdPriced 145 [some (aR 8 0), some (aR t i), some (aI (zI p)), some (aI (zI mb)), some (aI (zI hh)), some (aI (zI sl)), some (aR 0 N), x7, x8] [] (q2) Q) → am_W2 (d + 7) m_X_holdPriced 54 [some (aR 8 0), some (aR t i), some (aI (zI p)), some (aI (zI mb)), some (aI (zI hh)), some (aI (zI sl)), some (aR 0 N), some (aI (zI k)), x8] [] (q1) Q := by
  intro m
  induction m with
  | zero => intro j k q1 X x8 hm; exact absurd hm (Nat.not_lt_zero _)
  | succ m ih =>
    intro j k q1 X x8 hm ⟨hk0, hj2, hX, H, U⟩ K
    subst hk0
    have h0 := H.1
    have V := NB_CV h0 I hN
    have B := CV_B V
    have h4 := bW.2.1
    have w := wq_S Q0 hok hl
    have h38 := Q0.2.1
    have hX2 : X.2 = sumI 0 j (rA s 39) := by { rw [hX, itB_2]; show 0 + sumI 0 j (rA (bk0 s (rI s 44) p mb hh) 39) = _; rw [show rA (bk0 s (rI s 44) p mb hh) 39 = rA s 39 from funext (fun x => bk0_39 39 x (by omega)), Int.zero_add] }
    refine ar_iload rfl rfl ?_
    refine ar_aload_n rfl rfl ?_
    refine ar_gfR rfl rfl rfl (by omega) (V.1.1 805 _ rfl) ?_
    refine ar_gfR rfl rfl rfl (by omega) (V.1.2.1 603 _ rfl) ?_
    refine ar_cv0 rfl rfl rfl (Nat.le_of_ble_eq_true rfl) (sq_size (d := 0) rfl (by omega) (V.1.2.2.2 1603 rfl)) (by omega) (fun o q63 hq => am_B2_is ?_ hq)
    have eL : qLS q1 (1603, 0) = qLS q (1603, 0) := (h0.1 1603 0 (by unfold nbD; omega)).2.2.2.2.2.1
    rw [show ((qLS q1 (1603, 0)).length : Int) = (W.2.length : Int) from by { rw [eL]; exact bW.1 }]
    refine ar_icmp_ge rfl rfl (by omega) (by omega) (fun h66 => ?_) (fun h66 => ?_)
    · have ej : j = W.2.length := by omega
      rw [ej] at hX
      exact K _ _ _ _ hX H
    · refine ar_iload rfl rfl ?_
      refine ar_iconst rfl ?_
      refine ar_icmp_ge rfl rfl (by omega) (by omega) (fun h72 => ?_) (fun h72 => ?_)
      · have ej : j = W.2.length := by omega
        rw [ej] at hX
        exact K _ _ _ _ hX H
      · have hW := bW.2.2 j (by omega)
        have hQ := Q0.2.2.2 j (by omega)
        have wj := w.2.1 j (by omega)
        have wj1 := w.1 j (by omega)
        have hfa := hW.2.2
        have ha : 0 ≤ X.2 := by omega
        have hc : 1 ≤ pC W.2 j ∧ X.2 + pC W.2 j ≤ n := by { rw [← hQ.2]; omega }
        have hA := (V.2.2.2.2.1.2.2 (pF W.2 j).toNat (by omega)).1
        have ef : (((pF W.2 j).toNat : Nat) : Int) = pF W.2 j := by omega
        have b25 := B.1 25 (pF W.2 j) 0 5000 rfl
        have b32 := B.1 32 (pF W.2 j) 0 100 rfl
        have g1603 : (qLS q1 (1603, 0))[j]? = some (3, (pF W.2 j).toNat) := by { rw [eL]; exact hW.1 }
        have g1604 : qAI q1 (1604, 0) j = pC W.2 j := ((h0.1 1604 0 (by unfold nbD; omega)).2.2.1 j).trans hW.2.1
        have e1604 : ∀ x y, qAI (uAI (uAI q1 (1004, N) ((j : Nat) : Int).toNat x) (1005, N) ((j : Nat) : Int).toNat y) (1604, 0) ((j : Nat) : Int).toNat = pC W.2 j := fun x y => (aI_ne (by show (1604 : Nat) ≠ 1005; omega)).trans ((aI_ne (by show (1604 : Nat) ≠ 1004; omega)).trans g1604)
        refine ar_aload_n rfl rfl ?_
        refine ar_gfR rfl rfl rfl (by omega) (V.1.1 805 _ rfl) ?_
        refine ar_gfR rfl rfl rfl (by omega) (V.1.2.1 603 _ rfl) ?_
        refine ar_iload rfl rfl ?_
        refine ar_cv1 rfl rfl rfl (Nat.le_of_ble_eq_true rfl) (sq_get (d := 0) (j := j) rfl (by omega) (V.1.2.2.2 1603 rfl) rfl g1603) (by omega) (fun o q84 hq => am_B2_is ?_ hq)
        refine ar_cast rfl rfl rfl ?_
        refine ar_stA8 rfl ?_
        refine ar_aload rfl rfl ?_
        refine ar_gfR rfl rfl rfl (by omega) (h0.2.2.2.2.1.2.1) ?_
        refine ar_iload rfl rfl ?_
        refine ar_aload rfl rfl ?_
        refine ar_gfIv rfl rfl rfl (by omega) ((hA 305 25 rfl).trans (by rw [ef])) ?_
        refine ar_ias rfl ⟨rfl, by omega⟩ (h0.2.2.2.2.2.1.1) (by omega) (by omega) ?_
        refine ar_aload rfl rfl ?_
        refine ar_gfR rfl rfl rfl (by omega) (h0.2.2.2.2.1.2.2) ?_
        refine ar_iload rfl rfl ?_
        refine ar_aload rfl rfl ?_
        refine ar_gfIv rfl rfl rfl (by omega) ((hA 312 32 rfl).trans (by rw [ef])) ?_
        refine ar_ias rfl ⟨rfl, by omega⟩ (h0.2.2.2.2.2.1.2) (by omega) (by omega) ?_
        refine ar_aload_n rfl rfl ?_
        refine ar_aload rfl rfl ?_
        refine ar_iload rfl rfl ?_
        refine ar_aload rfl rfl ?_
        refine ar_aload_n rfl rfl ?_
        refine ar_aload_n rfl rfl ?_
        refine ar_gfR rfl rfl rfl (by omega) (V.1.1 805 _ rfl) ?_
        refine ar_gfR rfl rfl rfl (by omega) (V.1.2.1 604 _ rfl) ?_
        refine ar_iload rfl rfl ?_
        refine ar_ia rfl rfl (V.1.2.2.1 1604 4 rfl) (by omega) (by omega) ?_
        rw [e1604]
        have HS := HB_S (t := j) H (by omega) B U (a := rA s 25 (pF W.2 j)) (c := rA s 32 (pF W.2 j)) (by rw [U 40 _ (by omega), hQ.1, U 25 _ (by omega)]) (by rw [U 40 _ (by omega), hQ.1, U 32 _ (by omega)])
        refine ar_cv5 rfl rfl rfl (Nat.le_of_ble_eq_true rfl) (cs_addCoupons (d := 0) (q0 := q) I hN h40 hk h30 htt hn L ⟨by omega, n4.2⟩ hJ hnd (st := j) (fa := pF W.2 j) (a := X.2) (c := pC W.2 j) (by omega) ha hc rfl hfa HS (ZU_S U) hlen) (by omega) (fun o q136 hq => ?_)
        obtain ⟨rfl, H2, U2⟩ := hq
        refine ar_inc7 rfl ?_
        refine ar_goto rfl rfl ?_
        have e2 := bkB_e (X := X) (N := N) (j := j) (f := f) U hJ n4.2 ha hc hQ.1 hQ.2
        exact ih (j + 1) _ _ (bkB N j X) _ (by omega) ⟨by omega, by omega, by rw [hX]; rfl, by rw [e2.1, e2.2, show (X.2 + pC W.2 j).toNat = X.2.toNat + (pC W.2 j).toNat by omega]; exact H2, by rw [e2.1]; exact U2⟩ K
theorem cs_holdPriced {d : Nat} {q : am_A} {e N : Nat} {s : am_Z} {t i : Nat} {n : Int} {f : Int → Int} (I : am_CI e q s) (hN : N = (rI s 44).toNat) (hk : am_kc t = some 10) (h30 : t ≠ 30) (htt : ¬ (t = 1003)) (hn : i < qCN q t) (L : am_LL q s (t, i) n f) (n4 : 1 ≤ n ∧ n ≤ 4) (hJ : ∀ k, 0 ≤ k → k < n → rA s 36 k = f k) (ht0 : ¬ (t = 0 ∨ t = 1 ∨ t = 1004 ∨ t = 1005)) {W : am_wQ} (bW : am_BW q s W) (Q0 : am_WQ s W) (hok : okP W.2) (hl : pLen W.2 = n) (hlen : ∀ k, 0 ≤ k → k < n → 1 ≤ rA s 8 (f k / 100)) {p mb hh : Int} (h39 : rI s 44 ≤ 39) (bp : 1 ≤ p ∧ p ≤ 9) (bm : -1 ≤ mb ∧ mb ≤ 4) (bh : 1 ≤ hh ∧ hh ≤ 72) (e35 : rI s 35 = n) (hv : ∀ i, 4 * rI s 44 ≤ i → rA s 59 i = 0 ∧ rA s 60 i = 0) : am_C2 (d + 7) m_X_holdPriced [aR 8 0, aR t i, aI (zI p), aI (zI mb), aI (zI hh)] q (fun o q' => o = .inl (some (aI (zI (rI s 44)))) ∧ am_CI e q' (bkT s p mb hh) ∧ am_CG q q') := by
  refine am_C2_i (ls := [some (aR 8 0), some (aR t i), some (aI (zI p)), some (aI (zI mb)), some (aI (zI hh)), none, none, none, none]) rfl ?_
  have V := I.1
  have B := CV_B V
  have b44 := B.2.1 44 0 40 rfl
  have b38 := B.2.1 38 0 4 rfl
  have h40 : N < 40 := by omega
  have hnd : ¬ nbD q N t i := by { unfold nbD; omega }
  have h38 := Q0.2.1
  have e0 : qCN q 0 = N := by { have := I.2.1.1.1; omega }
  have V1 : am_CV (uNO q 0 9) s := CV_EQ V (EQ_NO V (by omega))
  have hL := (L.2 0 (by omega)).2
  have hL1 : 0 ≤ f 0 ∧ f 0 / 100 < rI s 3 := ⟨hL.1, hL.2.1⟩
  have hg := V.2.2.2.1.1 _ hL
  have hF := V.2.2.1.2.2.1 (f 0 / 100).toNat (by omega)
  have el : (((f 0 / 100).toNat : Nat) : Int) = f 0 / 100 := by omega
  refine ar_aload_n rfl rfl ?_
  refine ar_cv0 rfl hk rfl (Nat.le_of_ble_eq_true rfl) (cl_emL (d := 0) hk h30 hn L) (by omega) (fun o q1 hq => am_B2_is ?_ hq)
  refine ar_if_eqB rfl rfl (fun h6 => ?_) (fun hf => by omega)
  refine ar_aload_n rfl rfl ?_
  refine ar_iconst rfl ?_
  refine ar_cv1 rfl hk rfl (Nat.le_of_ble_eq_true rfl) (cl_getL (d := 0) hk h30 hn L (by omega)) (by omega) (fun o q15 hq => am_B2_is ?_ hq)
  refine ar_cast rfl rfl rfl ?_
  refine ar_gfR rfl rfl rfl (by omega) (hg.2.2.1) ?_
  refine ar_gfIv rfl rfl rfl (by omega) ((hF.1 401 4 rfl).trans (by rw [el])) ?_
  refine ar_stI5 rfl ?_
  refine ar_new (kt := 0) rfl (by intro z; cases z) (by omega) ?_
  refine ar_dup rfl rfl ?_
  refine ar_iload_n rfl rfl ?_
  refine ar_iload_n rfl rfl ?_
  refine ar_iload rfl rfl ?_
  refine ar_aload_n rfl rfl ?_
  refine ar_gfIv rfl rfl rfl (by omega) (V1.2.1.2.2.2.2.1) ?_
  refine ar_iload rfl rfl ?_
  refine ar_iadd rfl ?_
  refine ar_cv4 rfl rfl rfl (Nat.le_of_ble_eq_true rfl) (cs_Bk_init (d := 0)) (by omega) (fun o q46 hq => ?_)
  obtain ⟨rfl, rfl⟩ := hq
  refine ar_stA6 rfl ?_
  refine (congrArg (fun z => am_W2 _ _ 51 [some (aR 8 0), some (aR t i), some (aI (zI p)), some (aI (zI mb)), some (aI (zI hh)), some (aI (zI (rA s 4 (f 0 / 100)))), some (aR 0 z), none, none] [] (bkH q z p mb (rA s 4 (f 0 / 100)) (rI s 0 + hh)) _) e0.symm).mp ?_
  refine ar_iconst rfl ?_
  refine ar_stI7 rfl ?_
  refine lp_hp (d := d) (q := q) (e := e) (N := N) (s := s) (t := t) (i := i) (n := n) (f := f) I hN h40 hk h30 htt hn L n4 hJ hnd (W := W) bW Q0 hok hl hlen (p := p) (mb := mb) (hh := hh) (sl := rA s 4 (f 0 / 100)) 1000 0 0 _ (bk0 s (rI s 44) p mb hh, 0) _ (by have := bW.2.1; omega) ⟨rfl, by omega, rfl, HB_0 I hN hv (by rw [hJ 0 (by omega) (by omega)]) rfl, ZU_0⟩ (fun x7 x8 q2 X hX H2 => ?_)
  have w := wq_S Q0 hok hl
  have hT : X.1 = bkT s p mb hh := by { rw [hX]; unfold bkT; rw [show ((N : Nat) : Int) = rI s 44 by omega, show (rI s 38).toNat = W.2.length by omega] }
  have hX2 : X.2 = n := by { rw [hX, itB_2]; show 0 + sumI 0 W.2.length (rA (bk0 s (rI s 44) p mb hh) 39) = _; rw [show rA (bk0 s (rI s 44) p mb hh) 39 = rA s 39 from funext (fun x => bk0_39 39 x (by omega)), Int.zero_add]; exact w.2.2 }
  rw [hT, hX2] at H2
  have V2 := NB_CV H2.1 I hN
  refine ar_aload_n rfl rfl ?_
  refine ar_gfR rfl rfl rfl (by omega) (V2.1.1 806 _ rfl) ?_
  refine ar_aload rfl rfl ?_
  refine ar_cv1 rfl rfl rfl (Nat.le_of_ble_eq_true rfl) (sq_addL (d := 0) rfl (by omega) (V2.1.2.2.2 1806 rfl) (by have := V2.2.2.2.2.2.2.2.2.1 1806 rfl; omega) ⟨rfl, by omega⟩) (by omega) (fun o q151 hq => ?_)
  obtain ⟨rfl, rfl, hc2⟩ := hq
  have I3 := CI_bkT I hN h39 bp bm bh e35 n4 Q0 hok hl H2 hc2
  have V3 := I3.1
  refine ar_pop rfl rfl ?_
  refine ar_aload_n rfl rfl ?_
  refine ar_gfR rfl rfl rfl (by omega) (V3.1.1 806 _ rfl) ?_
  refine ar_cv0 rfl rfl rfl (Nat.le_of_ble_eq_true rfl) (cl_szB (d := 0) V3) (by omega) (fun o q159 hq => am_B2_is ?_ hq)
  rw [show rI (bkT s p mb hh) 44 = rI s 44 + 1 from (bkT_I 44).trans (if_pos rfl)]
  refine ar_iconst rfl ?_
  refine ar_isub rfl ?_
  exact ar_iret rfl (Or.inl rfl) (⟨by rw [show rI s 44 + 1 - 1 = rI s 44 by omega], I3, CG_Add H2.1.2.2.2.2.2.2.2.2.2 (by show cK 1806; omega)⟩)
end

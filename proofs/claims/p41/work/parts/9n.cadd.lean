noncomputable section
section ADC
variable {e N m : Nat} {q q1 : am_A} {s Z : am_Z} {n : Int} {f : Int → Int} {b t fa a c al : Int} {i j : Nat} {x : Int} {X : am_X}
theorem ZU_C (U : am_ZU s X.1) : am_ZU s (bkC b t fa a c al i X).1 := fun j x h => (bkC_u.1 j x (unT_i (by omega))).trans (U j x h)
theorem tx_Z (U : am_ZU s Z) (hJ : ∀ k, 0 ≤ k → k < n → rA s 36 k = f k) {k : Int} (hk : 0 ≤ k ∧ k < n) : taxAt Z k = txL s f k := by
  have e36 : ∀ y, rA Z 36 y = rA s 36 y := fun y => U 36 y (by omega)
  have ed : ∀ l, dep Z l = dep s l := fun l => by unfold dep; rw [U 7 _ (by omega), U 5 _ (by omega), U 1 _ (by omega), U 17 _ (by omega)]
  have ea : ∀ l, arv Z l = arv s l := fun l => by unfold arv; rw [ed, U 8 _ (by omega)]
  unfold taxAt txL
  rw [e36, e36, ed, ea, U 5 _ (by omega), U 2 _ (by omega), hJ k hk.1 hk.2]
  by_cases h0 : k = 0
  · rw [if_pos (Or.inl h0), if_pos (Or.inl h0)]
  · rw [hJ (k - 1) (by omega) (by omega)]
theorem fl_Z (U : am_ZU s Z) (hJ : ∀ k, 0 ≤ k → k < n → rA s 36 k = f k) {k : Int} (hk : 0 ≤ k ∧ k < n) : fLen Z k = rA s 8 (f k / 100) := by
  unfold fLen
  rw [U 36 _ (by omega), U 8 _ (by omega), hJ k hk.1 hk.2]
theorem bkC_v : rA (bkC b t fa a c al i X).1 53 (10 * b + (a + i)) = rA X.1 36 (a + i) ∧ rA (bkC b t fa a c al i X).1 54 (10 * b + (a + i)) = rA X.1 24 fa ∧ rA (bkC b t fa a c al i X).1 55 (10 * b + (a + i)) = 0 ∧ rA (bkC b t fa a c al i X).1 56 (10 * b + (a + i)) = t ∧ rA (bkC b t fa a c al i X).1 57 (10 * b + (a + i)) = (if a + i = a + c - 1 then X.2 else rA X.1 25 fa * fLen X.1 (a + i) / al) ∧ rA (bkC b t fa a c al i X).1 58 (10 * b + (a + i)) = taxAt X.1 (a + i) := by
  unfold bkC
  dsimp only
  refine ⟨?_, ?_, ?_, ?_, ?_, ?_⟩ <;> simp [wA_A]
theorem bkC_c (h : j ≠ 49) (hx : x ≠ 10 * b + (a + i) ∨ j = 59 ∨ j = 60) : rA (bkC b t fa a c al i X).1 j x = rA X.1 j x := by
  unfold bkC
  dsimp only
  rw [wA_A, if_neg (by omega), wA_A, if_neg (by omega), wA_A, if_neg (by omega), wA_A, if_neg (by omega), wA_A, if_neg (by omega), wA_A, if_neg (by omega), wA_A, if_neg (by omega)]
theorem HBX {st m : Nat} {am v : Int} (em : (m : Int) = a + j) (H : am_HB e q N m q1 s X.1) (U : am_ZU s X.1) (hJ : ∀ k, 0 ≤ k → k < n → rA s 36 k = f k) (hN4 : N < 40) (ha : 0 ≤ a) (hk : a + j < n) (hn4 : n ≤ 4) (hl : legP s (f (a + j))) (ham : am = rA s 25 fa) (hv : v = if a + j = a + c - 1 then X.2 else am * rA s 8 (f (a + j) / 100) / al)
    (hc : (qLS (cpH q1 (some (5, lId q1 (f (a + j)))) (rA s 24 fa) st v (txL s f (a + j))) (1003, N)).length ≤ qCP (cpH q1 (some (5, lId q1 (f (a + j)))) (rA s 24 fa) st v (txL s f (a + j))) (1003, N)) : am_HB e q N (m + 1) (qAdd (cpH q1 (some (5, lId q1 (f (a + j)))) (rA s 24 fa) st v (txL s f (a + j))) (1003, N) (1, qCN q1 1)) s (bkC N st fa a c al j X).1 ∧ am_ZU s (bkC N st fa a c al j X).1 ∧ X.2 - v = (bkC N st fa a c al j X).2 := by
  have hk2 : 0 ≤ a + (j : Int) ∧ a + j < n := ⟨by omega, hk⟩
  have ev : v = if a + j = a + c - 1 then X.2 else rA X.1 25 fa * fLen X.1 (a + j) / al := by
    rw [hv, ham, fl_Z U hJ hk2, U 25 fa (by omega)]
  have z := bkC_v (b := N) (t := st) (fa := fa) (a := a) (c := c) (al := al) (i := j) (X := X)
  refine ⟨?_, ZU_C U, by show X.2 - v = X.2 - _; rw [ev]⟩
  refine HB_C H hN4 (by omega) hl (fun j' h1 h2 h3 => (bkC_u.1 j' _ (unT_i (by omega)))) (fun j' x' h1 => bkC_c (by omega) (Or.inr h1)) (fun j' k h1 h2 h3 => bkC_c (by omega) (Or.inl (by omega))) ?_ hc
  rw [em, z.1, z.2.1, z.2.2.1, z.2.2.2.1, z.2.2.2.2.1, z.2.2.2.2.2, U 36 _ (by omega), hJ _ hk2.1 hk2.2, U 24 _ (by omega), tx_Z U hJ hk2, ev]
  exact ⟨rfl, rfl, rfl, rfl, rfl, rfl⟩
end ADC
theorem lp_ac1 {d : Nat} {q : am_A} {Q : am_O → am_A → Prop} {e N : Nat} {s : am_Z} {t i : Nat} {n : Int} {f : Int → Int} (I : am_CI e q s) (hN : N = (rI s 44).toNat) (h40 : N < 40) (hk : am_kc t = some 10) (h30 : t ≠ 30) (htt : ¬ (t = 1003)) (hn : i < qCN q t) (L : am_LL q s (t, i) n f) (n4 : 0 ≤ n ∧ n ≤ 4) (hJ : ∀ k, 0 ≤ k → k < n → rA s 36 k = f k) (hnd : ¬ nbD q N t i) {m : Nat} {Z : am_Z} {st : Nat} {fa a c : Int} (ha : 0 ≤ a) (hc : 1 ≤ c ∧ a + c ≤ n) {x10 x11 x12 : Option am_V} {q1 : am_A} (H : am_HB e q N m q1 s Z)  : ∀ (m : Nat) (j : Nat) (k g : Int), (c.toNat + 1 - j) < m → (k = a + j ∧ (j : Int) ≤ c ∧ g = sumI a j (fun k => rA s 8 (f k / 100))) → (∀ x9, am_W2 (d + 3) m_X_addCoupons 71 [some (aR 8 0), some (aR 0 N), some (aI (zI (st : Int))), some (aR 3 fa.toNat), some (aR t i), some (aI (zI c)), some (aI (zI a)), some (aI (zI (a + c))), some (aI (zI (sumI a c.toNat (fun k => rA s 8 (f k / 100))))), x9, x10, x11, x12] [] (q1) Q) → am_W2 (d + 3) m_X_addCoupons 23 [some (aR 8 0), some (aR 0 N), some (aI (zI (st : Int))), some (aR 3 fa.toNat), some (aR t i), some (aI (zI c)), some (aI (zI a)), some (aI (zI (a + c))), some (aI (zI g)), some (aI (zI k)), x10, x11, x12] [] (q1) Q := by
  intro m
  induction m with
  | zero => intro j k g hm; exact absurd hm (Nat.not_lt_zero _)
  | succ m ih =>
    intro j k g hm ⟨hj, hj2, hg0⟩ K
    subst hj
    subst hg0
    have h0 := H.1
    have V := NB_CV h0 I hN
    have B := CV_B V
    have hn1 : i < qCN q1 t := Nat.lt_of_lt_of_le hn (NB_cn h0 t)
    have eLS : qLS q1 (t, i) = qLS q (t, i) := (h0.1 t i hnd).2.2.2.2.2.1
    have L1 : am_LL q1 s (t, i) n f := LL_cg L eLS (fun x k => (h0.1 1408 x (by unfold nbD; omega)).2.2.2.1 k) rfl (fun _ _ _ => rfl) (fun _ _ _ => rfl) rfl
    have bs := sumI_b (a := a) (n := j) (f := fun k => rA s 8 (f k / 100)) (M := 20) (fun i => B.1 8 _ 0 20 rfl)
    refine ar_iload rfl rfl ?_
    refine ar_iload rfl rfl ?_
    refine ar_icmp_ge rfl rfl (by omega) (by omega) (fun h27 => ?_) (fun h27 => ?_)
    · have ej : j = c.toNat := by omega
      rw [ej]
      exact K _
    · refine ar_iload rfl rfl ?_
      refine ar_aload rfl rfl ?_
      refine ar_cv0 rfl hk rfl (Nat.le_of_ble_eq_true rfl) (cl_szL (d := 0) hk h30 hn1 L1) (by omega) (fun o q34 hq => am_B2_is ?_ hq)
      refine ar_icmp_ge rfl rfl (by omega) (by omega) (fun ht => by omega) (fun h39 => ?_)
      have hL := (L1.2 (a + j).toNat (by omega)).2
      rw [show (((a + (j : Int)).toNat : Nat) : Int) = a + j by omega] at hL
      have hL1 := hL.1
      have hL2 := hL.2.1
      have hg := V.2.2.2.1.1 _ hL
      have hF := V.2.2.1.2.2.1 (f (a + j) / 100).toNat (by omega)
      have el : (((f (a + j) / 100).toNat : Nat) : Int) = f (a + j) / 100 := by omega
      have b8 := B.1 8 (f (a + j) / 100) 0 20 rfl
      refine ar_iload rfl rfl ?_
      refine ar_aload rfl rfl ?_
      refine ar_iload rfl rfl ?_
      refine ar_cv1 rfl hk rfl (Nat.le_of_ble_eq_true rfl) (cl_getL (d := 0) hk h30 hn1 L1 (by omega)) (by omega) (fun o q48 hq => am_B2_is ?_ hq)
      refine ar_cast rfl rfl rfl ?_
      refine ar_gfR rfl rfl rfl (by omega) (hg.2.2.1) ?_
      refine ar_gfIv rfl rfl rfl (by omega) ((hF.1 405 8 rfl).trans (by rw [el])) ?_
      refine ar_iadd rfl ?_
      refine ar_stI8 rfl ?_
      refine ar_inc9 rfl ?_
      refine ar_goto rfl rfl ?_
      have es := sumI_s a j (fun k => rA s 8 (f k / 100))
      exact ih (j + 1) _ _ (by omega) ⟨by omega, by omega, by rw [es]⟩ K
theorem lp_ac2 {d : Nat} {q : am_A} {Q : am_O → am_A → Prop} {e N : Nat} {s : am_Z} {t i : Nat} {n : Int} {f : Int → Int} (I : am_CI e q s) (hN : N = (rI s 44).toNat) (h40 : N < 40) (hk : am_kc t = some 10) (h30 : t ≠ 30) (htt : ¬ (t = 1003)) (hn : i < qCN q t) (L : am_LL q s (t, i) n f) (n4 : 0 ≤ n ∧ n ≤ 4) (hJ : ∀ k, 0 ≤ k → k < n → rA s 36 k = f k) (hnd : ¬ nbD q N t i) {st : Nat} {fa a c am : Int} (hst : st < 4) (ha : 0 ≤ a) (hc : 1 ≤ c ∧ a + c ≤ n) (ham : am = rA s 25 fa) (hfa : 0 ≤ fa ∧ fa < rI s 20) {al : Int} (hal : 1 ≤ al ∧ al ≤ 1000) {X0 : am_X} : ∀ (m : Nat) (j : Nat) (k : Int) (q1 : am_A) (X : am_X) (x11 x12 : Option am_V), (c.toNat + 1 - j) < m → (k = a + j ∧ (j : Int) ≤ c ∧ X = itX (bkC N st fa a c al) j X0 ∧ am_HB e q N (a.toNat + j) q1 s X.1 ∧ am_ZU s X.1 ∧ (-100000 * (j : Int) ≤ X.2 ∧ X.2 ≤ 5000)) → (∀ x9 x10 x11 x12 q2 X, X = itX (bkC N st fa a c al) c.toNat X0 → am_HB e q N (a.toNat + c.toNat) q2 s X.1 → am_ZU s X.1 → am_W2 (d + 6) m_X_addCoupons 195 [some (aR 8 0), some (aR 0 N), some (aI (zI (st : Int))), some (aR 3 fa.toNat), some (aR t i), some (aI (zI c)), some (aI (zI a)), some (aI (zI (a + c))), some (aI (zI al)), x9, x10, x11, x12] [] (q2) Q) → am_W2 (d + 6) m_X_addCoupons 81 [some (aR 8 0), some (aR 0 N), some (aI (zI (st : Int))), some (aR 3 fa.toNat), some (aR t i), some (aI (zI c)), some (aI (zI a)), some (aI (zI (a + c))), some (aI (zI al)), some (aI (zI X.2)), some (aI (zI k)), x11, x12] [] (q1) Q := by
  intro m
  induction m with
  | zero => intro j k q1 X x11 x12 hm; exact absurd hm (Nat.not_lt_zero _)
  | succ m ih =>
    intro j k q1 X x11 x12 hm ⟨hk0, hj, hX, H, U, hb2⟩ K
    subst hk0
    have h0 := H.1
    have V := NB_CV h0 I hN
    have B := CV_B V
    have hn1 : i < qCN q1 t := Nat.lt_of_lt_of_le hn (NB_cn h0 t)
    have eLS : qLS q1 (t, i) = qLS q (t, i) := (h0.1 t i hnd).2.2.2.2.2.1
    have L1 : am_LL q1 s (t, i) n f := LL_cg L eLS (fun x k => (h0.1 1408 x (by unfold nbD; omega)).2.2.2.1 k) rfl (fun _ _ _ => rfl) (fun _ _ _ => rfl) rfl
    have b25 := B.1 25 fa 0 5000 rfl
    have hA1 := (V.2.2.2.2.1.2.2 fa.toNat (by omega)).1
    have ef : ((fa.toNat : Nat) : Int) = fa := by omega
    refine ar_iload rfl rfl ?_
    refine ar_iload rfl rfl ?_
    refine ar_icmp_ge rfl rfl (by omega) (by omega) (fun h85 => ?_) (fun h85 => ?_)
    · have ej : j = c.toNat := by omega
      rw [ej] at hX H
      exact K _ _ _ _ _ _ hX H U
    · refine ar_iload rfl rfl ?_
      refine ar_aload rfl rfl ?_
      refine ar_cv0 rfl hk rfl (Nat.le_of_ble_eq_true rfl) (cl_szL (d := 0) hk h30 hn1 L1) (by omega) (fun o q92 hq => am_B2_is ?_ hq)
      refine ar_icmp_ge rfl rfl (by omega) (by omega) (fun ht => by omega) (fun h97 => ?_)
      have hL := (L1.2 (a + j).toNat (by omega)).2
      rw [show (((a + (j : Int)).toNat : Nat) : Int) = a + j by omega] at hL
      have hL1 := hL.1
      have hL2 := hL.2.1
      have hg := V.2.2.2.1.1 _ hL
      have hF := V.2.2.1.2.2.1 (f (a + j) / 100).toNat (by omega)
      have el : (((f (a + j) / 100).toNat : Nat) : Int) = f (a + j) / 100 := by omega
      have b8 := B.1 8 (f (a + j) / 100) 0 20 rfl
      have bm := mul_b b25 b8
      rw [← ham] at bm b25
      have bd := div_b (b := al) bm (by omega)
      refine ar_aload rfl rfl ?_
      refine ar_iload rfl rfl ?_
      refine ar_cv1 rfl hk rfl (Nat.le_of_ble_eq_true rfl) (cl_getL (d := 0) hk h30 hn1 L1 (by omega)) (by omega) (fun o q104 hq => am_B2_is ?_ hq)
      refine ar_cast rfl rfl rfl ?_
      refine ar_stA11 rfl ?_
      refine ar_iload rfl rfl ?_
      refine ar_stI12 rfl ?_
      refine (fun (K150 : ∀ v : Int, v = (if a + (j : Int) = a + c - 1 then X.2 else am * rA s 8 (f (a + j) / 100) / al) → am_W2 (d + 6) m_X_addCoupons 150 [some (aR 8 0), some (aR 0 N), some (aI (zI (st : Int))), some (aR 3 fa.toNat), some (aR t i), some (aI (zI c)), some (aI (zI a)), some (aI (zI (a + c))), some (aI (zI al)), some (aI (zI X.2)), some (aI (zI (a + j))), some (aR 5 (lId q1 (f (a + j)))), some (aI (zI v))] [] (q1) Q) => ?_) (fun v hv => ?_)
      · refine ar_iload rfl rfl ?_
        refine ar_iload rfl rfl ?_
        refine ar_iconst rfl ?_
        refine ar_isub rfl ?_
        refine ar_icmp_ge rfl rfl (by omega) (by omega) (fun h124 => ?_) (fun h124 => ?_)
        · exact K150 _ (by first | rw [if_pos (by omega)] | rw [if_neg (by omega)])
        · refine ar_iload rfl rfl ?_
          refine ar_if_le rfl rfl (by omega) (fun ht => by omega) (fun h129 => ?_)
          refine ar_aload_n rfl rfl ?_
          refine ar_gfIv rfl rfl rfl (by omega) ((hA1 305 25 rfl).trans (by rw [ef, ← ham])) ?_
          refine ar_aload rfl rfl ?_
          refine ar_gfR rfl rfl rfl (by omega) (hg.2.2.1) ?_
          refine ar_gfIv rfl rfl rfl (by omega) ((hF.1 405 8 rfl).trans (by rw [el])) ?_
          refine ar_imul rfl ?_
          refine ar_iload rfl rfl ?_
          refine ar_idiv rfl (by omega) (by omega) ?_
          refine ar_stI12 rfl ?_
          exact K150 _ (by first | rw [if_pos (by omega)] | rw [if_neg (by omega)])
      · have bv : -100000 * (j : Int) ≤ v ∧ v ≤ 100000 ∧ X.2 - v ≤ 5000 ∧ -100000 * ((j : Int) + 1) ≤ X.2 - v := by { rw [hv]; split <;> omega }
        have V2 : am_CV (uNO q1 1 7) s := CV_EQ V (EQ_NO V (by omega))
        have hA2 := (V2.2.2.2.2.1.2.2 fa.toNat (by omega)).1
        have b24 := B.1 24 fa 0 3 rfl
        have hn2 : i < qCN (uNO q1 1 7) t := Nat.lt_of_lt_of_le hn1 (by show qCN q1 t ≤ am_u1 (qCN q1) 1 (qCN q1 1 + 1) t; unfold am_u1; split <;> simp_all)
        have L2 : am_LL (uNO q1 1 7) s (t, i) n f := LL_cg L1 rfl (fun _ _ => rfl) rfl (fun _ _ _ => rfl) (fun _ _ _ => rfl) rfl
        have hcn : ∀ l bk st sh tx, N < qCN (cpH q1 l bk st sh tx) 1003 := fun l bk st sh tx => by { rw [cpH_cn, if_neg (by omega)]; have := h0.2.2.1.2.1; have := I.2.1.1.2.1; omega }
        have hcq : ∀ l bk st sh tx, qCP (cpH q1 l bk st sh tx) (1003, N) ≤ 600 := fun l bk st sh tx => by { have z1 := (cpH_G (q := q1) (l := l) (bk := bk) (st := st) (sh := sh) (tx := tx) 1003 N (by omega)).2.2.2.2.2.2; have z2 := h0.2.2.2.2.2.2.2.1; omega }
        refine ar_iload rfl rfl ?_
        refine ar_iload rfl rfl ?_
        refine ar_isub rfl ?_
        refine ar_stI9 rfl ?_
        refine ar_aload_n rfl rfl ?_
        refine ar_gfR rfl rfl rfl (by omega) (h0.2.2.2.2.1.1) ?_
        refine ar_new (kt := 1) rfl (by intro z; cases z) (by omega) ?_
        refine ar_dup rfl rfl ?_
        refine ar_aload rfl rfl ?_
        refine ar_aload_n rfl rfl ?_
        refine ar_gfIv rfl rfl rfl (by omega) ((hA2 304 24 rfl).trans (by rw [ef])) ?_
        refine ar_iload_n rfl rfl ?_
        refine ar_iload rfl rfl ?_
        refine ar_aload_n rfl rfl ?_
        refine ar_aload rfl rfl ?_
        refine ar_iload rfl rfl ?_
        refine ar_cv2 rfl rfl rfl (Nat.le_of_ble_eq_true rfl) (cs_taxAt (d := 0) V2 hk h30 hn2 L2 n4 (by omega)) (by omega) (fun o q179 hq => am_B2_is ?_ hq)
        refine ar_cv5 rfl rfl rfl (Nat.le_of_ble_eq_true rfl) (cs_Cp_init (d := 0) (c := qCN q1 1)) (by omega) (fun o q182 hq => ?_)
        obtain ⟨rfl, rfl⟩ := hq
        refine ar_cv1 rfl rfl rfl (Nat.le_of_ble_eq_true rfl) (sq_addL (d := 0) rfl (by omega) (hcn _ _ _ _ _) (hcq _ _ _ _ _) ⟨rfl, by omega⟩) (by omega) (fun o q185 hq => ?_)
        obtain ⟨rfl, rfl, hc105⟩ := hq
        refine ar_pop rfl rfl ?_
        refine ar_inc10 rfl ?_
        refine ar_goto rfl rfl ?_
        have hx := HBX (c := c) (al := al) (m := a.toNat + j) (by omega) H U hJ h40 ha (by omega) n4.2 hL ham hv hc105
        rw [hx.2.2, show a + (j : Int) + 1 = a + ((j + 1 : Nat) : Int) by omega]
        exact ih (j + 1) _ _ _ _ _ (by omega) ⟨rfl, by omega, by rw [hX]; rfl, hx.1, hx.2.1, by rw [← hx.2.2]; omega⟩ K
theorem cs_addCoupons {d : Nat} {q : am_A} {q0 : am_A} {e N : Nat} {s : am_Z} {t i : Nat} {n : Int} {f : Int → Int} (I : am_CI e q0 s) (hN : N = (rI s 44).toNat) (h40 : N < 40) (hk : am_kc t = some 10) (h30 : t ≠ 30) (htt : ¬ (t = 1003)) (hn : i < qCN q0 t) (L : am_LL q0 s (t, i) n f) (n4 : 0 ≤ n ∧ n ≤ 4) (hJ : ∀ k, 0 ≤ k → k < n → rA s 36 k = f k) (hnd : ¬ nbD q0 N t i) {st : Nat} {fa a c am : Int} (hst : st < 4) (ha : 0 ≤ a) (hc : 1 ≤ c ∧ a + c ≤ n) (ham : am = rA s 25 fa) (hfa : 0 ≤ fa ∧ fa < rI s 20) {Z : am_Z} (H : am_HB e q0 N a.toNat q s Z) (U : am_ZU s Z) (hlen : ∀ k, 0 ≤ k → k < n → 1 ≤ rA s 8 (f k / 100)) : am_C2 (d + 6) m_X_addCoupons [aR 8 0, aR 0 N, aI (zI (st : Int)), aR 3 fa.toNat, aR t i, aI (zI c)] q (fun o q' => o = .inl none ∧ am_HB e q0 N (a.toNat + c.toNat) q' s (itX (bkC N st fa a c (sumI a c.toNat (fun k => rA s 8 (f k / 100)))) c.toNat (Z, am)).1 ∧ am_ZU s (itX (bkC N st fa a c (sumI a c.toNat (fun k => rA s 8 (f k / 100)))) c.toNat (Z, am)).1) := by
  refine am_C2_i (ls := [some (aR 8 0), some (aR 0 N), some (aI (zI (st : Int))), some (aR 3 fa.toNat), some (aR t i), some (aI (zI c)), none, none, none, none, none, none, none]) rfl ?_
  have V := NB_CV H.1 I hN
  have B := CV_B V
  have b25 := B.1 25 fa 0 5000 rfl
  have hA1 := (V.2.2.2.2.1.2.2 fa.toNat (by omega)).1
  have ef : ((fa.toNat : Nat) : Int) = fa := by omega
  have bs := sumI_b (a := a) (n := c.toNat) (f := fun k => rA s 8 (f k / 100)) (M := 20) (fun i => B.1 8 _ 0 20 rfl)
  have bp := sumI_p (a := a) (n := c.toNat) (f := fun k => rA s 8 (f k / 100)) (fun i h1 h2 => hlen i (by omega) (by omega))
  have hnN : N < qCN q 1003 := by { have := H.1.2.2.1.2.1; have := I.2.1.1.2.1; omega }
  refine ar_aload_n rfl rfl ?_
  refine ar_gfR rfl rfl rfl (by omega) (H.1.2.2.2.2.1.1) ?_
  refine ar_cv0 rfl rfl rfl (Nat.le_of_ble_eq_true rfl) (sq_size (d := 0) rfl (by omega) hnN) (by omega) (fun o q4 hq => am_B2_is ?_ hq)
  rw [H.1.2.2.2.2.2.2.1.1, show ((a.toNat : Nat) : Int) = a by omega]
  refine ar_stI6 rfl ?_
  refine ar_iload rfl rfl ?_
  refine ar_iload rfl rfl ?_
  refine ar_iadd rfl ?_
  refine ar_stI7 rfl ?_
  refine ar_iconst rfl ?_
  refine ar_stI8 rfl ?_
  refine ar_iload rfl rfl ?_
  refine ar_stI9 rfl ?_
  refine lp_ac1 (d := d + 3) (q := q0) (e := e) (N := N) (s := s) (t := t) (i := i) (n := n) (f := f) I hN h40 hk h30 htt hn L n4 hJ hnd (m := a.toNat) (Z := Z) (st := st) (fa := fa) (a := a) (c := c) ha hc (q1 := q) H 1000 0 a 0 (by omega) ⟨by omega, by omega, rfl⟩ (fun x9 => ?_)
  refine ar_aload_n rfl rfl ?_
  refine ar_gfIv rfl rfl rfl (by omega) ((hA1 305 25 rfl).trans (by rw [ef, ← ham])) ?_
  refine ar_stI9 rfl ?_
  refine ar_iload rfl rfl ?_
  refine ar_stI10 rfl ?_
  refine lp_ac2 (d := d) (q := q0) (e := e) (N := N) (s := s) (t := t) (i := i) (n := n) (f := f) I hN h40 hk h30 htt hn L n4 hJ hnd (st := st) (fa := fa) (a := a) (c := c) (am := am) hst ha hc ham hfa (al := sumI a c.toNat (fun k => rA s 8 (f k / 100))) (by omega) (X0 := (Z, am)) 1000 0 a q (Z, am) _ _ (by omega) ⟨by omega, by omega, rfl, H, U, by show -100000 * ((0 : Nat) : Int) ≤ am ∧ am ≤ 5000; omega⟩ (fun x9 x10 x11 x12 q2 X hX H2 U2 => ?_)
  subst hX
  exact ar_ret rfl rfl (⟨rfl, H2, U2⟩)
end

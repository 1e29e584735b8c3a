noncomputable section
theorem ex_s {P : Int → Prop} {i0 : Int} (h : 0 ≤ i0) : ((∃ i, (0 ≤ i ∧ i < i0) ∧ P i) ∨ P i0) ↔ ∃ i, (0 ≤ i ∧ i < i0 + 1) ∧ P i := by
  constructor
  · rintro (⟨i, h1, h2⟩ | h2)
    · exact ⟨i, by omega, h2⟩
    · exact ⟨i0, by omega, h2⟩
  · rintro ⟨i, h1, h2⟩
    by_cases e : i = i0
    · rw [e] at h2; exact Or.inr h2
    · exact Or.inl ⟨i, by omega, h2⟩
theorem ex_n {P : Int → Prop} {i0 : Int} (h : ¬ P i0) : (∃ i, (0 ≤ i ∧ i < i0) ∧ P i) ↔ ∃ i, (0 ≤ i ∧ i < i0 + 1) ∧ P i := by
  constructor
  · rintro ⟨i, h1, h2⟩
    exact ⟨i, by omega, h2⟩
  · rintro ⟨i, h1, h2⟩
    by_cases e : i = i0
    · rw [e] at h2; exact absurd h2 h
    · exact ⟨i, by omega, h2⟩
theorem MM_ne {s : am_Z} {n p : Int} {w : am_wP} {fa b c : Int} {D : Nat} {W W1 : am_wQ} (hc : b + c < n) (h : ¬ canH s b c fa p ≠ 0 ∨ D = 0) (M : am_MM s W (opn s p n D b w fa (c + 1)) W1) : am_MM s W (opn s p n D b w fa c) W1 := by
  refine MM_eq (fun x => ?_) M
  rw [opn_s (s := s) (p := p) (n := n) (D := D) (b := b) (w := w) (fa := fa) (c := c) hc]
  refine ⟨Or.inl, fun z => z.elim id (fun y => ?_)⟩
  rcases h with h | h
  · exact absurd y.1 h
  · subst h
    have y1 : b + c = n ∧ x = w ++ [(fa, c)] := y.2
    omega
theorem okP_pop {w : am_wP} {x : Int × Int} (h : okP (w ++ [x])) : okP w := fun y hy => h y (List.mem_append.mpr (Or.inl hy))
theorem okP_last {w : am_wP} {x : Int × Int} (h : okP (w ++ [x])) : (0 ≤ x.1 ∧ x.1 < 16) ∧ 1 ≤ x.2 := h x (List.mem_append.mpr (Or.inr (by simp)))
theorem TR_last {q : am_A} {s : am_Z} {w : am_wP} {fa c : Int} (T : am_TR q s (w ++ [(fa, c)])) : (qLS q (1601, 0))[w.length]? = some (3, fa.toNat) ∧ qAI q (1602, 0) w.length = c ∧ (0 ≤ fa ∧ fa < rI s 20) := by
  have z := T.2.1 w.length (by rw [List.length_append]; show w.length < w.length + 1; omega)
  have y := pF_end w (fa, c)
  rw [y.1, y.2] at z
  exact z
theorem TR_bump {q : am_A} {s : am_Z} {w : am_wP} {fa c : Int} (c2 : Int) (T : am_TR q s (w ++ [(fa, c)])) : am_TR (uAI q (1602, 0) w.length c2) s (w ++ [(fa, c2)]) := by
  have l := TR_last T
  have h1 := T.1
  rw [List.length_append] at h1
  have h2 : w.length + 1 ≤ 4 := h1
  have h3 := T.2.2
  rw [List.length_append] at h3
  refine ⟨by rw [List.length_append]; exact h2, fun i hi => ?_, by rw [List.length_append]; exact h3⟩
  rw [List.length_append] at hi
  have hi2 : i < w.length + 1 := hi
  by_cases e : i = w.length
  · subst e
    have y := pF_end w (fa, c2)
    rw [y.1, y.2]
    exact ⟨l.1, if_pos ⟨rfl, rfl⟩, l.2.2⟩
  · have y := pF_app (w := w) (x := (fa, c2)) (i := i) (by omega)
    rw [y.1, y.2]
    have t := T.2.1 i (by rw [List.length_append]; exact hi2)
    have y2 := pF_app (w := w) (x := (fa, c)) (i := i) (by omega)
    rw [y2.1, y2.2] at t
    exact ⟨t.1, (if_neg (fun z => e z.2)).trans t.2.1, t.2.2⟩
theorem len_1 (w : am_wP) (x : Int × Int) : ((w ++ [x]).length : Int) = (w.length : Int) + 1 := by rw [List.length_append]; rfl
/-- what tryLegs answers -/
def am_TLp (e : Nat) (q0 : am_A) (s : am_Z) (r : am_R) (n : Int) (f : Int → Int) (p : Int) (w : am_wP) (W : am_wQ) (S : am_wP → Prop) : am_O → am_A → Prop := fun o q' => o = .inl none ∧ ∃ W2, am_PS e q0 q' s r n f p W2.1 ∧ am_BW q' s W2 ∧ am_TR q' s w ∧ am_MM s W S W2
def am_TLc (d e : Nat) (q0 : am_A) (s : am_Z) (r : am_R) (n : Int) (f : Int → Int) (p : Int) (M : Nat) : Prop := ∀ (q : am_A) (w : am_wP) (fa c b sm : Int) (W : am_wQ) (D : Nat), am_PS e q0 q s r n f p W.1 → am_BW q s W → am_TR q s (w ++ [(fa, c)]) → okP (w ++ [(fa, c)]) → pLen w = b → b + c ≤ n → n - (b + c) ≤ M → PFq s n f p fa b c → w.length + 1 + D = 4 → sm = pSum s (w ++ [(fa, c)]) → am_C2 d m_Pr_tryLegs [aR 6 0, aI (zI (b + c)), aI (zI ((w.length : Int) + 1)), aI (zI sm)] q (am_TLp e q0 s r n f p (w ++ [(fa, c)]) W (opn s p n D b w fa c))
theorem lp_tl {d : Nat} {q : am_A} {Q : am_O → am_A → Prop} {e : Nat} {q0 : am_A} {s : am_Z} {t i : Nat} {n p : Int} {f : Int → Int} (e35 : rI s 35 = n) (hJ : ∀ k, 0 ≤ k → k < n → rA s 36 k = f k) (hn1 : 1 ≤ n) {w : am_wP} {b : Int} {D M : Nat} {W : am_wQ} {x4 x5 : Option am_V} (hok : okP w) (hl : pLen w = b) (hb : b < n) (hM : n - (b + 1) ≤ M) (hD : w.length + 1 + D = 4) (IH : am_TLc (d + 9) e q0 s (t, i) n f p M) : ∀ (m : Nat) (i0 : Int) (W1 : am_wQ) (q1 : am_A) (x7 : Option am_V), (17 - i0).toNat < m → ((0 ≤ i0 ∧ i0 ≤ rI s 20) ∧ am_PS e q0 q1 s (t, i) n f p W1.1 ∧ am_BW q1 s W1 ∧ am_TR q1 s w ∧ am_MM s W (fun x => ∃ j : Int, (0 ≤ j ∧ j < i0) ∧ opn s p n D b w j 1 x) W1) → (∀ i0 x7 q2 W2, am_PS e q0 q2 s (t, i) n f p W2.1 → am_BW q2 s W2 → am_TR q2 s w → am_MM s W (fun x => ∃ j : Int, (0 ≤ j ∧ j < rI s 20) ∧ opn s p n D b w j 1 x) W2 → am_W2 (d + 10) m_Pr_tryLegs 248 [some (aR 6 0), some (aI (zI b)), some (aI (zI (w.length : Int))), some (aI (zI (pSum s w))), x4, x5, some (aI (zI i0)), x7] [] (q2) Q) → am_W2 (d + 10) m_Pr_tryLegs 139 [some (aR 6 0), some (aI (zI b)), some (aI (zI (w.length : Int))), some (aI (zI (pSum s w))), x4, x5, some (aI (zI i0)), x7] [] (q1) Q := by
  intro m
  induction m with
  | zero => intro i0 W1 q1 x7 hm; exact absurd hm (Nat.not_lt_zero _)
  | succ m ih =>
    intro i0 W1 q1 x7 hm ⟨hi, hP, hB, hT, hS⟩ K
    have V := hP.1.1
    have H := hP.2.2
    have B := CV_B V
    obtain ⟨⟨hk, h30, hn⟩, ⟨L, n0, n4⟩, ⟨r605, r606, r607, r608, r610⟩, bp, bam, hop, hr16⟩ := H
    have H := hP.2.2
    have h4 := hT.1
    have bS := pSum_b B h4
    have bw := pLen_b hok
    have b20 := B.2.1 20 0 16 rfl
    have p601 : qFR q1 601 (6, 0) = some (1601, 0) := V.1.2.1 601 _ rfl
    have p602 : qFR q1 602 (6, 0) = some (1602, 0) := V.1.2.1 602 _ rfl
    have b0 := B.2.1 0 0 60000 rfl
    have hL := (L.2 b.toNat (by omega)).2
    rw [show ((b.toNat : Nat) : Int) = b by omega] at hL
    refine ar_iload rfl rfl ?_
    refine ar_aload_n rfl rfl ?_
    refine ar_gfR rfl rfl rfl (by omega) (r605) ?_
    refine ar_cv0 rfl rfl rfl (Nat.le_of_ble_eq_true rfl) (cl_szA (d := 0) V) (by omega) (fun o q145 hq => am_B2_is ?_ hq)
    refine ar_icmp_ge rfl rfl (by omega) (by omega) (fun h150 => ?_) (fun h150 => ?_)
    · have ei : i0 = rI s 20 := by omega
      rw [ei] at hS
      exact K _ _ _ _ hP hB hT hS
    · have hA := (V.2.2.2.2.1.2.2 i0.toNat (by omega)).1
      have ei : ((i0.toNat : Nat) : Int) = i0 := by omega
      have b25 := B.1 25 i0 0 5000 rfl
      refine ar_aload_n rfl rfl ?_
      refine ar_gfR rfl rfl rfl (by omega) (r605) ?_
      refine ar_iload rfl rfl ?_
      refine ar_cv1 rfl rfl rfl (Nat.le_of_ble_eq_true rfl) (cl_getA (d := 0) V (by omega)) (by omega) (fun o q159 hq => am_B2_is ?_ hq)
      refine ar_cast rfl rfl rfl ?_
      refine ar_stA7 rfl ?_
      refine ar_aload rfl rfl ?_
      refine ar_aload_n rfl rfl ?_
      refine ar_gfR rfl rfl rfl (by omega) (r606) ?_
      refine ar_iload_n rfl rfl ?_
      refine ar_cv1 rfl hk rfl (Nat.le_of_ble_eq_true rfl) (cl_getL (d := 0) hk h30 hn L (by omega)) (by omega) (fun o q176 hq => am_B2_is ?_ hq)
      refine ar_cast rfl rfl rfl ?_
      refine ar_aload_n rfl rfl ?_
      refine ar_gfIv rfl rfl rfl (by omega) (r608) ?_
      refine ar_cv2 rfl rfl rfl (Nat.le_of_ble_eq_true rfl) (cs_beginsWith (d := 0) V (f := i0) ⟨by omega, by omega⟩ hL b0) (by omega) (fun o q188 hq => am_B2_is ?_ hq)
      refine ar_if_eqB rfl rfl (fun h191 => ?_) (fun h191 => ?_)
      · refine ar_inc6 rfl ?_
        refine ar_goto rfl rfl ?_
        first
          | exact ih (i0 + 1) _ _ _ (by omega) ⟨by omega, PS_L hP2 (Or.inl rfl), BW_L hB2, TR_pop hT2, MM_eq (fun x => ex_s (P := fun j => opn s p n D b w j 1 x) hi.1) (MM_t hS hS2)⟩ K
          | exact ih (i0 + 1) W1 _ _ (by omega) ⟨by omega, hP, hB, hT, MM_eq (fun x => ex_n (P := fun j => opn s p n D b w j 1 x) (opn_no1 e35 hJ hi.1 (by omega) (fun z => h191 z.1))) hS⟩ K
          | exact ih (i0 + 1) W1 _ _ (by omega) ⟨by omega, hP, hB, hT, MM_eq (fun x => ex_n (P := fun j => opn s p n D b w j 1 x) (opn_no1 e35 hJ hi.1 (by omega) (fun z => h201 z.2))) hS⟩ K
      · refine ar_aload_n rfl rfl ?_
        refine ar_aload rfl rfl ?_
        refine ar_iload_n rfl rfl ?_
        refine ar_cv2 rfl rfl rfl (Nat.le_of_ble_eq_true rfl) (cs_takes (d := 0) V H (fa := i0.toNat) (by omega) (k := b) (by omega)) (by omega) (fun o q198 hq => am_B2_is ?_ hq)
        refine ar_if_eqB rfl rfl (fun h201 => ?_) (fun h201 => ?_)
        · refine ar_inc6 rfl ?_
          refine ar_goto rfl rfl ?_
          first
            | exact ih (i0 + 1) _ _ _ (by omega) ⟨by omega, PS_L hP2 (Or.inl rfl), BW_L hB2, TR_pop hT2, MM_eq (fun x => ex_s (P := fun j => opn s p n D b w j 1 x) hi.1) (MM_t hS hS2)⟩ K
            | exact ih (i0 + 1) W1 _ _ (by omega) ⟨by omega, hP, hB, hT, MM_eq (fun x => ex_n (P := fun j => opn s p n D b w j 1 x) (opn_no1 e35 hJ hi.1 (by omega) (fun z => h191 z.1))) hS⟩ K
            | exact ih (i0 + 1) W1 _ _ (by omega) ⟨by omega, hP, hB, hT, MM_eq (fun x => ex_n (P := fun j => opn s p n D b w j 1 x) (opn_no1 e35 hJ hi.1 (by omega) (fun z => h201 z.2))) hS⟩ K
        · refine ar_aload_n rfl rfl ?_
          refine ar_gfR rfl rfl rfl (by omega) (p601) ?_
          refine ar_aload rfl rfl ?_
          refine ar_cv1 rfl rfl rfl (Nat.le_of_ble_eq_true rfl) (sq_addL (d := 0) rfl (by omega) (V.1.2.2.2 1601 rfl) (Nat.le_trans (V.2.2.2.2.2.2.2.2.1 1601 rfl) (by omega)) ⟨rfl, by omega⟩) (by omega) (fun o q210 hq => ?_)
          obtain ⟨rfl, rfl, hcA⟩ := hq
          have h40 : (qLS q1 (1601, 0)).length ≤ 40 := by { rw [hT.2.2]; omega }
          have pA : qFR (qAdd q1 (1601, 0) (3, i0.toNat)) = qFR q1 := qAdd_FR
          have pB : qAL (qAdd q1 (1601, 0) (3, i0.toNat)) = qAL q1 := qAdd_AL
          have pF : qFI (qAdd q1 (1601, 0) (3, i0.toNat)) = qFI q1 := qAdd_FI
          refine ar_pop rfl rfl ?_
          refine ar_aload_n rfl rfl ?_
          refine ar_gfR rfl rfl rfl (by omega) ((congrFun (congrFun pA 602) (6, 0)).trans p602) ?_
          refine ar_iload_n rfl rfl ?_
          refine ar_iconst rfl ?_
          refine ar_ias rfl ⟨rfl, by omega⟩ ((congrFun pB (1602, 0)).trans (V.1.2.2.1 1602 4 rfl)) (by omega) (by omega) ?_
          refine ar_aload_n rfl rfl ?_
          refine ar_iload_n rfl rfl ?_
          refine ar_iconst rfl ?_
          refine ar_iadd rfl ?_
          refine ar_iload_n rfl rfl ?_
          refine ar_iconst rfl ?_
          refine ar_iadd rfl ?_
          refine ar_iload_n rfl rfl ?_
          refine ar_aload rfl rfl ?_
          refine ar_gfIv rfl rfl rfl (by omega) ((congrFun (congrFun pF 305) (3, i0.toNat)).trans ((hA 305 25 rfl).trans (by rw [ei]))) ?_
          refine ar_iadd rfl ?_
          have hT3 := TR_push (c := 1) hT (by omega) (fa := i0) (by omega)
          refine ar_cs4 rfl rfl (Nat.le_of_ble_eq_true rfl) (IH _ w i0 1 b (pSum s w + rA s 25 i0) W1 D (PS_I (PS_A hP (Or.inl rfl) h40 hcA) (Or.inl rfl)) (BW_I (BW_A hB)) hT3 (okP_app hok ⟨by omega, by omega⟩) hl (by omega) (by omega) (PF_1 h191 h201) hD (pSum_app s w (i0, 1)).symm) (by omega) (fun o q235 hq => ?_)
          obtain ⟨rfl, W2, hP2, hB2, hT2, hS2⟩ := hq
          refine ar_aload_n rfl rfl ?_
          refine ar_cv0 rfl rfl rfl (Nat.le_of_ble_eq_true rfl) (cs_dropLast (d := 0) hP2.1.1 hT2) (by omega) (fun o q239 hq => ?_)
          obtain ⟨rfl, rfl⟩ := hq
          refine ar_inc6 rfl ?_
          refine ar_goto rfl rfl ?_
          first
            | exact ih (i0 + 1) _ _ _ (by omega) ⟨by omega, PS_L hP2 (Or.inl rfl), BW_L hB2, TR_pop hT2, MM_eq (fun x => ex_s (P := fun j => opn s p n D b w j 1 x) hi.1) (MM_t hS hS2)⟩ K
            | exact ih (i0 + 1) W1 _ _ (by omega) ⟨by omega, hP, hB, hT, MM_eq (fun x => ex_n (P := fun j => opn s p n D b w j 1 x) (opn_no1 e35 hJ hi.1 (by omega) (fun z => h191 z.1))) hS⟩ K
            | exact ih (i0 + 1) W1 _ _ (by omega) ⟨by omega, hP, hB, hT, MM_eq (fun x => ex_n (P := fun j => opn s p n D b w j 1 x) (opn_no1 e35 hJ hi.1 (by omega) (fun z => h201 z.2))) hS⟩ K
theorem tl_tail {d : Nat} {e : Nat} {q0 : am_A} {s : am_Z} {t i : Nat} {n p : Int} {f : Int → Int} (e35 : rI s 35 = n) (hJ : ∀ k, 0 ≤ k → k < n → rA s 36 k = f k) (hn1 : 1 ≤ n) {w : am_wP} {fa c b : Int} {D M : Nat} {W : am_wQ} {W1 : am_wQ} {q1 : am_A} {x4 x6 x7 : Option am_V} (hP : am_PS e q0 q1 s (t, i) n f p W1.1) (hB : am_BW q1 s W1) (hT : am_TR q1 s (w ++ [(fa, c)])) (hok : okP (w ++ [(fa, c)])) (hl : pLen w = b) (hD : w.length + 1 + D = 4) (hF : PFq s n f p fa b c) (hM1 : am_MM s W (opn s p n D b w fa (c + 1)) W1) (hb : b + c < n) (hM : n - (b + c + 1) ≤ M) (IH : am_TLc (d + 9) e q0 s (t, i) n f p M) : am_W2 (d + 10) m_Pr_tryLegs 117 [some (aR 6 0), some (aI (zI (b + c))), some (aI (zI ((w.length : Int) + 1))), some (aI (zI (pSum s (w ++ [(fa, c)])))), x4, some (aI (zI (if enQ s n f fa.toNat (b + c) then 1 else 0))), x6, x7] [] q1 (am_TLp e q0 s (t, i) n f p (w ++ [(fa, c)]) W (opn s p n D b w fa c)) := by
  have V := hP.1.1
  have B := CV_B V
  obtain ⟨⟨hk, h30, hn⟩, ⟨L, n0, n4⟩, _⟩ := hP.2.2
  have h4 := hT.1
  rw [List.length_append] at h4
  have h4b : w.length + 1 ≤ 4 := h4
  have bw := pLen_b (okP_pop hok)
  have hx := okP_last hok
  simp only at hx
  have b20 := B.2.1 20 0 16 rfl
  refine ar_iload rfl rfl ?_
  refine ar_if_eqB rfl rfl (fun h119 => ?_) (fun h119 => ?_)
  · first
      | exact ar_ret rfl rfl (⟨rfl, W1, hP, hB, hT, MM_ne hb (Or.inl (fun y => h119 ((can_iff e35 hJ (by omega) (by omega) ⟨by omega, by omega⟩ hF).mp y))) hM1⟩)
      | exact ar_ret rfl rfl (⟨rfl, W1, hP, hB, hT, MM_ne hb (Or.inr (by omega)) hM1⟩)
  · refine ar_iload_n rfl rfl ?_
    refine ar_if_lt rfl rfl (by omega) (fun ht => by omega) (fun h123 => ?_)
    refine ar_iload_n rfl rfl ?_
    refine ar_if_lt rfl rfl (by omega) (fun ht => by omega) (fun h127 => ?_)
    refine ar_iload_n rfl rfl ?_
    refine ar_iconst rfl ?_
    refine ar_icmp_lt rfl rfl (by omega) (by omega) (fun h132 => ?_) (fun h132 => ?_)
    · obtain ⟨D, rfl⟩ : ∃ k2, D = k2 + 1 := ⟨D - 1, by omega⟩
      rw [← len_1 w (fa, c)]
      refine ar_iconst rfl ?_
      refine ar_stI6 rfl ?_
      refine lp_tl (d := d) (q := q1) (e := e) (q0 := q0) (s := s) (t := t) (i := i) (n := n) (p := p) (f := f) e35 hJ hn1 (w := w ++ [(fa, c)]) (b := b + c) (D := D) (M := M) (W := W1) hok (by rw [pLen_app, hl]) (by omega) (by omega) (by rw [List.length_append]; show w.length + 1 + 1 + D = 4; omega) IH 1000 0 W1 q1 _ (by omega) ⟨by omega, hP, hB, hT, MM_0 (fun x z => by { obtain ⟨j, z1, _⟩ := z; omega })⟩ (fun i0 x7 q2 W2 hP2 hB2 hT2 hS2 => ?_)
      exact ar_ret rfl rfl (⟨rfl, W2, hP2, hB2, hT2, MM_eq (fun x => by { rw [opn_s (s := s) (p := p) (n := n) (b := b) (w := w) (fa := fa) (c := c) (by omega), inS_lt (n := n) (b := b + c) (by omega)]; exact ⟨fun z => z.imp id (fun y => ⟨(can_iff e35 hJ (by omega) (by omega) ⟨by omega, by omega⟩ hF).mpr h119, y⟩), fun z => z.imp id (fun y => y.2)⟩ }) (MM_t hM1 hS2)⟩)
    · first
        | exact ar_ret rfl rfl (⟨rfl, W1, hP, hB, hT, MM_ne hb (Or.inl (fun y => h119 ((can_iff e35 hJ (by omega) (by omega) ⟨by omega, by omega⟩ hF).mp y))) hM1⟩)
        | exact ar_ret rfl rfl (⟨rfl, W1, hP, hB, hT, MM_ne hb (Or.inr (by omega)) hM1⟩)
theorem cs_tl {d : Nat} {q : am_A} {e : Nat} {q0 : am_A} {s : am_Z} {t i : Nat} {n p : Int} {f : Int → Int} (e35 : rI s 35 = n) (hJ : ∀ k, 0 ≤ k → k < n → rA s 36 k = f k) (hn1 : 1 ≤ n) {w : am_wP} {fa c b : Int} {D M : Nat} {W : am_wQ} (hP : am_PS e q0 q s (t, i) n f p W.1) (hB : am_BW q s W) (hT : am_TR q s (w ++ [(fa, c)])) (hok : okP (w ++ [(fa, c)])) (hl : pLen w = b) (hD : w.length + 1 + D = 4) (hF : PFq s n f p fa b c) (hb : b + c ≤ n) (hM : n - (b + c) ≤ M) (IH : ∀ M2, M = M2 + 1 → am_TLc (d + 9) e q0 s (t, i) n f p M2) : am_C2 (d + 10) m_Pr_tryLegs [aR 6 0, aI (zI (b + c)), aI (zI ((w.length : Int) + 1)), aI (zI (pSum s (w ++ [(fa, c)])))] q (am_TLp e q0 s (t, i) n f p (w ++ [(fa, c)]) W (opn s p n D b w fa c)) := by
  refine am_C2_i (ls := [some (aR 6 0), some (aI (zI (b + c))), some (aI (zI ((w.length : Int) + 1))), some (aI (zI (pSum s (w ++ [(fa, c)])))), none, none, none, none]) rfl ?_
  have V := hP.1.1
  have H := hP.2.2
  have B := CV_B V
  obtain ⟨⟨hk, h30, hn⟩, ⟨L, n0, n4⟩, ⟨r605, r606, r607, r608, r610⟩, bp, bam, hop, hr16⟩ := H
  have H := hP.2.2
  have h4 := hT.1
  have bS := pSum_b B h4
  have bw := pLen_b (okP_pop hok)
  have b20 := B.2.1 20 0 16 rfl
  have p601 : qFR q 601 (6, 0) = some (1601, 0) := V.1.2.1 601 _ rfl
  have p602 : qFR q 602 (6, 0) = some (1602, 0) := V.1.2.1 602 _ rfl
  rw [List.length_append] at h4
  have h4b : w.length + 1 ≤ 4 := h4
  have hx := okP_last hok
  simp only at hx
  have hTl := TR_last hT
  have el := len_1 w (fa, c)
  have ej : (w.length : Int) + 1 - 1 = (w.length : Int) := by omega
  refine ar_aload_n rfl rfl ?_
  refine ar_cv0 rfl rfl rfl (Nat.le_of_ble_eq_true rfl) (cs_lastS (d := 0) V hT) (by omega) (fun o q1 hq => am_B2_is ?_ hq)
  refine ar_stA4 rfl ?_
  refine cq_join (pc' := 26) (V := if enQ s n f fa.toNat (b + c) then 1 else 0) ?_ (fun K26 => ?_)
  · refine ar_stI5 rfl ?_
    refine ar_iload_n rfl rfl ?_
    refine ar_aload_n rfl rfl ?_
    refine ar_gfR rfl rfl rfl (by omega) (r606) ?_
    refine ar_cv0 rfl hk rfl (Nat.le_of_ble_eq_true rfl) (cl_szL (d := 0) hk h30 hn L) (by omega) (fun o q33 hq => am_B2_is ?_ hq)
    refine ar_icmp_lt rfl rfl (by omega) (by omega) (fun h38 => ?_) (fun h38 => ?_)
    · obtain ⟨M, rfl⟩ : ∃ k2, M = k2 + 1 := ⟨M - 1, by omega⟩
      refine ar_aload rfl rfl ?_
      refine ar_ifnull rfl rfl (fun hn => absurd hn (by simp)) (fun _ _ => ?_)
      refine ar_iload_n rfl rfl ?_
      refine ar_if_le rfl rfl (by omega) (fun ht => by omega) (fun h58 => ?_)
      refine ar_iload_n rfl rfl ?_
      refine ar_iconst rfl ?_
      refine ar_icmp_gt rfl rfl (by omega) (by omega) (fun ht => by omega) (fun h63 => ?_)
      refine ar_aload_n rfl rfl ?_
      refine ar_aload rfl rfl ?_
      refine ar_iload_n rfl rfl ?_
      refine ar_cv2 rfl rfl rfl (Nat.le_of_ble_eq_true rfl) (cs_takes (d := 0) V H (fa := fa.toNat) (by omega) (k := b + c) (by omega)) (by omega) (fun o q70 hq => am_B2_is ?_ hq)
      refine ar_if_eqB rfl rfl (fun h73 => ?_) (fun h73 => ?_)
      · first
          | exact tl_tail (d := d) e35 hJ hn1 (PS_I hP2 (Or.inl rfl)) (BW_I hB2) (TR_bump c hT2) hok hl hD hF (hS2) (by omega) (by omega) (IH M rfl)
          | exact tl_tail (d := d) e35 hJ hn1 hP hB hT hok hl hD hF (MM_0 (fun x => opn_no e35 hJ (by omega) (by omega) (by omega) (fun z => h73 z.1))) (by omega) (by omega) (IH M rfl)
          | exact tl_tail (d := d) e35 hJ hn1 hP hB hT hok hl hD hF (MM_0 (fun x => opn_no e35 hJ (by omega) (by omega) (by omega) (fun z => h81 z.2))) (by omega) (by omega) (IH M rfl)
      · refine ar_aload_n rfl rfl ?_
        refine ar_iload_n rfl rfl ?_
        refine ar_cv1 rfl rfl rfl (Nat.le_of_ble_eq_true rfl) (cs_isNear (d := 0) V H (k := b + c) (by omega)) (by omega) (fun o q78 hq => am_B2_is ?_ hq)
        refine ar_if_eqB rfl rfl (fun h81 => ?_) (fun h81 => ?_)
        · first
            | exact tl_tail (d := d) e35 hJ hn1 (PS_I hP2 (Or.inl rfl)) (BW_I hB2) (TR_bump c hT2) hok hl hD hF (hS2) (by omega) (by omega) (IH M rfl)
            | exact tl_tail (d := d) e35 hJ hn1 hP hB hT hok hl hD hF (MM_0 (fun x => opn_no e35 hJ (by omega) (by omega) (by omega) (fun z => h73 z.1))) (by omega) (by omega) (IH M rfl)
            | exact tl_tail (d := d) e35 hJ hn1 hP hB hT hok hl hD hF (MM_0 (fun x => opn_no e35 hJ (by omega) (by omega) (by omega) (fun z => h81 z.2))) (by omega) (by omega) (IH M rfl)
        · refine ar_aload_n rfl rfl ?_
          refine ar_gfR rfl rfl rfl (by omega) (p602) ?_
          refine ar_iload_n rfl rfl ?_
          refine ar_iconst rfl ?_
          refine ar_isub rfl ?_
          rw [ej]
          refine ar_dup2 rfl rfl rfl ?_
          refine ar_ia rfl rfl (V.1.2.2.1 1602 4 rfl) (by omega) (by omega) ?_
          rw [show qAI q (1602, 0) ((w.length : Nat) : Int).toNat = c from hTl.2.1]
          refine ar_iconst rfl ?_
          refine ar_iadd rfl ?_
          refine ar_ias rfl ⟨rfl, by omega⟩ (V.1.2.2.1 1602 4 rfl) (by omega) (by omega) ?_
          refine ar_aload_n rfl rfl ?_
          refine ar_iload_n rfl rfl ?_
          refine ar_iconst rfl ?_
          refine ar_iadd rfl ?_
          refine ar_iload_n rfl rfl ?_
          refine ar_iload_n rfl rfl ?_
          have hT3 := TR_bump (c + 1) hT
          refine ar_cs4 rfl rfl (Nat.le_of_ble_eq_true rfl) (by { have z := IH M rfl _ w fa (c + 1) b (pSum s (w ++ [(fa, c)])) W D (PS_I hP (Or.inl rfl)) (BW_I hB) hT3 (okP_app (okP_pop hok) ⟨by omega, by omega⟩) hl (by omega) (by omega) (PF_up hF h73 h81) hD (by rw [pSum_app, pSum_app]); rw [show b + (c + 1) = b + c + 1 by omega] at z; exact z }) (by omega) (fun o q102 hq => ?_)
          obtain ⟨rfl, W2, hP2, hB2, hT2, hS2⟩ := hq
          have V2 := hP2.1.1
          have p602b : qFR q102 602 (6, 0) = some (1602, 0) := V2.1.2.1 602 _ rfl
          have hTl2 := TR_last hT2
          refine ar_aload_n rfl rfl ?_
          refine ar_gfR rfl rfl rfl (by omega) (p602b) ?_
          refine ar_iload_n rfl rfl ?_
          refine ar_iconst rfl ?_
          refine ar_isub rfl ?_
          rw [ej]
          refine ar_dup2 rfl rfl rfl ?_
          refine ar_ia rfl rfl (V2.1.2.2.1 1602 4 rfl) (by omega) (by omega) ?_
          rw [show qAI q102 (1602, 0) ((w.length : Nat) : Int).toNat = c + 1 from hTl2.2.1]
          refine ar_iconst rfl ?_
          refine ar_isub rfl ?_
          rw [show c + 1 - 1 = c by omega]
          refine ar_ias rfl ⟨rfl, by omega⟩ (V2.1.2.2.1 1602 4 rfl) (by omega) (by omega) ?_
          first
            | exact tl_tail (d := d) e35 hJ hn1 (PS_I hP2 (Or.inl rfl)) (BW_I hB2) (TR_bump c hT2) hok hl hD hF (hS2) (by omega) (by omega) (IH M rfl)
            | exact tl_tail (d := d) e35 hJ hn1 hP hB hT hok hl hD hF (MM_0 (fun x => opn_no e35 hJ (by omega) (by omega) (by omega) (fun z => h73 z.1))) (by omega) (by omega) (IH M rfl)
            | exact tl_tail (d := d) e35 hJ hn1 hP hB hT hok hl hD hF (MM_0 (fun x => opn_no e35 hJ (by omega) (by omega) (by omega) (fun z => h81 z.2))) (by omega) (by omega) (IH M rfl)
    · refine ar_iload rfl rfl ?_
      refine ar_if_eqB rfl rfl (fun h43 => ?_) (fun h43 => ?_)
      · first
          | exact ar_ret rfl rfl (⟨rfl, _, hP2, hB2, hT2, MM_eq (fun x => by { rw [opn_end e35 hJ (by omega) (by omega) ⟨by omega, by omega⟩ hF]; exact ⟨fun z => ⟨h43, z⟩, fun z => z.2⟩ }) (MM_tk B)⟩)
          | exact ar_ret rfl rfl (⟨rfl, W, hP, hB, hT, MM_0 (fun x z => h43 ((opn_end e35 hJ (by omega) (by omega) ⟨by omega, by omega⟩ hF).mp z).1)⟩)
      · refine ar_aload_n rfl rfl ?_
        refine ar_iload_n rfl rfl ?_
        refine ar_cv1 rfl rfl rfl (Nat.le_of_ble_eq_true rfl) (by { have z := cs_keep (d := 0) e35 hJ hn1 hP hB hT hok (by rw [pLen_app, hl]; show b + c = n; omega); exact z }) (by omega) (fun o q48 hq => ?_)
        obtain ⟨rfl, hP2, hB2, hT2⟩ := hq
        first
          | exact ar_ret rfl rfl (⟨rfl, _, hP2, hB2, hT2, MM_eq (fun x => by { rw [opn_end e35 hJ (by omega) (by omega) ⟨by omega, by omega⟩ hF]; exact ⟨fun z => ⟨h43, z⟩, fun z => z.2⟩ }) (MM_tk B)⟩)
          | exact ar_ret rfl rfl (⟨rfl, W, hP, hB, hT, MM_0 (fun x z => h43 ((opn_end e35 hJ (by omega) (by omega) ⟨by omega, by omega⟩ hF).mp z).1)⟩)
  · refine ar_aload rfl rfl ?_
    refine ar_ifnull rfl rfl (fun hn => absurd hn (by simp)) (fun _ _ => ?_)
    refine ar_aload_n rfl rfl ?_
    refine ar_aload rfl rfl ?_
    refine ar_iload_n rfl rfl ?_
    refine ar_cv2 rfl rfl rfl (Nat.le_of_ble_eq_true rfl) (cs_endsAhead (d := 0) V H (fa := fa.toNat) (by omega) (k := b + c) (by omega)) (by omega) (fun o q15 hq => am_B2_is ?_ hq)
    refine ar_if_eqB rfl rfl (fun h18 => ?_) (fun h18 => ?_)
    · refine ar_iconst rfl ?_
      exact K26 _ (by first | exact (if_pos h18).symm | exact (if_neg h18).symm)
    · refine ar_iconst rfl ?_
      refine ar_goto rfl rfl ?_
      exact K26 _ (by first | exact (if_pos h18).symm | exact (if_neg h18).symm)
theorem tl_all {e : Nat} {q0 : am_A} {s : am_Z} {t i : Nat} {n p : Int} {f : Int → Int} (e35 : rI s 35 = n) (hJ : ∀ k, 0 ≤ k → k < n → rA s 36 k = f k) (hn1 : 1 ≤ n) : ∀ M d : Nat, am_TLc (d + 10 + M) e q0 s (t, i) n f p M := by
  intro M
  induction M with
  | zero => intro d q w fa c b sm W D hP hB hT hok hl hb hM hF hD hs; subst hs; exact cs_tl (d := d) e35 hJ hn1 hP hB hT hok hl hD hF hb hM (fun M2 h => by omega)
  | succ M ih =>
    intro d q w fa c b sm W D hP hB hT hok hl hb hM hF hD hs
    subst hs
    have z := cs_tl (d := d + 1 + M) e35 hJ hn1 hP hB hT hok hl hD hF hb hM (fun M2 h => by
      have e : M2 = M := by omega
      rw [e]
      have y := ih d
      rw [show d + 10 + M = d + 1 + M + 9 by omega] at y
      exact y)
    rw [show d + 1 + M + 10 = d + 10 + (M + 1) by omega] at z
    exact z
theorem cs_tl0 {d : Nat} {q : am_A} {e : Nat} {q0 : am_A} {s : am_Z} {t i : Nat} {n p : Int} {f : Int → Int} (e35 : rI s 35 = n) (hJ : ∀ k, 0 ≤ k → k < n → rA s 36 k = f k) (hn1 : 1 ≤ n) {W : am_wQ} (hP : am_PS e q0 q s (t, i) n f p W.1) (hB : am_BW q s W) (hT : am_TR q s []) : am_C2 (d + 14) m_Pr_tryLegs [aR 6 0, aI (zI 0), aI (zI 0), aI (zI 0)] q (am_TLp e q0 s (t, i) n f p [] W (inS s p n 4 0 [])) := by
  refine am_C2_i (ls := [some (aR 6 0), some (aI (zI 0)), some (aI (zI 0)), some (aI (zI 0)), none, none, none, none]) rfl ?_
  have V := hP.1.1
  have H := hP.2.2
  have B := CV_B V
  obtain ⟨⟨hk, h30, hn⟩, ⟨L, n0, n4⟩, ⟨r605, r606, r607, r608, r610⟩, bp, bam, hop, hr16⟩ := H
  have H := hP.2.2
  have h4 := hT.1
  have bS := pSum_b B h4
  have b20 := B.2.1 20 0 16 rfl
  have p601 : qFR q 601 (6, 0) = some (1601, 0) := V.1.2.1 601 _ rfl
  have p602 : qFR q 602 (6, 0) = some (1602, 0) := V.1.2.1 602 _ rfl
  refine ar_aload_n rfl rfl ?_
  refine ar_cv0 rfl rfl rfl (Nat.le_of_ble_eq_true rfl) (cs_lastN (d := 0) V hT) (by omega) (fun o q1 hq => am_B2_is ?_ hq)
  refine ar_stA4 rfl ?_
  refine ar_aload rfl rfl ?_
  refine ar_ifnull rfl rfl (fun _ => ?_) (fun r hr => absurd hr (by simp))
  refine ar_iconst rfl ?_
  refine ar_goto rfl rfl ?_
  refine ar_stI5 rfl ?_
  refine ar_iload_n rfl rfl ?_
  refine ar_aload_n rfl rfl ?_
  refine ar_gfR rfl rfl rfl (by omega) (r606) ?_
  refine ar_cv0 rfl hk rfl (Nat.le_of_ble_eq_true rfl) (cl_szL (d := 0) hk h30 hn L) (by omega) (fun o q33 hq => am_B2_is ?_ hq)
  refine ar_icmp_lt rfl rfl (by omega) (by omega) (fun h38 => ?_) (fun hf => by omega)
  refine ar_aload rfl rfl ?_
  refine ar_ifnull rfl rfl (fun _ => ?_) (fun r hr => absurd hr (by simp))
  refine ar_iload rfl rfl ?_
  refine ar_if_eq rfl rfl (by omega) (fun ht => by omega) (fun h119 => ?_)
  refine ar_iload_n rfl rfl ?_
  refine ar_if_lt rfl rfl (by omega) (fun ht => by omega) (fun h123 => ?_)
  refine ar_iload_n rfl rfl ?_
  refine ar_if_lt rfl rfl (by omega) (fun ht => by omega) (fun h127 => ?_)
  refine ar_iload_n rfl rfl ?_
  refine ar_iconst rfl ?_
  refine ar_icmp_lt rfl rfl (by omega) (by omega) (fun h132 => ?_) (fun hf => by omega)
  refine ar_iconst rfl ?_
  refine ar_stI6 rfl ?_
  refine lp_tl (d := d + 4) (q := q) (e := e) (q0 := q0) (s := s) (t := t) (i := i) (n := n) (p := p) (f := f) e35 hJ hn1 (w := []) (b := 0) (D := 3) (M := 3) (W := W) (fun x hx => absurd hx (by simp)) rfl (by omega) (by omega) rfl (tl_all e35 hJ hn1 3 d) 1000 0 W q _ (by omega) ⟨by omega, hP, hB, hT, MM_0 (fun x z => by { obtain ⟨j, z1, _⟩ := z; omega })⟩ (fun i0 x7 q2 W2 hP2 hB2 hT2 hS2 => ?_)
  exact ar_ret rfl rfl (⟨rfl, W2, hP2, hB2, hT2, MM_eq (fun x => by rw [inS_lt (n := n) (b := 0) (by omega)]) hS2⟩)
end

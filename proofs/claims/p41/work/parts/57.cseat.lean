noncomputable section
theorem cs_share {d : Nat} {q : am_A} {s : am_Z} (V : am_CV q s) {b c : Int} (hb : in32 b) (hc : in32 c) : am_C2 (d + 5) m_X_share [aR 8 0, aI (zI b), aI (zI c)] q (am_T2 (cpP s b c) 13 (some (aI (zI (rA s 57 (10 * b + c))))) q) := by
  refine am_C2_i (ls := [some (aR 8 0), some (aI (zI b)), some (aI (zI c))]) rfl ?_
  have b44 := (CV_B V).2.1 44 0 40 rfl
  have e52 : 0 ≤ b → rA s 52 ((b.toNat : Nat) : Int) = rA s 52 b := fun h => by rw [show ((b.toNat : Nat) : Int) = b by omega]
  have eb : cpP s b c → 10 * ((b.toNat : Nat) : Int) + ((c.toNat : Nat) : Int) = 10 * b + c := fun z => by omega
  have hcp : cpP s b c → am_Cp q s b.toNat c.toNat := fun z => V.2.2.2.2.2.2.1.2.2.2.1 b.toNat c.toNat (by omega) (by rw [e52 (by omega)]; omega)
  have hf : ∀ f j, fCp f = some j → cpP s b c → qFI q f (1, cId q b.toNat c.toNat) = rA s j (10 * b + c) := fun f j h z => by rw [(hcp z).2.2.2.2 f j h, eb z]
  refine ar_aload_n rfl rfl ?_
  refine ar_iload_n rfl rfl ?_
  refine ar_iload_n rfl rfl ?_
  refine ar_cv2 rfl rfl rfl (Nat.le_of_ble_eq_true rfl) (cs_findCoupon (d := 0) V (by omega) (by omega)) (by omega) (fun o q3 hq => am_B2_T rfl (fun h3 => ?_) (fun h3 => ?_) hq)
  · refine ar_gfIv rfl rfl rfl (by omega) (hf 103 57 rfl h3) ?_
    exact ar_iret rfl (Or.inl rfl) (⟨fun _ => ⟨by first | rfl | (congr; omega), rfl⟩, fun z => absurd (by omega) z⟩)
  · exact ⟨fun z => absurd z (by omega), fun _ => ⟨rfl, rfl⟩⟩
theorem cs_coupon {d : Nat} {q : am_A} {s : am_Z} (V : am_CV q s) {b c : Int} (hb : in32 b) (hc : in32 c) : am_C2 (d + 5) m_X_coupon [aR 8 0, aI (zI b), aI (zI c)] q (am_T2 (cpP s b c) 13 (some (aI (zI (100 * rA s 53 (10 * b + c) + 10 * rA s 54 (10 * b + c) + rA s 55 (10 * b + c))))) q) := by
  refine am_C2_i (ls := [some (aR 8 0), some (aI (zI b)), some (aI (zI c)), none]) rfl ?_
  have b44 := (CV_B V).2.1 44 0 40 rfl
  have e52 : 0 ≤ b → rA s 52 ((b.toNat : Nat) : Int) = rA s 52 b := fun h => by rw [show ((b.toNat : Nat) : Int) = b by omega]
  have eb : cpP s b c → 10 * ((b.toNat : Nat) : Int) + ((c.toNat : Nat) : Int) = 10 * b + c := fun z => by omega
  have hcp : cpP s b c → am_Cp q s b.toNat c.toNat := fun z => V.2.2.2.2.2.2.1.2.2.2.1 b.toNat c.toNat (by omega) (by rw [e52 (by omega)]; omega)
  have hf : ∀ f j, fCp f = some j → cpP s b c → qFI q f (1, cId q b.toNat c.toNat) = rA s j (10 * b + c) := fun f j h z => by rw [(hcp z).2.2.2.2 f j h, eb z]
  refine ar_aload_n rfl rfl ?_
  refine ar_iload_n rfl rfl ?_
  refine ar_iload_n rfl rfl ?_
  refine ar_cv2 rfl rfl rfl (Nat.le_of_ble_eq_true rfl) (cs_findCoupon (d := 0) V (by omega) (by omega)) (by omega) (fun o q3 hq => am_B2_T rfl (fun h3 => ?_) (fun h3 => ?_) hq)
  · have hz := hcp h3
    have hleg : qFR q 100 (1, cId q b.toNat c.toNat) = some (5, lId q (rA s 53 (10 * b + c))) := by { rw [hz.2.2.1, eb h3] }
    have hnum : qFI q 502 (5, lId q (rA s 53 (10 * b + c))) = rA s 53 (10 * b + c) := by { have y := hz.2.2.2.1; rw [eb h3] at y; exact (V.2.2.2.1.1 _ y).2.2.2.2.1 }
    refine ar_stA3 rfl ?_
    refine ar_bipush (x := 100) rfl rfl ?_
    refine ar_aload_n rfl rfl ?_
    refine ar_gfR rfl rfl rfl (by omega) (hleg) ?_
    refine ar_gfIv rfl rfl rfl (by omega) (hnum) ?_
    refine ar_imul rfl ?_
    refine ar_bipush (x := 10) rfl rfl ?_
    refine ar_aload_n rfl rfl ?_
    refine ar_gfIv rfl rfl rfl (by omega) (hf 101 54 rfl h3) ?_
    refine ar_imul rfl ?_
    refine ar_iadd rfl ?_
    refine ar_aload_n rfl rfl ?_
    refine ar_gfIv rfl rfl rfl (by omega) (hf 105 55 rfl h3) ?_
    refine ar_iadd rfl ?_
    exact ar_iret rfl (Or.inl rfl) (⟨fun _ => ⟨by first | rfl | (congr; omega), rfl⟩, fun z => absurd (by omega) z⟩)
  · exact ⟨fun z => absurd z (by omega), fun _ => ⟨rfl, rfl⟩⟩
theorem cs_booking {d : Nat} {q : am_A} {s : am_Z} (V : am_CV q s) {b : Int} (hb : in32 b) : am_C2 (d + 4) m_X_booking [aR 8 0, aI (zI b)] q (am_T2 (0 ≤ b ∧ b < rI s 44) 13 (some (aI (zI (1000 * rA s 47 b + 10 * rA s 52 b + rA s 45 b)))) q) := by
  refine am_C2_i (ls := [some (aR 8 0), some (aI (zI b)), none]) rfl ?_
  have b44 := (CV_B V).2.1 44 0 40 rfl
  have e : 0 ≤ b → ((b.toNat : Nat) : Int) = b := fun h => by omega
  have hbk : 0 ≤ b ∧ b < rI s 44 → am_Bk q s b.toNat := fun z => V.2.2.2.2.2.2.1.2.2.1 b.toNat (by omega)
  have hf : ∀ f j, fBk f = some j → 0 ≤ b ∧ b < rI s 44 → qFI q f (0, b.toNat) = rA s j b := fun f j h z => by rw [(hbk z).1 f j h, e z.1]
  refine ar_aload_n rfl rfl ?_
  refine ar_iload_n rfl rfl ?_
  refine ar_cv1 rfl rfl rfl (Nat.le_of_ble_eq_true rfl) (cs_findBooking (d := 0) V (by omega)) (by omega) (fun o q2 hq => am_B2_T rfl (fun h2 => ?_) (fun h2 => ?_) hq)
  · refine ar_stA2 rfl ?_
    refine ar_sipush (x := 1000) rfl rfl ?_
    refine ar_aload_n rfl rfl ?_
    refine ar_gfIv rfl rfl rfl (by omega) (hf 7 47 rfl h2) ?_
    refine ar_imul rfl ?_
    refine ar_bipush (x := 10) rfl rfl ?_
    refine ar_aload_n rfl rfl ?_
    refine ar_gfR rfl rfl rfl (by omega) ((hbk h2).2.1.1) ?_
    refine ar_cv0 rfl rfl rfl (Nat.le_of_ble_eq_true rfl) (cl_szC (d := 0) V (b := b.toNat) (by omega)) (by omega) (fun o q20 hq => am_B2_is ?_ hq)
    rw [e (by omega)]
    refine ar_imul rfl ?_
    refine ar_iadd rfl ?_
    refine ar_aload_n rfl rfl ?_
    refine ar_gfIv rfl rfl rfl (by omega) (hf 6 45 rfl h2) ?_
    refine ar_iadd rfl ?_
    exact ar_iret rfl (Or.inl rfl) (⟨fun _ => ⟨by first | rfl | (congr; omega), rfl⟩, fun z => absurd (by omega) z⟩)
  · exact ⟨fun z => absurd z (by omega), fun _ => ⟨rfl, rfl⟩⟩
theorem lId_inj {q : am_A} {s : am_Z} (V : am_CV q s) {l1 l2 : Int} (h1 : legP s l1) (h2 : legP s l2) (h : lId q l1 = lId q l2) : l1 = l2 := by
  have e1 := (V.2.2.2.1.1 l1 h1).2.2.2.2.1
  have e2 := (V.2.2.2.1.1 l2 h2).2.2.2.2.1
  rw [h] at e1
  exact e1.symm.trans e2
theorem lp_cs1 {d : Nat} {q : am_A} {Q : am_O → am_A → Prop} {s : am_Z} (V : am_CV q s) {l bk a0 i : Int} {b : Nat} (hl : legP s l) (hk : in32 bk) (hb : (b : Int) < rI s 44) (hst : rA s 47 b ≤ 1) : ∀ (m : Nat) (j : Nat) (k acc : Int) (x7 : Option am_V), (rA s 52 b).toNat - j < m → (k = j ∧ (j : Int) ≤ rA s 52 b ∧ acc = a0 + sumI (10 * b) j (cSold s l bk b)) → (∀ x5 x6 x7, am_W2 (d + 3) m_X_soldSeats 123 [some (aR 8 0), some (aR 5 (lId q l)), some (aI (zI bk)), some (aI (zI (a0 + bSold s l bk b))), some (aI (zI i)), x5, x6, x7] [] (q) Q) → am_W2 (d + 3) m_X_soldSeats 54 [some (aR 8 0), some (aR 5 (lId q l)), some (aI (zI bk)), some (aI (zI acc)), some (aI (zI i)), some (aR 0 b), some (aI (zI k)), x7] [] (q) Q := by
  intro m
  induction m with
  | zero => intro j k acc x7 hm; exact absurd hm (Nat.not_lt_zero _)
  | succ m ih =>
    intro j k acc x7 hm ⟨hj, hj2, hacc⟩ K
    subst hj
    subst hacc
    have b52 := (CV_B V).1 52 b 0 10 rfl
    have hBk := V.2.2.2.2.2.2.1.2.2.1 b hb
    have ho := V.2.2.2.2.2.2.1.2.2.2.1 b j hb
    have b54 := (CV_B V).1 54 (10 * (b : Int) + (j : Int)) 0 3 rfl
    have b55 := (CV_B V).1 55 (10 * (b : Int) + (j : Int)) 0 5 rfl
    refine ar_iload rfl rfl ?_
    refine ar_aload rfl rfl ?_
    refine ar_gfR rfl rfl rfl (by omega) (hBk.2.1.1) ?_
    refine ar_cv0 rfl rfl rfl (Nat.le_of_ble_eq_true rfl) (cl_szC (d := 0) V hb) (by omega) (fun o q61 hq => am_B2_is ?_ hq)
    refine ar_icmp_ge rfl rfl (by omega) (by omega) (fun h64 => ?_) (fun h64 => ?_)
    · rw [show a0 + sumI (10 * b) j (cSold s l bk b) = a0 + bSold s l bk b by { unfold bSold; rw [if_pos hst, show (rA s 52 b).toNat = j by omega] }]
      exact K _ _ _
    · refine ar_aload rfl rfl ?_
      refine ar_gfR rfl rfl rfl (by omega) (hBk.2.1.1) ?_
      refine ar_iload rfl rfl ?_
      refine ar_cv1 rfl rfl rfl (Nat.le_of_ble_eq_true rfl) (cl_getC (d := 0) V hb (by omega)) (by omega) (fun o q74 hq => am_B2_is ?_ hq)
      rw [Int.toNat_natCast]
      refine ar_cast rfl rfl rfl ?_
      refine ar_stA7 rfl ?_
      refine ar_aload rfl rfl ?_
      refine ar_gfR rfl rfl rfl (by omega) ((ho (by omega)).2.2.1) ?_
      refine ar_aload_n rfl rfl ?_
      refine ar_acmp_ne rfl rfl (fun h88 => ?_) (fun h88 => ?_)
      · try have hle : rA s 53 (10 * (b : Int) + (j : Int)) ≠ l := fun z => h88 (by rw [z])
        refine ar_inc6 rfl ?_
        refine ar_goto rfl rfl ?_
        exact ih (j + 1) _ _ _ (by omega) ⟨by omega, by omega, by simp only [sumI_s, cSold]; omega⟩ K
      · have hle : rA s 53 (10 * (b : Int) + (j : Int)) = l := lId_inj V (ho (by omega)).2.2.2.1 hl (congrArg Prod.snd (Option.some.inj h88))
        refine ar_aload rfl rfl ?_
        refine ar_gfIv rfl rfl rfl (by omega) ((ho (by omega)).2.2.2.2 101 54 rfl) ?_
        refine ar_iload_n rfl rfl ?_
        refine ar_icmp_lt rfl rfl (by omega) (by omega) (fun h97 => ?_) (fun h97 => ?_)
        · try have hle : rA s 53 (10 * (b : Int) + (j : Int)) ≠ l := fun z => h88 (by rw [z])
          refine ar_inc6 rfl ?_
          refine ar_goto rfl rfl ?_
          exact ih (j + 1) _ _ _ (by omega) ⟨by omega, by omega, by simp only [sumI_s, cSold]; omega⟩ K
        · refine ar_aload rfl rfl ?_
          refine ar_gfIv rfl rfl rfl (by omega) ((ho (by omega)).2.2.2.2 105 55 rfl) ?_
          refine ar_iconst rfl ?_
          refine ar_icmp_gt rfl rfl (by omega) (by omega) (fun h106 => ?_) (fun h106 => ?_)
          · try have hle : rA s 53 (10 * (b : Int) + (j : Int)) ≠ l := fun z => h88 (by rw [z])
            refine ar_inc6 rfl ?_
            refine ar_goto rfl rfl ?_
            exact ih (j + 1) _ _ _ (by omega) ⟨by omega, by omega, by simp only [sumI_s, cSold]; omega⟩ K
          · refine ar_iload_n rfl rfl ?_
            refine ar_aload rfl rfl ?_
            refine ar_gfIv rfl rfl rfl (by omega) (hBk.1 6 45 rfl) ?_
            refine ar_iadd rfl ?_
            refine ar_stI3 rfl ?_
            try have hle : rA s 53 (10 * (b : Int) + (j : Int)) ≠ l := fun z => h88 (by rw [z])
            refine ar_inc6 rfl ?_
            refine ar_goto rfl rfl ?_
            exact ih (j + 1) _ _ _ (by omega) ⟨by omega, by omega, by simp only [sumI_s, cSold]; omega⟩ K
theorem lp_cs2 {d : Nat} {q : am_A} {Q : am_O → am_A → Prop} {s : am_Z} (V : am_CV q s) {l bk : Int} (hl : legP s l) (hk : in32 bk) : ∀ (m : Nat) (j : Nat) (i acc : Int) (x5 x6 x7 : Option am_V), (rI s 44).toNat - j < m → (i = j ∧ (j : Int) ≤ rI s 44 ∧ acc = sumI 0 j (bSold s l bk)) → (∀ x4 x5 x6 x7, am_W2 (d + 3) m_X_soldSeats 129 [some (aR 8 0), some (aR 5 (lId q l)), some (aI (zI bk)), some (aI (zI (sold s l bk))), x4, x5, x6, x7] [] (q) Q) → am_W2 (d + 3) m_X_soldSeats 5 [some (aR 8 0), some (aR 5 (lId q l)), some (aI (zI bk)), some (aI (zI acc)), some (aI (zI i)), x5, x6, x7] [] (q) Q := by
  intro m
  induction m with
  | zero => intro j i acc x5 x6 x7 hm; exact absurd hm (Nat.not_lt_zero _)
  | succ m ih =>
    intro j i acc x5 x6 x7 hm ⟨hj, hj2, hacc⟩ K
    subst hj
    subst hacc
    have b44 := (CV_B V).2.1 44 0 40 rfl
    have b47 := (CV_B V).1 47 (j : Int) 0 3 rfl
    refine ar_iload rfl rfl ?_
    refine ar_aload_n rfl rfl ?_
    refine ar_gfR rfl rfl rfl (by omega) (V.1.1 806 _ rfl) ?_
    refine ar_cv0 rfl rfl rfl (Nat.le_of_ble_eq_true rfl) (cl_szB (d := 0) V) (by omega) (fun o q11 hq => am_B2_is ?_ hq)
    refine ar_icmp_ge rfl rfl (by omega) (by omega) (fun h14 => ?_) (fun h14 => ?_)
    · rw [show sumI 0 j (bSold s l bk) = sold s l bk by { unfold sold; rw [show (rI s 44).toNat = j by omega] }]
      exact K _ _ _ _
    · refine ar_aload_n rfl rfl ?_
      refine ar_gfR rfl rfl rfl (by omega) (V.1.1 806 _ rfl) ?_
      refine ar_iload rfl rfl ?_
      refine ar_cv1 rfl rfl rfl (Nat.le_of_ble_eq_true rfl) (cl_getB (d := 0) V (by omega)) (by omega) (fun o q23 hq => am_B2_is ?_ hq)
      rw [Int.toNat_natCast]
      refine ar_cast rfl rfl rfl ?_
      refine ar_stA5 rfl ?_
      refine ar_aload rfl rfl ?_
      refine ar_gfIv rfl rfl rfl (by omega) ((V.2.2.2.2.2.2.1.2.2.1 j (by omega)).1 7 47 rfl) ?_
      refine ar_if_eq rfl rfl (by omega) (fun h36 => ?_) (fun h36 => ?_)
      · refine ar_iconst rfl ?_
        refine ar_stI6 rfl ?_
        refine lp_cs1 (d := d) V (b := j) (a0 := sumI 0 j (bSold s l bk)) hl hk (by omega) (by omega) ((rA s 52 (j : Int)).toNat + 1) 0 0 _ _ (by omega) ⟨rfl, by have := (CV_B V).1 52 (j : Int) 0 10 rfl; omega, by simp only [sumI]; omega⟩ (fun x5 x6 x7 => ?_)
        refine ar_inc4 rfl ?_
        refine ar_goto rfl rfl ?_
        have e := sumI_s 0 j (bSold s l bk)
        rw [Int.zero_add] at e
        exact ih (j + 1) _ _ _ _ _ (by omega) ⟨by omega, by omega, by omega⟩ K
      · refine ar_aload rfl rfl ?_
        refine ar_gfIv rfl rfl rfl (by omega) ((V.2.2.2.2.2.2.1.2.2.1 j (by omega)).1 7 47 rfl) ?_
        refine ar_iconst rfl ?_
        refine ar_icmp_eq rfl rfl (by omega) (by omega) (fun h45 => ?_) (fun h45 => ?_)
        · refine ar_iconst rfl ?_
          refine ar_stI6 rfl ?_
          refine lp_cs1 (d := d) V (b := j) (a0 := sumI 0 j (bSold s l bk)) hl hk (by omega) (by omega) ((rA s 52 (j : Int)).toNat + 1) 0 0 _ _ (by omega) ⟨rfl, by have := (CV_B V).1 52 (j : Int) 0 10 rfl; omega, by simp only [sumI]; omega⟩ (fun x5 x6 x7 => ?_)
          refine ar_inc4 rfl ?_
          refine ar_goto rfl rfl ?_
          have e := sumI_s 0 j (bSold s l bk)
          rw [Int.zero_add] at e
          exact ih (j + 1) _ _ _ _ _ (by omega) ⟨by omega, by omega, by omega⟩ K
        · have hz : bSold s l bk (j : Int) = 0 := if_neg (by omega)
          refine ar_goto rfl rfl ?_
          refine ar_inc4 rfl ?_
          refine ar_goto rfl rfl ?_
          have e := sumI_s 0 j (bSold s l bk)
          rw [Int.zero_add] at e
          exact ih (j + 1) _ _ _ _ _ (by omega) ⟨by omega, by omega, by omega⟩ K
theorem cs_soldSeats {d : Nat} {q : am_A} {s : am_Z} (V : am_CV q s) {l bk : Int} (hl : legP s l) (hk : in32 bk) : am_C2 (d + 3) m_X_soldSeats [aR 8 0, aR 5 (lId q l), aI (zI bk)] q (am_is2 (aI (zI (sold s l bk))) q) := by
  refine am_C2_i (ls := [some (aR 8 0), some (aR 5 (lId q l)), some (aI (zI bk)), none, none, none, none, none]) rfl ?_
  have b44 := (CV_B V).2.1 44 0 40 rfl
  refine ar_iconst rfl ?_
  refine ar_stI3 rfl ?_
  refine ar_iconst rfl ?_
  refine ar_stI4 rfl ?_
  refine lp_cs2 (d := d) V hl hk ((rI s 44).toNat + 1) 0 0 0 _ _ _ (by omega) ⟨rfl, by omega, rfl⟩ (fun x4 x5 x6 x7 => ?_)
  refine ar_iload_n rfl rfl ?_
  exact ar_iret rfl (Or.inl rfl) (cq_eP (by first | rfl | omega))
theorem lp_cop {d : Nat} {q : am_A} {Q : am_O → am_A → Prop} {s : am_Z} (V : am_CV q s) {l b : Int} (hl : legP s l) (hb : 0 ≤ b ∧ b ≤ 3) : ∀ (m : Nat) (j : Nat) (k acc : Int), b.toNat - j < m → (k = j + 1 ∧ (j : Int) ≤ b ∧ acc = minL s l j) → (∀ x4, am_W2 (d + 4) m_X_openSeats 74 [some (aR 8 0), some (aR 5 (lId q l)), some (aI (zI b)), some (aI (zI (minL s l b.toNat))), x4] [] (q) Q) → am_W2 (d + 4) m_X_openSeats 33 [some (aR 8 0), some (aR 5 (lId q l)), some (aI (zI b)), some (aI (zI acc)), some (aI (zI k))] [] (q) Q := by
  intro m
  induction m with
  | zero => intro j k acc hm; exact absurd hm (Nat.not_lt_zero _)
  | succ m ih =>
    intro j k acc hm ⟨hj, hj2, hacc⟩ K
    subst hj
    subst hacc
    have b3 := (CV_B V).2.1 3 0 12 rfl
    have hm := minL_b (CV_B V) l j
    have hg := V.2.2.2.1.1 l hl
    have hso := sold_b (CV_B V) l ((j : Int) + 1)
    have hli := (CV_B V).1 14 (4 * (l / 100) + ((j : Int) + 1)) 0 70 rfl
    have e4 : 4 * (((l / 100).toNat : Nat) : Int) + ((j : Int) + 1) = 4 * (l / 100) + ((j : Int) + 1) := by omega
    refine ar_iload rfl rfl ?_
    refine ar_iload_n rfl rfl ?_
    refine ar_icmp_gt rfl rfl (by omega) (by omega) (fun h36 => ?_) (fun h36 => ?_)
    · rw [show minL s l j = minL s l b.toNat by rw [show b.toNat = j by omega]]
      exact K _
    · refine ar_iload rfl rfl ?_
      refine ar_iconst rfl ?_
      refine ar_icmp_ge rfl rfl (by omega) (by omega) (fun h42 => ?_) (fun h42 => ?_)
      · rw [show minL s l j = minL s l b.toNat by rw [show b.toNat = j by omega]]
        exact K _
      · refine ar_iload_n rfl rfl ?_
        refine ar_aload_n rfl rfl ?_
        refine ar_gfR rfl rfl rfl (by omega) (hg.2.2.1) ?_
        refine ar_gfR rfl rfl rfl (by omega) ((V.2.2.1.2.2.1 (l / 100).toNat (by omega)).2.2.2.1) ?_
        refine ar_iload rfl rfl ?_
        refine ar_ia rfl rfl ((V.2.2.1.2.2.1 (l / 100).toNat (by omega)).2.2.2.2.2.2.1) (by omega) (by omega) ?_
        rw [(V.2.2.1.2.2.1 (l / 100).toNat (by omega)).2.2.2.2.2.2.2.2 ((j : Int) + 1) (by omega) (by omega), e4]
        refine ar_aload_n rfl rfl ?_
        refine ar_aload_n rfl rfl ?_
        refine ar_iload rfl rfl ?_
        refine ar_cv2 rfl rfl rfl (Nat.le_of_ble_eq_true rfl) (cs_soldSeats (d := 0) V (by assumption) (by omega)) (by omega) (fun o q60 hq => am_B2_is ?_ hq)
        refine ar_isub rfl ?_
        refine ar_cs2 rfl rfl (Nat.le_of_ble_eq_true rfl) (cs_min (d := 0) (by omega) (by omega)) (by omega) (fun o q64 hq => am_B2_is ?_ hq)
        refine ar_stI3 rfl ?_
        refine ar_inc4 rfl ?_
        refine ar_goto rfl rfl ?_
        exact ih (j + 1) _ _ (by omega) ⟨by omega, by omega, rfl⟩ K
theorem cs_openSeats {d : Nat} {q : am_A} {s : am_Z} (V : am_CV q s) {l b : Int} (hl : legP s l) (hb : 0 ≤ b ∧ b ≤ 3) : am_C2 (d + 4) m_X_openSeats [aR 8 0, aR 5 (lId q l), aI (zI b)] q (am_is2 (aI (zI (openS s l b))) q) := by
  refine am_C2_i (ls := [some (aR 8 0), some (aR 5 (lId q l)), some (aI (zI b)), none, none]) rfl ?_
  have b3 := (CV_B V).2.1 3 0 12 rfl
  have b0 := (CV_B V).2.1 0 0 60000 rfl
  have hg := V.2.2.2.1.1 l hl
  have hd := dep_b (CV_B V) (l := l) (by omega)
  have hc := (CV_B V).1 18 (61 * (l / 100) + l % 100) 0 1 rfl
  have hm := minL_b (CV_B V) l b.toNat
  have e0 : 4 * (((l / 100).toNat : Nat) : Int) + 0 = 4 * (l / 100) := by omega
  refine ar_aload_n rfl rfl ?_
  refine ar_aload_n rfl rfl ?_
  refine ar_gfIv rfl rfl rfl (by omega) (V.2.1.2.2.2.2.1) ?_
  refine ar_cv1 rfl rfl rfl (Nat.le_of_ble_eq_true rfl) (cs_isAhead (d := 0) hg.2.2.2.2.2.2.2.2 hg.2.2.2.2.2.1 (by omega) (by omega) (by omega)) (by omega) (fun o q5 hq => am_B2_is ?_ hq)
  refine ar_if_neB rfl rfl (fun h8 => ?_) (fun h8 => ?_)
  · refine ar_aload_n rfl rfl ?_
    refine ar_gfR rfl rfl rfl (by omega) (hg.2.2.1) ?_
    refine ar_gfR rfl rfl rfl (by omega) ((V.2.2.1.2.2.1 (l / 100).toNat (by omega)).2.2.2.1) ?_
    refine ar_iconst rfl ?_
    refine ar_ia rfl rfl ((V.2.2.1.2.2.1 (l / 100).toNat (by omega)).2.2.2.2.2.2.1) (by omega) (by omega) ?_
    rw [(V.2.2.1.2.2.1 (l / 100).toNat (by omega)).2.2.2.2.2.2.2.2 0 (by omega) (by omega), e0]
    refine ar_aload_n rfl rfl ?_
    refine ar_aload_n rfl rfl ?_
    refine ar_iconst rfl ?_
    refine ar_cv2 rfl rfl rfl (Nat.le_of_ble_eq_true rfl) (cs_soldSeats (d := 0) V (by assumption) (by omega)) (by omega) (fun o q25 hq => am_B2_is ?_ hq)
    refine ar_isub rfl ?_
    refine ar_stI3 rfl ?_
    refine ar_iconst rfl ?_
    refine ar_stI4 rfl ?_
    refine lp_cop (d := d) V hl hb (b.toNat + 1) 0 1 _ (by omega) ⟨rfl, by omega, rfl⟩ (fun x4 => ?_)
    refine ar_iconst rfl ?_
    refine ar_iload_n rfl rfl ?_
    refine ar_cs2 rfl rfl (Nat.le_of_ble_eq_true rfl) (cs_max (d := 0) (by omega) (by omega)) (by omega) (fun o q76 hq => am_B2_is ?_ hq)
    exact ar_iret rfl (Or.inl rfl) (cq_eP (by unfold openS; first | rw [if_neg (by omega)] | (rw [if_pos (by omega)]; split <;> omega)))
  · refine ar_iconst rfl ?_
    exact ar_iret rfl (Or.inl rfl) (cq_eP (by unfold openS; first | rw [if_neg (by omega)] | (rw [if_pos (by omega)]; split <;> omega)))
theorem cs_open {d : Nat} {q : am_A} {s : am_Z} (V : am_CV q s) {l b : Int} (hl : in32 l) (hb : in32 b) : am_C2 (d + 5) m_X_open [aR 8 0, aI (zI l), aI (zI b)] q (am_T2 (legP s l ∧ 0 ≤ b ∧ b ≤ 3) 13 (some (aI (zI (openS s l b)))) q) := by
  refine am_C2_i (ls := [some (aR 8 0), some (aI (zI l)), some (aI (zI b)), none]) rfl ?_
  refine ar_aload_n rfl rfl ?_
  refine ar_iload_n rfl rfl ?_
  refine ar_cv1 rfl rfl rfl (Nat.le_of_ble_eq_true rfl) (cs_findLeg (d := 0) V (by omega)) (by omega) (fun o q2 hq => am_B2_T rfl (fun h2 => ?_) (fun h2 => ?_) hq)
  · refine ar_stA3 rfl ?_
    refine ar_iload_n rfl rfl ?_
    refine ar_iconst rfl ?_
    refine ar_cs2 rfl rfl (Nat.le_of_ble_eq_true rfl) (cs_needIndex (d := 0) (by omega) (by omega)) (by omega) (fun o q8 hq => am_B2_T rfl (fun h8 => ?_) (fun h8 => ?_) hq)
    · refine ar_aload_n rfl rfl ?_
      refine ar_aload_n rfl rfl ?_
      refine ar_iload_n rfl rfl ?_
      refine ar_cv2 rfl rfl rfl (Nat.le_of_ble_eq_true rfl) (cs_openSeats (d := 0) V (by assumption) (by omega)) (by omega) (fun o q14 hq => am_B2_is ?_ hq)
      exact ar_iret rfl (Or.inl rfl) (⟨fun _ => ⟨rfl, rfl⟩, fun z => absurd ⟨h2, by omega, by omega⟩ z⟩)
    · exact ⟨fun z => absurd z.2 (by omega), fun _ => ⟨rfl, rfl⟩⟩
  · exact ⟨fun z => absurd z.1 h2, fun _ => ⟨rfl, rfl⟩⟩
end

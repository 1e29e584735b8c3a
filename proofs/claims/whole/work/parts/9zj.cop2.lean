noncomputable section
section VAL
variable {s : am_Z}
/-- a sum with at most one part that isn't zero -/
theorem sum_at {a : Int} {n : Nat} {f : Int → Int} {i0 : Int} (h0 : a ≤ i0 ∧ i0 < a + n) (h : ∀ i, a ≤ i → i < a + n → i ≠ i0 → f i = 0) : sumI a n f = f i0 := by
  induction n with
  | zero => omega
  | succ n ih =>
    rw [sumI_s]
    by_cases e : i0 = a + n
    · rw [show sumI a n f = 0 from ?_, e]
      · omega
      · have : ∀ m : Nat, m ≤ n → sumI a m f = 0 := fun m hm => by
          induction m with
          | zero => rfl
          | succ m ihm => rw [sumI_s, ihm (by omega), h (a + m) (by omega) (by omega) (by omega)]; rfl
        exact this n (Nat.le_refl _)
    · rw [ih (by omega) (fun i i1 i2 i3 => h i i1 (by omega) i3), h (a + n) (by omega) (by omega) (by omega)]
      omega
theorem sum_0 {a : Int} {n : Nat} {f : Int → Int} (h : ∀ i, a ≤ i → i < a + n → f i = 0) : sumI a n f = 0 := by
  induction n with
  | zero => rfl
  | succ n ih => rw [sumI_s, ih (fun i i1 i2 => h i i1 (by omega)), h (a + n) (by omega) (by omega)]; rfl
theorem tk_val {l : Int} (B : in_S s) (U : am_UQ s) : nTk s l = tkVc s l := by
  have b44 := B.2.1 44 0 40 rfl
  unfold nTk tkVc
  refine sumI_c (fun b b1 b2 => ?_)
  have c52 := B.1 52 b 0 10 rfl
  unfold bTk tkFc
  by_cases h47 : rA s 47 b = 1
  · rw [if_pos h47]
    have pb := pfR_b s b l 12 0 (by omega)
    by_cases hp : pfS s b l = -1
    · rw [if_neg (fun z => z.2 hp)]
      refine sum_0 (fun x x1 x2 => ?_)
      unfold cTk
      refine if_neg (fun z => ?_)
      have c55 := B.1 55 x 0 5 rfl
      refine pfR_ex (s := s) (b := b) (l := l) 12 0 (x - 10 * b) (by omega) (by omega) (by omega) (by omega) ?_ hp
      unfold pfM
      rw [show 10 * b + (x - 10 * b) = x by omega]
      exact ⟨z.1, by omega⟩
    · rw [if_pos ⟨h47, hp⟩]
      rcases pb with z | z
      · exact absurd z hp
      · have z1 : 0 ≤ pfS s b l := z.1
        have z2 : pfS s b l < rA s 52 b := z.2.1
        have z3 : pfM s b l (pfS s b l) := z.2.2
        rw [sum_at (i0 := 10 * b + pfS s b l) (by omega) (fun x x1 x2 x3 => ?_)]
        · unfold cTk
          exact if_pos ⟨z3.1, by have := z3.2; omega⟩
        · unfold cTk
          refine if_neg (fun y => ?_)
          have u := U b (by omega) (by omega)
          rcases Int.lt_or_gt_of_ne x3 with w | w
          · have w1 := u (x - 10 * b) (pfS s b l) (by omega) (by omega) (by omega)
            rw [show 10 * b + (x - 10 * b) = x by omega] at w1
            exact w1 (by omega) (by have := z3.2; omega) (y.1.trans z3.1.symm)
          · have w1 := u (pfS s b l) (x - 10 * b) (by omega) (by omega) (by omega)
            rw [show 10 * b + (x - 10 * b) = x by omega] at w1
            exact w1 (by have := z3.2; omega) (by omega) (z3.1.trans y.1.symm)
  · rw [if_neg h47, if_neg (fun z => h47 z.1)]
theorem gb_val {b : Int} (SX : am_SX s) (hb : 0 ≤ b ∧ b < rI s 44) : gbV s b = cbV s b := by
  unfold gbV cbV
  refine congrArg (fun z => z + sumI (10 * b) (rA s 52 b).toNat (gbT s)) (sumI_c (fun t t1 t2 => ?_))
  unfold gbS cbS
  by_cases hx : orN (fHas s b t) (rA s 52 b).toNat ≠ 0
  · by_cases hy : andN 1 (fNot s b t) (rA s 52 b).toNat ≠ 0
    · rw [if_pos ⟨hx, hy⟩, if_neg (fun z => ?_)]
      obtain ⟨k, k1, k2⟩ := orN_iff.mp z
      have y := (andN_iff.mp hy).2 k k1
      unfold fBeg at k2
      unfold fNot at y
      split at k2
      · rename_i c
        rw [if_neg (fun w => ?_)] at y
        · exact y rfl
        · rcases w with w | w
          · exact w c.1
          · omega
      · exact k2 rfl
    · rw [if_neg (fun z => hy z.2), if_pos ?_]
      refine Classical.byContradiction (fun z => hy (andN_iff.mpr ⟨by omega, fun k k1 => ?_⟩))
      unfold fNot
      rw [if_pos ?_]
      · omega
      · refine Classical.byContradiction (fun w => z (orN_iff.mpr ⟨k, k1, ?_⟩))
        unfold fBeg
        rw [if_pos ?_]
        · omega
        · by_cases a : rA s 56 (10 * b + k) = t
          · exact ⟨a, by omega⟩
          · exact absurd (Or.inl a) w
  · rw [if_neg (fun z => hx z.1)]
    have z : rA s 60 (4 * b + t) = 0 := by
      have y := SX b.toNat (by omega) t (by omega) (by omega) (fun k hk => ?_)
      · rw [show ((b.toNat : Nat) : Int) = b by omega] at y
        exact y
      · intro w
        rw [show ((b.toNat : Nat) : Int) = b by omega] at hk w
        refine hx (orN_iff.mpr ⟨k, by omega, ?_⟩)
        unfold fHas
        rw [if_pos w]
        omega
    rw [z]
    split <;> rfl
theorem ck_val {l : Int} (B : in_S s) (U : am_UQ s) (C : am_CK s) : nTc s l = sumI 0 (rI s 44).toNat (chF s l) := by
  rw [ch_sum B U C, ← fLv_0 B U]
  rfl
end VAL
section LX
variable {d e : Nat} {q : am_A} {Q : am_O → am_A → Prop} {s : am_Z} {L : Nat} {X : Nat → Int} {i : Int} {x6 x7 : Option am_V}
theorem CI_t {e : Nat} {q : am_A} {s : am_Z} {k : Int} (I : am_CI e q s) (bk : 0 ≤ k ∧ k ≤ 3) : am_CI e q (wI s 74 k) ∧ in_S (wI s 74 k) := by
  have B : in_S (wI s 74 k) := in_S_I (CV_B I.1) (fun lo hi h => by cases h; exact bk)
  exact ⟨CI_s I (fun _ _ _ => rfl) (fun j hj => us74 hj) B, B⟩
theorem prt_74 {b n : Int} : rI (prtS s b n) 74 = kPart s b n := by
  have e : (prtS s b n).2 = (wI (wI s 74 (kPart s b n)) 44 (rI s 44 + 1)).2 := (itS_I (f := prtG b (rI s 44)) (fun _ _ => rfl) _ _).trans (itS_I (f := prtF b (rI s 44)) (fun _ _ => rfl) _ _)
  exact (congrFun e 74).trans rfl
theorem prt_us {b n : Int} {j : Nat} (hj : usI j) : rI (prtS s b n) j = rI (wA (partP s b n) 45 b (rA s 45 b - n)) j := by
  by_cases e : j = 44
  · rw [e]
    exact (prt_I (j := 0) (by omega)).2.trans rfl
  · exact (prt_I (by omega)).1.trans (paP_I (s := s) (b := b) (n := n) e).symm
theorem lx_ticket (P : am_LP e q s s L X) (I : am_INV s) (hL : L ≤ 4096) (hX : ∀ k, in32 (X k)) (hi : 0 ≤ i ∧ i + 8 ≤ L) (K : ∀ q' s' x6 x7, am_LP (e + 1) q' s' s' L X → am_IJ s s' → am_W2 (d + 22) m_L_law 2620 [some (aR 31 0), some (aR 8 0), some (aR 9 0), some (aR 26 0), some (aR 27 0), some (aI (zI i)), x6, x7] [] q' Q) : am_W2 (d + 22) m_L_law 1924 [some (aR 31 0), some (aR 8 0), some (aR 9 0), some (aR 26 0), some (aR 27 0), some (aI (zI i)), x6, x7] [] q Q := by
  have B := CV_B P.1.1
  have bk : 0 ≤ kTicket s (X (i + 1).toNat) ∧ kTicket s (X (i + 1).toNat) ≤ 2 := by
    unfold kTicket
    repeat' split
    all_goals omega
  have It := CI_t (k := kTicket s (X (i + 1).toNat)) P.1 (by omega)
  have IJ := INV_I (j := 74) (v := kTicket s (X (i + 1).toNat)) I (by unfold ivI; omega)
  refine lw_ticket (J := am_IJ s) P hL hX hi (k := kTicket s (X (i + 1).toNat)) bk rfl rfl (am_C2_imp (co_ticket (d := 16) It.1  (hX _)) (fun o q' h => OQ_OP P.2.2.1 h)) (hM_P (sr_ticket (d := 18) (hX _)) ?_ ?_ ?_ ?_ ?_) K
  · split <;> rfl
  · intro hk
    refine (if_pos hk).trans ?_
    unfold kTicket at hk
    split at hk
    · omega
    · split at hk
      · rename_i h1 h2
        have h1 := Decidable.not_not.mp h1
        have z := I.2.1.2.2.2.2.2.2.1 (X (i + 1).toNat).toNat (by omega)
        rw [show (((X (i + 1).toNat).toNat : Nat) : Int) = (X (i + 1).toNat) by omega] at z
        rw [z h2]
        rfl
      · omega
  · by_cases hk : kTicket s (X (i + 1).toNat) = 0
    · rw [if_pos hk]
      unfold kTicket at hk
      split at hk
      · omega
      · split at hk
        · rename_i h1 h2
          exact ⟨INV_ticket IJ h2, by show rI s 0 ≤ _; omega⟩
        · omega
    · rw [if_neg hk]
      exact ⟨IJ, by show rI s 0 ≤ _; omega⟩
  · exact fun j x hj => rfl
  · exact fun j hj => rfl
theorem lx_cancelLeg (P : am_LP e q s s L X) (I : am_INV s) (hL : L ≤ 4096) (hX : ∀ k, in32 (X k)) (hi : 0 ≤ i ∧ i + 8 ≤ L) (K : ∀ q' s' x6 x7, am_LP (e + 1) q' s' s' L X → am_IJ s s' → am_W2 (d + 22) m_L_law 2620 [some (aR 31 0), some (aR 8 0), some (aR 9 0), some (aR 26 0), some (aR 27 0), some (aI (zI i)), x6, x7] [] q' Q) : am_W2 (d + 22) m_L_law 1308 [some (aR 31 0), some (aR 8 0), some (aR 9 0), some (aR 26 0), some (aR 27 0), some (aI (zI i)), x6, x7] [] q Q := by
  have B := CV_B P.1.1
  have bk : 0 ≤ kCancelLeg s (X (i + 1).toNat) ∧ kCancelLeg s (X (i + 1).toNat) ≤ 2 := by
    unfold kCancelLeg
    repeat' split
    all_goals omega
  have It := CI_t (k := kCancelLeg s (X (i + 1).toNat)) P.1 (by omega)
  have IJ := INV_I (j := 74) (v := kCancelLeg s (X (i + 1).toNat)) I (by unfold ivI; omega)
  refine lw_cancelLeg (J := am_IJ s) P hL hX hi (k := kCancelLeg s (X (i + 1).toNat)) bk rfl rfl (am_C2_imp (co_cancelLeg (d := 15) It.1 IJ.2.1.2.1 (hX _)) (fun o q' h => OQ_OP P.2.2.1 h)) (hM_P (sr_cancelLeg (d := 17) (hX _)) ?_ ?_ ?_ ?_ ?_) K
  · split
    · exact (cancS_p (fun x => It.2.1 52 x 0 10 rfl)).2.2 74
    · rfl
  · exact fun hk => (if_pos hk).trans (tk_val It.2 IJ.2.1.2.2.1)
  · by_cases hk : kCancelLeg s (X (i + 1).toNat) = 0
    · rw [if_pos hk]
      unfold kCancelLeg at hk
      split at hk
      · omega
      · rename_i h1
        have h1 := Decidable.not_not.mp h1
        exact ⟨INV_cancS IJ (fun x => It.2.1 52 x 0 10 rfl) (LQ_leg h1), by rw [(cancS_p (l := (X (i + 1).toNat)) (fun x => It.2.1 52 x 0 10 rfl)).2.2 0]; show rI s 0 ≤ _; omega⟩
    · rw [if_neg hk]
      exact ⟨IJ, by show rI s 0 ≤ _; omega⟩
  · exact fun j x hj => rfl
  · exact fun j hj => rfl
theorem lx_delay (P : am_LP e q s s L X) (I : am_INV s) (hL : L ≤ 4096) (hX : ∀ k, in32 (X k)) (hi : 0 ≤ i ∧ i + 8 ≤ L) (K : ∀ q' s' x6 x7, am_LP (e + 1) q' s' s' L X → am_IJ s s' → am_W2 (d + 22) m_L_law 2620 [some (aR 31 0), some (aR 8 0), some (aR 9 0), some (aR 26 0), some (aR 27 0), some (aI (zI i)), x6, x7] [] q' Q) : am_W2 (d + 22) m_L_law 1364 [some (aR 31 0), some (aR 8 0), some (aR 9 0), some (aR 26 0), some (aR 27 0), some (aI (zI i)), x6, x7] [] q Q := by
  have B := CV_B P.1.1
  have bk : 0 ≤ kDelay s (X (i + 1).toNat) (X (i + 2).toNat) ∧ kDelay s (X (i + 1).toNat) (X (i + 2).toNat) ≤ 3 := by
    unfold kDelay
    repeat' split
    all_goals omega
  have It := CI_t (k := kDelay s (X (i + 1).toNat) (X (i + 2).toNat)) P.1 (by omega)
  have IJ := INV_I (j := 74) (v := kDelay s (X (i + 1).toNat) (X (i + 2).toNat)) I (by unfold ivI; omega)
  refine lw_delay (J := am_IJ s) P hL hX hi (k := kDelay s (X (i + 1).toNat) (X (i + 2).toNat)) bk rfl rfl rfl (am_C2_imp (co_delay (d := 13) It.1 IJ.2.1.2.1 (hX _) (hX _)) (fun o q' h => OQ_OP P.2.2.1 h)) (hM_P (sr_delay (d := 17) (hX _) (hX _)) ?_ ?_ ?_ ?_ ?_) K
  · by_cases hk : kDelay s (X (i + 1).toNat) (X (i + 2).toNat) = 0
    · rw [if_pos hk]
      have hk2 := hk
      unfold kDelay at hk2
      split at hk2
      · omega
      · rename_i h1
        have h1 := Decidable.not_not.mp h1
        exact (INV_delay (l := (X (i + 1).toNat)) (h := (X (i + 2).toNat)) IJ It.2 h1).2 74
    · rw [if_neg hk]
      rfl
  · exact fun hk => if_pos hk
  · by_cases hk : kDelay s (X (i + 1).toNat) (X (i + 2).toNat) = 0
    · rw [if_pos hk]
      unfold kDelay at hk
      split at hk
      · omega
      · rename_i h1
        have h1 := Decidable.not_not.mp h1
        have z := INV_delay (l := (X (i + 1).toNat)) (h := (X (i + 2).toNat)) IJ It.2 h1
        exact ⟨z.1, by rw [z.2 0]; show rI s 0 ≤ _; omega⟩
    · rw [if_neg hk]
      exact ⟨IJ, by show rI s 0 ≤ _; omega⟩
  · exact fun j x hj => rfl
  · exact fun j hj => rfl
theorem lx_cancel (P : am_LP e q s s L X) (I : am_INV s) (hL : L ≤ 4096) (hX : ∀ k, in32 (X k)) (hi : 0 ≤ i ∧ i + 8 ≤ L) (K : ∀ q' s' x6 x7, am_LP (e + 1) q' s' s' L X → am_IJ s s' → am_W2 (d + 22) m_L_law 2620 [some (aR 31 0), some (aR 8 0), some (aR 9 0), some (aR 26 0), some (aR 27 0), some (aI (zI i)), x6, x7] [] q' Q) : am_W2 (d + 22) m_L_law 2048 [some (aR 31 0), some (aR 8 0), some (aR 9 0), some (aR 26 0), some (aR 27 0), some (aI (zI i)), x6, x7] [] q Q := by
  have B := CV_B P.1.1
  have bk : 0 ≤ kCancel s (X (i + 1).toNat) ∧ kCancel s (X (i + 1).toNat) ≤ 2 := by
    unfold kCancel
    repeat' split
    all_goals omega
  have It := CI_t (k := kCancel s (X (i + 1).toNat)) P.1 (by omega)
  have IJ := INV_I (j := 74) (v := kCancel s (X (i + 1).toNat)) I (by unfold ivI; omega)
  refine lw_cancel (J := am_IJ s) P hL hX hi (k := kCancel s (X (i + 1).toNat)) bk rfl rfl (am_C2_imp (co_cancel (d := 15) It.1  (hX _)) (fun o q' h => OQ_OP P.2.2.1 h)) (hM_P (sr_cancel (d := 18) (hX _)) ?_ ?_ ?_ ?_ ?_) K
  · split <;> rfl
  · intro hk
    refine (if_pos hk).trans ?_
    unfold kCancel at hk
    split at hk
    · omega
    · rename_i h1
      have h1 := Decidable.not_not.mp h1
      rw [gb_val IJ.2.1.2.2.2.2.2.2.2 h1]
      rfl
  · by_cases hk : kCancel s (X (i + 1).toNat) = 0
    · rw [if_pos hk]
      exact ⟨INV_cancel IJ It.2, by show rI s 0 ≤ _; omega⟩
    · rw [if_neg hk]
      exact ⟨IJ, by show rI s 0 ≤ _; omega⟩
  · exact fun j x hj => rfl
  · exact fun j hj => rfl
theorem lx_check (P : am_LP e q s s L X) (I : am_INV s) (hL : L ≤ 4096) (hX : ∀ k, in32 (X k)) (hi : 0 ≤ i ∧ i + 8 ≤ L) (K : ∀ q' s' x6 x7, am_LP (e + 1) q' s' s' L X → am_IJ s s' → am_W2 (d + 22) m_L_law 2620 [some (aR 31 0), some (aR 8 0), some (aR 9 0), some (aR 26 0), some (aR 27 0), some (aI (zI i)), x6, x7] [] q' Q) : am_W2 (d + 22) m_L_law 2296 [some (aR 31 0), some (aR 8 0), some (aR 9 0), some (aR 26 0), some (aR 27 0), some (aI (zI i)), x6, x7] [] q Q := by
  have B := CV_B P.1.1
  have bk : 0 ≤ kCheck s (X (i + 1).toNat) (X (i + 2).toNat) ∧ kCheck s (X (i + 1).toNat) (X (i + 2).toNat) ≤ 2 := by
    unfold kCheck
    repeat' split
    all_goals omega
  have It := CI_t (k := kCheck s (X (i + 1).toNat) (X (i + 2).toNat)) P.1 (by omega)
  have IJ := INV_I (j := 74) (v := kCheck s (X (i + 1).toNat) (X (i + 2).toNat)) I (by unfold ivI; omega)
  refine lw_check (J := am_IJ s) P hL hX hi (k := kCheck s (X (i + 1).toNat) (X (i + 2).toNat)) bk rfl rfl (am_C2_imp (co_check (d := 14) It.1  (hX _) (hX _)) (fun o q' h => OQ_OP P.2.2.1 h)) (hM_P (sr_check (d := 17) (hX _) (hX _)) ?_ ?_ ?_ ?_ ?_) K
  · split <;> rfl
  · intro hk
    refine (if_pos hk).trans ?_
    have hk2 := hk
    unfold kCheck at hk
    split at hk
    · omega
    · split at hk
      · rename_i h1 h2
        have h1 := Decidable.not_not.mp h1
        have z := INV_check IJ It.2 h1.1.1 h1.2 h2.1 h2.2.1
        exact ck_val (in_S_A It.2 (fun lo hi h => by cases h; omega) (fun h => by cases h)) z.2.1.2.2.1 z.2.1.2.2.2.1
      · omega
  · by_cases hk : kCheck s (X (i + 1).toNat) (X (i + 2).toNat) = 0
    · rw [if_pos hk]
      unfold kCheck at hk
      split at hk
      · omega
      · split at hk
        · rename_i h1 h2
          have h1 := Decidable.not_not.mp h1
          exact ⟨INV_check IJ It.2 h1.1.1 h1.2 h2.1 h2.2.1, by show rI s 0 ≤ _; omega⟩
        · omega
    · rw [if_neg hk]
      exact ⟨IJ, by show rI s 0 ≤ _; omega⟩
  · exact fun j x hj => rfl
  · exact fun j hj => rfl
theorem lx_part (P : am_LP e q s s L X) (I : am_INV s) (hL : L ≤ 4096) (hX : ∀ k, in32 (X k)) (hi : 0 ≤ i ∧ i + 8 ≤ L) (K : ∀ q' s' x6 x7, am_LP (e + 1) q' s' s' L X → am_IJ s s' → am_W2 (d + 22) m_L_law 2620 [some (aR 31 0), some (aR 8 0), some (aR 9 0), some (aR 26 0), some (aR 27 0), some (aI (zI i)), x6, x7] [] q' Q) : am_W2 (d + 22) m_L_law 1980 [some (aR 31 0), some (aR 8 0), some (aR 9 0), some (aR 26 0), some (aR 27 0), some (aI (zI i)), x6, x7] [] q Q := by
  have B := CV_B P.1.1
  have bk : 0 ≤ kPart s (X (i + 1).toNat) (X (i + 2).toNat) ∧ kPart s (X (i + 1).toNat) (X (i + 2).toNat) ≤ 3 := by
    unfold kPart
    repeat' split
    all_goals omega
  have It := CI_t (k := kPart s (X (i + 1).toNat) (X (i + 2).toNat)) P.1 (by omega)
  have IJ := INV_I (j := 74) (v := kPart s (X (i + 1).toNat) (X (i + 2).toNat)) I (by unfold ivI; omega)
  refine lw_part (J := am_IJ s) P hL hX hi (k := kPart s (X (i + 1).toNat) (X (i + 2).toNat)) bk rfl rfl rfl (am_C2_imp (co_part (d := 13) P.1  (hX _) (hX _)) (fun o q' h => OQ_OP P.2.2.1 h)) (hM_P (sr_part (d := 18) (hX _) (hX _)) ?_ ?_ ?_ ?_ ?_) K
  · by_cases hk : kPart s (X (i + 1).toNat) (X (i + 2).toNat) = 0
    · rw [if_pos hk]
      exact prt_74
    · rw [if_neg hk]
      rfl
  · exact fun hk => if_pos hk
  · by_cases hk : kPart s (X (i + 1).toNat) (X (i + 2).toNat) = 0
    · rw [if_pos hk]
      have z := INV_part (b := (X (i + 1).toNat)) (n := (X (i + 2).toNat)) I B hk
      exact ⟨z.1, by have y := z.2; unfold prtS at y; rw [y]; omega⟩
    · rw [if_neg hk]
      exact ⟨IJ, by show rI s 0 ≤ _; omega⟩
  · intro j x hj
    by_cases hk : kPart s (X (i + 1).toNat) (X (i + 2).toNat) = 0
    · rw [if_pos hk, if_pos hk]
      exact prt_A (prt_k hk).1.2 j x
    · rw [if_neg hk, if_neg hk]
      rfl
  · intro j hj
    by_cases hk : kPart s (X (i + 1).toNat) (X (i + 2).toNat) = 0
    · rw [if_pos hk, if_pos hk]
      exact prt_us hj
    · rw [if_neg hk, if_neg hk]
      exact us74 hj
end LX
end

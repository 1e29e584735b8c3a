noncomputable section
def cTk (s : am_Z) (l b k : Int) : Int := if rA s 53 k = l ∧ rA s 55 k ≤ 1 then rA s 45 b else 0
def bTk (s : am_Z) (l b : Int) : Int := if rA s 47 b = 1 then sumI (10 * b) (rA s 52 b).toNat (cTk s l b) else 0
def nTk (s : am_Z) (l : Int) : Int := sumI 0 (rI s 44).toNat (bTk s l)
theorem bTk_b {s : am_Z} (B : in_S s) (l b : Int) : 0 ≤ bTk s l b ∧ bTk s l b ≤ 90 := by
  unfold bTk
  split
  · have h1 := B.1 45 b 0 9 rfl
    have h2 := B.1 52 b 0 10 rfl
    have := sumI_b (a := 10 * b) (n := (rA s 52 b).toNat) (f := cTk s l b) (M := 9) (fun i => by unfold cTk; split <;> omega)
    omega
  · omega
theorem nTk_b {s : am_Z} (B : in_S s) (l : Int) : 0 ≤ nTk s l ∧ nTk s l ≤ 3600 := by
  have h2 := B.2.1 44 0 40 rfl
  have := sumI_b (a := 0) (n := (rI s 44).toNat) (f := bTk s l) (M := 90) (bTk_b B l)
  unfold nTk
  omega
theorem lp_k1 {d : Nat} {s : am_Z} {q0 : am_A} {Q : Option am_V → am_Z → Prop} {l b a0 : Int} {x2 : Option am_V} (hl : in32 l) (hb : 0 ≤ b ∧ b < 40) : ∀ (m : Nat) (j : Nat) (k acc : Int), (rA s 52 b).toNat - j < m → (k = 10 * b + j ∧ (j : Int) ≤ rA s 52 b ∧ acc = a0 + (if rA s 47 b = 1 then sumI (10 * b) j (cTk s l b) else 0)) → (∀ v x5, v = a0 + bTk s l b → am_WR d m_M_cancelLeg 128 [some (aR 9 0), some (aI (zI l)), x2, some (aI (zI v)), some (aI (zI b)), x5] [] q0 (s) Q) → am_WR d m_M_cancelLeg 57 [some (aR 9 0), some (aI (zI l)), x2, some (aI (zI acc)), some (aI (zI b)), some (aI (zI k))] [] q0 (s) Q := by
  intro m
  induction m with
  | zero => intro j k acc hm; exact absurd hm (Nat.not_lt_zero _)
  | succ m ih =>
    intro j k acc hm ⟨hj, hj2, hacc⟩ K
    subst hj
    subst hacc
    refine rr_iload rfl rfl ?_
    refine rr_bipush (x := 10) rfl rfl ?_
    refine rr_iload rfl rfl ?_
    refine rr_imul rfl ?_
    refine rr_aload_n rfl rfl ?_
    refine rr_gfA 52 rfl rfl (by omega) rfl ?_
    refine rr_iload rfl rfl ?_
    refine rr_ia 52 40 rfl rfl rfl rfl (by omega) (by omega) (fun b70 => ?_)
    refine rr_iadd rfl ?_
    refine rr_icmp_ge rfl rfl (by omega) (by omega) (fun h72 => ?_) (fun h72 => ?_)
    · exact K _ _ (by unfold bTk; first | (rw [show (rA s 52 b).toNat = j by omega]) | (rw [if_neg (by omega), if_neg (by omega)]))
    · refine rr_aload_n rfl rfl ?_
      refine rr_gfA 47 rfl rfl (by omega) rfl ?_
      refine rr_iload rfl rfl ?_
      refine rr_ia 47 40 rfl rfl rfl rfl (by omega) (by omega) (fun b81 => ?_)
      refine rr_iconst rfl ?_
      refine rr_icmp_ne rfl rfl (by omega) (by omega) (fun h83 => ?_) (fun h83 => ?_)
      · exact K _ _ (by unfold bTk; first | (rw [show (rA s 52 b).toNat = j by omega]) | (rw [if_neg (by omega), if_neg (by omega)]))
      · refine rr_iload_n rfl rfl ?_
        refine rr_join (pc' := 120) (V := (if rA s 53 (10 * b + (j : Int)) = l ∧ rA s 55 (10 * b + (j : Int)) ≤ 1 then rA s 45 b else 0)) ?_ (fun K120 => ?_)
        · refine rr_iadd rfl ?_
          refine rr_stI3 rfl ?_
          refine rr_inc5 rfl ?_
          refine rr_goto rfl rfl ?_
          exact ih (j + 1) _ _ (by omega) ⟨by omega, by omega, by simp only [sumI_s, cTk]; omega⟩ K
        · refine rr_aload_n rfl rfl ?_
          refine rr_gfA 53 rfl rfl (by omega) rfl ?_
          refine rr_iload rfl rfl ?_
          refine rr_iaL 53 400 (s) (fun _ => rfl) rfl rfl rfl rfl rfl (by omega) (by omega) (fun b93 => ?_)
          refine rr_iload_n rfl rfl ?_
          refine rr_icmp_ne rfl rfl (by omega) (by omega) (fun h95 => ?_) (fun h95 => ?_)
          · refine rr_iconst rfl ?_
            exact K120 _ (by first | omega | (simp_all) | (split <;> omega))
          · refine rr_aload_n rfl rfl ?_
            refine rr_gfA 55 rfl rfl (by omega) rfl ?_
            refine rr_iload rfl rfl ?_
            refine rr_ia 55 400 rfl rfl rfl rfl (by omega) (by omega) (fun b104 => ?_)
            refine rr_iconst rfl ?_
            refine rr_icmp_gt rfl rfl (by omega) (by omega) (fun h106 => ?_) (fun h106 => ?_)
            · refine rr_iconst rfl ?_
              exact K120 _ (by first | omega | (simp_all) | (split <;> omega))
            · refine rr_aload_n rfl rfl ?_
              refine rr_gfA 45 rfl rfl (by omega) rfl ?_
              refine rr_iload rfl rfl ?_
              refine rr_ia 45 40 rfl rfl rfl rfl (by omega) (by omega) (fun b115 => ?_)
              refine rr_goto rfl rfl ?_
              exact K120 _ (by first | omega | (simp_all) | (split <;> omega))
theorem lp_k2 {d : Nat} {s : am_Z} {q0 : am_A} {Q : Option am_V → am_Z → Prop} {l : Int} {x2 : Option am_V} (hl : in32 l) : ∀ (m : Nat) (j : Nat) (b acc : Int) (x5 : Option am_V), (rI s 44).toNat - j < m → (b = j ∧ (j : Int) ≤ rI s 44 ∧ acc = sumI 0 j (bTk s l)) → (∀ x4 x5, am_WR d m_M_cancelLeg 134 [some (aR 9 0), some (aI (zI l)), x2, some (aI (zI (nTk s l))), x4, x5] [] q0 (s) Q) → am_WR d m_M_cancelLeg 41 [some (aR 9 0), some (aI (zI l)), x2, some (aI (zI acc)), some (aI (zI b)), x5] [] q0 (s) Q := by
  intro m
  induction m with
  | zero => intro j b acc x5 hm; exact absurd hm (Nat.not_lt_zero _)
  | succ m ih =>
    intro j b acc x5 hm ⟨hj, hj2, hacc⟩ K
    subst hj
    subst hacc
    refine rr_inS (fun B => ?_)
    refine rr_iload rfl rfl ?_
    refine rr_aload_n rfl rfl ?_
    refine rr_gfI 44 rfl rfl (by omega) rfl (fun b44 => ?_)
    refine rr_icmp_ge rfl rfl (by omega) (by omega) (fun h47 => ?_) (fun h47 => ?_)
    · rw [show (sumI 0 j (bTk s l)) = nTk s l by unfold nTk; rw [show (rI s 44).toNat = j by omega]]
      exact K _ _
    · refine rr_bipush (x := 10) rfl rfl ?_
      refine rr_iload rfl rfl ?_
      refine rr_imul rfl ?_
      refine rr_stI5 rfl ?_
      refine lp_k1 (d := d) hl (b := (j : Int)) (a0 := sumI 0 j (bTk s l)) (by omega) ((rA s 52 (j : Int)).toNat + 1) 0 _ _ (by omega) ⟨by omega, by have := B.1 52 (j : Int) 0 10 rfl; omega, by simp [sumI]⟩ (fun v x5 hv => ?_)
      refine rr_inc4 rfl ?_
      refine rr_goto rfl rfl ?_
      exact ih (j + 1) _ _ _ (by omega) ⟨by omega, by omega, by rw [sumI_s, hv, Int.zero_add]⟩ K
def kCancelLeg (s : am_Z) (l : Int) : Int := if ¬ legP s l then 1 else if freeP s l then 0 else 2
theorem sr_cancelLeg {d : Nat} {s : am_Z} {l : Int}  (hl : in32 l) : am_CR (d + 3) m_M_cancelLeg [aR 9 0, aI (zI l)] s (isP (if kCancelLeg s l = 0 then cancS (wI s 74 (kCancelLeg s l)) l else wI s 74 (kCancelLeg s l)) (if kCancelLeg s l = 0 then nTk (wI s 74 (kCancelLeg s l)) l else 0) (True)) := by
  refine am_CR_i (ls := [some (aR 9 0), some (aI (zI l)), none, none, none, none]) rfl (fun q0 => ?_)
  refine rr_inS (fun B => ?_)
  have b3 := B.2.1 3 0 12 rfl
  have b20 := B.2.1 20 0 16 rfl
  have b44 := B.2.1 44 0 40 rfl
  have b61 := B.2.1 61 0 20 rfl
  refine rr_aload_n rfl rfl ?_
  refine rr_iload_n rfl rfl ?_
  refine rr_cv1B rfl rfl rfl (Nat.le_of_ble_eq_true rfl) (sr_isLeg (d := 0) (by omega)) (by omega) ?_
  refine rr_stI2 rfl ?_
  refine rr_aload_n rfl rfl ?_
  refine rr_join (pc' := 28) (V := kCancelLeg s l) ?_ (fun K28 => ?_)
  · refine rr_cv1B rfl rfl rfl (Nat.le_of_ble_eq_true rfl) (sr_fails (d := 0) (by unfold kCancelLeg; omega)) (by omega) ?_
    refine rr_if_eqB rfl rfl (fun h31 => ?_) (fun h31 => ?_)
    · have hk : kCancelLeg s l = 0 := by have z : 0 ≤ kCancelLeg s l := by { unfold kCancelLeg; omega }; omega
      have hk2 := hk
      unfold kCancelLeg at hk2
      refine rr_iconst rfl ?_
      refine rr_stI3 rfl ?_
      refine rr_iconst rfl ?_
      refine rr_stI4 rfl ?_
      refine lp_k2 (d := d + 3) (s := wI s 74 (kCancelLeg s l)) hl ((rI s 44).toNat + 1) 0 0 0 _ (by show (rI s 44).toNat - 0 < (rI s 44).toNat + 1; omega) ⟨rfl, by show (0 : Int) ≤ rI s 44; omega, rfl⟩ (fun x4 x5 => ?_)
      refine rr_aload_n rfl rfl ?_
      refine rr_iload_n rfl rfl ?_
      refine rr_cv1W rfl rfl rfl (Nat.le_of_ble_eq_true rfl) (sr_cancels (d := 0) (by omega)) (by omega) ?_
      refine rr_iload_n rfl rfl ?_
      refine rr_iret rfl (Or.inl rfl) ?_
      first | exact rr_eP' (if_pos hk).symm (if_pos hk).symm trivial | exact rr_eP' (if_neg (by omega)).symm (if_neg (by omega)).symm trivial | exact False.elim (by omega)
    · refine rr_iconst rfl ?_
      refine rr_iret rfl (Or.inl rfl) ?_
      first | exact rr_eP' (if_pos hk).symm (if_pos hk).symm trivial | exact rr_eP' (if_neg (by omega)).symm (if_neg (by omega)).symm trivial | exact False.elim (by omega)
  · refine rr_iload_n rfl rfl ?_
    refine rr_if_neB rfl rfl (fun h8 => ?_) (fun h8 => ?_)
    · refine rr_aload_n rfl rfl ?_
      refine rr_iload_n rfl rfl ?_
      refine rr_cv1B rfl rfl rfl (Nat.le_of_ble_eq_true rfl) (sr_isFree (d := 0) (by omega)) (by omega) ?_
      refine rr_if_eqB rfl rfl (fun h20 => ?_) (fun h20 => ?_)
      · refine rr_iconst rfl ?_
        exact K28 _ (by unfold kCancelLeg; omega)
      · refine rr_iconst rfl ?_
        refine rr_goto rfl rfl ?_
        exact K28 _ (by unfold kCancelLeg; omega)
    · refine rr_iconst rfl ?_
      refine rr_goto rfl rfl ?_
      exact K28 _ (by unfold kCancelLeg; omega)
def cTc (s : am_Z) (l b k : Int) : Int := if rA s 53 k = l ∧ rA s 55 k = 1 then rA s 45 b else 0
def bTc (s : am_Z) (l b : Int) : Int := if rA s 47 b = 1 then sumI (10 * b) (rA s 52 b).toNat (cTc s l b) else 0
def nTc (s : am_Z) (l : Int) : Int := sumI 0 (rI s 44).toNat (bTc s l)
theorem bTc_b {s : am_Z} (B : in_S s) (l b : Int) : 0 ≤ bTc s l b ∧ bTc s l b ≤ 90 := by
  unfold bTc
  split
  · have h1 := B.1 45 b 0 9 rfl
    have h2 := B.1 52 b 0 10 rfl
    have := sumI_b (a := 10 * b) (n := (rA s 52 b).toNat) (f := cTc s l b) (M := 9) (fun i => by unfold cTc; split <;> omega)
    omega
  · omega
theorem nTc_b {s : am_Z} (B : in_S s) (l : Int) : 0 ≤ nTc s l ∧ nTc s l ≤ 3600 := by
  have h2 := B.2.1 44 0 40 rfl
  have := sumI_b (a := 0) (n := (rI s 44).toNat) (f := bTc s l) (M := 90) (bTc_b B l)
  unfold nTc
  omega
theorem lp_c1 {d : Nat} {s : am_Z} {q0 : am_A} {Q : Option am_V → am_Z → Prop} {l b a0 : Int}  (hl : in32 l) (hb : 0 ≤ b ∧ b < 40) : ∀ (m : Nat) (j : Nat) (k acc : Int), (rA s 52 b).toNat - j < m → (k = 10 * b + j ∧ (j : Int) ≤ rA s 52 b ∧ acc = a0 + (if rA s 47 b = 1 then sumI (10 * b) j (cTc s l b) else 0)) → (∀ v x5, v = a0 + bTc s l b → am_WR d m_M_checked 85 [some (aR 9 0), some (aI (zI l)), some (aI (zI v)), some (aI (zI b)), x5] [] q0 (s) Q) → am_WR d m_M_checked 18 [some (aR 9 0), some (aI (zI l)), some (aI (zI acc)), some (aI (zI b)), some (aI (zI k))] [] q0 (s) Q := by
  intro m
  induction m with
  | zero => intro j k acc hm; exact absurd hm (Nat.not_lt_zero _)
  | succ m ih =>
    intro j k acc hm ⟨hj, hj2, hacc⟩ K
    subst hj
    subst hacc
    refine rr_iload rfl rfl ?_
    refine rr_bipush (x := 10) rfl rfl ?_
    refine rr_iload_n rfl rfl ?_
    refine rr_imul rfl ?_
    refine rr_aload_n rfl rfl ?_
    refine rr_gfA 52 rfl rfl (by omega) rfl ?_
    refine rr_iload_n rfl rfl ?_
    refine rr_ia 52 40 rfl rfl rfl rfl (by omega) (by omega) (fun b29 => ?_)
    refine rr_iadd rfl ?_
    refine rr_icmp_ge rfl rfl (by omega) (by omega) (fun h31 => ?_) (fun h31 => ?_)
    · exact K _ _ (by unfold bTc; first | (rw [show (rA s 52 b).toNat = j by omega]) | (rw [if_neg (by omega), if_neg (by omega)]))
    · refine rr_aload_n rfl rfl ?_
      refine rr_gfA 47 rfl rfl (by omega) rfl ?_
      refine rr_iload_n rfl rfl ?_
      refine rr_ia 47 40 rfl rfl rfl rfl (by omega) (by omega) (fun b39 => ?_)
      refine rr_iconst rfl ?_
      refine rr_icmp_ne rfl rfl (by omega) (by omega) (fun h41 => ?_) (fun h41 => ?_)
      · exact K _ _ (by unfold bTc; first | (rw [show (rA s 52 b).toNat = j by omega]) | (rw [if_neg (by omega), if_neg (by omega)]))
      · refine rr_iload_n rfl rfl ?_
        refine rr_join (pc' := 77) (V := (if rA s 53 (10 * b + (j : Int)) = l ∧ rA s 55 (10 * b + (j : Int)) = 1 then rA s 45 b else 0)) ?_ (fun K77 => ?_)
        · refine rr_iadd rfl ?_
          refine rr_stI2 rfl ?_
          refine rr_inc4 rfl ?_
          refine rr_goto rfl rfl ?_
          exact ih (j + 1) _ _ (by omega) ⟨by omega, by omega, by simp only [sumI_s, cTc]; omega⟩ K
        · refine rr_aload_n rfl rfl ?_
          refine rr_gfA 53 rfl rfl (by omega) rfl ?_
          refine rr_iload rfl rfl ?_
          refine rr_iaL 53 400 (s) (fun _ => rfl) rfl rfl rfl rfl rfl (by omega) (by omega) (fun b51 => ?_)
          refine rr_iload_n rfl rfl ?_
          refine rr_icmp_ne rfl rfl (by omega) (by omega) (fun h53 => ?_) (fun h53 => ?_)
          · refine rr_iconst rfl ?_
            exact K77 _ (by first | omega | (simp_all) | (split <;> omega))
          · refine rr_aload_n rfl rfl ?_
            refine rr_gfA 55 rfl rfl (by omega) rfl ?_
            refine rr_iload rfl rfl ?_
            refine rr_ia 55 400 rfl rfl rfl rfl (by omega) (by omega) (fun b62 => ?_)
            refine rr_iconst rfl ?_
            refine rr_icmp_ne rfl rfl (by omega) (by omega) (fun h64 => ?_) (fun h64 => ?_)
            · refine rr_iconst rfl ?_
              exact K77 _ (by first | omega | (simp_all) | (split <;> omega))
            · refine rr_aload_n rfl rfl ?_
              refine rr_gfA 45 rfl rfl (by omega) rfl ?_
              refine rr_iload_n rfl rfl ?_
              refine rr_ia 45 40 rfl rfl rfl rfl (by omega) (by omega) (fun b72 => ?_)
              refine rr_goto rfl rfl ?_
              exact K77 _ (by first | omega | (simp_all) | (split <;> omega))
theorem lp_c2 {d : Nat} {s : am_Z} {q0 : am_A} {Q : Option am_V → am_Z → Prop} {l : Int}  (hl : in32 l) : ∀ (m : Nat) (j : Nat) (b acc : Int) (x5 : Option am_V), (rI s 44).toNat - j < m → (b = j ∧ (j : Int) ≤ rI s 44 ∧ acc = sumI 0 j (bTc s l)) → (∀ x4 x5, am_WR d m_M_checked 91 [some (aR 9 0), some (aI (zI l)), some (aI (zI (nTc s l))), x4, x5] [] q0 (s) Q) → am_WR d m_M_checked 4 [some (aR 9 0), some (aI (zI l)), some (aI (zI acc)), some (aI (zI b)), x5] [] q0 (s) Q := by
  intro m
  induction m with
  | zero => intro j b acc x5 hm; exact absurd hm (Nat.not_lt_zero _)
  | succ m ih =>
    intro j b acc x5 hm ⟨hj, hj2, hacc⟩ K
    subst hj
    subst hacc
    refine rr_inS (fun B => ?_)
    refine rr_iload_n rfl rfl ?_
    refine rr_aload_n rfl rfl ?_
    refine rr_gfI 44 rfl rfl (by omega) rfl (fun b6 => ?_)
    refine rr_icmp_ge rfl rfl (by omega) (by omega) (fun h9 => ?_) (fun h9 => ?_)
    · rw [show (sumI 0 j (bTc s l)) = nTc s l by unfold nTc; rw [show (rI s 44).toNat = j by omega]]
      exact K _ _
    · refine rr_bipush (x := 10) rfl rfl ?_
      refine rr_iload_n rfl rfl ?_
      refine rr_imul rfl ?_
      refine rr_stI4 rfl ?_
      refine lp_c1 (d := d) hl (b := (j : Int)) (a0 := sumI 0 j (bTc s l)) (by omega) ((rA s 52 (j : Int)).toNat + 1) 0 _ _ (by omega) ⟨by omega, by have := B.1 52 (j : Int) 0 10 rfl; omega, by simp [sumI]⟩ (fun v x5 hv => ?_)
      refine rr_inc3 rfl ?_
      refine rr_goto rfl rfl ?_
      exact ih (j + 1) _ _ _ (by omega) ⟨by omega, by omega, by rw [sumI_s, hv, Int.zero_add]⟩ K
theorem sr_checked {d : Nat} {s : am_Z} {l : Int}  (hl : in32 l) : am_CR d m_M_checked [aR 9 0, aI (zI l)] s (isP (s) (nTc s l) (0 ≤ nTc s l ∧ nTc s l ≤ 3600)) := by
  refine am_CR_i (ls := [some (aR 9 0), some (aI (zI l)), none, none, none]) rfl (fun q0 => ?_)
  refine rr_inS (fun B => ?_)
  have b44 := B.2.1 44 0 40 rfl
  refine rr_iconst rfl ?_
  refine rr_stI2 rfl ?_
  refine rr_iconst rfl ?_
  refine rr_stI3 rfl ?_
  refine lp_c2 (d := d) (s := s) hl ((rI s 44).toNat + 1) 0 0 0 _ (by omega) ⟨rfl, by omega, rfl⟩ (fun x4 x5 => ?_)
  refine rr_iload_n rfl rfl ?_
  refine rr_iret rfl (Or.inl rfl) ?_
  exact rr_eP rfl (nTc_b B l)
def dlS (s : am_Z) (l h : Int) : am_Z := if rA s 17 (61 * (l / 100) + l % 100) + h ≤ 8 then wA (wA s 19 (61 * (l / 100) + l % 100) 1) 17 (61 * (l / 100) + l % 100) (rA s 17 (61 * (l / 100) + l % 100) + h) else cancS (wA s 19 (61 * (l / 100) + l % 100) 1) l
theorem sr_delays {d : Nat} {s : am_Z} {l h : Int}  (hl : legR l) (hh : 1 ≤ h ∧ h ≤ 3000) : am_CR (d + 2) m_M_delays [aR 9 0, aI (zI l), aI (zI h)] s (isB (dlS s l h) (rA s 17 (61 * (l / 100) + l % 100) + h ≤ 8)) := by
  refine am_CR_i (ls := [some (aR 9 0), some (aI (zI l)), some (aI (zI h))]) rfl (fun q0 => ?_)
  refine rr_aload_n rfl rfl ?_
  refine rr_gfA 19 rfl rfl (by omega) rfl ?_
  refine rr_iload_n rfl rfl ?_
  refine rr_cs1P rfl rfl (Nat.le_of_ble_eq_true rfl) (sr_at (d := 0) (by omega)) (by omega) (fun b5 => ?_)
  refine rr_iconst rfl ?_
  refine rr_bas 19 732 rfl rfl rfl (by omega) (by omega) rfl rfl (by omega) (by omega) ?_
  refine rr_aload_n rfl rfl ?_
  refine rr_gfA 17 rfl rfl (by omega) rfl ?_
  refine rr_iload_n rfl rfl ?_
  refine rr_cs1P rfl rfl (Nat.le_of_ble_eq_true rfl) (sr_at (d := 0) (by omega)) (by omega) (fun b15 => ?_)
  refine rr_iav 17 732 (s) (fun _ => rfl) rfl rfl rfl rfl (by omega) (by omega) (fun b18 => ?_)
  refine rr_iload_n rfl rfl ?_
  refine rr_iadd rfl ?_
  refine rr_bipush (x := 8) rfl rfl ?_
  refine rr_icmp_le rfl rfl (by omega) (by omega) (fun h23 => ?_) (fun h23 => ?_)
  · refine rr_aload_n rfl rfl ?_
    refine rr_gfA 17 rfl rfl (by omega) rfl ?_
    refine rr_iload_n rfl rfl ?_
    refine rr_cs1P rfl rfl (Nat.le_of_ble_eq_true rfl) (sr_at (d := 0) (by omega)) (by omega) (fun b38 => ?_)
    refine rr_dup2 rfl rfl rfl ?_
    refine rr_iav 17 732 (s) (fun _ => rfl) rfl rfl rfl rfl (by omega) (by omega) (fun b42 => ?_)
    refine rr_iload_n rfl rfl ?_
    refine rr_iadd rfl ?_
    refine rr_ias 17 732 rfl ⟨rfl, by omega⟩ rfl (by omega) (by omega) rfl rfl (by omega) (by omega) ?_
    refine rr_iconst rfl ?_
    refine rr_iret rfl (Or.inr ⟨rfl, by first | omega | (split <;> omega)⟩) ?_
    exact rr_eB' (by omega) (by unfold dlS; first | (rw [if_pos (by omega)]) | (rw [if_neg (by omega)]))
  · refine rr_aload_n rfl rfl ?_
    refine rr_iload_n rfl rfl ?_
    refine rr_cv1W rfl rfl rfl (Nat.le_of_ble_eq_true rfl) (sr_cancels (d := 0) (by omega)) (by omega) ?_
    refine rr_iconst rfl ?_
    refine rr_iret rfl (Or.inr ⟨rfl, by first | omega | (split <;> omega)⟩) ?_
    exact rr_eB' (by omega) (by unfold dlS; first | (rw [if_pos (by omega)]) | (rw [if_neg (by omega)]))
def othL (s : am_Z) (l : Int) : Int := if rA s 15 (l / 100) = -1 ∨ 61 ≤ l % 100 + rA s 16 (l / 100) ∨ ¬ thereP s (rA s 15 (l / 100)) (l % 100 + rA s 16 (l / 100)) then -1 else 100 * rA s 15 (l / 100) + (l % 100 + rA s 16 (l / 100))
theorem othL_b {s : am_Z} (B : in_S s) {l : Int} (hl : legR l) : othL s l = -1 ∨ legR (othL s l) := by
  have h1 := B.1 15 (l / 100) (-1) 11 rfl
  have h2 := B.1 16 (l / 100) 0 1 rfl
  unfold othL
  omega
abbrev goesP (s : am_Z) (l : Int) : Prop := othL s l ≠ -1 ∧ freeP s (othL s l) ∧ dep s (othL s l) < arv s l + 1
def dlR : Nat → am_Z → Int → Int → am_Z
  | 0, s, _, _ => s
  | n + 1, s, l, h => if rA s 17 (61 * (l / 100) + l % 100) + h ≤ 8 ∧ goesP (dlS s l h) l then dlR n (dlS s l h) (othL (dlS s l h) l) (arv (dlS s l h) l + 1 - dep (dlS s l h) (othL (dlS s l h) l)) else dlS s l h
def dlF (n : Nat) (g l : Int) (s : am_Z) : am_Z := if g = 1 ∧ goesP s l then dlR n s (othL s l) (arv s l + 1 - dep s (othL s l)) else s
theorem dlF_p {n : Nat} {l : Int} {s : am_Z} (h : goesP s l) : dlF n 1 l s = dlR n s (othL s l) (arv s l + 1 - dep s (othL s l)) := if_pos ⟨rfl, h⟩
theorem dlF_n {n : Nat} {g l : Int} {s : am_Z} (h : ¬ (g = 1 ∧ goesP s l)) : dlF n g l s = s := if_neg h
theorem dlF_z {n : Nat} {l : Int} {s : am_Z} : dlF n 0 l s = s := if_neg (fun h => by cases h.1)
theorem dlF_0 {g l : Int} {s : am_Z} : dlF 0 g l s = s := by unfold dlF; split <;> rfl
theorem dlF_c {n : Nat} {o h : Int} {s : am_Z} (h8 : rA s 17 (61 * (o / 100) + o % 100) + h ≤ 8) : dlF n 1 o (dlS s o h) = dlR (n + 1) s o h := by
  unfold dlF
  rw [dlR]
  by_cases hq : goesP (dlS s o h) o
  · rw [if_pos ⟨rfl, hq⟩, if_pos ⟨h8, hq⟩]
  · rw [if_neg (fun z => hq z.2), if_neg (fun z => hq z.2)]
theorem dlF_b {n : Nat} {o h : Int} {s : am_Z} (h8 : ¬ rA s 17 (61 * (o / 100) + o % 100) + h ≤ 8) : dlF n 0 o (dlS s o h) = dlR (n + 1) s o h := by
  rw [dlF_z, dlR, if_neg (fun z => h8 z.1)]
def kDelay (s : am_Z) (l h : Int) : Int := if ¬ legP s l then 1 else if ¬ (1 ≤ h ∧ h ≤ 8) then 2 else if freeP s l then 0 else 3
def nTch (s : am_Z) (i : Int) : Int := if rA s 19 i = 0 then 0 else 1
theorem nTch_b (s : am_Z) : 0 ≤ sumI 0 732 (nTch s) ∧ sumI 0 732 (nTch s) ≤ 732 := by
  have := sumI_b (a := 0) (n := 732) (f := nTch s) (M := 1) (fun i => by unfold nTch; split <;> omega)
  omega
def delayS (s : am_Z) (l h : Int) : am_Z := dlR 7 (wB s 19 0 732 (fun _ => 0)) l h
theorem lp_rst {d : Nat} {s : am_Z} {q0 : am_A} {Q : Option am_V → am_Z → Prop} {l0 h0 : Int} {x3 : Option am_V} : ∀ (m : Nat) (j : Nat) (k : Int) (s1 : am_Z) (x5 x6 x7 x8 x9 : Option am_V), 732 - j < m → (k = j ∧ j ≤ 732 ∧ s1 = wB s 19 0 j (fun _ => 0)) → (∀ x4, am_WR d m_M_delay 75 [some (aR 9 0), some (aI (zI l0)), some (aI (zI h0)), x3, x4, x5, x6, x7, x8, x9] [] q0 (wB s 19 0 732 (fun _ => 0)) Q) → am_WR d m_M_delay 53 [some (aR 9 0), some (aI (zI l0)), some (aI (zI h0)), x3, some (aI (zI k)), x5, x6, x7, x8, x9] [] q0 (s1) Q := by
  intro m
  induction m with
  | zero => intro j k s1 x5 x6 x7 x8 x9 hm; exact absurd hm (Nat.not_lt_zero _)
  | succ m ih =>
    intro j k s1 x5 x6 x7 x8 x9 hm ⟨hj, hj2, hs1⟩ K
    subst hj
    subst hs1
    refine rr_iload rfl rfl ?_
    refine rr_sipush (x := 732) rfl rfl ?_
    refine rr_icmp_ge rfl rfl (by omega) (by omega) (fun h58 => ?_) (fun h58 => ?_)
    · rw [show j = 732 by omega]
      exact K _
    · refine rr_aload_n rfl rfl ?_
      refine rr_gfA 19 rfl rfl (by omega) rfl ?_
      refine rr_iload rfl rfl ?_
      refine rr_iconst rfl ?_
      refine rr_bas 19 732 rfl rfl rfl (by omega) (by omega) rfl rfl (by omega) (by omega) ?_
      refine rr_inc4 rfl ?_
      refine rr_goto rfl rfl ?_
      exact ih (j + 1) _ _ _ _ _ _ _ (by omega) ⟨by omega, by omega, by have := wB_s s 19 0 j (fun _ => 0); rw [Int.zero_add] at this; exact this⟩ K
theorem lp_chain {d : Nat} {s : am_Z} {q0 : am_A} {Q : Option am_V → am_Z → Prop} {l0 h0 : Int} {x3 : Option am_V} {sF : am_Z} : ∀ (m : Nat) (n : Nat) (l g k : Int) (s1 : am_Z) (x7 x8 x9 : Option am_V), n < m → (k = 6 - n ∧ n ≤ 6 ∧ (g = 0 ∨ g = 1) ∧ (in32 l ∧ (g = 1 → legR l)) ∧ dlF n g l s1 = sF) → (∀ x4 x5 x6 x7 x8 x9, am_WR (d + 3) m_M_delay 262 [some (aR 9 0), some (aI (zI l0)), some (aI (zI h0)), x3, x4, x5, x6, x7, x8, x9] [] q0 (sF) Q) → am_WR (d + 3) m_M_delay 90 [some (aR 9 0), some (aI (zI l0)), some (aI (zI h0)), x3, some (aI (zI l)), some (aI (zI g)), some (aI (zI k)), x7, x8, x9] [] q0 (s1) Q := by
  intro m
  induction m with
  | zero => intro n l g k s1 x7 x8 x9 hm; exact absurd hm (Nat.not_lt_zero _)
  | succ m ih =>
    intro n l g k s1 x7 x8 x9 hm ⟨hk, hn, hg, hl, hF⟩ K
    refine rr_inS (fun B => ?_)
    refine rr_iload rfl rfl ?_
    refine rr_bipush (x := 6) rfl rfl ?_
    refine rr_icmp_ge rfl rfl (by omega) (by omega) (fun h94 => ?_) (fun h94 => ?_)
    · rw [show s1 = sF from by first | (rw [show n = 0 by omega, dlF_0] at hF; exact hF) | (rw [show g = 0 by omega, dlF_z] at hF; exact hF)]
      exact K _ _ _ _ _ _
    · obtain ⟨n1, rfl⟩ : ∃ n1, n = n1 + 1 := ⟨n - 1, by omega⟩
      refine rr_iload rfl rfl ?_
      refine rr_if_eq rfl rfl (by omega) (fun h99 => ?_) (fun h99 => ?_)
      · rw [show s1 = sF from by first | (rw [show n = 0 by omega, dlF_0] at hF; exact hF) | (rw [show g = 0 by omega, dlF_z] at hF; exact hF)]
        exact K _ _ _ _ _ _
      · obtain rfl : g = 1 := by omega
        have hl := hl.2 rfl
        have ho := othL_b B hl
        refine rr_iload rfl rfl ?_
        refine rr_bipush (x := 100) rfl rfl ?_
        refine rr_idiv rfl (by omega) (by omega) ?_
        refine rr_stI7 rfl ?_
        refine rr_iload rfl rfl ?_
        refine rr_bipush (x := 100) rfl rfl ?_
        refine rr_irem rfl (by omega) (by omega) ?_
        refine rr_aload_n rfl rfl ?_
        refine rr_gfA 16 rfl rfl (by omega) rfl ?_
        refine rr_iload rfl rfl ?_
        refine rr_ia 16 12 rfl rfl rfl rfl (by omega) (by omega) (fun b120 => ?_)
        refine rr_iadd rfl ?_
        refine rr_stI8 rfl ?_
        refine rr_join (pc' := 175) (V := (othL s1 l)) ?_ (fun K175 => ?_)
        · refine rr_stI9 rfl ?_
          refine rr_join (pc' := 214) (V := if othL s1 l ≠ -1 ∧ freeP s1 (othL s1 l) ∧ dep s1 (othL s1 l) < arv s1 l + 1 then 1 else 0) ?_ (fun K214 => ?_)
          · refine rr_stI5 rfl ?_
            refine rr_iload rfl rfl ?_
            refine rr_if_eqB rfl rfl (fun h218 => ?_) (fun h218 => ?_)
            · refine rr_iconst rfl ?_
              refine rr_stI5 rfl ?_
              refine rr_iload rfl rfl ?_
              refine rr_stI4 rfl ?_
              refine rr_inc6 rfl ?_
              refine rr_goto rfl rfl ?_
              first
                | exact ih n1 _ 1 _ _ _ _ _ (by omega) ⟨by omega, by omega, by omega, by omega, by rw [dlF_c (by assumption), ← dlF_p (by assumption)]; exact hF⟩ K
                | exact ih n1 _ 0 _ _ _ _ _ (by omega) ⟨by omega, by omega, by omega, by omega, by rw [dlF_b (by assumption), ← dlF_p (by assumption)]; exact hF⟩ K
                | exact ih n1 _ 0 _ _ _ _ _ (by omega) ⟨by omega, by omega, by omega, by omega, by rw [dlF_z]; rw [dlF_n (fun z => absurd z.2 (by assumption))] at hF; exact hF⟩ K
            · refine rr_aload_n rfl rfl ?_
              refine rr_iload rfl rfl ?_
              refine rr_aload_n rfl rfl ?_
              refine rr_iload rfl rfl ?_
              refine rr_cv1P rfl rfl rfl (Nat.le_of_ble_eq_true rfl) (sr_arrives (d := 0) (by omega)) (by omega) (fun b227 => ?_)
              refine rr_iconst rfl ?_
              refine rr_iadd rfl ?_
              refine rr_aload_n rfl rfl ?_
              refine rr_iload rfl rfl ?_
              refine rr_cv1P rfl rfl rfl (Nat.le_of_ble_eq_true rfl) (sr_departs (d := 0) (by omega)) (by omega) (fun b235 => ?_)
              refine rr_isub rfl ?_
              refine rr_cv2B rfl rfl rfl (Nat.le_of_ble_eq_true rfl) (sr_delays (d := 0) (by omega) (by omega)) (by omega) ?_
              refine rr_if_eqB rfl rfl (fun h242 => ?_) (fun h242 => ?_)
              · refine rr_iconst rfl ?_
                refine rr_stI5 rfl ?_
                refine rr_iload rfl rfl ?_
                refine rr_stI4 rfl ?_
                refine rr_inc6 rfl ?_
                refine rr_goto rfl rfl ?_
                first
                  | exact ih n1 _ 1 _ _ _ _ _ (by omega) ⟨by omega, by omega, by omega, by omega, by rw [dlF_c (by assumption), ← dlF_p (by assumption)]; exact hF⟩ K
                  | exact ih n1 _ 0 _ _ _ _ _ (by omega) ⟨by omega, by omega, by omega, by omega, by rw [dlF_b (by assumption), ← dlF_p (by assumption)]; exact hF⟩ K
                  | exact ih n1 _ 0 _ _ _ _ _ (by omega) ⟨by omega, by omega, by omega, by omega, by rw [dlF_z]; rw [dlF_n (fun z => absurd z.2 (by assumption))] at hF; exact hF⟩ K
              · refine rr_iconst rfl ?_
                refine rr_goto rfl rfl ?_
                refine rr_stI5 rfl ?_
                refine rr_iload rfl rfl ?_
                refine rr_stI4 rfl ?_
                refine rr_inc6 rfl ?_
                refine rr_goto rfl rfl ?_
                first
                  | exact ih n1 _ 1 _ _ _ _ _ (by omega) ⟨by omega, by omega, by omega, by omega, by rw [dlF_c (by assumption), ← dlF_p (by assumption)]; exact hF⟩ K
                  | exact ih n1 _ 0 _ _ _ _ _ (by omega) ⟨by omega, by omega, by omega, by omega, by rw [dlF_b (by assumption), ← dlF_p (by assumption)]; exact hF⟩ K
                  | exact ih n1 _ 0 _ _ _ _ _ (by omega) ⟨by omega, by omega, by omega, by omega, by rw [dlF_z]; rw [dlF_n (fun z => absurd z.2 (by assumption))] at hF; exact hF⟩ K
          · refine rr_iload rfl rfl ?_
            refine rr_iconst rfl ?_
            refine rr_icmp_eq rfl rfl (by omega) (by omega) (fun h180 => ?_) (fun h180 => ?_)
            · refine rr_iconst rfl ?_
              exact K214 _ (by first | omega | (simp_all) | (split <;> omega))
            · refine rr_aload_n rfl rfl ?_
              refine rr_iload rfl rfl ?_
              refine rr_cv1B rfl rfl rfl (Nat.le_of_ble_eq_true rfl) (sr_isFree (d := 0) (by omega)) (by omega) ?_
              refine rr_if_eqB rfl rfl (fun h189 => ?_) (fun h189 => ?_)
              · refine rr_iconst rfl ?_
                exact K214 _ (by first | omega | (simp_all) | (split <;> omega))
              · refine rr_aload_n rfl rfl ?_
                refine rr_iload rfl rfl ?_
                refine rr_cv1P rfl rfl rfl (Nat.le_of_ble_eq_true rfl) (sr_departs (d := 0) (by omega)) (by omega) (fun b195 => ?_)
                refine rr_aload_n rfl rfl ?_
                refine rr_iload rfl rfl ?_
                refine rr_cv1P rfl rfl rfl (Nat.le_of_ble_eq_true rfl) (sr_arrives (d := 0) (by omega)) (by omega) (fun b201 => ?_)
                refine rr_iconst rfl ?_
                refine rr_iadd rfl ?_
                refine rr_icmp_ge rfl rfl (by omega) (by omega) (fun h206 => ?_) (fun h206 => ?_)
                · refine rr_iconst rfl ?_
                  exact K214 _ (by first | omega | (simp_all) | (split <;> omega))
                · refine rr_iconst rfl ?_
                  refine rr_goto rfl rfl ?_
                  exact K214 _ (by first | omega | (simp_all) | (split <;> omega))
        · refine rr_aload_n rfl rfl ?_
          refine rr_gfA 15 rfl rfl (by omega) rfl ?_
          refine rr_iload rfl rfl ?_
          refine rr_ia 15 12 rfl rfl rfl rfl (by omega) (by omega) (fun b130 => ?_)
          refine rr_iconst rfl ?_
          refine rr_icmp_eq rfl rfl (by omega) (by omega) (fun h132 => ?_) (fun h132 => ?_)
          · refine rr_iconst rfl ?_
            refine rr_goto rfl rfl ?_
            exact K175 _ (by unfold othL; omega)
          · refine rr_iload rfl rfl ?_
            refine rr_bipush (x := 61) rfl rfl ?_
            refine rr_icmp_ge rfl rfl (by omega) (by omega) (fun h139 => ?_) (fun h139 => ?_)
            · refine rr_iconst rfl ?_
              refine rr_goto rfl rfl ?_
              exact K175 _ (by unfold othL; omega)
            · refine rr_aload_n rfl rfl ?_
              refine rr_aload_n rfl rfl ?_
              refine rr_gfA 15 rfl rfl (by omega) rfl ?_
              refine rr_iload rfl rfl ?_
              refine rr_ia 15 12 rfl rfl rfl rfl (by omega) (by omega) (fun b149 => ?_)
              refine rr_iload rfl rfl ?_
              refine rr_cv2B rfl rfl rfl (Nat.le_of_ble_eq_true rfl) (sr_isThere (d := 0) (by omega) (by omega)) (by omega) ?_
              refine rr_if_neB rfl rfl (fun h155 => ?_) (fun h155 => ?_)
              · refine rr_bipush (x := 100) rfl rfl ?_
                refine rr_aload_n rfl rfl ?_
                refine rr_gfA 15 rfl rfl (by omega) rfl ?_
                refine rr_iload rfl rfl ?_
                refine rr_ia 15 12 rfl rfl rfl rfl (by omega) (by omega) (fun b170 => ?_)
                refine rr_imul rfl ?_
                refine rr_iload rfl rfl ?_
                refine rr_iadd rfl ?_
                exact K175 _ (by unfold othL; omega)
              · refine rr_iconst rfl ?_
                refine rr_goto rfl rfl ?_
                exact K175 _ (by unfold othL; omega)
theorem lp_cnt {d : Nat} {s : am_Z} {q0 : am_A} {Q : Option am_V → am_Z → Prop} {l0 h0 : Int} {x3 x4 x5 : Option am_V} : ∀ (m : Nat) (j : Nat) (k acc : Int) (x8 x9 : Option am_V), 732 - j < m → (k = j ∧ j ≤ 732 ∧ acc = sumI 0 j (nTch s)) → (∀ x7 x8 x9, am_WR d m_M_delay 302 [some (aR 9 0), some (aI (zI l0)), some (aI (zI h0)), x3, x4, x5, some (aI (zI (sumI 0 732 (nTch s)))), x7, x8, x9] [] q0 (s) Q) → am_WR d m_M_delay 268 [some (aR 9 0), some (aI (zI l0)), some (aI (zI h0)), x3, x4, x5, some (aI (zI acc)), some (aI (zI k)), x8, x9] [] q0 (s) Q := by
  intro m
  induction m with
  | zero => intro j k acc x8 x9 hm; exact absurd hm (Nat.not_lt_zero _)
  | succ m ih =>
    intro j k acc x8 x9 hm ⟨hj, hj2, hacc⟩ K
    subst hj
    subst hacc
    refine rr_iload rfl rfl ?_
    refine rr_sipush (x := 732) rfl rfl ?_
    refine rr_icmp_ge rfl rfl (by omega) (by omega) (fun h273 => ?_) (fun h273 => ?_)
    · rw [show j = 732 by omega]
      exact K _ _ _
    · refine rr_iload rfl rfl ?_
      refine rr_join (pc' := 293) (V := nTch s (j : Int)) ?_ (fun K293 => ?_)
      · refine rr_iadd rfl ?_
        refine rr_stI6 rfl ?_
        refine rr_inc7 rfl ?_
        refine rr_goto rfl rfl ?_
        exact ih (j + 1) _ _ _ _ (by omega) ⟨by omega, by omega, by rw [sumI_s, Int.zero_add]⟩ K
      · refine rr_aload_n rfl rfl ?_
        refine rr_gfA 19 rfl rfl (by omega) rfl ?_
        refine rr_iload rfl rfl ?_
        refine rr_ba 19 732 rfl rfl rfl rfl (by omega) (by omega) (fun b284 => ?_)
        refine rr_if_eq rfl rfl (by omega) (fun h285 => ?_) (fun h285 => ?_)
        · refine rr_iconst rfl ?_
          exact K293 _ (by unfold nTch; first | exact (if_pos (by assumption)).symm | exact (if_neg (by assumption)).symm)
        · refine rr_iconst rfl ?_
          refine rr_goto rfl rfl ?_
          exact K293 _ (by unfold nTch; first | exact (if_pos (by assumption)).symm | exact (if_neg (by assumption)).symm)
theorem sr_delay {d : Nat} {s : am_Z} {l h : Int}  (hl : in32 l) (hh : in32 h) : am_CR (d + 3) m_M_delay [aR 9 0, aI (zI l), aI (zI h)] s (isP (if kDelay s l h = 0 then delayS (wI s 74 (kDelay s l h)) l h else wI s 74 (kDelay s l h)) (if kDelay s l h = 0 then sumI 0 732 (nTch (delayS (wI s 74 (kDelay s l h)) l h)) else 0) (True)) := by
  refine am_CR_i (ls := [some (aR 9 0), some (aI (zI l)), some (aI (zI h)), none, none, none, none, none, none, none]) rfl (fun q0 => ?_)
  refine rr_inS (fun B => ?_)
  have b3 := B.2.1 3 0 12 rfl
  have b20 := B.2.1 20 0 16 rfl
  have b44 := B.2.1 44 0 40 rfl
  have b61 := B.2.1 61 0 20 rfl
  refine rr_aload_n rfl rfl ?_
  refine rr_iload_n rfl rfl ?_
  refine rr_cv1B rfl rfl rfl (Nat.le_of_ble_eq_true rfl) (sr_isLeg (d := 0) (by omega)) (by omega) ?_
  refine rr_stI3 rfl ?_
  refine rr_aload_n rfl rfl ?_
  refine rr_join (pc' := 42) (V := kDelay s l h) ?_ (fun K42 => ?_)
  · refine rr_cv1B rfl rfl rfl (Nat.le_of_ble_eq_true rfl) (sr_fails (d := 0) (by unfold kDelay; omega)) (by omega) ?_
    refine rr_if_eqB rfl rfl (fun h45 => ?_) (fun h45 => ?_)
    · have hk : kDelay s l h = 0 := by have z : 0 ≤ kDelay s l h := by { unfold kDelay; omega }; omega
      have hk2 := hk
      unfold kDelay at hk2
      refine rr_iconst rfl ?_
      refine rr_stI4 rfl ?_
      refine lp_rst (d := d + 3) (s := (wI s 74 (kDelay s l h))) 733 0 0 _ _ _ _ _ _ (by omega) ⟨rfl, by omega, (wB_0 ..).symm⟩ (fun x4 => ?_)
      refine rr_iload_n rfl rfl ?_
      refine rr_stI4 rfl ?_
      refine rr_aload_n rfl rfl ?_
      refine rr_iload rfl rfl ?_
      refine rr_iload_n rfl rfl ?_
      refine rr_cv2B rfl rfl rfl (Nat.le_of_ble_eq_true rfl) (sr_delays (d := 0) (by omega) (by omega)) (by omega) ?_
      refine rr_stI5 rfl ?_
      refine rr_iconst rfl ?_
      refine rr_stI6 rfl ?_
      refine lp_chain (d := d) (s := s) (sF := delayS (wI s 74 (kDelay s l h)) l h) 7 6 l _ 0 _ _ _ _ (by omega) ⟨by omega, by omega, by omega, by omega, by unfold delayS; split <;> first | exact dlF_c (by assumption) | exact dlF_b (by assumption)⟩ (fun x4 x5 x6 x7 x8 x9 => ?_)
      refine rr_iconst rfl ?_
      refine rr_stI6 rfl ?_
      refine rr_iconst rfl ?_
      refine rr_stI7 rfl ?_
      refine lp_cnt (d := d + 3) 733 0 0 0 _ _ (by omega) ⟨rfl, by omega, rfl⟩ (fun x7 x8 x9 => ?_)
      refine rr_iload rfl rfl ?_
      refine rr_iret rfl (Or.inl rfl) ?_
      first | exact rr_eP' (if_pos hk).symm (if_pos hk).symm trivial | exact rr_eP' (if_neg (by omega)).symm (if_neg (by omega)).symm trivial | exact False.elim (by omega)
    · refine rr_iconst rfl ?_
      refine rr_iret rfl (Or.inl rfl) ?_
      first | exact rr_eP' (if_pos hk).symm (if_pos hk).symm trivial | exact rr_eP' (if_neg (by omega)).symm (if_neg (by omega)).symm trivial | exact False.elim (by omega)
  · refine rr_iload_n rfl rfl ?_
    refine rr_if_neB rfl rfl (fun h8 => ?_) (fun h8 => ?_)
    · refine rr_iload_n rfl rfl ?_
      refine rr_iconst rfl ?_
      refine rr_bipush (x := 8) rfl rfl ?_
      refine rr_cs3B rfl rfl (Nat.le_of_ble_eq_true rfl) (sr_isIn (d := 0) (by omega) (by omega) (by omega)) (by omega) ?_
      refine rr_if_neB rfl rfl (fun h22 => ?_) (fun h22 => ?_)
      · refine rr_aload_n rfl rfl ?_
        refine rr_iload_n rfl rfl ?_
        refine rr_cv1B rfl rfl rfl (Nat.le_of_ble_eq_true rfl) (sr_isFree (d := 0) (by omega)) (by omega) ?_
        refine rr_if_eqB rfl rfl (fun h34 => ?_) (fun h34 => ?_)
        · refine rr_iconst rfl ?_
          exact K42 _ (by unfold kDelay; omega)
        · refine rr_iconst rfl ?_
          refine rr_goto rfl rfl ?_
          exact K42 _ (by unfold kDelay; omega)
      · refine rr_iconst rfl ?_
        refine rr_goto rfl rfl ?_
        exact K42 _ (by unfold kDelay; omega)
    · refine rr_iconst rfl ?_
      refine rr_goto rfl rfl ?_
      exact K42 _ (by unfold kDelay; omega)
end

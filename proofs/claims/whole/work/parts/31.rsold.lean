noncomputable section
def sumI (a : Int) : Nat → (Int → Int) → Int
  | 0, _ => 0
  | n + 1, f => sumI a n f + f (a + n)
theorem sumI_s (a : Int) (n : Nat) (f : Int → Int) : sumI a (n + 1) f = sumI a n f + f (a + n) := rfl
theorem sumI_b {a M : Int} {n : Nat} {f : Int → Int} (h : ∀ i, 0 ≤ f i ∧ f i ≤ M) : 0 ≤ sumI a n f ∧ sumI a n f ≤ n * M := by
  induction n with
  | zero => simp [sumI]
  | succ n ih =>
    have := h (a + n)
    rw [sumI_s, Int.natCast_add, Int.add_mul]
    omega
theorem sumI_c {a : Int} {n : Nat} {f g : Int → Int} (h : ∀ i, a ≤ i → i < a + n → f i = g i) : sumI a n f = sumI a n g := by
  induction n with
  | zero => rfl
  | succ n ih => rw [sumI_s, sumI_s, ih (fun i h1 h2 => h i h1 (by omega)), h (a + n) (by omega) (by omega)]
def cSold (s : am_Z) (l bk b k : Int) : Int := if rA s 53 k = l ∧ rA s 55 k ≤ 2 ∧ bk ≤ rA s 54 k then rA s 45 b else 0
def bSold (s : am_Z) (l bk b : Int) : Int := if rA s 47 b ≤ 1 then sumI (10 * b) (rA s 52 b).toNat (cSold s l bk b) else 0
def sold (s : am_Z) (l bk : Int) : Int := sumI 0 (rI s 44).toNat (bSold s l bk)
theorem bSold_b {s : am_Z} (B : in_S s) (l bk b : Int) : 0 ≤ bSold s l bk b ∧ bSold s l bk b ≤ 90 := by
  unfold bSold
  split
  · have h1 := B.1 45 b 0 9 rfl
    have h2 := B.1 52 b 0 10 rfl
    have := sumI_b (a := 10 * b) (n := (rA s 52 b).toNat) (f := cSold s l bk b) (M := 9) (fun i => by unfold cSold; split <;> omega)
    omega
  · omega
theorem sold_b {s : am_Z} (B : in_S s) (l bk : Int) : 0 ≤ sold s l bk ∧ sold s l bk ≤ 3600 := by
  have h2 := B.2.1 44 0 40 rfl
  have := sumI_b (a := 0) (n := (rI s 44).toNat) (f := bSold s l bk) (M := 90) (bSold_b B l bk)
  unfold sold
  omega
theorem lp_sold1 {d : Nat} {s : am_Z} {q0 : am_A} {Q : Option am_V → am_Z → Prop}  {l bk : Int} (hl : in32 l) (hk : in32 bk) {b a0 : Int} (hb : 0 ≤ b ∧ b < 40) : ∀ (m : Nat) (j : Nat) (k acc : Int) (x6 : Option am_V), (rA s 52 b).toNat - j < m → (k = 10 * b + j ∧ (j : Int) ≤ rA s 52 b ∧ acc = a0 + (if rA s 47 b ≤ 1 then sumI (10 * b) j (cSold s l bk b) else 0)) → (∀ v x5 x6, v = a0 + bSold s l bk b → am_WR d m_M_sold 115 [some (aR 9 0), some (aI (zI l)), some (aI (zI bk)), some (aI (zI v)), some (aI (zI b)), x5, x6] [] q0 (s) Q) → am_WR d m_M_sold 21 [some (aR 9 0), some (aI (zI l)), some (aI (zI bk)), some (aI (zI acc)), some (aI (zI b)), some (aI (zI k)), x6] [] q0 (s) Q := by
  intro m
  induction m with
  | zero => intro j k acc x6 hm; exact absurd hm (Nat.not_lt_zero _)
  | succ m ih =>
    intro j k acc x6 hm ⟨hj, hj2, hacc⟩ K
    subst hj
    subst hacc
    refine rr_iload rfl rfl ?_
    refine rr_bipush (x := 10) rfl rfl ?_
    refine rr_iload rfl rfl ?_
    refine rr_imul rfl ?_
    refine rr_aload_n rfl rfl ?_
    refine rr_gfA 52 rfl rfl (by omega) rfl ?_
    refine rr_iload rfl rfl ?_
    refine rr_ia 52 40 rfl rfl rfl rfl (by omega) (by omega) (fun b34 => ?_)
    refine rr_iadd rfl ?_
    refine rr_icmp_ge rfl rfl (by omega) (by omega) (fun h36 => ?_) (fun h36 => ?_)
    · exact K _ _ _ (by unfold bSold; first | (rw [show (rA s 52 b).toNat = j by omega]) | (rw [if_neg (by omega), if_neg (by omega)]))
    · refine rr_aload_n rfl rfl ?_
      refine rr_gfA 47 rfl rfl (by omega) rfl ?_
      refine rr_iload rfl rfl ?_
      refine rr_ia 47 40 rfl rfl rfl rfl (by omega) (by omega) (fun b45 => ?_)
      refine rr_iconst rfl ?_
      refine rr_icmp_gt rfl rfl (by omega) (by omega) (fun h47 => ?_) (fun h47 => ?_)
      · exact K _ _ _ (by unfold bSold; first | (rw [show (rA s 52 b).toNat = j by omega]) | (rw [if_neg (by omega), if_neg (by omega)]))
      · refine rr_join (pc' := 88) (V := if rA s 53 (10 * b + (j : Int)) = l ∧ rA s 55 (10 * b + (j : Int)) ≤ 2 ∧ bk ≤ rA s 54 (10 * b + (j : Int)) then 1 else 0) ?_ (fun K88 => ?_)
        · refine rr_stI6 rfl ?_
          refine rr_iload_n rfl rfl ?_
          refine rr_iload rfl rfl ?_
          refine rr_if_eqB rfl rfl (fun h93 => ?_) (fun h93 => ?_)
          · refine rr_iconst rfl ?_
            refine rr_iadd rfl ?_
            refine rr_stI3 rfl ?_
            refine rr_inc5 rfl ?_
            refine rr_goto rfl rfl ?_
            exact ih (j + 1) _ _ _ (by omega) ⟨by omega, by omega, by simp only [sumI_s, cSold]; omega⟩ K
          · refine rr_aload_n rfl rfl ?_
            refine rr_gfA 45 rfl rfl (by omega) rfl ?_
            refine rr_iload rfl rfl ?_
            refine rr_ia 45 40 rfl rfl rfl rfl (by omega) (by omega) (fun b102 => ?_)
            refine rr_goto rfl rfl ?_
            refine rr_iadd rfl ?_
            refine rr_stI3 rfl ?_
            refine rr_inc5 rfl ?_
            refine rr_goto rfl rfl ?_
            exact ih (j + 1) _ _ _ (by omega) ⟨by omega, by omega, by simp only [sumI_s, cSold]; omega⟩ K
        · refine rr_aload_n rfl rfl ?_
          refine rr_gfA 53 rfl rfl (by omega) rfl ?_
          refine rr_iload rfl rfl ?_
          refine rr_iaL 53 400 (s) (fun _ => rfl) rfl rfl rfl rfl rfl (by omega) (by omega) (fun b56 => ?_)
          refine rr_iload_n rfl rfl ?_
          refine rr_icmp_ne rfl rfl (by omega) (by omega) (fun h58 => ?_) (fun h58 => ?_)
          · refine rr_iconst rfl ?_
            exact K88 _ (by first | omega | (simp_all) | (split <;> omega))
          · refine rr_aload_n rfl rfl ?_
            refine rr_gfA 55 rfl rfl (by omega) rfl ?_
            refine rr_iload rfl rfl ?_
            refine rr_ia 55 400 rfl rfl rfl rfl (by omega) (by omega) (fun b67 => ?_)
            refine rr_iconst rfl ?_
            refine rr_icmp_gt rfl rfl (by omega) (by omega) (fun h69 => ?_) (fun h69 => ?_)
            · refine rr_iconst rfl ?_
              exact K88 _ (by first | omega | (simp_all) | (split <;> omega))
            · refine rr_aload_n rfl rfl ?_
              refine rr_gfA 54 rfl rfl (by omega) rfl ?_
              refine rr_iload rfl rfl ?_
              refine rr_ia 54 400 rfl rfl rfl rfl (by omega) (by omega) (fun b78 => ?_)
              refine rr_iload_n rfl rfl ?_
              refine rr_icmp_lt rfl rfl (by omega) (by omega) (fun h80 => ?_) (fun h80 => ?_)
              · refine rr_iconst rfl ?_
                exact K88 _ (by first | omega | (simp_all) | (split <;> omega))
              · refine rr_iconst rfl ?_
                refine rr_goto rfl rfl ?_
                exact K88 _ (by first | omega | (simp_all) | (split <;> omega))
theorem lp_sold2 {d : Nat} {s : am_Z} {q0 : am_A} {Q : Option am_V → am_Z → Prop}  {l bk : Int} (hl : in32 l) (hk : in32 bk) : ∀ (m : Nat) (j : Nat) (b acc : Int) (x5 x6 : Option am_V), (rI s 44).toNat - j < m → (b = j ∧ (j : Int) ≤ rI s 44 ∧ acc = sumI 0 j (bSold s l bk)) → (∀ x4 x5 x6, am_WR d m_M_sold 121 [some (aR 9 0), some (aI (zI l)), some (aI (zI bk)), some (aI (zI (sold s l bk))), x4, x5, x6] [] q0 (s) Q) → am_WR d m_M_sold 5 [some (aR 9 0), some (aI (zI l)), some (aI (zI bk)), some (aI (zI acc)), some (aI (zI b)), x5, x6] [] q0 (s) Q := by
  intro m
  induction m with
  | zero => intro j b acc x5 x6 hm; exact absurd hm (Nat.not_lt_zero _)
  | succ m ih =>
    intro j b acc x5 x6 hm ⟨hj, hj2, hacc⟩ K
    subst hj
    subst hacc
    refine rr_inS (fun B => ?_)
    refine rr_iload rfl rfl ?_
    refine rr_aload_n rfl rfl ?_
    refine rr_gfI 44 rfl rfl (by omega) rfl (fun b8 => ?_)
    refine rr_icmp_ge rfl rfl (by omega) (by omega) (fun h11 => ?_) (fun h11 => ?_)
    · rw [show (sumI 0 j (bSold s l bk)) = sold s l bk by unfold sold; rw [show (rI s 44).toNat = j by omega]]
      exact K _ _ _
    · refine rr_bipush (x := 10) rfl rfl ?_
      refine rr_iload rfl rfl ?_
      refine rr_imul rfl ?_
      refine rr_stI5 rfl ?_
      refine lp_sold1 (d := d) hl hk (b := (j : Int)) (a0 := sumI 0 j (bSold s l bk)) (by omega) ((rA s 52 (j : Int)).toNat + 1) 0 _ _ _ (by omega) ⟨by omega, by have := B.1 52 (j : Int) 0 10 rfl; omega, by simp [sumI]⟩ (fun v x5 x6 hv => ?_)
      refine rr_inc4 rfl ?_
      refine rr_goto rfl rfl ?_
      exact ih (j + 1) _ _ _ _ (by omega) ⟨by omega, by omega, by rw [sumI_s, hv, Int.zero_add]⟩ K
theorem sr_sold {d : Nat} {s : am_Z} {l bk : Int}  (hl : in32 l) (hk : in32 bk) : am_CR d m_M_sold [aR 9 0, aI (zI l), aI (zI bk)] s (isP (s) (sold s l bk) (0 ≤ sold s l bk ∧ sold s l bk ≤ 3600)) := by
  refine am_CR_i (ls := [some (aR 9 0), some (aI (zI l)), some (aI (zI bk)), none, none, none, none]) rfl (fun q0 => ?_)
  refine rr_iconst rfl ?_
  refine rr_stI3 rfl ?_
  refine rr_iconst rfl ?_
  refine rr_stI4 rfl ?_
  refine rr_inS (fun B => lp_sold2 (d := d) hl hk ((rI s 44).toNat + 1) 0 _ _ _ _ (by omega) ⟨by omega, by have := B.2.1 44 0 40 rfl; omega, by simp [sumI]⟩ (fun x4 x5 x6 => ?_))
  refine rr_iload_n rfl rfl ?_
  refine rr_iret rfl (Or.inl rfl) ?_
  exact rr_eP rfl (sold_b ‹_› l bk)
def minL (s : am_Z) (l : Int) : Nat → Int
  | 0 => rA s 14 (4 * (l / 100)) - sold s l 0
  | n + 1 => min (minL s l n) (rA s 14 (4 * (l / 100) + ((n : Int) + 1)) - sold s l ((n : Int) + 1))
def openS (s : am_Z) (l b : Int) : Int := if freeP s l then (if minL s l b.toNat < 0 then 0 else minL s l b.toNat) else 0
theorem minL_b {s : am_Z} (B : in_S s) (l : Int) (n : Nat) : -3600 ≤ minL s l n ∧ minL s l n ≤ 70 := by
  induction n with
  | zero =>
    have h1 := B.1 14 (4 * (l / 100)) 0 70 rfl
    have h2 := sold_b B l 0
    simp only [minL]
    omega
  | succ n ih =>
    have h1 := B.1 14 (4 * (l / 100) + ((n : Int) + 1)) 0 70 rfl
    have h2 := sold_b B l ((n : Int) + 1)
    simp only [minL]
    omega
theorem openS_b {s : am_Z} (B : in_S s) (l b : Int) : 0 ≤ openS s l b ∧ openS s l b ≤ 70 := by
  have := minL_b B l b.toNat
  unfold openS
  split
  · split <;> omega
  · omega
theorem lp_open {d : Nat} {s : am_Z} {q0 : am_A} {Q : Option am_V → am_Z → Prop} {l b : Int} (hl : legR l) (hb : 0 ≤ b ∧ b ≤ 3) : ∀ (m : Nat) (j : Nat) (k acc : Int), b.toNat - j < m → (k = j + 1 ∧ (j : Int) ≤ b ∧ acc = minL s l j) → (∀ x4, am_WR (d + 1) m_M_openIn 71 [some (aR 9 0), some (aI (zI l)), some (aI (zI b)), some (aI (zI (minL s l b.toNat))), x4] [] q0 (s) Q) → am_WR (d + 1) m_M_openIn 32 [some (aR 9 0), some (aI (zI l)), some (aI (zI b)), some (aI (zI acc)), some (aI (zI k))] [] q0 (s) Q := by
  intro m
  induction m with
  | zero => intro j k acc hm; exact absurd hm (Nat.not_lt_zero _)
  | succ m ih =>
    intro j k acc hm ⟨hj, hj2, hacc⟩ K
    subst hj
    subst hacc
    refine rr_inS (fun B => ?_)
    have hm := minL_b B l j
    refine rr_iload rfl rfl ?_
    refine rr_iload_n rfl rfl ?_
    refine rr_icmp_gt rfl rfl (by omega) (by omega) (fun h35 => ?_) (fun h35 => ?_)
    · rw [show minL s l j = minL s l b.toNat by rw [show b.toNat = j by omega]]
      exact K _
    · refine rr_iload_n rfl rfl ?_
      refine rr_aload_n rfl rfl ?_
      refine rr_gfA 14 rfl rfl (by omega) rfl ?_
      refine rr_iconst rfl ?_
      refine rr_iload_n rfl rfl ?_
      refine rr_bipush (x := 100) rfl rfl ?_
      refine rr_idiv rfl (by omega) (by omega) ?_
      refine rr_imul rfl ?_
      refine rr_iload rfl rfl ?_
      refine rr_iadd rfl ?_
      refine rr_ia 14 48 rfl rfl rfl rfl (by omega) (by omega) (fun b52 => ?_)
      refine rr_aload_n rfl rfl ?_
      refine rr_iload_n rfl rfl ?_
      refine rr_iload rfl rfl ?_
      refine rr_cv2P rfl rfl rfl (Nat.le_of_ble_eq_true rfl) (sr_sold (d := 0) (by omega) (by omega)) (by omega) (fun b57 => ?_)
      refine rr_isub rfl ?_
      refine rr_cs2P rfl rfl (Nat.le_of_ble_eq_true rfl) (sr_least (d := 0) (by omega) (by omega)) (by omega) (fun b61 => ?_)
      refine rr_stI3 rfl ?_
      refine rr_inc4 rfl ?_
      refine rr_goto rfl rfl ?_
      exact ih (j + 1) _ _ (by omega) ⟨by omega, by omega, rfl⟩ K
theorem sr_openIn {d : Nat} {s : am_Z} {l b : Int}  (hl : legR l) (hb : 0 ≤ b ∧ b ≤ 3) : am_CR (d + 3) m_M_openIn [aR 9 0, aI (zI l), aI (zI b)] s (isP (s) (openS s l b) (0 ≤ openS s l b ∧ openS s l b ≤ 70)) := by
  refine am_CR_i (ls := [some (aR 9 0), some (aI (zI l)), some (aI (zI b)), none, none]) rfl (fun q0 => ?_)
  refine rr_inS (fun B => ?_)
  have hm := minL_b B l b.toNat
  refine rr_aload_n rfl rfl ?_
  refine rr_iload_n rfl rfl ?_
  refine rr_cv1B rfl rfl rfl (Nat.le_of_ble_eq_true rfl) (sr_isFree (d := 0) (by omega)) (by omega) ?_
  refine rr_if_neB rfl rfl (fun h5 => ?_) (fun h5 => ?_)
  · refine rr_aload_n rfl rfl ?_
    refine rr_gfA 14 rfl rfl (by omega) rfl ?_
    refine rr_iconst rfl ?_
    refine rr_iload_n rfl rfl ?_
    refine rr_bipush (x := 100) rfl rfl ?_
    refine rr_idiv rfl (by omega) (by omega) ?_
    refine rr_imul rfl ?_
    refine rr_ia 14 48 rfl rfl rfl rfl (by omega) (by omega) (fun b20 => ?_)
    refine rr_aload_n rfl rfl ?_
    refine rr_iload_n rfl rfl ?_
    refine rr_iconst rfl ?_
    refine rr_cv2P rfl rfl rfl (Nat.le_of_ble_eq_true rfl) (sr_sold (d := 0) (by omega) (by omega)) (by omega) (fun b24 => ?_)
    refine rr_isub rfl ?_
    refine rr_stI3 rfl ?_
    refine rr_iconst rfl ?_
    refine rr_stI4 rfl ?_
    refine lp_open (d := d + 2) hl hb (b.toNat + 1) 0 1 _ (by omega) ⟨by omega, by omega, rfl⟩ (fun x4 => ?_)
    refine rr_iload_n rfl rfl ?_
    refine rr_if_ge rfl rfl (by omega) (fun h72 => ?_) (fun h72 => ?_)
    · refine rr_iload_n rfl rfl ?_
      refine rr_iret rfl (Or.inl rfl) ?_
      exact rr_eP (by unfold openS; first | (rw [if_neg (by omega)]) | (rw [if_pos (by omega), if_pos (by omega)]) | (rw [if_pos (by omega), if_neg (by omega)])) (openS_b B l b)
    · refine rr_iconst rfl ?_
      refine rr_goto rfl rfl ?_
      refine rr_iret rfl (Or.inl rfl) ?_
      exact rr_eP (by unfold openS; first | (rw [if_neg (by omega)]) | (rw [if_pos (by omega), if_pos (by omega)]) | (rw [if_pos (by omega), if_neg (by omega)])) (openS_b B l b)
  · refine rr_iconst rfl ?_
    refine rr_iret rfl (Or.inl rfl) ?_
    exact rr_eP (by unfold openS; first | (rw [if_neg (by omega)]) | (rw [if_pos (by omega), if_pos (by omega)]) | (rw [if_pos (by omega), if_neg (by omega)])) (openS_b B l b)
/-- seats depend on these arrays alone -/
def uSeat (j : Nat) : Bool := Nat.beq j 1 || Nat.beq j 5 || Nat.beq j 7 || Nat.beq j 14 || Nat.beq j 17 || Nat.beq j 18 || Nat.beq j 45 || Nat.beq j 47 || Nat.beq j 52 || Nat.beq j 53 || Nat.beq j 54 || Nat.beq j 55
theorem dep_cg {s s' : am_Z} (h : ∀ j i, uSeat j = true → rA s' j i = rA s j i) (l : Int) : dep s' l = dep s l := by
  unfold dep
  rw [h 7 _ rfl, h 1 _ rfl, h 5 _ rfl, h 17 _ rfl]
theorem sold_cg {s s' : am_Z} (h : ∀ j i, uSeat j = true → rA s' j i = rA s j i) (h4 : rI s' 44 = rI s 44) (l bk : Int) : sold s' l bk = sold s l bk := by
  unfold sold
  rw [h4]
  refine sumI_c (fun b _ _ => ?_)
  unfold bSold
  rw [h 47 _ rfl, h 52 _ rfl]
  have e : sumI (10 * b) (rA s 52 b).toNat (cSold s' l bk b) = sumI (10 * b) (rA s 52 b).toNat (cSold s l bk b) := by
    refine sumI_c (fun k _ _ => ?_)
    unfold cSold
    rw [h 53 _ rfl, h 55 _ rfl, h 54 _ rfl, h 45 _ rfl]
  rw [e]
theorem minL_cg {s s' : am_Z} (h : ∀ j i, uSeat j = true → rA s' j i = rA s j i) (h4 : rI s' 44 = rI s 44) (l : Int) (n : Nat) : minL s' l n = minL s l n := by
  induction n with
  | zero => simp only [minL]; rw [h 14 _ rfl, sold_cg h h4]
  | succ n ih => simp only [minL]; rw [ih, h 14 _ rfl, sold_cg h h4]
theorem openS_cg {s s' : am_Z} (h : ∀ j i, uSeat j = true → rA s' j i = rA s j i) (h4 : rI s' 44 = rI s 44) (h0 : rI s' 0 = rI s 0) (l b : Int) : openS s' l b = openS s l b := by
  unfold openS
  rw [minL_cg h h4]
  unfold freeP
  rw [h 18 _ rfl, dep_cg h, h0]
end

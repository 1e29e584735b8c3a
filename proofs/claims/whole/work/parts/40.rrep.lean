noncomputable section
theorem cpyS_I (t : am_Z) (a b : Int) : (cpyS t a b).2 = t.2 := rfl
theorem moveS_I {s : am_Z} {b c : Int} {j : Nat} (h2 : j ≠ 72) (h3 : j ≠ 73) : rI (moveS s b c) j = rI s j := by
  have e : rI (findS s b c) j = rI s j := by
    show (if j = 73 then _ else if j = 72 then _ else s.2 j) = s.2 j
    rw [if_neg h3, if_neg h2]
  unfold moveS
  split
  · refine Eq.trans ?_ e
    refine (congrFun (itS_I (f := mvF (10 * b + c)) (fun _ _ => rfl) _ _) j).trans ?_
    exact congrFun (itS_I (f := shF (10 * b + rA s 52 b - 1) (nWay s b c)) (fun _ _ => rfl) _ _) j
  · exact e
abbrev am_X : Type := am_Z × Int
theorem ite_n {α : Type} {P : Prop} [Decidable P] (x y : α) : (if (if P then (1 : Int) else 0) ≠ 0 then x else y) = if P then x else y := by
  by_cases hp : P
  · rw [if_pos (by rw [if_pos hp]; omega), if_pos hp]
  · rw [if_neg (fun z => z (if_neg hp)), if_neg hp]
def rpr3 (b : Int) : Nat → Int → am_X → am_X
  | 0, _, X => X
  | m + 1, k, X => if k < rA X.1 52 b then (if brkP X.1 b k then rpr3 b m (k + 1) (moveS X.1 b k, X.2 + (if mvP X.1 b k then 100 else 1)) else rpr3 b m (k + 1) X) else X
def rprB (t b : Int) (X : am_X) : am_X := if rA X.1 47 b = 1 ∧ tierS X.1 (rA X.1 46 b) = t then rpr3 b 12 0 X else X
def rpr2 (t : Int) : Nat → am_X → am_X
  | 0, X => X
  | n + 1, X => rprB t n (rpr2 t n X)
def rpr1 (nb : Nat) : Nat → am_X → am_X
  | 0, X => X
  | i + 1, X => rpr2 (3 - i) nb (rpr1 nb i X)
theorem rpr3_I {b : Int} {m : Nat} {k : Int} {X : am_X} {j : Nat} (h2 : j ≠ 72) (h3 : j ≠ 73) : rI (rpr3 b m k X).1 j = rI X.1 j := by
  induction m generalizing k X with
  | zero => rfl
  | succ m ih =>
    rw [rpr3]
    split
    · split
      · rw [ih, moveS_I h2 h3]
      · exact ih
    · rfl
theorem rprB_I {t b : Int} {X : am_X} {j : Nat} (h2 : j ≠ 72) (h3 : j ≠ 73) : rI (rprB t b X).1 j = rI X.1 j := by
  unfold rprB
  split
  · exact rpr3_I h2 h3
  · rfl
theorem rpr2_I {t : Int} {n : Nat} {X : am_X} {j : Nat} (h2 : j ≠ 72) (h3 : j ≠ 73) : rI (rpr2 t n X).1 j = rI X.1 j := by
  induction n with
  | zero => rfl
  | succ n ih => rw [rpr2, rprB_I h2 h3, ih]
theorem lp_rp3 {d : Nat} {s : am_Z} {q0 : am_A} {Q : Option am_V → am_Z → Prop} {t b g : Int} (hb : 0 ≤ b ∧ b < 40) (hg : 0 ≤ g ∧ g ≤ 1) : ∀ (m : Nat) (k n : Int) (s1 : am_Z), (11 - k).toNat < m → (0 ≤ k ∧ k ≤ 10) → (∀ n1 s2 x5, (s2, n1) = (if g ≠ 0 then rpr3 b m k (s1, n) else (s1, n)) → am_WR (d + 7) m_M_repair 108 [some (aR 9 0), some (aI (zI n1)), some (aI (zI t)), some (aI (zI b)), some (aI (zI g)), x5] [] q0 (s2) Q) → am_WR (d + 7) m_M_repair 57 [some (aR 9 0), some (aI (zI n)), some (aI (zI t)), some (aI (zI b)), some (aI (zI g)), some (aI (zI k))] [] q0 (s1) Q := by
  intro m
  induction m with
  | zero => intro k n s1 hm; exact absurd hm (Nat.not_lt_zero _)
  | succ m ih =>
    intro k n s1 hm hk K
    refine rr_inS (fun B => ?_)
    have b52 := B.1 52 b 0 10 rfl
    refine rr_iload rfl rfl ?_
    refine rr_aload_n rfl rfl ?_
    refine rr_gfA 52 rfl rfl (by omega) rfl ?_
    refine rr_iload_n rfl rfl ?_
    refine rr_ia 52 40 rfl rfl rfl rfl (by omega) (by omega) (fun b64 => ?_)
    refine rr_icmp_ge rfl rfl (by omega) (by omega) (fun h65 => ?_) (fun h65 => ?_)
    · exact K n s1 _ (by first | rw [if_neg (by omega)] | (by_cases hz : g ≠ 0; rw [if_pos hz, rpr3]; exact (if_neg (Int.not_lt.mpr h65)).symm; rw [if_neg hz]))
    · refine rr_iload rfl rfl ?_
      refine rr_if_eq rfl rfl (by omega) (fun h70 => ?_) (fun h70 => ?_)
      · exact K n s1 _ (by first | rw [if_neg (by omega)] | (by_cases hz : g ≠ 0; rw [if_pos hz, rpr3]; exact (if_neg (Int.not_lt.mpr h65)).symm; rw [if_neg hz]))
      · refine rr_aload_n rfl rfl ?_
        refine rr_iload_n rfl rfl ?_
        refine rr_iload rfl rfl ?_
        refine rr_cv2B rfl rfl rfl (Nat.le_of_ble_eq_true rfl) (sr_isBroken (d := 0) (by omega) (by omega)) (by omega) ?_
        refine rr_if_eqB rfl rfl (fun h80 => ?_) (fun h80 => ?_)
        · refine rr_inc5 rfl ?_
          refine rr_goto rfl rfl ?_
          refine ih (k + 1) _ _ (by omega) (by omega) (fun n1 s2 x5 h => K n1 s2 x5 ?_)
          rw [h, if_pos (by omega), if_pos (by omega), rpr3, if_pos (by dsimp only; omega)]
          first
            | rw [if_pos (by assumption), if_pos (by assumption)]
            | rw [if_pos (by assumption), if_neg (by assumption)]
            | rw [if_neg (by assumption)]
        · refine rr_iload_n rfl rfl ?_
          refine rr_aload_n rfl rfl ?_
          refine rr_iload_n rfl rfl ?_
          refine rr_iload rfl rfl ?_
          refine rr_cv2B rfl rfl rfl (Nat.le_of_ble_eq_true rfl) (sr_moves (d := 0) (by omega) (by omega)) (by omega) ?_
          refine rr_if_eqB rfl rfl (fun h91 => ?_) (fun h91 => ?_)
          · refine rr_iconst rfl ?_
            refine rr_iadd rfl ?_
            refine rr_stI1 rfl ?_
            refine rr_inc5 rfl ?_
            refine rr_goto rfl rfl ?_
            refine ih (k + 1) _ _ (by omega) (by omega) (fun n1 s2 x5 h => K n1 s2 x5 ?_)
            rw [h, if_pos (by omega), if_pos (by omega), rpr3, if_pos (by dsimp only; omega)]
            first
              | rw [if_pos (by assumption), if_pos (by assumption)]
              | rw [if_pos (by assumption), if_neg (by assumption)]
              | rw [if_neg (by assumption)]
          · refine rr_bipush (x := 100) rfl rfl ?_
            refine rr_goto rfl rfl ?_
            refine rr_iadd rfl ?_
            refine rr_stI1 rfl ?_
            refine rr_inc5 rfl ?_
            refine rr_goto rfl rfl ?_
            refine ih (k + 1) _ _ (by omega) (by omega) (fun n1 s2 x5 h => K n1 s2 x5 ?_)
            rw [h, if_pos (by omega), if_pos (by omega), rpr3, if_pos (by dsimp only; omega)]
            first
              | rw [if_pos (by assumption), if_pos (by assumption)]
              | rw [if_pos (by assumption), if_neg (by assumption)]
              | rw [if_neg (by assumption)]
theorem lp_rp2 {d : Nat} {s : am_Z} {q0 : am_A} {Q : Option am_V → am_Z → Prop} {t n0 nb : Int} (ht : 0 ≤ t ∧ t ≤ 3) (hnb : 0 ≤ nb ∧ nb ≤ 40) : ∀ (m : Nat) (j : Nat) (b n : Int) (s1 : am_Z) (x4 x5 : Option am_V), nb.toNat - j < m → (b = j ∧ (j : Int) ≤ nb ∧ rI s1 44 = nb ∧ (s1, n) = rpr2 t j (s, n0)) → (∀ n1 s2 x3 x4 x5, (s2, n1) = rpr2 t nb.toNat (s, n0) → rI s2 44 = nb → am_WR (d + 7) m_M_repair 114 [some (aR 9 0), some (aI (zI n1)), some (aI (zI t)), x3, x4, x5] [] q0 (s2) Q) → am_WR (d + 7) m_M_repair 15 [some (aR 9 0), some (aI (zI n)), some (aI (zI t)), some (aI (zI b)), x4, x5] [] q0 (s1) Q := by
  intro m
  induction m with
  | zero => intro j b n s1 x4 x5 hm; exact absurd hm (Nat.not_lt_zero _)
  | succ m ih =>
    intro j b n s1 x4 x5 hm ⟨hj, hj2, hI, hX⟩ K
    subst hj
    refine rr_inS (fun B => ?_)
    refine rr_iload_n rfl rfl ?_
    refine rr_aload_n rfl rfl ?_
    refine rr_gfI 44 rfl rfl (by omega) rfl (fun b17 => ?_)
    refine rr_icmp_ge rfl rfl (by omega) (by omega) (fun h20 => ?_) (fun h20 => ?_)
    · exact K n s1 _ _ _ (by rw [show nb.toNat = j by omega]; exact hX) hI
    · refine rr_join (pc' := 52) (V := if rA s1 47 (j : Int) = 1 ∧ tierS s1 (rA s1 46 (j : Int)) = t then 1 else 0) ?_ (fun K52 => ?_)
      · refine rr_stI4 rfl ?_
        refine rr_iconst rfl ?_
        refine rr_stI5 rfl ?_
        refine lp_rp3 (d := d) (s := s) (b := (j : Int)) (g := if rA s1 47 (j : Int) = 1 ∧ tierS s1 (rA s1 46 (j : Int)) = t then 1 else 0) (by omega) (by split <;> omega) 12 0 n s1 (by omega) (by omega) (fun n1 s2 x5 h3 => ?_)
        refine rr_inc3 rfl ?_
        refine rr_goto rfl rfl ?_
        rw [ite_n] at h3
        have h4 : (s2, n1) = rprB t (j : Int) (s1, n) := h3
        refine ih (j + 1) _ _ _ _ _ (by omega) ⟨by omega, by omega, ?_, by rw [rpr2, ← hX]; exact h4⟩ K
        have e := congrArg (fun X : am_X => rI X.1 44) h4
        exact e.trans ((rprB_I (j := 44) (by omega) (by omega)).trans hI)
      · refine rr_aload_n rfl rfl ?_
        refine rr_gfA 47 rfl rfl (by omega) rfl ?_
        refine rr_iload_n rfl rfl ?_
        refine rr_ia 47 40 rfl rfl rfl rfl (by omega) (by omega) (fun b28 => ?_)
        refine rr_iconst rfl ?_
        refine rr_icmp_ne rfl rfl (by omega) (by omega) (fun h30 => ?_) (fun h30 => ?_)
        · refine rr_iconst rfl ?_
          exact K52 _ (by first | omega | (simp_all) | (split <;> omega))
        · refine rr_aload_n rfl rfl ?_
          refine rr_aload_n rfl rfl ?_
          refine rr_gfA 46 rfl rfl (by omega) rfl ?_
          refine rr_iload_n rfl rfl ?_
          refine rr_ia 46 40 rfl rfl rfl rfl (by omega) (by omega) (fun b39 => ?_)
          refine rr_cv1P rfl rfl rfl (Nat.le_of_ble_eq_true rfl) (sr_tier (d := 0) (by omega)) (by omega) (fun b40 => ?_)
          refine rr_iload_n rfl rfl ?_
          refine rr_icmp_ne rfl rfl (by omega) (by omega) (fun h44 => ?_) (fun h44 => ?_)
          · refine rr_iconst rfl ?_
            exact K52 _ (by first | omega | (simp_all) | (split <;> omega))
          · refine rr_iconst rfl ?_
            refine rr_goto rfl rfl ?_
            exact K52 _ (by first | omega | (simp_all) | (split <;> omega))
theorem lp_rp1 {d : Nat} {s : am_Z} {q0 : am_A} {Q : Option am_V → am_Z → Prop} {nb : Int} (hnb : 0 ≤ nb ∧ nb ≤ 40) : ∀ (m : Nat) (i : Nat) (t n : Int) (s1 : am_Z) (x3 x4 x5 : Option am_V), 4 - i < m → (t = 3 - i ∧ i ≤ 4 ∧ rI s1 44 = nb ∧ (s1, n) = rpr1 nb.toNat i (s, 0)) → (∀ n1 s2 x2 x3 x4 x5, (s2, n1) = rpr1 nb.toNat 4 (s, 0) → am_WR (d + 7) m_M_repair 120 [some (aR 9 0), some (aI (zI n1)), x2, x3, x4, x5] [] q0 (s2) Q) → am_WR (d + 7) m_M_repair 9 [some (aR 9 0), some (aI (zI n)), some (aI (zI t)), x3, x4, x5] [] q0 (s1) Q := by
  intro m
  induction m with
  | zero => intro i t n s1 x3 x4 x5 hm; exact absurd hm (Nat.not_lt_zero _)
  | succ m ih =>
    intro i t n s1 x3 x4 x5 hm ⟨ht, hi, hI, hX⟩ K
    subst ht
    refine rr_iload_n rfl rfl ?_
    refine rr_if_lt rfl rfl (by omega) (fun h10 => ?_) (fun h10 => ?_)
    · exact K n s1 _ _ _ _ (by rw [show 4 = i by omega]; exact hX)
    · refine rr_iconst rfl ?_
      refine rr_stI3 rfl ?_
      refine lp_rp2 (d := d) (s := s1) (t := 3 - (i : Int)) (n0 := n) (by omega) hnb (nb.toNat + 1) 0 0 n s1 _ _ (by omega) ⟨rfl, by omega, hI, rfl⟩ (fun n1 s2 x3 x4 x5 hX2 hI2 => ?_)
      refine rr_inc2 rfl ?_
      refine rr_goto rfl rfl ?_
      exact ih (i + 1) _ n1 s2 _ _ _ (by omega) ⟨by omega, by omega, hI2, by rw [rpr1, ← hX]; exact hX2⟩ K
theorem sr_repair {d : Nat} {s : am_Z}   : am_CR (d + 7) m_M_repair [aR 9 0] s (isP ((rpr1 (rI s 44).toNat 4 (wI s 74 0, 0)).1) ((rpr1 (rI s 44).toNat 4 (wI s 74 0, 0)).2) (True)) := by
  refine am_CR_i (ls := [some (aR 9 0), none, none, none, none, none]) rfl (fun q0 => ?_)
  refine rr_inS (fun B => ?_)
  have b44 := B.2.1 44 0 40 rfl
  refine rr_aload_n rfl rfl ?_
  refine rr_iconst rfl ?_
  refine rr_pfI 74 rfl rfl rfl rfl (by omega) rfl (by omega) ?_
  refine rr_iconst rfl ?_
  refine rr_stI1 rfl ?_
  refine rr_iconst rfl ?_
  refine rr_stI2 rfl ?_
  refine lp_rp1 (d := d) (s := wI s 74 0) (nb := rI s 44) b44 5 0 3 0 _ _ _ _ (by omega) ⟨by omega, by omega, rfl, rfl⟩ (fun n1 s2 x2 x3 x4 x5 hX => ?_)
  refine rr_iload_n rfl rfl ?_
  refine rr_iret rfl (Or.inl rfl) ?_
  exact rr_eP' (congrArg Prod.snd hX) (congrArg Prod.fst hX) trivial
end

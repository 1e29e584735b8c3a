noncomputable section
theorem lp_canGo {d : Nat} {s : am_Z} {q0 : am_A} {Q : Option am_V → am_Z → Prop} {l b w g0 : Int} (hl : in32 l) (hb : 0 ≤ b ∧ b < 40) (hg0 : 0 ≤ g0 ∧ g0 ≤ 1) : ∀ (m : Nat) (j : Nat) (k g : Int), (rA s 52 b).toNat - j < m → (k = 10 * b + j ∧ (j : Int) ≤ rA s 52 b ∧ g = andN g0 (fCan s l b) j) → (∀ x5, am_WR d m_M_canGo 97 [some (aR 9 0), some (aI (zI l)), some (aI (zI b)), some (aI (zI w)), some (aI (zI (andN g0 (fCan s l b) (rA s 52 b).toNat))), x5] [] q0 (s) Q) → am_WR d m_M_canGo 41 [some (aR 9 0), some (aI (zI l)), some (aI (zI b)), some (aI (zI w)), some (aI (zI g)), some (aI (zI k))] [] q0 (s) Q := by
  intro m
  induction m with
  | zero => intro j k g hm; exact absurd hm (Nat.not_lt_zero _)
  | succ m ih =>
    intro j k g hm ⟨hj, hj2, hg⟩ K
    subst hj
    subst hg
    have bg := andN_b hg0 (fCan s l b) j
    refine rr_iload rfl rfl ?_
    refine rr_bipush (x := 10) rfl rfl ?_
    refine rr_iload_n rfl rfl ?_
    refine rr_imul rfl ?_
    refine rr_aload_n rfl rfl ?_
    refine rr_gfA 52 rfl rfl (by omega) rfl ?_
    refine rr_iload_n rfl rfl ?_
    refine rr_ia 52 40 rfl rfl rfl rfl (by omega) (by omega) (fun b52 => ?_)
    refine rr_iadd rfl ?_
    refine rr_icmp_ge rfl rfl (by omega) (by omega) (fun h54 => ?_) (fun h54 => ?_)
    · rw [show j = (rA s 52 b).toNat by omega]
      exact K _
    · refine rr_join (pc' := 89) (V := (if andN g0 (fCan s l b) j ≠ 0 ∧ (rA s 53 (10 * b + (j : Int)) ≠ l ∨ 4 ≤ rA s 55 (10 * b + (j : Int))) then 1 else 0)) ?_ (fun K89 => ?_)
      · refine rr_stI4 rfl ?_
        refine rr_inc5 rfl ?_
        refine rr_goto rfl rfl ?_
        exact ih (j + 1) _ _ (by omega) ⟨by omega, by omega, by simp only [andN, fCan]; omega⟩ K
      · refine rr_iload rfl rfl ?_
        refine rr_if_eq rfl rfl (by omega) (fun h59 => ?_) (fun h59 => ?_)
        · refine rr_iconst rfl ?_
          exact K89 _ (by first | omega | (simp_all) | (split <;> omega))
        · refine rr_aload_n rfl rfl ?_
          refine rr_gfA 53 rfl rfl (by omega) rfl ?_
          refine rr_iload rfl rfl ?_
          refine rr_iaL 53 400 (s) (fun _ => rfl) rfl rfl rfl rfl rfl (by omega) (by omega) (fun b68 => ?_)
          refine rr_iload_n rfl rfl ?_
          refine rr_icmp_ne rfl rfl (by omega) (by omega) (fun h70 => ?_) (fun h70 => ?_)
          · refine rr_iconst rfl ?_
            refine rr_goto rfl rfl ?_
            exact K89 _ (by first | omega | (simp_all) | (split <;> omega))
          · refine rr_aload_n rfl rfl ?_
            refine rr_gfA 55 rfl rfl (by omega) rfl ?_
            refine rr_iload rfl rfl ?_
            refine rr_ia 55 400 rfl rfl rfl rfl (by omega) (by omega) (fun b79 => ?_)
            refine rr_iconst rfl ?_
            refine rr_icmp_lt rfl rfl (by omega) (by omega) (fun h81 => ?_) (fun h81 => ?_)
            · refine rr_iconst rfl ?_
              exact K89 _ (by first | omega | (simp_all) | (split <;> omega))
            · refine rr_iconst rfl ?_
              refine rr_goto rfl rfl ?_
              exact K89 _ (by first | omega | (simp_all) | (split <;> omega))
theorem sr_canGo {d : Nat} {s : am_Z} {l b w : Int}  (hl : legR l) (hb : 0 ≤ b ∧ b < 40) (hw : in32 w) : am_CR (d + 4) m_M_canGo [aR 9 0, aI (zI l), aI (zI b), aI (zI w)] s (isB (s) (canGo s l b w ≠ 0)) := by
  refine am_CR_i (ls := [some (aR 9 0), some (aI (zI l)), some (aI (zI b)), some (aI (zI w)), none, none]) rfl (fun q0 => ?_)
  refine rr_inS (fun B => ?_)
  have b52 := B.1 52 b 0 10 rfl
  have bg := andN_b (g := if l ≠ w ∧ freeP s l ∧ rA s 45 b ≤ openS s l 0 then 1 else 0) (by split <;> omega) (fCan s l b) (rA s 52 b).toNat
  refine rr_join (pc' := 33) (V := if l ≠ w ∧ freeP s l ∧ rA s 45 b ≤ openS s l 0 then 1 else 0) ?_ (fun K33 => ?_)
  · refine rr_stI4 rfl ?_
    refine rr_bipush (x := 10) rfl rfl ?_
    refine rr_iload_n rfl rfl ?_
    refine rr_imul rfl ?_
    refine rr_stI5 rfl ?_
    refine lp_canGo (d := d + 4) (s := s) (g0 := if l ≠ w ∧ freeP s l ∧ rA s 45 b ≤ openS s l 0 then 1 else 0) (by omega) hb (by split <;> omega) ((rA s 52 b).toNat + 1) 0 (10 * b) _ (by omega) ⟨by omega, by omega, rfl⟩ (fun x5 => ?_)
    refine rr_iload rfl rfl ?_
    refine rr_iret rfl (Or.inr ⟨rfl, by omega⟩) ?_
    exact rr_eB (by unfold canGo; omega)
  · refine rr_iload_n rfl rfl ?_
    refine rr_iload_n rfl rfl ?_
    refine rr_icmp_eq rfl rfl (by omega) (by omega) (fun h2 => ?_) (fun h2 => ?_)
    · refine rr_iconst rfl ?_
      exact K33 _ (by first | omega | (simp_all) | (split <;> omega))
    · refine rr_aload_n rfl rfl ?_
      refine rr_iload_n rfl rfl ?_
      refine rr_cv1B rfl rfl rfl (Nat.le_of_ble_eq_true rfl) (sr_isFree (d := 0) (by omega)) (by omega) ?_
      refine rr_if_eqB rfl rfl (fun h10 => ?_) (fun h10 => ?_)
      · refine rr_iconst rfl ?_
        exact K33 _ (by first | omega | (simp_all) | (split <;> omega))
      · refine rr_aload_n rfl rfl ?_
        refine rr_iload_n rfl rfl ?_
        refine rr_iconst rfl ?_
        refine rr_cv2P rfl rfl rfl (Nat.le_of_ble_eq_true rfl) (sr_openIn (d := 0) (by omega) (by omega)) (by omega) (fun b16 => ?_)
        refine rr_aload_n rfl rfl ?_
        refine rr_gfA 45 rfl rfl (by omega) rfl ?_
        refine rr_iload_n rfl rfl ?_
        refine rr_ia 45 40 rfl rfl rfl rfl (by omega) (by omega) (fun b24 => ?_)
        refine rr_icmp_lt rfl rfl (by omega) (by omega) (fun h25 => ?_) (fun h25 => ?_)
        · refine rr_iconst rfl ?_
          exact K33 _ (by first | omega | (simp_all) | (split <;> omega))
        · refine rr_iconst rfl ?_
          refine rr_goto rfl rfl ?_
          exact K33 _ (by first | omega | (simp_all) | (split <;> omega))
theorem lp_nb {d : Nat} {s : am_Z} {q0 : am_A} {Q : Option am_V → am_Z → Prop} {b c t : Int} (hb : 0 ≤ b ∧ b < 40) (ht : t = 1 ∨ t = -1) : ∀ (m : Nat) (k : Int), (if t = 1 then 11 - k else k + 2).toNat < m → (-1 ≤ k ∧ k ≤ 10) → (∀ k1 : Int, (-1 ≤ k1 ∧ k1 ≤ 10) → (if 0 ≤ k1 ∧ k1 < rA s 52 b then k1 else -1) = nbR s b t m k → am_WR (d + 1) m_M_neighbour 47 [some (aR 9 0), some (aI (zI b)), some (aI (zI c)), some (aI (zI t)), some (aI (zI k1))] [] q0 (s) Q) → am_WR (d + 1) m_M_neighbour 5 [some (aR 9 0), some (aI (zI b)), some (aI (zI c)), some (aI (zI t)), some (aI (zI k))] [] q0 (s) Q := by
  intro m
  induction m with
  | zero => intro k hm; exact absurd hm (Nat.not_lt_zero _)
  | succ m ih =>
    intro k hm hk K
    refine rr_inS (fun B => ?_)
    have b52 := B.1 52 b 0 10 rfl
    refine rr_iload rfl rfl ?_
    refine rr_iconst rfl ?_
    refine rr_aload_n rfl rfl ?_
    refine rr_gfA 52 rfl rfl (by omega) rfl ?_
    refine rr_iload_n rfl rfl ?_
    refine rr_ia 52 40 rfl rfl rfl rfl (by omega) (by omega) (fun b13 => ?_)
    refine rr_iconst rfl ?_
    refine rr_isub rfl ?_
    refine rr_cs3B rfl rfl (Nat.le_of_ble_eq_true rfl) (sr_isIn (d := 0) (by omega) (by omega) (by omega)) (by omega) ?_
    refine rr_if_eqB rfl rfl (fun h19 => ?_) (fun h19 => ?_)
    · exact K k hk (by rw [nbR]; first | (rw [if_neg (by omega), if_neg (by omega)]) | (rw [if_pos (by omega), if_pos (by omega), if_neg (by omega)]))
    · refine rr_aload_n rfl rfl ?_
      refine rr_gfA 55 rfl rfl (by omega) rfl ?_
      refine rr_bipush (x := 10) rfl rfl ?_
      refine rr_iload_n rfl rfl ?_
      refine rr_imul rfl ?_
      refine rr_iload rfl rfl ?_
      refine rr_iadd rfl ?_
      refine rr_ia 55 400 rfl rfl rfl rfl (by omega) (by omega) (fun b33 => ?_)
      refine rr_iconst rfl ?_
      refine rr_icmp_lt rfl rfl (by omega) (by omega) (fun h35 => ?_) (fun h35 => ?_)
      · exact K k hk (by rw [nbR]; first | (rw [if_neg (by omega), if_neg (by omega)]) | (rw [if_pos (by omega), if_pos (by omega), if_neg (by omega)]))
      · refine rr_iload rfl rfl ?_
        refine rr_iload_n rfl rfl ?_
        refine rr_iadd rfl ?_
        refine rr_stI4 rfl ?_
        refine rr_goto rfl rfl ?_
        exact ih (k + t) (by omega) (by omega) (fun k1 h1 h2 => K k1 h1 (by rw [h2, nbR, if_pos (by omega), if_pos (by omega)]))
theorem sr_neighbour {d : Nat} {s : am_Z} {b c t : Int}  (hb : 0 ≤ b ∧ b < 40) (hc : 0 ≤ c ∧ c ≤ 9) (ht : t = 1 ∨ t = -1) : am_CR (d + 1) m_M_neighbour [aR 9 0, aI (zI b), aI (zI c), aI (zI t)] s (isP (s) (nbS s b c t) (-1 ≤ nbS s b c t ∧ nbS s b c t < rA s 52 b ∧ nbS s b c t ≤ 9)) := by
  refine am_CR_i (ls := [some (aR 9 0), some (aI (zI b)), some (aI (zI c)), some (aI (zI t)), none]) rfl (fun q0 => ?_)
  refine rr_inS (fun B => ?_)
  have b52 := B.1 52 b 0 10 rfl
  have bn := nbR_b s b t 12 (c + t)
  have en : nbS s b c t = nbR s b t 12 (c + t) := rfl
  refine rr_iload_n rfl rfl ?_
  refine rr_iload_n rfl rfl ?_
  refine rr_iadd rfl ?_
  refine rr_stI4 rfl ?_
  refine lp_nb (d := d) (s := s) (c := c) hb ht 12 (c + t) (by omega) (by omega) (fun k1 h1 h2 => ?_)
  refine rr_iload rfl rfl ?_
  refine rr_iconst rfl ?_
  refine rr_aload_n rfl rfl ?_
  refine rr_gfA 52 rfl rfl (by omega) rfl ?_
  refine rr_iload_n rfl rfl ?_
  refine rr_ia 52 40 rfl rfl rfl rfl (by omega) (by omega) (fun b55 => ?_)
  refine rr_iconst rfl ?_
  refine rr_isub rfl ?_
  refine rr_cs3B rfl rfl (Nat.le_of_ble_eq_true rfl) (sr_isIn (d := 0) (by omega) (by omega) (by omega)) (by omega) ?_
  refine rr_if_eqB rfl rfl (fun h61 => ?_) (fun h61 => ?_)
  · refine rr_iconst rfl ?_
    refine rr_iret rfl (Or.inl rfl) ?_
    exact rr_eP (by omega) (by omega)
  · refine rr_iload rfl rfl ?_
    refine rr_goto rfl rfl ?_
    refine rr_iret rfl (Or.inl rfl) ?_
    exact rr_eP (by omega) (by omega)
theorem sr_isBetter {d : Nat} {s : am_Z} {w t a b : Int}  (hw : in32 w) (ht : in32 t) (ha : in32 a) (hb : in32 b) : am_CR d m_M_isBetter [aR 9 0, aI (zI w), aI (zI t), aI (zI a), aI (zI b)] s (isB (s) (betP s w t a b)) := by
  refine am_CR_i (ls := [some (aR 9 0), some (aI (zI w)), some (aI (zI t)), some (aI (zI a)), some (aI (zI b)), none, none]) rfl (fun q0 => ?_)
  refine rr_aload_n rfl rfl ?_
  refine rr_gfI 72 rfl rfl (by omega) rfl (fun b1 => ?_)
  refine rr_iconst rfl ?_
  refine rr_icmp_eq rfl rfl (by omega) (by omega) (fun h5 => ?_) (fun h5 => ?_)
  · refine rr_aload_n rfl rfl ?_
    refine rr_gfI 72 rfl rfl (by omega) rfl (fun b14 => ?_)
    refine rr_iconst rfl ?_
    refine rr_icmp_eq rfl rfl (by omega) (by omega) (fun h18 => ?_) (fun h18 => ?_)
    · refine rr_iconst rfl ?_
      refine rr_goto rfl rfl ?_
      refine rr_iret rfl (Or.inr ⟨rfl, by first | omega | (split <;> omega)⟩) ?_
      exact rr_eB (by first | omega | (split <;> first | omega | simp_all) | simp_all)
    · refine rr_iload_n rfl rfl ?_
      refine rr_iload_n rfl rfl ?_
      refine rr_icmp_ge rfl rfl (by omega) (by omega) (fun h23 => ?_) (fun h23 => ?_)
      · refine rr_iconst rfl ?_
        refine rr_iret rfl (Or.inr ⟨rfl, by first | omega | (split <;> omega)⟩) ?_
        exact rr_eB (by first | omega | (split <;> first | omega | simp_all) | simp_all)
      · refine rr_iconst rfl ?_
        refine rr_goto rfl rfl ?_
        refine rr_iret rfl (Or.inr ⟨rfl, by first | omega | (split <;> omega)⟩) ?_
        exact rr_eB (by first | omega | (split <;> first | omega | simp_all) | simp_all)
  · refine rr_iload_n rfl rfl ?_
    refine rr_iload_n rfl rfl ?_
    refine rr_icmp_eq rfl rfl (by omega) (by omega) (fun h10 => ?_) (fun h10 => ?_)
    · refine rr_join (pc' := 43) (V := if b = -1 then 1 else 0) ?_ (fun K43 => ?_)
      · refine rr_stI5 rfl ?_
        refine rr_join (pc' := 58) (V := if rI s 73 = -1 then 1 else 0) ?_ (fun K58 => ?_)
        · refine rr_stI6 rfl ?_
          refine rr_iload rfl rfl ?_
          refine rr_iload rfl rfl ?_
          refine rr_icmp_eq rfl rfl (by omega) (by omega) (fun h64 => ?_) (fun h64 => ?_)
          · refine rr_iload_n rfl rfl ?_
            refine rr_aload_n rfl rfl ?_
            refine rr_gfI 72 rfl rfl (by omega) rfl (fun b72 => ?_)
            refine rr_icmp_eq rfl rfl (by omega) (by omega) (fun h75 => ?_) (fun h75 => ?_)
            · refine rr_iload rfl rfl ?_
              refine rr_aload_n rfl rfl ?_
              refine rr_gfI 73 rfl rfl (by omega) rfl (fun b97 => ?_)
              refine rr_icmp_ge rfl rfl (by omega) (by omega) (fun h100 => ?_) (fun h100 => ?_)
              · refine rr_iconst rfl ?_
                refine rr_iret rfl (Or.inr ⟨rfl, by first | omega | (split <;> omega)⟩) ?_
                exact rr_eB (by first | omega | (split <;> first | omega | simp_all) | simp_all)
              · refine rr_iconst rfl ?_
                refine rr_goto rfl rfl ?_
                refine rr_iret rfl (Or.inr ⟨rfl, by first | omega | (split <;> omega)⟩) ?_
                exact rr_eB (by first | omega | (split <;> first | omega | simp_all) | simp_all)
            · refine rr_iload_n rfl rfl ?_
              refine rr_aload_n rfl rfl ?_
              refine rr_gfI 72 rfl rfl (by omega) rfl (fun b80 => ?_)
              refine rr_icmp_ge rfl rfl (by omega) (by omega) (fun h83 => ?_) (fun h83 => ?_)
              · refine rr_iconst rfl ?_
                refine rr_goto rfl rfl ?_
                refine rr_iret rfl (Or.inr ⟨rfl, by first | omega | (split <;> omega)⟩) ?_
                exact rr_eB (by first | omega | (split <;> first | omega | simp_all) | simp_all)
              · refine rr_iconst rfl ?_
                refine rr_goto rfl rfl ?_
                refine rr_iret rfl (Or.inr ⟨rfl, by first | omega | (split <;> omega)⟩) ?_
                exact rr_eB (by first | omega | (split <;> first | omega | simp_all) | simp_all)
          · refine rr_iload rfl rfl ?_
            refine rr_iret rfl (Or.inr ⟨rfl, by first | omega | (split <;> omega)⟩) ?_
            exact rr_eB (by first | omega | (split <;> first | omega | simp_all) | simp_all)
        · refine rr_aload_n rfl rfl ?_
          refine rr_gfI 73 rfl rfl (by omega) rfl (fun b46 => ?_)
          refine rr_iconst rfl ?_
          refine rr_icmp_ne rfl rfl (by omega) (by omega) (fun h50 => ?_) (fun h50 => ?_)
          · refine rr_iconst rfl ?_
            exact K58 _ (by first | omega | (simp_all) | (split <;> omega))
          · refine rr_iconst rfl ?_
            refine rr_goto rfl rfl ?_
            exact K58 _ (by first | omega | (simp_all) | (split <;> omega))
      · refine rr_iload rfl rfl ?_
        refine rr_iconst rfl ?_
        refine rr_icmp_ne rfl rfl (by omega) (by omega) (fun h35 => ?_) (fun h35 => ?_)
        · refine rr_iconst rfl ?_
          exact K43 _ (by first | omega | (simp_all) | (split <;> omega))
        · refine rr_iconst rfl ?_
          refine rr_goto rfl rfl ?_
          exact K43 _ (by first | omega | (simp_all) | (split <;> omega))
    · refine rr_aload_n rfl rfl ?_
      refine rr_gfI 72 rfl rfl (by omega) rfl (fun b14 => ?_)
      refine rr_iconst rfl ?_
      refine rr_icmp_eq rfl rfl (by omega) (by omega) (fun h18 => ?_) (fun h18 => ?_)
      · refine rr_iconst rfl ?_
        refine rr_goto rfl rfl ?_
        refine rr_iret rfl (Or.inr ⟨rfl, by first | omega | (split <;> omega)⟩) ?_
        exact rr_eB (by first | omega | (split <;> first | omega | simp_all) | simp_all)
      · refine rr_iload_n rfl rfl ?_
        refine rr_iload_n rfl rfl ?_
        refine rr_icmp_ge rfl rfl (by omega) (by omega) (fun h23 => ?_) (fun h23 => ?_)
        · refine rr_iconst rfl ?_
          refine rr_iret rfl (Or.inr ⟨rfl, by first | omega | (split <;> omega)⟩) ?_
          exact rr_eB (by first | omega | (split <;> first | omega | simp_all) | simp_all)
        · refine rr_iconst rfl ?_
          refine rr_goto rfl rfl ?_
          refine rr_iret rfl (Or.inr ⟨rfl, by first | omega | (split <;> omega)⟩) ?_
          exact rr_eB (by first | omega | (split <;> first | omega | simp_all) | simp_all)
theorem sr_isBroken {d : Nat} {s : am_Z} {b c : Int}  (hb : 0 ≤ b ∧ b < 40) (hc : 0 ≤ c ∧ c ≤ 9) : am_CR (d + 3) m_M_isBroken [aR 9 0, aI (zI b), aI (zI c)] s (isB (s) (brkP s b c)) := by
  refine am_CR_i (ls := [some (aR 9 0), some (aI (zI b)), some (aI (zI c)), none, none, none, none]) rfl (fun q0 => ?_)
  refine rr_bipush (x := 10) rfl rfl ?_
  refine rr_iload_n rfl rfl ?_
  refine rr_imul rfl ?_
  refine rr_iload_n rfl rfl ?_
  refine rr_iadd rfl ?_
  refine rr_stI3 rfl ?_
  refine rr_aload_n rfl rfl ?_
  refine rr_gfA 53 rfl rfl (by omega) rfl ?_
  refine rr_iload_n rfl rfl ?_
  refine rr_iaL 53 400 (s) (fun _ => rfl) rfl rfl rfl rfl rfl (by omega) (by omega) (fun b12 => ?_)
  refine rr_stI4 rfl ?_
  refine rr_aload_n rfl rfl ?_
  refine rr_iload_n rfl rfl ?_
  refine rr_iload_n rfl rfl ?_
  refine rr_iconst rfl ?_
  refine rr_cv3P rfl rfl rfl (Nat.le_of_ble_eq_true rfl) (sr_neighbour (d := 0) (by omega) (by omega) (by omega)) (by omega) (fun b19 => ?_)
  refine rr_stI5 rfl ?_
  refine rr_join (pc' := 62) (V := if lateP s b c then 1 else 0) ?_ (fun K62 => ?_)
  · refine rr_stI6 rfl ?_
    refine rr_aload_n rfl rfl ?_
    refine rr_gfA 55 rfl rfl (by omega) rfl ?_
    refine rr_iload_n rfl rfl ?_
    refine rr_ia 55 400 rfl rfl rfl rfl (by omega) (by omega) (fun b69 => ?_)
    refine rr_iconst rfl ?_
    refine rr_icmp_gt rfl rfl (by omega) (by omega) (fun h71 => ?_) (fun h71 => ?_)
    · refine rr_iconst rfl ?_
      refine rr_iret rfl (Or.inr ⟨rfl, by first | omega | (split <;> omega)⟩) ?_
      exact rr_eB (by first | omega | (split <;> first | omega | simp_all) | simp_all)
    · refine rr_aload_n rfl rfl ?_
      refine rr_gfA 18 rfl rfl (by omega) rfl ?_
      refine rr_iload rfl rfl ?_
      refine rr_cs1P rfl rfl (Nat.le_of_ble_eq_true rfl) (sr_at (d := 0) (by omega)) (by omega) (fun b80 => ?_)
      refine rr_ba 18 732 rfl rfl rfl rfl (by omega) (by omega) (fun b83 => ?_)
      refine rr_if_ne rfl rfl (by omega) (fun h84 => ?_) (fun h84 => ?_)
      · refine rr_iconst rfl ?_
        refine rr_goto rfl rfl ?_
        refine rr_iret rfl (Or.inr ⟨rfl, by first | omega | (split <;> omega)⟩) ?_
        exact rr_eB (by first | omega | (split <;> first | omega | simp_all) | simp_all)
      · refine rr_iload rfl rfl ?_
        refine rr_if_eqB rfl rfl (fun h89 => ?_) (fun h89 => ?_)
        · refine rr_iconst rfl ?_
          refine rr_iret rfl (Or.inr ⟨rfl, by first | omega | (split <;> omega)⟩) ?_
          exact rr_eB (by first | omega | (split <;> first | omega | simp_all) | simp_all)
        · refine rr_iconst rfl ?_
          refine rr_goto rfl rfl ?_
          refine rr_iret rfl (Or.inr ⟨rfl, by first | omega | (split <;> omega)⟩) ?_
          exact rr_eB (by first | omega | (split <;> first | omega | simp_all) | simp_all)
  · refine rr_iload rfl rfl ?_
    refine rr_iconst rfl ?_
    refine rr_icmp_eq rfl rfl (by omega) (by omega) (fun h27 => ?_) (fun h27 => ?_)
    · refine rr_iconst rfl ?_
      exact K62 _ (by first | omega | (simp_all) | (split <;> omega))
    · refine rr_aload_n rfl rfl ?_
      refine rr_iload rfl rfl ?_
      refine rr_cv1P rfl rfl rfl (Nat.le_of_ble_eq_true rfl) (sr_departs (d := 0) (by omega)) (by omega) (fun b33 => ?_)
      refine rr_aload_n rfl rfl ?_
      refine rr_aload_n rfl rfl ?_
      refine rr_gfA 53 rfl rfl (by omega) rfl ?_
      refine rr_bipush (x := 10) rfl rfl ?_
      refine rr_iload_n rfl rfl ?_
      refine rr_imul rfl ?_
      refine rr_iload rfl rfl ?_
      refine rr_iadd rfl ?_
      refine rr_iaL 53 400 (s) (fun _ => rfl) rfl rfl rfl rfl rfl (by omega) (by omega) (fun b48 => ?_)
      refine rr_cv1P rfl rfl rfl (Nat.le_of_ble_eq_true rfl) (sr_arrives (d := 0) (by omega)) (by omega) (fun b49 => ?_)
      refine rr_iconst rfl ?_
      refine rr_iadd rfl ?_
      refine rr_icmp_ge rfl rfl (by omega) (by omega) (fun h54 => ?_) (fun h54 => ?_)
      · refine rr_iconst rfl ?_
        exact K62 _ (by first | omega | (simp_all) | (split <;> omega))
      · refine rr_iconst rfl ?_
        refine rr_goto rfl rfl ?_
        exact K62 _ (by first | omega | (simp_all) | (split <;> omega))
theorem lp_cf {d : Nat} {s : am_Z} {q0 : am_A} {Q : Option am_V → am_Z → Prop} {b l : Int} (hb : 0 ≤ b ∧ b < 40) (hl : in32 l) : ∀ (m : Nat) (j : Nat) (k c : Int) (x5 : Option am_V), (rA s 52 b).toNat - j < m → (k = j ∧ (j : Int) ≤ rA s 52 b ∧ c = (if rA s 47 b = 1 then cfN s b l j else -1)) → (∀ v x4 x5, v = cfS s b l → am_WR d m_M_checkedFor 83 [some (aR 9 0), some (aI (zI b)), some (aI (zI l)), some (aI (zI v)), x4, x5] [] q0 (s) Q) → am_WR d m_M_checkedFor 5 [some (aR 9 0), some (aI (zI b)), some (aI (zI l)), some (aI (zI c)), some (aI (zI k)), x5] [] q0 (s) Q := by
  intro m
  induction m with
  | zero => intro j k c x5 hm; exact absurd hm (Nat.not_lt_zero _)
  | succ m ih =>
    intro j k c x5 hm ⟨hj, hj2, hc⟩ K
    subst hj
    subst hc
    have bc := cfN_b s b l j
    refine rr_iload rfl rfl ?_
    refine rr_aload_n rfl rfl ?_
    refine rr_gfA 52 rfl rfl (by omega) rfl ?_
    refine rr_iload_n rfl rfl ?_
    refine rr_ia 52 40 rfl rfl rfl rfl (by omega) (by omega) (fun b12 => ?_)
    refine rr_icmp_ge rfl rfl (by omega) (by omega) (fun h13 => ?_) (fun h13 => ?_)
    · exact K _ _ _ (by unfold cfS; first | (rw [show (rA s 52 b).toNat = j by omega]) | (rw [if_neg (by omega), if_neg (by omega)]))
    · refine rr_aload_n rfl rfl ?_
      refine rr_gfA 47 rfl rfl (by omega) rfl ?_
      refine rr_iload_n rfl rfl ?_
      refine rr_ia 47 40 rfl rfl rfl rfl (by omega) (by omega) (fun b21 => ?_)
      refine rr_iconst rfl ?_
      refine rr_icmp_ne rfl rfl (by omega) (by omega) (fun h23 => ?_) (fun h23 => ?_)
      · exact K _ _ _ (by unfold cfS; first | (rw [show (rA s 52 b).toNat = j by omega]) | (rw [if_neg (by omega), if_neg (by omega)]))
      · refine rr_join (pc' := 63) (V := if rA s 53 (10 * b + (j : Int)) = l ∧ rA s 55 (10 * b + (j : Int)) = 1 then 1 else 0) ?_ (fun K63 => ?_)
        · refine rr_stI5 rfl ?_
          refine rr_iload rfl rfl ?_
          refine rr_if_eqB rfl rfl (fun h67 => ?_) (fun h67 => ?_)
          · refine rr_iload_n rfl rfl ?_
            refine rr_stI3 rfl ?_
            refine rr_inc4 rfl ?_
            refine rr_goto rfl rfl ?_
            exact ih (j + 1) _ _ _ (by omega) ⟨by omega, by omega, by simp only [cfN]; omega⟩ K
          · refine rr_iload rfl rfl ?_
            refine rr_goto rfl rfl ?_
            refine rr_stI3 rfl ?_
            refine rr_inc4 rfl ?_
            refine rr_goto rfl rfl ?_
            exact ih (j + 1) _ _ _ (by omega) ⟨by omega, by omega, by simp only [cfN]; omega⟩ K
        · refine rr_aload_n rfl rfl ?_
          refine rr_gfA 53 rfl rfl (by omega) rfl ?_
          refine rr_bipush (x := 10) rfl rfl ?_
          refine rr_iload_n rfl rfl ?_
          refine rr_imul rfl ?_
          refine rr_iload rfl rfl ?_
          refine rr_iadd rfl ?_
          refine rr_iaL 53 400 (s) (fun _ => rfl) rfl rfl rfl rfl rfl (by omega) (by omega) (fun b37 => ?_)
          refine rr_iload_n rfl rfl ?_
          refine rr_icmp_ne rfl rfl (by omega) (by omega) (fun h39 => ?_) (fun h39 => ?_)
          · refine rr_iconst rfl ?_
            exact K63 _ (by first | omega | (simp_all) | (split <;> omega))
          · refine rr_aload_n rfl rfl ?_
            refine rr_gfA 55 rfl rfl (by omega) rfl ?_
            refine rr_bipush (x := 10) rfl rfl ?_
            refine rr_iload_n rfl rfl ?_
            refine rr_imul rfl ?_
            refine rr_iload rfl rfl ?_
            refine rr_iadd rfl ?_
            refine rr_ia 55 400 rfl rfl rfl rfl (by omega) (by omega) (fun b53 => ?_)
            refine rr_iconst rfl ?_
            refine rr_icmp_ne rfl rfl (by omega) (by omega) (fun h55 => ?_) (fun h55 => ?_)
            · refine rr_iconst rfl ?_
              exact K63 _ (by first | omega | (simp_all) | (split <;> omega))
            · refine rr_iconst rfl ?_
              refine rr_goto rfl rfl ?_
              exact K63 _ (by first | omega | (simp_all) | (split <;> omega))
theorem sr_checkedFor {d : Nat} {s : am_Z} {b l : Int}  (hb : 0 ≤ b ∧ b < 40) (hl : in32 l) : am_CR d m_M_checkedFor [aR 9 0, aI (zI b), aI (zI l)] s (isP (s) (cfS s b l) (-1 ≤ cfS s b l ∧ cfS s b l ≤ 9 ∧ cfS s b l < rA s 52 b)) := by
  refine am_CR_i (ls := [some (aR 9 0), some (aI (zI b)), some (aI (zI l)), none, none, none]) rfl (fun q0 => ?_)
  refine rr_inS (fun B => ?_)
  have b52 := B.1 52 b 0 10 rfl
  have bc := cfN_b s b l (rA s 52 b).toNat
  have ec : cfS s b l = if rA s 47 b = 1 then cfN s b l (rA s 52 b).toNat else -1 := rfl
  refine rr_iconst rfl ?_
  refine rr_stI3 rfl ?_
  refine rr_iconst rfl ?_
  refine rr_stI4 rfl ?_
  refine lp_cf (d := d) (s := s) hb hl ((rA s 52 b).toNat + 1) 0 0 _ _ (by omega) ⟨rfl, by omega, by simp [cfN]⟩ (fun v x4 x5 hv => ?_)
  refine rr_iload_n rfl rfl ?_
  refine rr_iret rfl (Or.inl rfl) ?_
  exact rr_eP hv (by omega)
theorem sr_flies {d : Nat} {s : am_Z} {b k l : Int}  (hb : 0 ≤ b ∧ b < 40) (hk : 0 ≤ k ∧ k < 400) (hl : legR l) : am_CR d m_M_flies [aR 9 0, aI (zI b), aI (zI k), aI (zI l)] s (isW (flyS s b k l)) := by
  refine am_CR_i (ls := [some (aR 9 0), some (aI (zI b)), some (aI (zI k)), some (aI (zI l)), none]) rfl (fun q0 => ?_)
  refine rr_iload_n rfl rfl ?_
  refine rr_bipush (x := 100) rfl rfl ?_
  refine rr_idiv rfl (by omega) (by omega) ?_
  refine rr_stI4 rfl ?_
  refine rr_aload_n rfl rfl ?_
  refine rr_gfA 55 rfl rfl (by omega) rfl ?_
  refine rr_iload_n rfl rfl ?_
  refine rr_iconst rfl ?_
  refine rr_ias 55 400 rfl ⟨rfl, by omega⟩ rfl (by omega) (by omega) rfl rfl (by omega) (by omega) ?_
  refine rr_aload_n rfl rfl ?_
  refine rr_gfA 70 rfl rfl (by omega) rfl ?_
  refine rr_iconst rfl ?_
  refine rr_aload_n rfl rfl ?_
  refine rr_gfA 50 rfl rfl (by omega) rfl ?_
  refine rr_iload_n rfl rfl ?_
  refine rr_iav 50 40 (s) (fun _ => rfl) rfl rfl rfl rfl (by omega) (by omega) (fun b23 => ?_)
  refine rr_imul rfl ?_
  refine rr_aload_n rfl rfl ?_
  refine rr_gfA 4 rfl rfl (by omega) rfl ?_
  refine rr_iload rfl rfl ?_
  refine rr_iav 4 12 (s) (fun _ => rfl) rfl rfl rfl rfl (by omega) (by omega) (fun b31 => ?_)
  refine rr_iadd rfl ?_
  refine rr_dup2 rfl rfl rfl ?_
  refine rr_ian 70 9 rfl rfl rfl (by omega) (by omega) ?_
  refine rr_aload_n rfl rfl ?_
  refine rr_gfA 45 rfl rfl (by omega) rfl ?_
  refine rr_iload_n rfl rfl ?_
  refine rr_iav 45 40 (s) (fun _ => rfl) rfl rfl rfl rfl (by omega) (by omega) (fun b40 => ?_)
  refine rr_aload_n rfl rfl ?_
  refine rr_gfA 57 rfl rfl (by omega) rfl ?_
  refine rr_iload_n rfl rfl ?_
  refine rr_iav 57 400 (s) (fun _ => rfl) rfl rfl rfl rfl (by omega) (by omega) (fun b46 => ?_)
  refine rr_imul rfl ?_
  refine rr_iadd rfl ?_
  refine rr_iasn 70 9 rfl ⟨rfl, by omega⟩ rfl (by omega) (by omega) rfl rfl (by omega) ?_
  refine rr_aload_n rfl rfl ?_
  refine rr_gfA 46 rfl rfl (by omega) rfl ?_
  refine rr_iload_n rfl rfl ?_
  refine rr_iav 46 40 (s) (fun _ => rfl) rfl rfl rfl rfl (by omega) (by omega) (fun b55 => ?_)
  refine rr_iconst rfl ?_
  refine rr_icmp_eq rfl rfl (by omega) (by omega) (fun h57 => ?_) (fun h57 => ?_)
  · exact rr_ret rfl rfl ⟨rfl, by unfold flyS; first | (rw [if_pos (by assumption)]; rfl) | (rw [if_neg (by assumption), Int.mul_assoc]; rfl)⟩
  · refine rr_aload_n rfl rfl ?_
    refine rr_gfA 69 rfl rfl (by omega) rfl ?_
    refine rr_aload_n rfl rfl ?_
    refine rr_gfA 46 rfl rfl (by omega) rfl ?_
    refine rr_iload_n rfl rfl ?_
    refine rr_iav 46 40 (s) (fun _ => rfl) rfl rfl rfl rfl (by omega) (by omega) (fun b69 => ?_)
    refine rr_dup2 rfl rfl rfl ?_
    refine rr_ian 69 5 rfl rfl rfl (by omega) (by omega) ?_
    refine rr_bipush (x := 10) rfl rfl ?_
    refine rr_aload_n rfl rfl ?_
    refine rr_gfA 45 rfl rfl (by omega) rfl ?_
    refine rr_iload_n rfl rfl ?_
    refine rr_iav 45 40 (s) (fun _ => rfl) rfl rfl rfl rfl (by omega) (by omega) (fun b79 => ?_)
    refine rr_imul rfl ?_
    refine rr_aload_n rfl rfl ?_
    refine rr_gfA 8 rfl rfl (by omega) rfl ?_
    refine rr_iload rfl rfl ?_
    refine rr_iav 8 12 (s) (fun _ => rfl) rfl rfl rfl rfl (by omega) (by omega) (fun b87 => ?_)
    refine rr_imul rfl ?_
    refine rr_iadd rfl ?_
    refine rr_iasn 69 5 rfl ⟨rfl, by omega⟩ rfl (by omega) (by omega) rfl rfl (by omega) ?_
    exact rr_ret rfl rfl ⟨rfl, by unfold flyS; first | (rw [if_pos (by assumption)]; rfl) | (rw [if_neg (by assumption), Int.mul_assoc]; rfl)⟩
theorem lp_nw {d : Nat} {s : am_Z} {q0 : am_A} {Q : Option am_V → am_Z → Prop}  : ∀ (m : Nat) (j : Nat) (k f : Int) (x3 : Option am_V), (rI s 61).toNat - j < m → (k = j ∧ (j : Int) ≤ rI s 61 ∧ f = nwN s j) → (∀ x2 x3, am_WR (d + 4) m_M_nextWish 79 [some (aR 9 0), some (aI (zI (nwN s (rI s 61).toNat))), x2, x3] [] q0 (s) Q) → am_WR (d + 4) m_M_nextWish 4 [some (aR 9 0), some (aI (zI f)), some (aI (zI k)), x3] [] q0 (s) Q := by
  intro m
  induction m with
  | zero => intro j k f x3 hm; exact absurd hm (Nat.not_lt_zero _)
  | succ m ih =>
    intro j k f x3 hm ⟨hj, hj2, hf⟩ K
    subst hj
    subst hf
    have bf := nwN_b s j
    refine rr_inS (fun B => ?_)
    have b61 := B.2.1 61 0 20 rfl
    refine rr_iload_n rfl rfl ?_
    refine rr_aload_n rfl rfl ?_
    refine rr_gfI 61 rfl rfl (by omega) rfl (fun b6 => ?_)
    refine rr_icmp_ge rfl rfl (by omega) (by omega) (fun h9 => ?_) (fun h9 => ?_)
    · rw [show j = (rI s 61).toNat by omega]
      exact K _ _
    · refine rr_join (pc' := 34) (V := if waitP s (j : Int) ∧ rA s 67 (j : Int) = 0 then 1 else 0) ?_ (fun K34 => ?_)
      · refine rr_stI3 rfl ?_
        refine rr_iload_n rfl rfl ?_
        refine rr_if_eqB rfl rfl (fun h36 => ?_) (fun h36 => ?_)
        · refine rr_iload_n rfl rfl ?_
          refine rr_stI1 rfl ?_
          refine rr_inc2 rfl ?_
          refine rr_goto rfl rfl ?_
          exact ih (j + 1) _ _ _ (by omega) ⟨by omega, by omega, by simp only [nwN]; omega⟩ K
        · refine rr_iload_n rfl rfl ?_
          refine rr_iconst rfl ?_
          refine rr_icmp_eq rfl rfl (by omega) (by omega) (fun h41 => ?_) (fun h41 => ?_)
          · refine rr_iload_n rfl rfl ?_
            refine rr_goto rfl rfl ?_
            refine rr_stI1 rfl ?_
            refine rr_inc2 rfl ?_
            refine rr_goto rfl rfl ?_
            exact ih (j + 1) _ _ _ (by omega) ⟨by omega, by omega, by simp only [nwN]; omega⟩ K
          · refine rr_aload_n rfl rfl ?_
            refine rr_aload_n rfl rfl ?_
            refine rr_gfA 63 rfl rfl (by omega) rfl ?_
            refine rr_iload_n rfl rfl ?_
            refine rr_ia 63 20 rfl rfl rfl rfl (by omega) (by omega) (fun b50 => ?_)
            refine rr_cv1P rfl rfl rfl (Nat.le_of_ble_eq_true rfl) (sr_tier (d := 0) (by omega)) (by omega) (fun b51 => ?_)
            refine rr_aload_n rfl rfl ?_
            refine rr_aload_n rfl rfl ?_
            refine rr_gfA 63 rfl rfl (by omega) rfl ?_
            refine rr_iload_n rfl rfl ?_
            refine rr_ia 63 20 rfl rfl rfl rfl (by omega) (by omega) (fun b60 => ?_)
            refine rr_cv1P rfl rfl rfl (Nat.le_of_ble_eq_true rfl) (sr_tier (d := 0) (by omega)) (by omega) (fun b61 => ?_)
            refine rr_icmp_le rfl rfl (by omega) (by omega) (fun h64 => ?_) (fun h64 => ?_)
            · refine rr_iload_n rfl rfl ?_
              refine rr_stI1 rfl ?_
              refine rr_inc2 rfl ?_
              refine rr_goto rfl rfl ?_
              exact ih (j + 1) _ _ _ (by omega) ⟨by omega, by omega, by simp only [nwN]; omega⟩ K
            · refine rr_iload_n rfl rfl ?_
              refine rr_goto rfl rfl ?_
              refine rr_stI1 rfl ?_
              refine rr_inc2 rfl ?_
              refine rr_goto rfl rfl ?_
              exact ih (j + 1) _ _ _ (by omega) ⟨by omega, by omega, by simp only [nwN]; omega⟩ K
      · refine rr_aload_n rfl rfl ?_
        refine rr_iload_n rfl rfl ?_
        refine rr_cv1B rfl rfl rfl (Nat.le_of_ble_eq_true rfl) (sr_isWaiting (d := 0) (by omega)) (by omega) ?_
        refine rr_if_eqB rfl rfl (fun h17 => ?_) (fun h17 => ?_)
        · refine rr_iconst rfl ?_
          exact K34 _ (by first | omega | (simp_all) | (split <;> omega))
        · refine rr_aload_n rfl rfl ?_
          refine rr_gfA 67 rfl rfl (by omega) rfl ?_
          refine rr_iload_n rfl rfl ?_
          refine rr_ba 67 40 rfl rfl rfl rfl (by omega) (by omega) (fun b25 => ?_)
          refine rr_if_ne rfl rfl (by omega) (fun h26 => ?_) (fun h26 => ?_)
          · refine rr_iconst rfl ?_
            exact K34 _ (by first | omega | (simp_all) | (split <;> omega))
          · refine rr_iconst rfl ?_
            refine rr_goto rfl rfl ?_
            exact K34 _ (by first | omega | (simp_all) | (split <;> omega))
theorem sr_nextWish {d : Nat} {s : am_Z}   : am_CR (d + 4) m_M_nextWish [aR 9 0] s (isP (s) (nwN s (rI s 61).toNat) (-1 ≤ nwN s (rI s 61).toNat ∧ nwN s (rI s 61).toNat < rI s 61)) := by
  refine am_CR_i (ls := [some (aR 9 0), none, none, none]) rfl (fun q0 => ?_)
  refine rr_inS (fun B => ?_)
  have b61 := B.2.1 61 0 20 rfl
  have bf := nwN_b s (rI s 61).toNat
  refine rr_iconst rfl ?_
  refine rr_stI1 rfl ?_
  refine rr_iconst rfl ?_
  refine rr_stI2 rfl ?_
  refine lp_nw (d := d) (s := s) ((rI s 61).toNat + 1) 0 0 _ _ (by omega) ⟨rfl, by omega, rfl⟩ (fun x2 x3 => ?_)
  refine rr_iload_n rfl rfl ?_
  refine rr_iret rfl (Or.inl rfl) ?_
  exact rr_eP rfl (by omega)
theorem lp_nd {d : Nat} {s : am_Z} {q0 : am_A} {Q : Option am_V → am_Z → Prop} {l : Int} (hl : in32 l) : ∀ (m : Nat) (j : Nat) (k f : Int) (x4 x5 : Option am_V), (rI s 44).toNat - j < m → (k = j ∧ (j : Int) ≤ rI s 44 ∧ f = ndN s l j) → (∀ x3 x4 x5, am_WR (d + 2) m_M_nextDenied 133 [some (aR 9 0), some (aI (zI l)), some (aI (zI (ndN s l (rI s 44).toNat))), x3, x4, x5] [] q0 (s) Q) → am_WR (d + 2) m_M_nextDenied 4 [some (aR 9 0), some (aI (zI l)), some (aI (zI f)), some (aI (zI k)), x4, x5] [] q0 (s) Q := by
  intro m
  induction m with
  | zero => intro j k f x4 x5 hm; exact absurd hm (Nat.not_lt_zero _)
  | succ m ih =>
    intro j k f x4 x5 hm ⟨hj, hj2, hf⟩ K
    subst hj
    subst hf
    have bf := ndN_b s l j
    refine rr_inS (fun B => ?_)
    have b44 := B.2.1 44 0 40 rfl
    refine rr_iload_n rfl rfl ?_
    refine rr_aload_n rfl rfl ?_
    refine rr_gfI 44 rfl rfl (by omega) rfl (fun b6 => ?_)
    refine rr_icmp_ge rfl rfl (by omega) (by omega) (fun h9 => ?_) (fun h9 => ?_)
    · rw [show j = (rI s 44).toNat by omega]
      exact K _ _ _
    · refine rr_aload_n rfl rfl ?_
      refine rr_iload_n rfl rfl ?_
      refine rr_iload_n rfl rfl ?_
      refine rr_cv2P rfl rfl rfl (Nat.le_of_ble_eq_true rfl) (sr_checkedFor (d := 0) (by omega) (by omega)) (by omega) (fun b15 => ?_)
      refine rr_iconst rfl ?_
      refine rr_icmp_eq rfl rfl (by omega) (by omega) (fun h19 => ?_) (fun h19 => ?_)
      · refine rr_inc3 rfl ?_
        refine rr_goto rfl rfl ?_
        exact ih (j + 1) _ _ _ _ (by omega) ⟨by omega, by omega, by simp only [ndN]; omega⟩ K
      · refine rr_aload_n rfl rfl ?_
        refine rr_gfA 67 rfl rfl (by omega) rfl ?_
        refine rr_iload_n rfl rfl ?_
        refine rr_ba 67 40 rfl rfl rfl rfl (by omega) (by omega) (fun b27 => ?_)
        refine rr_if_ne rfl rfl (by omega) (fun h28 => ?_) (fun h28 => ?_)
        · refine rr_inc3 rfl ?_
          refine rr_goto rfl rfl ?_
          exact ih (j + 1) _ _ _ _ (by omega) ⟨by omega, by omega, by simp only [ndN]; omega⟩ K
        · refine rr_join (pc' := 59) (V := if ndN s l j = -1 ∨ (rA s 51 (j : Int) ≠ 0 ∧ rA s 51 (ndN s l j) = 0) then 1 else 0) ?_ (fun K59 => ?_)
          · refine rr_stI4 rfl ?_
            refine rr_join (pc' := 109) (V := if ndN s l j ≠ -1 ∧ rA s 51 (j : Int) = rA s 51 (ndN s l j) ∧ tierS s (rA s 46 (j : Int)) ≤ tierS s (rA s 46 (ndN s l j)) then 1 else 0) ?_ (fun K109 => ?_)
            · refine rr_stI5 rfl ?_
              refine rr_iload rfl rfl ?_
              refine rr_if_neB rfl rfl (fun h113 => ?_) (fun h113 => ?_)
              · refine rr_iload_n rfl rfl ?_
                refine rr_goto rfl rfl ?_
                refine rr_stI2 rfl ?_
                refine rr_inc3 rfl ?_
                refine rr_goto rfl rfl ?_
                exact ih (j + 1) _ _ _ _ (by omega) ⟨by omega, by omega, by simp only [ndN]; omega⟩ K
              · refine rr_iload rfl rfl ?_
                refine rr_if_eqB rfl rfl (fun h118 => ?_) (fun h118 => ?_)
                · refine rr_iload_n rfl rfl ?_
                  refine rr_stI2 rfl ?_
                  refine rr_inc3 rfl ?_
                  refine rr_goto rfl rfl ?_
                  exact ih (j + 1) _ _ _ _ (by omega) ⟨by omega, by omega, by simp only [ndN]; omega⟩ K
                · refine rr_iload_n rfl rfl ?_
                  refine rr_goto rfl rfl ?_
                  refine rr_stI2 rfl ?_
                  refine rr_inc3 rfl ?_
                  refine rr_goto rfl rfl ?_
                  exact ih (j + 1) _ _ _ _ (by omega) ⟨by omega, by omega, by simp only [ndN]; omega⟩ K
            · refine rr_iload_n rfl rfl ?_
              refine rr_iconst rfl ?_
              refine rr_icmp_eq rfl rfl (by omega) (by omega) (fun h63 => ?_) (fun h63 => ?_)
              · refine rr_iconst rfl ?_
                exact K109 _ (by first | omega | (simp_all) | (split <;> omega))
              · refine rr_aload_n rfl rfl ?_
                refine rr_gfA 51 rfl rfl (by omega) rfl ?_
                refine rr_iload_n rfl rfl ?_
                refine rr_ba 51 40 rfl rfl rfl rfl (by omega) (by omega) (fun b71 => ?_)
                refine rr_aload_n rfl rfl ?_
                refine rr_gfA 51 rfl rfl (by omega) rfl ?_
                refine rr_iload_n rfl rfl ?_
                refine rr_ba 51 40 rfl rfl rfl rfl (by omega) (by omega) (fun b77 => ?_)
                refine rr_icmp_ne rfl rfl (by omega) (by omega) (fun h78 => ?_) (fun h78 => ?_)
                · refine rr_iconst rfl ?_
                  exact K109 _ (by first | omega | (simp_all) | (split <;> omega))
                · refine rr_aload_n rfl rfl ?_
                  refine rr_aload_n rfl rfl ?_
                  refine rr_gfA 46 rfl rfl (by omega) rfl ?_
                  refine rr_iload_n rfl rfl ?_
                  refine rr_ia 46 40 rfl rfl rfl rfl (by omega) (by omega) (fun b87 => ?_)
                  refine rr_cv1P rfl rfl rfl (Nat.le_of_ble_eq_true rfl) (sr_tier (d := 0) (by omega)) (by omega) (fun b88 => ?_)
                  refine rr_aload_n rfl rfl ?_
                  refine rr_aload_n rfl rfl ?_
                  refine rr_gfA 46 rfl rfl (by omega) rfl ?_
                  refine rr_iload_n rfl rfl ?_
                  refine rr_ia 46 40 rfl rfl rfl rfl (by omega) (by omega) (fun b97 => ?_)
                  refine rr_cv1P rfl rfl rfl (Nat.le_of_ble_eq_true rfl) (sr_tier (d := 0) (by omega)) (by omega) (fun b98 => ?_)
                  refine rr_icmp_gt rfl rfl (by omega) (by omega) (fun h101 => ?_) (fun h101 => ?_)
                  · refine rr_iconst rfl ?_
                    exact K109 _ (by first | omega | (simp_all) | (split <;> omega))
                  · refine rr_iconst rfl ?_
                    refine rr_goto rfl rfl ?_
                    exact K109 _ (by first | omega | (simp_all) | (split <;> omega))
          · refine rr_iload_n rfl rfl ?_
            refine rr_iconst rfl ?_
            refine rr_icmp_eq rfl rfl (by omega) (by omega) (fun h33 => ?_) (fun h33 => ?_)
            · refine rr_iconst rfl ?_
              refine rr_goto rfl rfl ?_
              exact K59 _ (by first | omega | (simp_all) | (split <;> omega))
            · refine rr_aload_n rfl rfl ?_
              refine rr_gfA 51 rfl rfl (by omega) rfl ?_
              refine rr_iload_n rfl rfl ?_
              refine rr_ba 51 40 rfl rfl rfl rfl (by omega) (by omega) (fun b41 => ?_)
              refine rr_if_eq rfl rfl (by omega) (fun h42 => ?_) (fun h42 => ?_)
              · refine rr_iconst rfl ?_
                exact K59 _ (by first | omega | (simp_all) | (split <;> omega))
              · refine rr_aload_n rfl rfl ?_
                refine rr_gfA 51 rfl rfl (by omega) rfl ?_
                refine rr_iload_n rfl rfl ?_
                refine rr_ba 51 40 rfl rfl rfl rfl (by omega) (by omega) (fun b50 => ?_)
                refine rr_if_ne rfl rfl (by omega) (fun h51 => ?_) (fun h51 => ?_)
                · refine rr_iconst rfl ?_
                  exact K59 _ (by first | omega | (simp_all) | (split <;> omega))
                · refine rr_iconst rfl ?_
                  refine rr_goto rfl rfl ?_
                  exact K59 _ (by first | omega | (simp_all) | (split <;> omega))
theorem sr_nextDenied {d : Nat} {s : am_Z} {l : Int}  (hl : in32 l) : am_CR (d + 2) m_M_nextDenied [aR 9 0, aI (zI l)] s (isP (s) (ndN s l (rI s 44).toNat) (-1 ≤ ndN s l (rI s 44).toNat ∧ ndN s l (rI s 44).toNat < rI s 44)) := by
  refine am_CR_i (ls := [some (aR 9 0), some (aI (zI l)), none, none, none, none]) rfl (fun q0 => ?_)
  refine rr_inS (fun B => ?_)
  have b44 := B.2.1 44 0 40 rfl
  have bf := ndN_b s l (rI s 44).toNat
  refine rr_iconst rfl ?_
  refine rr_stI2 rfl ?_
  refine rr_iconst rfl ?_
  refine rr_stI3 rfl ?_
  refine lp_nd (d := d) (s := s) hl ((rI s 44).toNat + 1) 0 0 _ _ _ (by omega) ⟨rfl, by omega, rfl⟩ (fun x3 x4 x5 => ?_)
  refine rr_iload_n rfl rfl ?_
  refine rr_iret rfl (Or.inl rfl) ?_
  exact rr_eP rfl (by omega)
end

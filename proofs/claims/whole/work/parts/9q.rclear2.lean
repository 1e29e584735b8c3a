noncomputable section
def clQ : Nat → am_Z → Int → am_Z → Int → Prop
  | 0, _, _, _, _ => False
  | f + 1, s, n, s', n' => ((nwS s = -1 ∨ 40 ≤ rI s 44) ∧ s' = s ∧ n' = n) ∨ ((nwS s ≠ -1 ∧ rI s 44 < 40) ∧ ∃ s3, in_S s3 ∧ am_BR (jw s (nwS s)) s3 ∧ am_WQ s3 (bestW (jw s (nwS s)) (rA s 62 (nwS s))) ∧
      (((bestW (jw s (nwS s)) (rA s 62 (nwS s))).1 = -1 ∧ clQ f s3 n s' n') ∨ ((bestW (jw s (nwS s)) (rA s 62 (nwS s))).1 ≠ -1 ∧ clQ f (wA (bkT s3 (rA s 62 (nwS s)) (rA s 63 (nwS s)) 24) 66 (nwS s) (rI s 44)) (n + 1) s' n')))
theorem lp_cq2 {d : Nat} {s : am_Z} {q0 : am_A} {Q : Option am_V → am_Z → Prop}  : ∀ (m : Nat) (n w : Int) (s1 : am_Z) (x3 : Option am_V), cntD s1 (rI s1 61).toNat < m → (w = nwS s1 ∧ hWL s1) → (∀ s2 n2 x2 x3, clQ m s1 n s2 n2 → am_WR (d + 6) m_M_clear 149 [some (aR 9 0), some (aI (zI n2)), x2, x3] [] q0 (s2) Q) → am_WR (d + 6) m_M_clear 33 [some (aR 9 0), some (aI (zI n)), some (aI (zI w)), x3] [] q0 (s1) Q := by
  intro m
  induction m with
  | zero => intro n w s1 x3 hm; exact absurd hm (Nat.not_lt_zero _)
  | succ m ih =>
    intro n w s1 x3 hm ⟨hw, hwl⟩ K
    subst hw
    refine rr_inS (fun B => ?_)
    have b61 := B.2.1 61 0 20 rfl
    have bw : -1 ≤ nwS s1 ∧ nwS s1 < ((rI s1 61).toNat : Int) := nwN_b s1 (rI s1 61).toNat
    refine rr_iload_n rfl rfl ?_
    refine rr_iconst rfl ?_
    refine rr_icmp_eq rfl rfl (by omega) (by omega) (fun h35 => ?_) (fun h35 => ?_)
    · exact K s1 n _ _ (Or.inl ⟨by omega, rfl, rfl⟩)
    · refine rr_aload_n rfl rfl ?_
      refine rr_gfI 44 rfl rfl (by omega) rfl (fun b39 => ?_)
      refine rr_bipush (x := 40) rfl rfl ?_
      refine rr_icmp_ge rfl rfl (by omega) (by omega) (fun h44 => ?_) (fun h44 => ?_)
      · exact K s1 n _ _ (Or.inl ⟨by omega, rfl, rfl⟩)
      · have hnw : waitP s1 (nwS s1) ∧ rA s1 67 (nwS s1) = 0 := nwN_w (s := s1) (n := (rI s1 61).toNat) (show nwS s1 ≠ -1 by omega)
        refine rr_aload_n rfl rfl ?_
        refine rr_gfA 67 rfl rfl (by omega) rfl ?_
        refine rr_iload_n rfl rfl ?_
        refine rr_iconst rfl ?_
        refine rr_bas 67 40 rfl rfl rfl (by omega) (by omega) rfl rfl (by omega) (by omega) ?_
        refine rr_aload_n rfl rfl ?_
        refine rr_aload_n rfl rfl ?_
        refine rr_gfA 64 rfl rfl (by omega) rfl ?_
        refine rr_iload_n rfl rfl ?_
        refine rr_iav 64 20 (s1) (fun _ => rfl) rfl rfl rfl rfl (by omega) (by omega) (fun b60 => ?_)
        refine rr_pfI 35 rfl rfl rfl rfl (by omega) rfl (by omega) ?_
        refine rr_iconst rfl ?_
        refine rr_stI3 rfl ?_
        refine lp_cl1 (d := d + 6) (s := wI (wA s1 67 (nwS s1) 1) 35 (rA s1 64 (nwS s1))) (by omega) (by show 0 ≤ rA s1 64 (nwS s1) ∧ rA s1 64 (nwS s1) ≤ 4; omega) ((rA s1 64 (nwS s1)).toNat + 1) 0 0 _ (by show (rA s1 64 (nwS s1)).toNat - 0 < _; omega) ⟨rfl, by show ((0 : Nat) : Int) ≤ rA s1 64 (nwS s1); omega, (wB_0 ..).symm⟩ (fun x3 => ?_)
        refine rr_aload_n rfl rfl ?_
        refine rr_aload_n rfl rfl ?_
        refine rr_gfA 62 rfl rfl (by omega) rfl ?_
        refine rr_iload_n rfl rfl ?_
        refine rr_iav 62 20 (s1) (fun _ => rfl) rfl rfl rfl rfl (by omega) (by omega) (fun b102 => ?_)
        refine rr_cv1V rfl rfl rfl (Nat.le_of_ble_eq_true rfl) (sr_builds (d := 0) (by omega)) (by omega) (fun s103 q103 => ?_)
        have q103 : am_BR (jw s1 (nwS s1)) s103 ∧ am_WQ s103 (bestW (jw s1 (nwS s1)) (rA s1 62 (nwS s1))) := q103
        have g37 := q103.2.1
        have e44 : rI s103 44 = rI s1 44 := q103.1.2 44 (by omega) (by omega)
        have e61 : rI s103 61 = rI s1 61 := q103.1.2 61 (by omega) (by omega)
        have k1 : ∀ j i, scr j = false → j ≠ 36 → j ≠ 67 → rA s103 j i = rA s1 j i := fun j i a b c => (q103.1.1 j i a).trans ((if_neg (fun z => b z.1)).trans (if_neg (fun z => c z.1)))
        have k67 : ∀ i, rA s103 67 i = if i = nwS s1 then 1 else rA s1 67 i := fun i => (q103.1.1 67 i rfl).trans jw_67
        have w1 : hWL s103 := by
          intro w k h1 h2 h3 h4
          rw [k1 64 _ rfl (by omega) (by omega)] at h4
          rw [k1 8 _ rfl (by omega) (by omega), k1 65 _ rfl (by omega) (by omega)]
          exact hwl w k h1 (by omega) h3 h4
        have c1 : cntD s103 (rI s103 61).toNat < m := by
          have z := cntD_lt (s := s1) (s' := s103) (n := (rI s1 61).toNat) (w := nwS s1) (by omega) hnw.2 (by rw [k67, if_pos rfl]; omega) (fun i hi => by rw [k67, if_neg hi])
          rw [e61]
          omega
        have e62 : rA s103 62 (nwS s1) = rA s1 62 (nwS s1) := k1 62 _ rfl (by omega) (by omega)
        have e63 : rA s103 63 (nwS s1) = rA s1 63 (nwS s1) := k1 63 _ rfl (by omega) (by omega)
        refine rr_inS (fun B103 => ?_)
        refine rr_aload_n rfl rfl ?_
        refine rr_gfI 37 rfl rfl (by omega) rfl (fun b107 => ?_)
        refine rr_iconst rfl ?_
        refine rr_icmp_eq rfl rfl (by omega) (by omega) (fun h111 => ?_) (fun h111 => ?_)
        · refine rr_aload_n rfl rfl ?_
          refine rr_cv0P rfl rfl rfl (Nat.le_of_ble_eq_true rfl) (sr_nextWish (d := 0)) (by omega) (fun b142 => ?_)
          refine rr_stI2 rfl ?_
          refine rr_goto rfl rfl ?_
          exact ih _ _ _ _ (by assumption) ⟨rfl, by assumption⟩ (fun s2 n2 x2 x3 hc => K s2 n2 x2 x3 (Or.inr ⟨⟨by omega, by omega⟩, s103, B103, q103.1, q103.2, by first | exact Or.inl ⟨by omega, hc⟩ | exact Or.inr ⟨by omega, hc⟩⟩))
        · refine rr_aload_n rfl rfl ?_
          refine rr_gfA 66 rfl rfl (by omega) rfl ?_
          refine rr_iload_n rfl rfl ?_
          have hbo := bestW_ok (jw_in B (nwS s1)) (rA s1 62 (nwS s1)) (by omega)
          have hL35 : rI (jw s1 (nwS s1)) 35 = rA s1 64 (nwS s1) := rfl
          have hbk := wq_bk q103.2 hbo.1 hbo.2.1 (by omega)
          have hFl : ∀ k, 0 ≤ k → k < 4 → (∃ i : Nat, (i : Int) < rI s103 38 ∧ k < sumI 0 i (rA s103 39) + rA s103 39 i) → 1 ≤ fLen s103 k := by
            rintro k h1 h2 ⟨i, h3, h4⟩
            have h5 := hbk.2 i h3
            have h6 := hwl (nwS s1) k (by omega) (by omega) h1 (by omega)
            unfold fLen
            rw [q103.1.1 36 _ rfl, k1 8 _ rfl (by omega) (by omega)]
            have e36 : rA (jw s1 (nwS s1)) 36 k = rA s1 65 (4 * nwS s1 + k) := if_pos ⟨rfl, h1, by omega⟩
            rw [e36]
            exact h6
          refine rr_aload_n rfl rfl ?_
          refine rr_aload_n rfl rfl ?_
          refine rr_gfA 62 rfl rfl (by omega) rfl ?_
          refine rr_iload_n rfl rfl ?_
          refine rr_ia 62 20 rfl rfl rfl rfl (by omega) (by omega) (fun b125 => ?_)
          rw [e62]
          refine rr_aload_n rfl rfl ?_
          refine rr_gfA 63 rfl rfl (by omega) rfl ?_
          refine rr_iload_n rfl rfl ?_
          refine rr_ia 63 20 rfl rfl rfl rfl (by omega) (by omega) (fun b131 => ?_)
          rw [e63]
          refine rr_bipush (x := 24) rfl rfl ?_
          refine rr_cv3P rfl rfl rfl (Nat.le_of_ble_eq_true rfl) (sr_books (d := 0) (by omega) (by omega) (by omega) (by omega) hbk.1 (fun i z => by have := hbk.2 i z; omega) hFl) (by omega) (fun b134 => ?_)
          rw [e44]
          refine rr_ias 66 20 rfl ⟨rfl, by omega⟩ rfl (by omega) (by omega) rfl rfl (by omega) (by omega) ?_
          have hT := bkT_u (s := s103) (n := rA s1 62 (nwS s1)) (m := rA s1 63 (nwS s1)) (h := 24)
          have k2 : ∀ j i, unT j = true → (j < 45 ∨ 52 < j) → j ≠ 66 → rA (wA (bkT s103 (rA s1 62 (nwS s1)) (rA s1 63 (nwS s1)) 24) 66 (nwS s1) (rI s1 44)) j i = rA s103 j i := fun j i a b c => (if_neg (fun z => c z.1)).trans (hT.1 j i a b)
          have k61 : rI (wA (bkT s103 (rA s1 62 (nwS s1)) (rA s1 63 (nwS s1)) 24) 66 (nwS s1) (rI s1 44)) 61 = rI s103 61 := hT.2.1 61 (by omega)
          have w2 : hWL (wA (bkT s103 (rA s1 62 (nwS s1)) (rA s1 63 (nwS s1)) 24) 66 (nwS s1) (rI s1 44)) := by
            intro w k h1 h2 h3 h4
            rw [k2 64 _ rfl (by omega) (by omega)] at h4
            rw [k2 8 _ rfl (by omega) (by omega), k2 65 _ rfl (by omega) (by omega)]
            exact w1 w k h1 (by omega) h3 h4
          have c2 : cntD (wA (bkT s103 (rA s1 62 (nwS s1)) (rA s1 63 (nwS s1)) 24) 66 (nwS s1) (rI s1 44)) (rI (wA (bkT s103 (rA s1 62 (nwS s1)) (rA s1 63 (nwS s1)) 24) 66 (nwS s1) (rI s1 44)) 61).toNat < m := by
            rw [k61]
            refine Nat.lt_of_le_of_lt (Nat.le_of_eq ?_) c1
            exact congrArg Int.toNat (sumI_c (fun i _ _ => by { unfold fDone; rw [k2 67 _ rfl (by omega) (by omega)] }))
          refine rr_inc1 rfl ?_
          refine rr_aload_n rfl rfl ?_
          refine rr_cv0P rfl rfl rfl (Nat.le_of_ble_eq_true rfl) (sr_nextWish (d := 0)) (by omega) (fun b142 => ?_)
          refine rr_stI2 rfl ?_
          refine rr_goto rfl rfl ?_
          exact ih _ _ _ _ (by assumption) ⟨rfl, by assumption⟩ (fun s2 n2 x2 x3 hc => K s2 n2 x2 x3 (Or.inr ⟨⟨by omega, by omega⟩, s103, B103, q103.1, q103.2, by first | exact Or.inl ⟨by omega, hc⟩ | exact Or.inr ⟨by omega, hc⟩⟩))
theorem sr_clearQ {d : Nat} {s : am_Z}  (hwl : hWL s) : am_CR (d + 6) m_M_clear [aR 9 0] s (isG (fun v s2 => ∃ f, clQ f (wB (wI s 74 0) 67 0 20 (fun _ => 0)) 0 s2 v)) := by
  refine am_CR_i (ls := [some (aR 9 0), none, none, none]) rfl (fun q0 => ?_)
  refine rr_aload_n rfl rfl ?_
  refine rr_iconst rfl ?_
  refine rr_pfI 74 rfl rfl rfl rfl (by omega) rfl (by omega) ?_
  refine rr_iconst rfl ?_
  refine rr_stI1 rfl ?_
  refine lp_cl0 (d := d + 6) (s := wI s 74 0) 21 0 0 _ _ _ (by omega) ⟨rfl, by omega, (wB_0 ..).symm⟩ (fun x1 => ?_)
  refine rr_iconst rfl ?_
  refine rr_stI1 rfl ?_
  refine rr_aload_n rfl rfl ?_
  refine rr_cv0P rfl rfl rfl (Nat.le_of_ble_eq_true rfl) (sr_nextWish (d := 0)) (by omega) (fun b29 => ?_)
  refine rr_stI2 rfl ?_
  refine lp_cq2 (d := d) (s := s) (cntD (wB (wI s 74 0) 67 0 20 (fun _ => 0)) (rI s 61).toNat + 1) 0 _ _ _ (by show cntD _ (rI s 61).toNat < _; omega) ⟨rfl, hwl⟩ (fun s2 n2 x2 x3 hc => ?_)
  refine rr_iload_n rfl rfl ?_
  refine rr_iret rfl (Or.inl rfl) ?_
  exact ⟨_, rfl, _, hc⟩
end

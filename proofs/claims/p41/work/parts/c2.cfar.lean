noncomputable section
theorem fa_A {s : am_Z} {c a b k v : Int} : rA (fareS s c a b k v) 25 (rI s 20) = v ∧ ∀ j x, (j ≠ 25 ∨ x ≠ rI s 20) → (j < 21 ∨ j = 25 ∨ 32 < j) → rA (fareS s c a b k v) j x = rA s j x := by
  refine ⟨?_, fun j x h h2 => ?_⟩
  · unfold fareS; simp [wI_A, wA_A]
  · unfold fareS
    simp only [wI_A, wA_A]
    rw [if_neg (by omega), if_neg (by omega), if_neg (by omega), if_neg (by omega), if_neg (by omega), if_neg (by omega), if_neg (by omega), if_neg (by omega)]
theorem PL_fare {s : am_Z} {T : am_LT} {c a b k v : Int} (P : am_PL s T) : am_PL (fareS s c a b k v) (uT (uT T 2 (rI s 20) v) 5 1 (rI s 20 + 1)) := by
  obtain ⟨⟨p0, p1, p2, p3, p4, p5, p6⟩, pn, pm, pf, pb, px⟩ := P
  obtain ⟨g25, go⟩ := fa_A (s := s) (c := c) (a := a) (b := b) (k := k) (v := v)
  have n20 : rI (fareS s c a b k v) 20 = rI s 20 + 1 := rfl
  have nn : ∀ j, j ≠ 20 → rI (fareS s c a b k v) j = rI s j := fun j h => if_neg h
  have eo : ∀ (i : Nat) (x : Int), (i ≠ 2 ∨ x ≠ rI s 20) → (i ≠ 5 ∨ x ≠ 1) → uT (uT T 2 (rI s 20) v) 5 1 (rI s 20 + 1) i x = T i x := fun i x h1 h2 => by rw [uT_n h2, uT_n h1]
  have e59 : rA (fareS s c a b k v) 59 = rA s 59 := funext (fun x => go 59 x (by omega) (by omega))
  refine ⟨⟨by rw [nn 3 (by omega), eo 5 0 (by omega) (by omega)]; exact p0, by rw [n20, uT_e], by rw [nn 0 (by omega), eo 5 2 (by omega) (by omega)]; exact p2, by rw [nn 33 (by omega), eo 5 3 (by omega) (by omega)]; exact p3, by rw [nn 44 (by omega), eo 5 4 (by omega) (by omega)]; exact p4, by rw [nn 61 (by omega), eo 5 5 (by omega) (by omega)]; exact p5, P6_cg p6 (nn 68 (by omega)) (nn 0 (by omega)) (eo 5 6 (by omega) (by omega))⟩, fun f h1 h2 => ?_, fun f k h1 h2 h3 h4 => ?_, fun i h1 h2 => ?_, fun k h1 h2 => ?_, fun k h1 h2 => ?_⟩
  · rw [nn 3 (by omega)] at h2
    rw [go 4 _ (by omega) (by omega), go 5 _ (by omega) (by omega), go 6 _ (by omega) (by omega), go 8 _ (by omega) (by omega), go 9 _ (by omega) (by omega), eo 0 _ (by omega) (by omega), eo 0 _ (by omega) (by omega), eo 0 _ (by omega) (by omega), eo 0 _ (by omega) (by omega), eo 0 _ (by omega) (by omega)]
    exact pn f h1 h2
  · rw [nn 3 (by omega)] at h2
    rw [go 14 _ (by omega) (by omega), eo 1 _ (by omega) (by omega)]
    exact pm f k h1 h2 h3 h4
  · rw [n20] at h2
    by_cases e : i = rI s 20
    · rw [e, g25, uT_n (by omega), uT_e]
    · rw [go 25 _ (by omega) (by omega), eo 2 _ (by omega) (by omega)]
      exact pf i h1 (by omega)
  · rw [nn 44 (by omega)] at h2
    rw [go 46 _ (by omega) (by omega), e59, eo 3 _ (by omega) (by omega), eo 4 _ (by omega) (by omega)]
    exact pb k h1 h2
  · rw [nn 61 (by omega)] at h2
    rw [go 63 _ (by omega) (by omega), eo 7 _ (by omega) (by omega)]
    exact px k h1 h2
theorem if_tailA {d e : Nat} {q : am_A} {s : am_Z} {T : am_LT} (I : am_CI e q s) (L : am_LS q s T) {o1 o2 D : Int} {x5 x6 : Option am_V} (bD : in32 D) (b1 : 0 ≤ o1 ∧ o1 ≤ 100000) (b2 : 0 ≤ o2 ∧ o2 ≤ 100000) (hw : o2 / 160 % 17 < rI s 20) {Q : am_O → am_A → Prop} (K : ∀ o q', am_LR 5 e q s o q' → Q o q') : am_W2 (d + 22) m_L_isFare 103 [some (aR 8 0), some (aR 24 2), some (aR 24 5), some (aI (zI o1)), some (aI (zI o2)), x5, x6, some (aI (zI D)), some (aI (zI D)), none, none, none, none] [] q Q := by
  obtain ⟨F, J, H, P⟩ := L
  have B := CV_B I.1
  have b20 := B.2.1 20 0 16 rfl
  obtain ⟨⟨p0, p1, p2, p3, p4, p5, p6⟩, pn, pm, pf, pb, px⟩ := id P
  refine ar_iload rfl rfl ?_
  refine ar_sipush (x := 160) rfl rfl ?_
  refine ar_idiv rfl (by omega) (by omega) ?_
  refine ar_bipush (x := 17) rfl rfl ?_
  refine ar_irem rfl (by omega) (by omega) ?_
  refine ar_stI9 rfl ?_
  refine ar_iload rfl rfl ?_
  refine ar_bipush (x := 20) rfl rfl ?_
  refine ar_idiv rfl (by omega) (by omega) ?_
  refine ar_bipush (x := 8) rfl rfl ?_
  refine ar_irem rfl (by omega) (by omega) ?_
  refine ar_iconst rfl ?_
  refine ar_isub rfl ?_
  refine ar_stI10 rfl ?_
  refine ar_aload_n rfl rfl ?_
  refine ar_iload rfl rfl ?_
  refine ar_iload rfl rfl ?_
  refine ar_iload rfl rfl ?_
  refine ar_iload rfl rfl ?_
  refine ar_bipush (x := 7) rfl rfl ?_
  refine ar_idiv rfl (by omega) (by omega) ?_
  refine ar_bipush (x := 9) rfl rfl ?_
  refine ar_irem rfl (by omega) (by omega) ?_
  refine ar_iadd rfl ?_
  refine cq_join (pc' := 159) (V := if 0 < o2 % 3 then 0 else o2 / 3 % 3) ?_ (fun K159 => ?_)
  · refine cq_join (pc' := 175) (V := if o2 / 11 % 6 = 0 then 1 else 0) ?_ (fun K175 => ?_)
    · refine ar_iload rfl rfl ?_
      refine ar_bipush (x := 13) rfl rfl ?_
      refine ar_idiv rfl (by omega) (by omega) ?_
      refine ar_iconst rfl ?_
      refine ar_irem rfl (by omega) (by omega) ?_
      refine cq_join (pc' := 197) (V := if o2 / 17 % 5 = 0 then 1 else 0) ?_ (fun K197 => ?_)
      · refine ar_cs8 rfl rfl (Nat.le_of_ble_eq_true rfl) (dz_rules (d := 0) (f := (o2 / 160 % 17)) (a := (o2 / 20 % 8 - 1)) (b := (o2 / 20 % 8 - 1 + o2 / 7 % 9)) (c := if 0 < o2 % 3 then 0 else o2 / 3 % 3) (p := if o2 / 11 % 6 = 0 then 1 else 0) (r := o2 / 13 % 4) (t := if o2 / 17 % 5 = 0 then 1 else 0) I F (by omega) (by omega) (by omega) (by split <;> omega) (by omega) (by split; exact Or.inr rfl; exact Or.inl rfl) (by split; exact Or.inr rfl; exact Or.inl rfl) (by { unfold kRules; rw [if_neg (by omega), if_pos ⟨by omega, by omega, by split <;> omega, by omega⟩] })) (by omega) (fun o q197 hq => ?_)
        obtain ⟨rfl, I197, Y197, F197⟩ := hq
        have H197 := LA_CY H Y197
        have J1 := JJ_rules (f := (o2 / 160 % 17)) (a := (o2 / 20 % 8 - 1)) (b := (o2 / 20 % 8 - 1 + o2 / 7 % 9)) (ad := if 0 < o2 % 3 then 0 else o2 / 3 % 3) (h := if o2 / 11 % 6 = 0 then 1 else 0) (st := o2 / 13 % 4) (w := if o2 / 17 % 5 = 0 then 1 else 0) J (by omega)
        have K1 : am_KF s _ := KF_cg (s' := (wA (wA (wA (wA (wA (wA s 26 (o2 / 160 % 17) (o2 / 20 % 8 - 1)) 27 (o2 / 160 % 17) (o2 / 20 % 8 - 1 + o2 / 7 % 9)) 28 (o2 / 160 % 17) (if 0 < o2 % 3 then 0 else o2 / 3 % 3)) 29 (o2 / 160 % 17) (if o2 / 11 % 6 = 0 then 1 else 0)) 30 (o2 / 160 % 17) (o2 / 13 % 4)) 31 (o2 / 160 % 17) (if o2 / 17 % 5 = 0 then 1 else 0))) (fun j x h => (wA_ne (by omega)).trans ((wA_ne (by omega)).trans ((wA_ne (by omega)).trans ((wA_ne (by omega)).trans ((wA_ne (by omega)).trans (wA_ne (by omega))))))) (fun _ _ => rfl)
        generalize hS : (wA (wA (wA (wA (wA (wA s 26 (o2 / 160 % 17) (o2 / 20 % 8 - 1)) 27 (o2 / 160 % 17) (o2 / 20 % 8 - 1 + o2 / 7 % 9)) 28 (o2 / 160 % 17) (if 0 < o2 % 3 then 0 else o2 / 3 % 3)) 29 (o2 / 160 % 17) (if o2 / 11 % 6 = 0 then 1 else 0)) 30 (o2 / 160 % 17) (o2 / 13 % 4)) 31 (o2 / 160 % 17) (if o2 / 17 % 5 = 0 then 1 else 0)) = S1 at I197 J1 K1 ⊢
        have n1 : rI S1 20 = rI s 20 := by { rw [← hS]; rfl }
        have n0 : rI S1 0 = rI s 0 := by { rw [← hS]; rfl }
        have n68 : rI S1 68 = rI s 68 := by { rw [← hS]; rfl }
        refine ar_stI11 rfl ?_
        refine ar_aload_n rfl rfl ?_
        refine ar_bipush (x := 7) rfl rfl ?_
        refine ar_iload rfl rfl ?_
        refine ar_iload_n rfl rfl ?_
        refine ar_bipush (x := 101) rfl rfl ?_
        refine ar_irem rfl (by omega) (by omega) ?_
        refine ar_iconst rfl ?_
        refine ar_iconst rfl ?_
        refine ar_iconst rfl ?_
        refine ar_iconst rfl ?_
        refine ar_cs8 rfl rfl (Nat.le_of_ble_eq_true rfl) (dz_back (d := 0) I197 F197 J1 (by omega) (by omega) (by { unfold kBack; rw [if_neg (by omega), if_pos (by omega)] })) (by omega) (fun o q215 hq => ?_)
        obtain ⟨rfl, I215, Y215, F215⟩ := hq
        have H215 := LA_CY H197 Y215
        have J2 := JJ_A (j := 32) (i := (o2 / 160 % 17)) (v := o1 % 101) J1 (by unfold ivA; omega) (by unfold jaA; omega)
        have K2 : am_KF S1 (wA S1 32 (o2 / 160 % 17) (o1 % 101)) := KF_cg (fun j x h => wA_ne (by omega)) (fun _ _ => rfl)
        have b32 := (CV_B I197.1).1 32 (o2 / 160 % 17) 0 100 rfl
        have n2 : rI (wA S1 32 (o2 / 160 % 17) (o1 % 101)) 20 = rI s 20 := n1
        refine ar_stI12 rfl ?_
        refine ar_iload rfl rfl ?_
        refine ar_iload rfl rfl ?_
        refine ar_icmp_ne rfl rfl (by omega) (by omega) (fun ht => by omega) (fun h224 => ?_)
        refine ar_iload rfl rfl ?_
        refine ar_iload rfl rfl ?_
        refine ar_aload_n rfl rfl ?_
        refine ar_iconst rfl ?_
        refine ar_ial24 (n := 7) rfl H215 (by omega) rfl (by omega) ?_
        refine ar_icmp_ge rfl rfl (by omega) (by omega) (fun ht => by omega) (fun h234 => ?_)
        refine ar_iconst rfl ?_
        refine ar_goto rfl rfl ?_
        refine ar_icmp_ne rfl rfl (by omega) (by omega) (fun ht => by omega) (fun h243 => ?_)
        refine ar_aload_n rfl rfl ?_
        refine ar_iload rfl rfl ?_
        refine ar_iconst rfl ?_
        refine ar_iconst rfl ?_
        refine ar_iconst rfl ?_
        refine ar_iconst rfl ?_
        refine ar_iconst rfl ?_
        refine ar_iconst rfl ?_
        refine ar_cs8 rfl rfl (Nat.le_of_ble_eq_true rfl) (dx_rules (d := 0) (R := -2000000) (f := o2 / 160 % 17) (a := 5) (b := 4) (c := 0) (p := 0) (r := 0) (t := 0) I215 F215 (by omega) (by omega) (by omega) (by omega) (by omega) (Or.inl rfl) (Or.inl rfl) (k := 2) (by { unfold kRules; rw [if_neg (by omega), if_neg (by omega)] }) (Or.inr rfl) rfl) (by omega) (fun o q255 hq => ?_)
        obtain ⟨rfl, I255, Y255, F255⟩ := hq
        have H255 := LA_CY H215 Y255
        refine ar_iload rfl rfl ?_
        refine ar_aload_n rfl rfl ?_
        refine ar_iconst rfl ?_
        refine ar_ial24 (n := 7) rfl H255 (by omega) rfl (by omega) ?_
        refine ar_icmp_ge rfl rfl (by omega) (by omega) (fun ht => by omega) (fun h263 => ?_)
        refine ar_ldc (x := -2000000) rfl rfl ?_
        refine ar_goto rfl rfl ?_
        refine ar_icmp_ne rfl rfl (by omega) (by omega) (fun ht => by omega) (fun h273 => ?_)
        refine ar_iload rfl rfl ?_
        refine ar_aload_n rfl rfl ?_
        refine ar_iconst rfl ?_
        refine ar_ial24 (n := 7) rfl H255 (by omega) rfl (by omega) ?_
        refine ar_icmp_ge rfl rfl (by omega) (by omega) (fun ht => by omega) (fun h281 => ?_)
        refine ar_iload rfl rfl ?_
        refine ar_if_lt rfl rfl (by omega) (fun ht => by omega) (fun h286 => ?_)
        refine ar_aload_n rfl rfl ?_
        refine ar_bipush (x := 7) rfl rfl ?_
        refine ar_iload rfl rfl ?_
        refine ar_iload_n rfl rfl ?_
        refine ar_bipush (x := 101) rfl rfl ?_
        refine ar_irem rfl (by omega) (by omega) ?_
        refine ar_iconst rfl ?_
        refine ar_iconst rfl ?_
        refine ar_iconst rfl ?_
        refine ar_iconst rfl ?_
        refine ar_cs8 rfl rfl (Nat.le_of_ble_eq_true rfl) (dz_back (d := 0) I255 F255 J2 (by omega) (by omega) (by { unfold kBack; rw [if_neg (by omega), if_pos (by omega)] })) (by omega) (fun o q302 hq => ?_)
        obtain ⟨rfl, I302, Y302, F302⟩ := hq
        have H302 := LA_CY H255 Y302
        have J3 := JJ_A (j := 32) (i := (o2 / 160 % 17)) (v := o1 % 101) J2 (by unfold ivA; omega) (by unfold jaA; omega)
        have K3 : am_KF (wA S1 32 (o2 / 160 % 17) (o1 % 101)) (wA (wA S1 32 (o2 / 160 % 17) (o1 % 101)) 32 (o2 / 160 % 17) (o1 % 101)) := KF_cg (fun j x h => wA_ne (by omega)) (fun _ _ => rfl)
        have e32 : rA (wA S1 32 (o2 / 160 % 17) (o1 % 101)) 32 (o2 / 160 % 17) = o1 % 101 := if_pos ⟨rfl, rfl⟩
        refine ar_iload_n rfl rfl ?_
        refine ar_bipush (x := 101) rfl rfl ?_
        refine ar_irem rfl (by omega) (by omega) ?_
        refine ar_icmp_ne rfl rfl (by omega) (by omega) (fun ht => by omega) (fun h309 => ?_)
        refine ar_goto rfl rfl ?_
        refine ar_iconst rfl ?_
        refine ar_goto rfl rfl ?_
        exact ar_iret rfl (Or.inr ⟨rfl, by first | omega | (split <;> omega)⟩) (K _ _ ⟨rfl, _, _, CI_le I302 (by omega), ⟨F302, J3, H302, PL_KF P (KF_t K1 (KF_t K2 K3)) n0 n68⟩, S31_t (S31_CY Y197) (S31_t (S31_CY Y215) (S31_t (S31_CY Y255) (S31_CY Y302))), n0⟩)
      · refine ar_iload rfl rfl ?_
        refine ar_bipush (x := 17) rfl rfl ?_
        refine ar_idiv rfl (by omega) (by omega) ?_
        refine ar_iconst rfl ?_
        refine ar_irem rfl (by omega) (by omega) ?_
        refine ar_if_ne rfl rfl (by omega) (fun h189 => ?_) (fun h189 => ?_)
        · refine ar_iconst rfl ?_
          exact K197 _ (by first | rw [if_pos (by omega)] | rw [if_neg (by omega)])
        · refine ar_iconst rfl ?_
          refine ar_goto rfl rfl ?_
          exact K197 _ (by first | rw [if_pos (by omega)] | rw [if_neg (by omega)])
    · refine ar_iload rfl rfl ?_
      refine ar_bipush (x := 11) rfl rfl ?_
      refine ar_idiv rfl (by omega) (by omega) ?_
      refine ar_bipush (x := 6) rfl rfl ?_
      refine ar_irem rfl (by omega) (by omega) ?_
      refine ar_if_ne rfl rfl (by omega) (fun h167 => ?_) (fun h167 => ?_)
      · refine ar_iconst rfl ?_
        exact K175 _ (by first | rw [if_pos (by omega)] | rw [if_neg (by omega)])
      · refine ar_iconst rfl ?_
        refine ar_goto rfl rfl ?_
        exact K175 _ (by first | rw [if_pos (by omega)] | rw [if_neg (by omega)])
  · refine ar_iload rfl rfl ?_
    refine ar_iconst rfl ?_
    refine ar_irem rfl (by omega) (by omega) ?_
    refine ar_if_le rfl rfl (by omega) (fun h146 => ?_) (fun h146 => ?_)
    · refine ar_iload rfl rfl ?_
      refine ar_iconst rfl ?_
      refine ar_idiv rfl (by omega) (by omega) ?_
      refine ar_iconst rfl ?_
      refine ar_irem rfl (by omega) (by omega) ?_
      exact K159 _ (by first | rw [if_pos (by omega)] | rw [if_neg (by omega)])
    · refine ar_iconst rfl ?_
      refine ar_goto rfl rfl ?_
      exact K159 _ (by first | rw [if_pos (by omega)] | rw [if_neg (by omega)])
theorem if_tailB {d e : Nat} {q : am_A} {s : am_Z} {T : am_LT} (I : am_CI e q s) (L : am_LS q s T) {o1 o2 D : Int} {x5 x6 : Option am_V} (bD : in32 D) (b1 : 0 ≤ o1 ∧ o1 ≤ 100000) (b2 : 0 ≤ o2 ∧ o2 ≤ 100000) (hw : ¬ o2 / 160 % 17 < rI s 20) {Q : am_O → am_A → Prop} (K : ∀ o q', am_LR 5 e q s o q' → Q o q') : am_W2 (d + 22) m_L_isFare 103 [some (aR 8 0), some (aR 24 2), some (aR 24 5), some (aI (zI o1)), some (aI (zI o2)), x5, x6, some (aI (zI D)), some (aI (zI D)), none, none, none, none] [] q Q := by
  obtain ⟨F, J, H, P⟩ := L
  have B := CV_B I.1
  have b20 := B.2.1 20 0 16 rfl
  obtain ⟨⟨p0, p1, p2, p3, p4, p5, p6⟩, pn, pm, pf, pb, px⟩ := id P
  refine ar_iload rfl rfl ?_
  refine ar_sipush (x := 160) rfl rfl ?_
  refine ar_idiv rfl (by omega) (by omega) ?_
  refine ar_bipush (x := 17) rfl rfl ?_
  refine ar_irem rfl (by omega) (by omega) ?_
  refine ar_stI9 rfl ?_
  refine ar_iload rfl rfl ?_
  refine ar_bipush (x := 20) rfl rfl ?_
  refine ar_idiv rfl (by omega) (by omega) ?_
  refine ar_bipush (x := 8) rfl rfl ?_
  refine ar_irem rfl (by omega) (by omega) ?_
  refine ar_iconst rfl ?_
  refine ar_isub rfl ?_
  refine ar_stI10 rfl ?_
  refine ar_aload_n rfl rfl ?_
  refine ar_iload rfl rfl ?_
  refine ar_iload rfl rfl ?_
  refine ar_iload rfl rfl ?_
  refine ar_iload rfl rfl ?_
  refine ar_bipush (x := 7) rfl rfl ?_
  refine ar_idiv rfl (by omega) (by omega) ?_
  refine ar_bipush (x := 9) rfl rfl ?_
  refine ar_irem rfl (by omega) (by omega) ?_
  refine ar_iadd rfl ?_
  refine cq_join (pc' := 159) (V := if 0 < o2 % 3 then 0 else o2 / 3 % 3) ?_ (fun K159 => ?_)
  · refine cq_join (pc' := 175) (V := if o2 / 11 % 6 = 0 then 1 else 0) ?_ (fun K175 => ?_)
    · refine ar_iload rfl rfl ?_
      refine ar_bipush (x := 13) rfl rfl ?_
      refine ar_idiv rfl (by omega) (by omega) ?_
      refine ar_iconst rfl ?_
      refine ar_irem rfl (by omega) (by omega) ?_
      refine cq_join (pc' := 197) (V := if o2 / 17 % 5 = 0 then 1 else 0) ?_ (fun K197 => ?_)
      · refine ar_cs8 rfl rfl (Nat.le_of_ble_eq_true rfl) (dx_rules (d := 0) (R := -3000000) (f := (o2 / 160 % 17)) (a := (o2 / 20 % 8 - 1)) (b := (o2 / 20 % 8 - 1 + o2 / 7 % 9)) (c := if 0 < o2 % 3 then 0 else o2 / 3 % 3) (p := if o2 / 11 % 6 = 0 then 1 else 0) (r := o2 / 13 % 4) (t := if o2 / 17 % 5 = 0 then 1 else 0) I F (by omega) (by omega) (by omega) (by split <;> omega) (by omega) (by split; exact Or.inr rfl; exact Or.inl rfl) (by split; exact Or.inr rfl; exact Or.inl rfl) (k := 1) (by { unfold kRules; rw [if_pos (by omega)] }) (Or.inl rfl) rfl) (by omega) (fun o q197 hq => ?_)
        obtain ⟨rfl, I197, Y197, F197⟩ := hq
        have H197 := LA_CY H Y197
        refine ar_stI11 rfl ?_
        refine ar_aload_n rfl rfl ?_
        refine ar_bipush (x := 7) rfl rfl ?_
        refine ar_iload rfl rfl ?_
        refine ar_iload_n rfl rfl ?_
        refine ar_bipush (x := 101) rfl rfl ?_
        refine ar_irem rfl (by omega) (by omega) ?_
        refine ar_iconst rfl ?_
        refine ar_iconst rfl ?_
        refine ar_iconst rfl ?_
        refine ar_iconst rfl ?_
        refine ar_cs8 rfl rfl (Nat.le_of_ble_eq_true rfl) (dx_back (d := 0) (R := -3000000) I197 F197 J (by omega) (by omega) (k := 1) (by { unfold kBack; rw [if_pos (by omega)] }) (by omega) rfl) (by omega) (fun o q215 hq => ?_)
        obtain ⟨rfl, I215, Y215, F215⟩ := hq
        have H215 := LA_CY H197 Y215
        refine ar_stI12 rfl ?_
        refine ar_iload rfl rfl ?_
        refine ar_iload rfl rfl ?_
        refine ar_icmp_ne rfl rfl (by omega) (by omega) (fun ht => by omega) (fun h224 => ?_)
        refine ar_iload rfl rfl ?_
        refine ar_iload rfl rfl ?_
        refine ar_aload_n rfl rfl ?_
        refine ar_iconst rfl ?_
        refine ar_ial24 (n := 7) rfl H215 (by omega) rfl (by omega) ?_
        refine ar_icmp_ge rfl rfl (by omega) (by omega) (fun h234 => ?_) (fun hf => by omega)
        refine ar_ldc (x := -3000000) rfl rfl ?_
        refine ar_icmp_ne rfl rfl (by omega) (by omega) (fun ht => by omega) (fun h243 => ?_)
        refine ar_aload_n rfl rfl ?_
        refine ar_iload rfl rfl ?_
        refine ar_iconst rfl ?_
        refine ar_iconst rfl ?_
        refine ar_iconst rfl ?_
        refine ar_iconst rfl ?_
        refine ar_iconst rfl ?_
        refine ar_iconst rfl ?_
        refine ar_cs8 rfl rfl (Nat.le_of_ble_eq_true rfl) (dx_rules (d := 0) (R := -3000000) (f := o2 / 160 % 17) (a := 5) (b := 4) (c := 0) (p := 0) (r := 0) (t := 0) I215 F215 (by omega) (by omega) (by omega) (by omega) (by omega) (Or.inl rfl) (Or.inl rfl) (k := 1) (by { unfold kRules; rw [if_pos (by omega)] }) (Or.inl rfl) rfl) (by omega) (fun o q255 hq => ?_)
        obtain ⟨rfl, I255, Y255, F255⟩ := hq
        have H255 := LA_CY H215 Y255
        refine ar_iload rfl rfl ?_
        refine ar_aload_n rfl rfl ?_
        refine ar_iconst rfl ?_
        refine ar_ial24 (n := 7) rfl H255 (by omega) rfl (by omega) ?_
        refine ar_icmp_ge rfl rfl (by omega) (by omega) (fun h263 => ?_) (fun hf => by omega)
        refine ar_ldc (x := -3000000) rfl rfl ?_
        refine ar_icmp_ne rfl rfl (by omega) (by omega) (fun ht => by omega) (fun h273 => ?_)
        refine ar_iload rfl rfl ?_
        refine ar_aload_n rfl rfl ?_
        refine ar_iconst rfl ?_
        refine ar_ial24 (n := 7) rfl H255 (by omega) rfl (by omega) ?_
        refine ar_icmp_ge rfl rfl (by omega) (by omega) (fun h281 => ?_) (fun hf => by omega)
        refine ar_iload rfl rfl ?_
        refine ar_ldc (x := -3000000) rfl rfl ?_
        refine ar_icmp_ne rfl rfl (by omega) (by omega) (fun ht => by omega) (fun h319 => ?_)
        refine ar_iconst rfl ?_
        refine ar_goto rfl rfl ?_
        exact ar_iret rfl (Or.inr ⟨rfl, by first | omega | (split <;> omega)⟩) (K _ _ ⟨rfl, _, _, CI_le I255 (by omega), ⟨F255, J, H255, P⟩, S31_t (S31_CY Y197) (S31_t (S31_CY Y215) (S31_CY Y255)), rfl⟩)
      · refine ar_iload rfl rfl ?_
        refine ar_bipush (x := 17) rfl rfl ?_
        refine ar_idiv rfl (by omega) (by omega) ?_
        refine ar_iconst rfl ?_
        refine ar_irem rfl (by omega) (by omega) ?_
        refine ar_if_ne rfl rfl (by omega) (fun h189 => ?_) (fun h189 => ?_)
        · refine ar_iconst rfl ?_
          exact K197 _ (by first | rw [if_pos (by omega)] | rw [if_neg (by omega)])
        · refine ar_iconst rfl ?_
          refine ar_goto rfl rfl ?_
          exact K197 _ (by first | rw [if_pos (by omega)] | rw [if_neg (by omega)])
    · refine ar_iload rfl rfl ?_
      refine ar_bipush (x := 11) rfl rfl ?_
      refine ar_idiv rfl (by omega) (by omega) ?_
      refine ar_bipush (x := 6) rfl rfl ?_
      refine ar_irem rfl (by omega) (by omega) ?_
      refine ar_if_ne rfl rfl (by omega) (fun h167 => ?_) (fun h167 => ?_)
      · refine ar_iconst rfl ?_
        exact K175 _ (by first | rw [if_pos (by omega)] | rw [if_neg (by omega)])
      · refine ar_iconst rfl ?_
        refine ar_goto rfl rfl ?_
        exact K175 _ (by first | rw [if_pos (by omega)] | rw [if_neg (by omega)])
  · refine ar_iload rfl rfl ?_
    refine ar_iconst rfl ?_
    refine ar_irem rfl (by omega) (by omega) ?_
    refine ar_if_le rfl rfl (by omega) (fun h146 => ?_) (fun h146 => ?_)
    · refine ar_iload rfl rfl ?_
      refine ar_iconst rfl ?_
      refine ar_idiv rfl (by omega) (by omega) ?_
      refine ar_iconst rfl ?_
      refine ar_irem rfl (by omega) (by omega) ?_
      exact K159 _ (by first | rw [if_pos (by omega)] | rw [if_neg (by omega)])
    · refine ar_iconst rfl ?_
      refine ar_goto rfl rfl ?_
      exact K159 _ (by first | rw [if_pos (by omega)] | rw [if_neg (by omega)])
theorem if_tail {d e : Nat} {q : am_A} {s : am_Z} {T : am_LT} (I : am_CI e q s) (L : am_LS q s T) {o1 o2 D : Int} {x5 x6 : Option am_V} (bD : in32 D) (b1 : 0 ≤ o1 ∧ o1 ≤ 100000) (b2 : 0 ≤ o2 ∧ o2 ≤ 100000) {Q : am_O → am_A → Prop} (K : ∀ o q', am_LR 5 e q s o q' → Q o q') : am_W2 (d + 22) m_L_isFare 103 [some (aR 8 0), some (aR 24 2), some (aR 24 5), some (aI (zI o1)), some (aI (zI o2)), x5, x6, some (aI (zI D)), some (aI (zI D)), none, none, none, none] [] q Q := by
  by_cases hw : o2 / 160 % 17 < rI s 20
  · exact if_tailA I L bD b1 b2 hw K
  · exact if_tailB I L bD b1 b2 hw K
theorem cs_isFare0 {d : Nat} {q : am_A} {e : Nat} {s : am_Z} {T : am_LT} (I : am_CI e q s) (L : am_LS q s T) {o1 o2 : Int} (b1 : 0 ≤ o1 ∧ o1 ≤ 100000) (b2 : 0 ≤ o2 ∧ o2 ≤ 100000) (ha : o2 % 4 = o2 / 4 % 5) : am_C2 (d + 22) m_L_isFare [aR 8 0, aR 24 2, aR 24 5, aI (zI o1), aI (zI o2)] q (am_LR 10 e q s) := by
  refine am_C2_i (ls := [some (aR 8 0), some (aR 24 2), some (aR 24 5), some (aI (zI o1)), some (aI (zI o2)), none, none, none, none, none, none, none, none]) rfl ?_
  obtain ⟨F, J, H, P⟩ := L
  have B := CV_B I.1
  have b20 := B.2.1 20 0 16 rfl
  obtain ⟨⟨p0, p1, p2, p3, p4, p5, p6⟩, pn, pm, pf, pb, px⟩ := id P
  have hk : kFare s (o1 % 4 - 1) (o2 % 4) (o2 / 4 % 5) (o1 / 4 % 4) (1 + o1 / 16 % 900) = 2 := by { unfold kFare; rw [if_neg (by omega), if_pos (Or.inl ha)] }
  refine ar_iload rfl rfl ?_
  refine ar_iconst rfl ?_
  refine ar_irem rfl (by omega) (by omega) ?_
  refine ar_stI5 rfl ?_
  refine ar_iload rfl rfl ?_
  refine ar_iconst rfl ?_
  refine ar_idiv rfl (by omega) (by omega) ?_
  refine ar_iconst rfl ?_
  refine ar_irem rfl (by omega) (by omega) ?_
  refine ar_stI6 rfl ?_
  refine ar_aload_n rfl rfl ?_
  refine ar_bipush (x := 6) rfl rfl ?_
  refine ar_iload_n rfl rfl ?_
  refine ar_iconst rfl ?_
  refine ar_irem rfl (by omega) (by omega) ?_
  refine ar_iconst rfl ?_
  refine ar_isub rfl ?_
  refine ar_iload rfl rfl ?_
  refine ar_iload rfl rfl ?_
  refine ar_iload_n rfl rfl ?_
  refine ar_iconst rfl ?_
  refine ar_idiv rfl (by omega) (by omega) ?_
  refine ar_iconst rfl ?_
  refine ar_irem rfl (by omega) (by omega) ?_
  refine ar_iconst rfl ?_
  refine ar_iload_n rfl rfl ?_
  refine ar_bipush (x := 16) rfl rfl ?_
  refine ar_idiv rfl (by omega) (by omega) ?_
  refine ar_sipush (x := 900) rfl rfl ?_
  refine ar_irem rfl (by omega) (by omega) ?_
  refine ar_iadd rfl ?_
  refine ar_iconst rfl ?_
  refine ar_cs8 rfl rfl (Nat.le_of_ble_eq_true rfl) (dx_fare (d := 0) (R := -2000000) I F J (by omega) (by omega) (by omega) (by omega) (by omega) hk (by omega) rfl) (by omega) (fun o q42 hq => ?_)
  obtain ⟨rfl, I42, Y42, F42⟩ := hq
  have H42 := LA_CY H Y42
  refine ar_stI7 rfl ?_
  refine ar_iload rfl rfl ?_
  refine ar_iload rfl rfl ?_
  refine ar_icmp_ne rfl rfl (by omega) (by omega) (fun ht => by omega) (fun h51 => ?_)
  refine ar_ldc (x := -2000000) rfl rfl ?_
  refine ar_goto rfl rfl ?_
  refine ar_stI8 rfl ?_
  refine ar_iload rfl rfl ?_
  refine ar_if_lt rfl rfl (by omega) (fun h79 => ?_) (fun hf => by omega)
  refine if_tail (d := d) (e := e + 1) (s := s) (T := T) I42 ⟨F42, J, H42, P⟩ (by omega) b1 b2 (fun o q2 h => ?_)
  obtain ⟨z1, s2, T2, z2, z3, z4, z5⟩ := h
  exact ⟨z1, s2, T2, CI_le z2 (by omega), z3, S31_t (S31_CY Y42) z4, z5⟩
theorem cs_isFare1 {d : Nat} {q : am_A} {e : Nat} {s : am_Z} {T : am_LT} (I : am_CI e q s) (L : am_LS q s T) {o1 o2 : Int} (b1 : 0 ≤ o1 ∧ o1 ≤ 100000) (b2 : 0 ≤ o2 ∧ o2 ≤ 100000) (ha : o2 % 4 ≠ o2 / 4 % 5) (h3 : rI s 20 = 16) : am_C2 (d + 22) m_L_isFare [aR 8 0, aR 24 2, aR 24 5, aI (zI o1), aI (zI o2)] q (am_LR 10 e q s) := by
  refine am_C2_i (ls := [some (aR 8 0), some (aR 24 2), some (aR 24 5), some (aI (zI o1)), some (aI (zI o2)), none, none, none, none, none, none, none, none]) rfl ?_
  obtain ⟨F, J, H, P⟩ := L
  have B := CV_B I.1
  have b20 := B.2.1 20 0 16 rfl
  obtain ⟨⟨p0, p1, p2, p3, p4, p5, p6⟩, pn, pm, pf, pb, px⟩ := id P
  have hk : kFare s (o1 % 4 - 1) (o2 % 4) (o2 / 4 % 5) (o1 / 4 % 4) (1 + o1 / 16 % 900) = 3 := by { unfold kFare; rw [if_neg (by omega), if_neg (by omega), if_pos h3] }
  refine ar_iload rfl rfl ?_
  refine ar_iconst rfl ?_
  refine ar_irem rfl (by omega) (by omega) ?_
  refine ar_stI5 rfl ?_
  refine ar_iload rfl rfl ?_
  refine ar_iconst rfl ?_
  refine ar_idiv rfl (by omega) (by omega) ?_
  refine ar_iconst rfl ?_
  refine ar_irem rfl (by omega) (by omega) ?_
  refine ar_stI6 rfl ?_
  refine ar_aload_n rfl rfl ?_
  refine ar_bipush (x := 6) rfl rfl ?_
  refine ar_iload_n rfl rfl ?_
  refine ar_iconst rfl ?_
  refine ar_irem rfl (by omega) (by omega) ?_
  refine ar_iconst rfl ?_
  refine ar_isub rfl ?_
  refine ar_iload rfl rfl ?_
  refine ar_iload rfl rfl ?_
  refine ar_iload_n rfl rfl ?_
  refine ar_iconst rfl ?_
  refine ar_idiv rfl (by omega) (by omega) ?_
  refine ar_iconst rfl ?_
  refine ar_irem rfl (by omega) (by omega) ?_
  refine ar_iconst rfl ?_
  refine ar_iload_n rfl rfl ?_
  refine ar_bipush (x := 16) rfl rfl ?_
  refine ar_idiv rfl (by omega) (by omega) ?_
  refine ar_sipush (x := 900) rfl rfl ?_
  refine ar_irem rfl (by omega) (by omega) ?_
  refine ar_iadd rfl ?_
  refine ar_iconst rfl ?_
  refine ar_cs8 rfl rfl (Nat.le_of_ble_eq_true rfl) (dx_fare (d := 0) (R := -1000000) I F J (by omega) (by omega) (by omega) (by omega) (by omega) hk (by omega) rfl) (by omega) (fun o q42 hq => ?_)
  obtain ⟨rfl, I42, Y42, F42⟩ := hq
  have H42 := LA_CY H Y42
  refine ar_stI7 rfl ?_
  refine ar_iload rfl rfl ?_
  refine ar_iload rfl rfl ?_
  refine ar_icmp_ne rfl rfl (by omega) (by omega) (fun h51 => ?_) (fun hf => by omega)
  refine ar_aload_n rfl rfl ?_
  refine ar_iconst rfl ?_
  refine ar_ial24 (n := 7) rfl H42 (by omega) rfl (by omega) ?_
  refine ar_bipush (x := 16) rfl rfl ?_
  refine ar_icmp_ne rfl rfl (by omega) (by omega) (fun ht => by omega) (fun h64 => ?_)
  refine ar_ldc (x := -1000000) rfl rfl ?_
  refine ar_goto rfl rfl ?_
  refine ar_stI8 rfl ?_
  refine ar_iload rfl rfl ?_
  refine ar_if_lt rfl rfl (by omega) (fun h79 => ?_) (fun hf => by omega)
  refine if_tail (d := d) (e := e + 1) (s := s) (T := T) I42 ⟨F42, J, H42, P⟩ (by omega) b1 b2 (fun o q2 h => ?_)
  obtain ⟨z1, s2, T2, z2, z3, z4, z5⟩ := h
  exact ⟨z1, s2, T2, CI_le z2 (by omega), z3, S31_t (S31_CY Y42) z4, z5⟩
theorem cs_isFare2 {d : Nat} {q : am_A} {e : Nat} {s : am_Z} {T : am_LT} (I : am_CI e q s) (L : am_LS q s T) {o1 o2 : Int} (b1 : 0 ≤ o1 ∧ o1 ≤ 100000) (b2 : 0 ≤ o2 ∧ o2 ≤ 100000) (ha : o2 % 4 ≠ o2 / 4 % 5) (h3 : rI s 20 ≠ 16) : am_C2 (d + 22) m_L_isFare [aR 8 0, aR 24 2, aR 24 5, aI (zI o1), aI (zI o2)] q (am_LR 10 e q s) := by
  refine am_C2_i (ls := [some (aR 8 0), some (aR 24 2), some (aR 24 5), some (aI (zI o1)), some (aI (zI o2)), none, none, none, none, none, none, none, none]) rfl ?_
  obtain ⟨F, J, H, P⟩ := L
  have B := CV_B I.1
  have b20 := B.2.1 20 0 16 rfl
  obtain ⟨⟨p0, p1, p2, p3, p4, p5, p6⟩, pn, pm, pf, pb, px⟩ := id P
  have hk : kFare s (o1 % 4 - 1) (o2 % 4) (o2 / 4 % 5) (o1 / 4 % 4) (1 + o1 / 16 % 900) = 0 := by { unfold kFare; rw [if_neg (by omega), if_neg (by omega), if_neg h3] }
  refine ar_iload rfl rfl ?_
  refine ar_iconst rfl ?_
  refine ar_irem rfl (by omega) (by omega) ?_
  refine ar_stI5 rfl ?_
  refine ar_iload rfl rfl ?_
  refine ar_iconst rfl ?_
  refine ar_idiv rfl (by omega) (by omega) ?_
  refine ar_iconst rfl ?_
  refine ar_irem rfl (by omega) (by omega) ?_
  refine ar_stI6 rfl ?_
  refine ar_aload_n rfl rfl ?_
  refine ar_bipush (x := 6) rfl rfl ?_
  refine ar_iload_n rfl rfl ?_
  refine ar_iconst rfl ?_
  refine ar_irem rfl (by omega) (by omega) ?_
  refine ar_iconst rfl ?_
  refine ar_isub rfl ?_
  refine ar_iload rfl rfl ?_
  refine ar_iload rfl rfl ?_
  refine ar_iload_n rfl rfl ?_
  refine ar_iconst rfl ?_
  refine ar_idiv rfl (by omega) (by omega) ?_
  refine ar_iconst rfl ?_
  refine ar_irem rfl (by omega) (by omega) ?_
  refine ar_iconst rfl ?_
  refine ar_iload_n rfl rfl ?_
  refine ar_bipush (x := 16) rfl rfl ?_
  refine ar_idiv rfl (by omega) (by omega) ?_
  refine ar_sipush (x := 900) rfl rfl ?_
  refine ar_irem rfl (by omega) (by omega) ?_
  refine ar_iadd rfl ?_
  refine ar_iconst rfl ?_
  refine ar_cs8 rfl rfl (Nat.le_of_ble_eq_true rfl) (dz_fare (d := 0) I F J (by omega) (by omega) (by omega) (by omega) (by omega) hk) (by omega) (fun o q42 hq => ?_)
  obtain ⟨rfl, I42, Y42, F42⟩ := hq
  have H42 := LA_CY H Y42
  refine ar_stI7 rfl ?_
  refine ar_iload rfl rfl ?_
  refine ar_iload rfl rfl ?_
  refine ar_icmp_ne rfl rfl (by omega) (by omega) (fun h51 => ?_) (fun hf => by omega)
  refine ar_aload_n rfl rfl ?_
  refine ar_iconst rfl ?_
  refine ar_ial24 (n := 7) rfl H42 (by omega) rfl (by omega) ?_
  refine ar_bipush (x := 16) rfl rfl ?_
  refine ar_icmp_ne rfl rfl (by omega) (by omega) (fun h64 => ?_) (fun hf => by omega)
  refine ar_aload_n rfl rfl ?_
  refine ar_iconst rfl ?_
  refine ar_ial24 (n := 7) rfl H42 (by omega) rfl (by omega) ?_
  rw [p1]
  refine ar_stI8 rfl ?_
  refine ar_iload rfl rfl ?_
  refine ar_if_lt rfl rfl (by omega) (fun ht => by omega) (fun h79 => ?_)
  refine ar_aload_n rfl rfl ?_
  refine ar_iload rfl rfl ?_
  refine ar_iconst rfl ?_
  refine ar_iload_n rfl rfl ?_
  refine ar_bipush (x := 16) rfl rfl ?_
  refine ar_idiv rfl (by omega) (by omega) ?_
  refine ar_sipush (x := 900) rfl rfl ?_
  refine ar_irem rfl (by omega) (by omega) ?_
  refine ar_iadd rfl ?_
  refine ar_ias24 (n := 16) rfl H42 (by omega) rfl (by omega) (fun q95 H95 W95 => ?_)
  refine ar_aload_n rfl rfl ?_
  refine ar_iconst rfl ?_
  refine ar_dup2 rfl rfl rfl ?_
  refine ar_ial24 (n := 7) rfl H95 (by omega) rfl (by omega) ?_
  refine ar_iconst rfl ?_
  refine ar_iadd rfl ?_
  refine ar_ias24 (n := 7) rfl H95 (by omega) rfl (by omega) (fun q102 H102 W102 => ?_)
  have WW := W24_t W95 W102
  have e51 : uT T 2 (rI s 20) (1 + o1 / 16 % 900) 5 1 + 1 = rI s 20 + 1 := by rw [uT_n (by omega), p1]
  rw [e51] at H102
  refine if_tail (d := d) (e := e + 1) (s := fareS s (o1 % 4 - 1) (o2 % 4) (o2 / 4 % 5) (o1 / 4 % 4) (1 + o1 / 16 % 900)) (T := _) (WW.1 _ _ I42) ⟨WW.2.1 F42, JJ_fare J, H102, PL_fare P⟩ (by omega) b1 b2 (fun o q2 h => ?_)
  obtain ⟨z1, s2, T2, z2, z3, z4, z5⟩ := h
  exact ⟨z1, s2, T2, CI_le z2 (by omega), z3, S31_t (S31_CY Y42) (S31_t WW.2.2 z4), z5⟩
theorem cs_isFare {d : Nat} {q : am_A} {e : Nat} {s : am_Z} {T : am_LT} (I : am_CI e q s) (L : am_LS q s T) {o1 o2 : Int} (b1 : 0 ≤ o1 ∧ o1 ≤ 100000) (b2 : 0 ≤ o2 ∧ o2 ≤ 100000) : am_C2 (d + 22) m_L_isFare [aR 8 0, aR 24 2, aR 24 5, aI (zI o1), aI (zI o2)] q (am_LR 10 e q s) := by
  by_cases ha : o2 % 4 = o2 / 4 % 5
  · exact cs_isFare0 (d := d) I L b1 b2 ha
  · by_cases h3 : rI s 20 = 16
    · exact cs_isFare1 (d := d) I L b1 b2 ha h3
    · exact cs_isFare2 (d := d) I L b1 b2 ha h3
end

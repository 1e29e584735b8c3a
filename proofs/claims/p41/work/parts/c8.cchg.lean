noncomputable section
theorem ar_iremm {d y pc p : Nat} {ls : List (Option am_V)} {st : List am_V} {q : am_A} {Q : am_O → am_A → Prop} (hc : am_c y pc = some (.irem, p)) (k : am_W2 d y p ls (aI (zI (-1)) :: st) q Q) : am_W2 d y pc ls (aI (zI 10) :: aI (zI (-1)) :: st) q Q := fun h R => s_irem hc (by decide) (by rw [show zI (-1) - zI (-1) / zI 10 * zI 10 = zI (-1) from by decide]; exact k h R)
theorem vd_Z {t : am_Z} {b v x : Int} {j : Nat} (h : j ≠ 47 ∧ j ≠ 55) : rA (voidS (wA t 47 b v) b) j x = rA t j x := by
  unfold voidS
  rw [wB_A, if_neg (fun y => h.2 y.1), wA_A, if_neg (fun y => h.1 y.1)]
theorem cbV_b {s : am_Z} (B : in_S s) {b : Int} : 0 ≤ cbV s b ∧ cbV s b ≤ 25000 := by
  have z1 := sumI_b (a := 0) (n := 4) (f := cbS s b) (M := 5000) (fun i => by
    have := B.1 60 (4 * b + i) 0 5000 rfl
    unfold cbS
    split <;> omega)
  have b52 := B.1 52 b 0 10 rfl
  have z2 := sumI_b (a := 10 * b) (n := (rA s 52 b).toNat) (f := gbT s) (M := 500) (fun i => by
    have := B.1 58 i 0 500 rfl
    unfold gbT
    split <;> omega)
  unfold cbV
  omega
theorem pfo_b {s : am_Z} (B : in_S s) {b : Int} : (0 ≤ sumI (4 * b) 4 (rA s 59) ∧ sumI (4 * b) 4 (rA s 59) ≤ 20000) ∧ sumI (4 * b) 4 (rA s 59) ≤ pfoS s b ∧ pfoS s b ≤ 25000 := by
  have z1 := sumI_b (a := 4 * b) (n := 4) (f := rA s 59) (M := 5000) (fun i => B.1 59 i 0 5000 rfl)
  have b52 := B.1 52 b 0 10 rfl
  have z2 := sumI_b (a := 10 * b) (n := (rA s 52 b).toNat) (f := rA s 58) (M := 500) (fun i => B.1 58 i 0 500 rfl)
  unfold pfoS
  omega
theorem chk_s {s : am_Z} (J : am_JJ s) (B : in_S s) {b c : Int} (hc : cpP s b c) (h : chkP s b c) : rA s 45 b ≤ sumI 0 (rI s 44).toNat (chF (wA s 55 (10 * b + c) 1) (rA s 53 (10 * b + c))) ∧ sumI 0 (rI s 44).toNat (chF (wA s 55 (10 * b + c) 1) (rA s 53 (10 * b + c))) ≤ 400 := by
  have J1 := JJ_check J B hc.1.1 hc.2 h.1 h.2.1
  have b44 := B.2.1 44 0 40 rfl
  have b52 := B.1 52 b 0 10 rfl
  have B1 : in_S (wA s 55 (10 * b + c) 1) := in_S_A B (fun lo hi z => by cases z; omega) (fun z => by cases z)
  have hb : ((b.toNat : Nat) : Int) = b := by have := hc.1.1; omega
  have hc' : ((c.toNat : Nat) : Int) = c := by have := hc.2.1; omega
  have z := (ch_cf B1 J1.1.2.1.2.2.1 J1.1.2.1.2.2.2.1 (b := b.toNat) (l := rA s 53 (10 * b + c)) (by rw [hb]; exact hc.1.2)).1
  rw [hb] at z
  have hcf : cfS (wA s 55 (10 * b + c) 1) b (rA s 53 (10 * b + c)) ≠ -1 := by
    unfold cfS
    rw [if_pos (show rA (wA s 55 (10 * b + c) 1) 47 b = 1 from h.1)]
    refine cfN_ex (k := c.toNat) (by show c.toNat < (rA s 52 b).toNat; have := hc.2; omega) ⟨?_, ?_⟩
    · rw [hc']
      rfl
    · rw [hc', wA_A, if_pos ⟨rfl, rfl⟩]
  have y : chF (wA s 55 (10 * b + c) 1) (rA s 53 (10 * b + c)) b = rA s 45 b := if_pos (z.mp hcf)
  have bd : ∀ i, 0 ≤ chF (wA s 55 (10 * b + c) 1) (rA s 53 (10 * b + c)) i ∧ chF (wA s 55 (10 * b + c) 1) (rA s 53 (10 * b + c)) i ≤ 9 := fun i => by
    have := B1.1 45 i 0 9 rfl
    unfold chF
    split <;> omega
  have z2 := sumI_at (a := 0) (f := chF (wA s 55 (10 * b + c) 1) (rA s 53 (10 * b + c))) (fun i => (bd i).1) (i := b) (rI s 44).toNat (by omega) (by omega)
  have z3 := sumI_b (a := 0) (n := (rI s 44).toNat) (f := chF (wA s 55 (10 * b + c) 1) (rA s 53 (10 * b + c))) (M := 9) bd
  rw [y] at z2
  omega
theorem KF_47 {s s' : am_Z} (m : ∀ j x, j ≠ 47 → j ≠ 55 → rA s' j x = rA s j x) (n : s'.2 = s.2) : am_KF s s' := KF_cg (fun j x h => m j x (by omega) (by omega)) (fun j _ => congrFun n j)
theorem PL_part {s : am_Z} {T T' : am_LT} {b n : Int} (P : am_PL s T) (hb : 0 ≤ b ∧ b < rI s 44) (t5 : T' 5 4 = rI s 44 + 1) (t3 : T' 3 (rI s 44) = T 3 b) (t4 : T' 4 (rI s 44) = T 4 b) (eo : ∀ (i : Nat) (x : Int), (i ≠ 3 ∨ x ≠ rI s 44) → (i ≠ 4 ∨ x ≠ rI s 44) → (i ≠ 5 ∨ x ≠ 4) → T' i x = T i x) : am_PL (parS s b n) T' := by
  obtain ⟨⟨p0, p1, p2, p3, p4, p5, p6⟩, pn, pm, pf, pb, px⟩ := P
  have nn : ∀ j, j ≠ 44 → rI (parS s b n) j = rI s j := fun j h => par_I h
  have lo : ∀ j x, (j < 45 ∨ 60 < j) → rA (parS s b n) j x = rA s j x := fun j x h => par_lo h
  refine ⟨⟨by rw [nn 3 (by omega), eo _ _ (by omega) (by omega) (by omega)]; exact p0, by rw [nn 20 (by omega), eo _ _ (by omega) (by omega) (by omega)]; exact p1, by rw [nn 0 (by omega), eo _ _ (by omega) (by omega) (by omega)]; exact p2, by rw [nn 33 (by omega), eo _ _ (by omega) (by omega) (by omega)]; exact p3, by rw [par_44, t5], by rw [nn 61 (by omega), eo _ _ (by omega) (by omega) (by omega)]; exact p5, P6_cg p6 (nn 68 (by omega)) (nn 0 (by omega)) (eo 5 6 (by omega) (by omega) (by omega))⟩, fun f h1 h2 => ?_, fun f c h1 h2 h3 h4 => ?_, fun i h1 h2 => ?_, fun k h1 h2 => ?_, fun w h1 h2 => ?_⟩
  · rw [nn 3 (by omega)] at h2
    rw [lo 4 _ (by omega), lo 5 _ (by omega), lo 6 _ (by omega), lo 8 _ (by omega), lo 9 _ (by omega), eo 0 _ (by omega) (by omega) (by omega), eo 0 _ (by omega) (by omega) (by omega), eo 0 _ (by omega) (by omega) (by omega), eo 0 _ (by omega) (by omega) (by omega), eo 0 _ (by omega) (by omega) (by omega)]
    exact pn f h1 h2
  · rw [nn 3 (by omega)] at h2
    rw [lo 14 _ (by omega), eo 1 _ (by omega) (by omega) (by omega)]
    exact pm f c h1 h2 h3 h4
  · rw [nn 20 (by omega)] at h2
    rw [lo 25 _ (by omega), eo 2 _ (by omega) (by omega) (by omega)]
    exact pf i h1 h2
  · rw [par_44] at h2
    obtain ⟨a, a1, a2, a3, a4, a5, a6⟩ := par_src (n := n) hb k ⟨h1, h2⟩
    rw [a4 46 (by omega), sumI_h (f := rA (parS s b n) 59) (g := rA s 59) (c := 4 * a) 4 (fun i hi => a6 59 i (by omega) (by omega))]
    by_cases e : k = rI s 44
    · rw [e, t3, t4, a2 e]
      exact pb b hb.1 hb.2
    · rw [eo 3 _ (by omega) (by omega) (by omega), eo 4 _ (by omega) (by omega) (by omega), a3 e]
      exact pb k h1 (by omega)
  · rw [nn 61 (by omega)] at h2
    rw [lo 63 _ (by omega), eo 7 _ (by omega) (by omega) (by omega)]
    exact px w h1 h2
theorem ic_0N {d e : Nat} {q : am_A} {s : am_Z} {T : am_LT} (I : am_CI e q s) (L : am_LS q s T) {o1 o2 b : Int} (b1 : 0 ≤ o1 ∧ o1 ≤ 100000) (b2 : 0 ≤ o2 ∧ o2 ≤ 100000) (hb : b = rI s 44)  {Q : am_O → am_A → Prop} (K : ∀ o q', am_LR 6 e q s o q' → Q o q') : am_W2 (d + 22) m_L_isChanged 10 [some (aR 8 0), some (aR 24 3), some (aR 24 4), some (aR 24 5), some (aI (zI 0)), some (aI (zI o1)), some (aI (zI o2)), some (aI (zI b)), none, none, none, none, none, none, none, none] [] q Q := by
  obtain ⟨F, J, H, P⟩ := L
  have B := CV_B I.1
  have b44 := B.2.1 44 0 40 rfl
  obtain ⟨⟨p0, p1, p2, p3, p4, p5, p6⟩, pn, pm, pf, pb, px⟩ := id P
  refine ar_iload rfl rfl ?_
  refine ar_aload_n rfl rfl ?_
  refine ar_iconst rfl ?_
  refine ar_ial24 (n := 7) rfl H (by omega) rfl (by omega) ?_
  refine ar_icmp_ge rfl rfl (by omega) (by omega) (fun h15 => ?_) (fun hf => by omega)
  refine ar_iconst rfl ?_
  refine ar_stI8 rfl ?_
  refine ar_iload rfl rfl ?_
  refine ar_if_eq rfl rfl (by omega) (fun h27 => ?_) (fun hf => by omega)
  refine ar_iconst rfl ?_
  refine ar_stI9 rfl ?_
  refine ar_iload rfl rfl ?_
  refine ar_sipush (x := 1000) rfl rfl ?_
  refine ar_idivr rfl (by omega) ?_
  rw [show iDiv (-1) 1000 = 0 from by decide]
  refine ar_stI10 rfl ?_
  refine ar_iload rfl rfl ?_
  refine ar_if_ne rfl rfl (by omega) (fun ht => by omega) (fun h52 => ?_)
  refine ar_aload_n rfl rfl ?_
  refine ar_bipush (x := 17) rfl rfl ?_
  refine ar_iload rfl rfl ?_
  refine ar_iconst rfl ?_
  refine ar_iconst rfl ?_
  refine ar_iconst rfl ?_
  refine ar_iconst rfl ?_
  refine ar_iconst rfl ?_
  refine ar_cs8 rfl rfl (Nat.le_of_ble_eq_true rfl) (dx_ticket (d := 0) (R := -3000000) I F J (by omega) (k := 1) (if_pos (by omega)) (by omega) rfl) (by omega) (fun o q65 hq => ?_)
  obtain ⟨rfl, I65, Y65, F65⟩ := hq
  have H65 := LA_CY H Y65
  refine ar_stI11 rfl ?_
  refine ar_iload rfl rfl ?_
  refine ar_if_ne rfl rfl (by omega) (fun ht => by omega) (fun h72 => ?_)
  refine ar_iload rfl rfl ?_
  refine ar_ldc (x := -3000000) rfl rfl ?_
  refine ar_icmp_ne rfl rfl (by omega) (by omega) (fun ht => by omega) (fun h79 => ?_)
  refine ar_iconst rfl ?_
  refine ar_goto rfl rfl ?_
  exact ar_iret rfl (Or.inr ⟨rfl, by first | omega | (split <;> omega)⟩) (K _ _ ⟨rfl, s, T, CI_le I65 (by omega), ⟨F65, J, H65, P⟩, S31_CY Y65, rfl⟩)
theorem ic_0T {d e : Nat} {q : am_A} {s : am_Z} {T : am_LT} (I : am_CI e q s) (L : am_LS q s T) {o1 o2 b : Int} (b1 : 0 ≤ o1 ∧ o1 ≤ 100000) (b2 : 0 ≤ o2 ∧ o2 ≤ 100000) (hb : 0 ≤ b ∧ b < rI s 44) (h47 : rA s 47 b ≠ 0) {Q : am_O → am_A → Prop} (K : ∀ o q', am_LR 6 e q s o q' → Q o q') : am_W2 (d + 22) m_L_isChanged 10 [some (aR 8 0), some (aR 24 3), some (aR 24 4), some (aR 24 5), some (aI (zI 0)), some (aI (zI o1)), some (aI (zI o2)), some (aI (zI b)), none, none, none, none, none, none, none, none] [] q Q := by
  obtain ⟨F, J, H, P⟩ := L
  have B := CV_B I.1
  have b44 := B.2.1 44 0 40 rfl
  obtain ⟨⟨p0, p1, p2, p3, p4, p5, p6⟩, pn, pm, pf, pb, px⟩ := id P
  have c47 := B.1 47 b 0 3 rfl
  have c52 := B.1 52 b 0 10 rfl
  have c45 := B.1 45 b 0 9 rfl
  have c46 := B.1 46 b (-1) 4 rfl
  have c45b := J.1.2.1.2.2.2.2.1 b.toNat (by omega)
  rw [show ((b.toNat : Nat) : Int) = b by omega] at c45b
  refine ar_iload rfl rfl ?_
  refine ar_aload_n rfl rfl ?_
  refine ar_iconst rfl ?_
  refine ar_ial24 (n := 7) rfl H (by omega) rfl (by omega) ?_
  refine ar_icmp_ge rfl rfl (by omega) (by omega) (fun ht => by omega) (fun h15 => ?_)
  refine ar_iconst rfl ?_
  refine ar_goto rfl rfl ?_
  refine ar_stI8 rfl ?_
  refine ar_iload rfl rfl ?_
  refine ar_if_eq rfl rfl (by omega) (fun ht => by omega) (fun h27 => ?_)
  refine ar_aload_n rfl rfl ?_
  refine ar_iload rfl rfl ?_
  refine ar_cv1 rfl rfl rfl (Nat.le_of_ble_eq_true rfl) (T2_is (cs_booking (d := 0) I.1 (by omega)) ⟨by omega, by omega⟩) (by omega) (fun o q33 hq => am_B2_is ?_ hq)
  refine ar_goto rfl rfl ?_
  refine ar_stI9 rfl ?_
  refine ar_iload rfl rfl ?_
  refine ar_sipush (x := 1000) rfl rfl ?_
  refine ar_idiv rfl (by omega) (by omega) ?_
  refine ar_stI10 rfl ?_
  refine ar_iload rfl rfl ?_
  refine ar_if_ne rfl rfl (by omega) (fun ht => by omega) (fun h52 => ?_)
  refine ar_aload_n rfl rfl ?_
  refine ar_bipush (x := 17) rfl rfl ?_
  refine ar_iload rfl rfl ?_
  refine ar_iconst rfl ?_
  refine ar_iconst rfl ?_
  refine ar_iconst rfl ?_
  refine ar_iconst rfl ?_
  refine ar_iconst rfl ?_
  refine ar_cs8 rfl rfl (Nat.le_of_ble_eq_true rfl) (dx_ticket (d := 0) (R := -1000000) I F J (by omega) (k := 2) (by unfold kTicket; rw [if_neg (by omega), if_neg h47]) (by omega) rfl) (by omega) (fun o q65 hq => ?_)
  obtain ⟨rfl, I65, Y65, F65⟩ := hq
  have H65 := LA_CY H Y65
  refine ar_stI11 rfl ?_
  refine ar_iload rfl rfl ?_
  refine ar_if_ne rfl rfl (by omega) (fun h72 => ?_) (fun hf => by omega)
  refine ar_iload rfl rfl ?_
  refine ar_if_le rfl rfl (by omega) (fun ht => by omega) (fun h92 => ?_)
  refine ar_iload rfl rfl ?_
  refine ar_ldc (x := -1000000) rfl rfl ?_
  refine ar_icmp_ne rfl rfl (by omega) (by omega) (fun ht => by omega) (fun h99 => ?_)
  refine ar_iconst rfl ?_
  refine ar_goto rfl rfl ?_
  exact ar_iret rfl (Or.inr ⟨rfl, by first | omega | (split <;> omega)⟩) (K _ _ ⟨rfl, s, T, CI_le I65 (by omega), ⟨F65, J, H65, P⟩, S31_CY Y65, rfl⟩)
theorem ic_0O {d e : Nat} {q : am_A} {s : am_Z} {T : am_LT} (I : am_CI e q s) (L : am_LS q s T) {o1 o2 b : Int} (b1 : 0 ≤ o1 ∧ o1 ≤ 100000) (b2 : 0 ≤ o2 ∧ o2 ≤ 100000) (hb : 0 ≤ b ∧ b < rI s 44) (h47 : rA s 47 b = 0) {Q : am_O → am_A → Prop} (K : ∀ o q', am_LR 6 e q s o q' → Q o q') : am_W2 (d + 22) m_L_isChanged 10 [some (aR 8 0), some (aR 24 3), some (aR 24 4), some (aR 24 5), some (aI (zI 0)), some (aI (zI o1)), some (aI (zI o2)), some (aI (zI b)), none, none, none, none, none, none, none, none] [] q Q := by
  obtain ⟨F, J, H, P⟩ := L
  have B := CV_B I.1
  have b44 := B.2.1 44 0 40 rfl
  obtain ⟨⟨p0, p1, p2, p3, p4, p5, p6⟩, pn, pm, pf, pb, px⟩ := id P
  have c47 := B.1 47 b 0 3 rfl
  have c52 := B.1 52 b 0 10 rfl
  have c45 := B.1 45 b 0 9 rfl
  have c46 := B.1 46 b (-1) 4 rfl
  have c45b := J.1.2.1.2.2.2.2.1 b.toNat (by omega)
  rw [show ((b.toNat : Nat) : Int) = b by omega] at c45b
  have J1 := JJ_ticket J h47
  obtain ⟨f1, f2, f3⟩ := pfo_b B (b := b)
  have m1 := Int.mul_le_mul_of_nonneg_left f2 c45.1
  have m2 := mul_b c45 (⟨by omega, f3⟩ : 0 ≤ pfoS s b ∧ pfoS s b ≤ 25000)
  have m3 := mul_b c45 f1
  have e47 : rA (wA s 47 b 1) 47 b = 1 := if_pos ⟨rfl, rfl⟩
  have e52 : rA (wA s 47 b 1) 52 b = rA s 52 b := wA_ne (by omega)
  have e45 : rA (wA s 47 b 1) 45 b = rA s 45 b := wA_ne (by omega)
  refine ar_iload rfl rfl ?_
  refine ar_aload_n rfl rfl ?_
  refine ar_iconst rfl ?_
  refine ar_ial24 (n := 7) rfl H (by omega) rfl (by omega) ?_
  refine ar_icmp_ge rfl rfl (by omega) (by omega) (fun ht => by omega) (fun h15 => ?_)
  refine ar_iconst rfl ?_
  refine ar_goto rfl rfl ?_
  refine ar_stI8 rfl ?_
  refine ar_iload rfl rfl ?_
  refine ar_if_eq rfl rfl (by omega) (fun ht => by omega) (fun h27 => ?_)
  refine ar_aload_n rfl rfl ?_
  refine ar_iload rfl rfl ?_
  refine ar_cv1 rfl rfl rfl (Nat.le_of_ble_eq_true rfl) (T2_is (cs_booking (d := 0) I.1 (by omega)) ⟨by omega, by omega⟩) (by omega) (fun o q33 hq => am_B2_is ?_ hq)
  refine ar_goto rfl rfl ?_
  refine ar_stI9 rfl ?_
  refine ar_iload rfl rfl ?_
  refine ar_sipush (x := 1000) rfl rfl ?_
  refine ar_idiv rfl (by omega) (by omega) ?_
  refine ar_stI10 rfl ?_
  refine ar_iload rfl rfl ?_
  refine ar_if_ne rfl rfl (by omega) (fun ht => by omega) (fun h52 => ?_)
  refine ar_aload_n rfl rfl ?_
  refine ar_bipush (x := 17) rfl rfl ?_
  refine ar_iload rfl rfl ?_
  refine ar_iconst rfl ?_
  refine ar_iconst rfl ?_
  refine ar_iconst rfl ?_
  refine ar_iconst rfl ?_
  refine ar_iconst rfl ?_
  refine ar_cs8 rfl rfl (Nat.le_of_ble_eq_true rfl) (dz_ticket (d := 0) I F J (by omega) (by unfold kTicket; rw [if_neg (by omega), if_pos h47])) (by omega) (fun o q65 hq => ?_)
  obtain ⟨rfl, I65, Y65, F65⟩ := hq
  have H65 := LA_CY H Y65
  refine ar_stI11 rfl ?_
  refine ar_iload rfl rfl ?_
  refine ar_if_ne rfl rfl (by omega) (fun h72 => ?_) (fun hf => by omega)
  refine ar_iload rfl rfl ?_
  refine ar_if_le rfl rfl (by omega) (fun h92 => ?_) (fun hf => by omega)
  refine ar_iload rfl rfl ?_
  refine ar_iload rfl rfl ?_
  refine ar_bipush (x := 10) rfl rfl ?_
  refine ar_irem rfl (by omega) (by omega) ?_
  rw [show (1000 * rA s 47 b + 10 * rA s 52 b + rA s 45 b) % 10 = rA s 45 b by omega]
  refine ar_aload_n rfl rfl ?_
  refine ar_iload rfl rfl ?_
  refine ar_ial24 (n := 40) rfl H65 (by omega) rfl (by omega) ?_
  rw [(pb b hb.1 hb.2).1]
  refine ar_imul rfl ?_
  refine ar_icmp_lt rfl rfl (by omega) (by omega) (fun ht => by omega) (fun h122 => ?_)
  refine ar_aload_n rfl rfl ?_
  refine ar_iload rfl rfl ?_
  refine ar_cv1 rfl rfl rfl (Nat.le_of_ble_eq_true rfl) (T2_is (cs_booking (d := 0) I65.1 (by omega)) ⟨hb.1, hb.2⟩) (by omega) (fun o q128 hq => am_B2_is ?_ hq)
  rw [e47, e52, e45]
  refine ar_iload rfl rfl ?_
  refine ar_sipush (x := 1000) rfl rfl ?_
  refine ar_iadd rfl ?_
  refine ar_icmp_ne rfl rfl (by omega) (by omega) (fun ht => by omega) (fun h137 => ?_)
  refine ar_iconst rfl ?_
  refine ar_goto rfl rfl ?_
  exact ar_iret rfl (Or.inr ⟨rfl, by first | omega | (split <;> omega)⟩) (K _ _ ⟨rfl, _, T, CI_le I65 (by omega), ⟨F65, J1, H65, PL_KF P (KF_47 (fun j x h _ => wA_ne h) rfl) rfl rfl⟩, S31_CY Y65, rfl⟩)
theorem ic_1N {d e : Nat} {q : am_A} {s : am_Z} {T : am_LT} (I : am_CI e q s) (L : am_LS q s T) {o1 o2 b : Int} (b1 : 0 ≤ o1 ∧ o1 ≤ 100000) (b2 : 0 ≤ o2 ∧ o2 ≤ 100000) (hb : b = rI s 44)  {Q : am_O → am_A → Prop} (K : ∀ o q', am_LR 6 e q s o q' → Q o q') : am_W2 (d + 22) m_L_isChanged 10 [some (aR 8 0), some (aR 24 3), some (aR 24 4), some (aR 24 5), some (aI (zI 1)), some (aI (zI o1)), some (aI (zI o2)), some (aI (zI b)), none, none, none, none, none, none, none, none] [] q Q := by
  obtain ⟨F, J, H, P⟩ := L
  have B := CV_B I.1
  have b44 := B.2.1 44 0 40 rfl
  obtain ⟨⟨p0, p1, p2, p3, p4, p5, p6⟩, pn, pm, pf, pb, px⟩ := id P
  refine ar_iload rfl rfl ?_
  refine ar_aload_n rfl rfl ?_
  refine ar_iconst rfl ?_
  refine ar_ial24 (n := 7) rfl H (by omega) rfl (by omega) ?_
  refine ar_icmp_ge rfl rfl (by omega) (by omega) (fun h15 => ?_) (fun hf => by omega)
  refine ar_iconst rfl ?_
  refine ar_stI8 rfl ?_
  refine ar_iload rfl rfl ?_
  refine ar_if_eq rfl rfl (by omega) (fun h27 => ?_) (fun hf => by omega)
  refine ar_iconst rfl ?_
  refine ar_stI9 rfl ?_
  refine ar_iload rfl rfl ?_
  refine ar_sipush (x := 1000) rfl rfl ?_
  refine ar_idivr rfl (by omega) ?_
  rw [show iDiv (-1) 1000 = 0 from by decide]
  refine ar_stI10 rfl ?_
  refine ar_iload rfl rfl ?_
  refine ar_if_ne rfl rfl (by omega) (fun h52 => ?_) (fun hf => by omega)
  refine ar_iload rfl rfl ?_
  refine ar_iconst rfl ?_
  refine ar_icmp_ne rfl rfl (by omega) (by omega) (fun ht => by omega) (fun h149 => ?_)
  refine ar_iload rfl rfl ?_
  refine ar_iconst rfl ?_
  refine ar_irem rfl (by omega) (by omega) ?_
  refine ar_stI11 rfl ?_
  refine ar_aload_n rfl rfl ?_
  refine ar_bipush (x := 18) rfl rfl ?_
  refine ar_iload rfl rfl ?_
  refine ar_iload rfl rfl ?_
  refine ar_iconst rfl ?_
  refine ar_iconst rfl ?_
  refine ar_iconst rfl ?_
  refine ar_iconst rfl ?_
  refine ar_cs8 rfl rfl (Nat.le_of_ble_eq_true rfl) (dx_part (d := 0) (R := -3000000) I F J (by omega) (by omega) (k := 1) (if_pos (by omega)) (by omega) rfl) (by omega) (fun o q169 hq => ?_)
  obtain ⟨rfl, I169, Y169, F169⟩ := hq
  have H169 := LA_CY H Y169
  refine ar_stI12 rfl ?_
  refine cq_join (pc' := 194) (V := 0) ?_ (fun K194 => ?_)
  · refine ar_stI13 rfl ?_
    refine ar_iload rfl rfl ?_
    refine ar_if_ne rfl rfl (by omega) (fun ht => by omega) (fun h198 => ?_)
    refine ar_ldc (x := -3000000) rfl rfl ?_
    refine ar_goto rfl rfl ?_
    refine ar_stI14 rfl ?_
    refine ar_iload rfl rfl ?_
    refine ar_if_ge rfl rfl (by omega) (fun ht => by omega) (fun h242 => ?_)
    refine ar_iload rfl rfl ?_
    refine ar_iload rfl rfl ?_
    refine ar_icmp_ne rfl rfl (by omega) (by omega) (fun ht => by omega) (fun h249 => ?_)
    refine ar_iconst rfl ?_
    refine ar_goto rfl rfl ?_
    exact ar_iret rfl (Or.inr ⟨rfl, by first | omega | (split <;> omega)⟩) (K _ _ ⟨rfl, s, T, CI_le I169 (by omega), ⟨F169, J, H169, P⟩, S31_CY Y169, rfl⟩)
  · refine ar_iload rfl rfl ?_
    refine ar_if_le rfl rfl (by omega) (fun h176 => ?_) (fun h176 => ?_)
    · refine ar_iconst rfl ?_
      exact K194 _ (by first | rfl | omega)
    · refine ar_iload rfl rfl ?_
      refine ar_iload rfl rfl ?_
      refine ar_bipush (x := 10) rfl rfl ?_
      refine ar_iremm rfl ?_
      refine ar_icmp_ge rfl rfl (by omega) (by omega) (fun h186 => ?_) (fun h186 => ?_)
      · refine ar_iconst rfl ?_
        exact K194 _ (by first | rfl | omega)
      · refine ar_iconst rfl ?_
        refine ar_goto rfl rfl ?_
        exact K194 _ (by first | rfl | omega)
theorem ic_1B {d e : Nat} {q : am_A} {s : am_Z} {T : am_LT} (I : am_CI e q s) (L : am_LS q s T) {o1 o2 b : Int} (b1 : 0 ≤ o1 ∧ o1 ≤ 100000) (b2 : 0 ≤ o2 ∧ o2 ≤ 100000) (hb : 0 ≤ b ∧ b < rI s 44) (hn : ¬ (1 ≤ o2 % 5 ∧ o2 % 5 ≤ rA s 45 b - 1)) {Q : am_O → am_A → Prop} (K : ∀ o q', am_LR 6 e q s o q' → Q o q') : am_W2 (d + 22) m_L_isChanged 10 [some (aR 8 0), some (aR 24 3), some (aR 24 4), some (aR 24 5), some (aI (zI 1)), some (aI (zI o1)), some (aI (zI o2)), some (aI (zI b)), none, none, none, none, none, none, none, none] [] q Q := by
  obtain ⟨F, J, H, P⟩ := L
  have B := CV_B I.1
  have b44 := B.2.1 44 0 40 rfl
  obtain ⟨⟨p0, p1, p2, p3, p4, p5, p6⟩, pn, pm, pf, pb, px⟩ := id P
  have c47 := B.1 47 b 0 3 rfl
  have c52 := B.1 52 b 0 10 rfl
  have c45 := B.1 45 b 0 9 rfl
  have c46 := B.1 46 b (-1) 4 rfl
  have c45b := J.1.2.1.2.2.2.2.1 b.toNat (by omega)
  rw [show ((b.toNat : Nat) : Int) = b by omega] at c45b
  refine ar_iload rfl rfl ?_
  refine ar_aload_n rfl rfl ?_
  refine ar_iconst rfl ?_
  refine ar_ial24 (n := 7) rfl H (by omega) rfl (by omega) ?_
  refine ar_icmp_ge rfl rfl (by omega) (by omega) (fun ht => by omega) (fun h15 => ?_)
  refine ar_iconst rfl ?_
  refine ar_goto rfl rfl ?_
  refine ar_stI8 rfl ?_
  refine ar_iload rfl rfl ?_
  refine ar_if_eq rfl rfl (by omega) (fun ht => by omega) (fun h27 => ?_)
  refine ar_aload_n rfl rfl ?_
  refine ar_iload rfl rfl ?_
  refine ar_cv1 rfl rfl rfl (Nat.le_of_ble_eq_true rfl) (T2_is (cs_booking (d := 0) I.1 (by omega)) ⟨by omega, by omega⟩) (by omega) (fun o q33 hq => am_B2_is ?_ hq)
  refine ar_goto rfl rfl ?_
  refine ar_stI9 rfl ?_
  refine ar_iload rfl rfl ?_
  refine ar_sipush (x := 1000) rfl rfl ?_
  refine ar_idiv rfl (by omega) (by omega) ?_
  refine ar_stI10 rfl ?_
  refine ar_iload rfl rfl ?_
  refine ar_if_ne rfl rfl (by omega) (fun h52 => ?_) (fun hf => by omega)
  refine ar_iload rfl rfl ?_
  refine ar_iconst rfl ?_
  refine ar_icmp_ne rfl rfl (by omega) (by omega) (fun ht => by omega) (fun h149 => ?_)
  refine ar_iload rfl rfl ?_
  refine ar_iconst rfl ?_
  refine ar_irem rfl (by omega) (by omega) ?_
  refine ar_stI11 rfl ?_
  refine ar_aload_n rfl rfl ?_
  refine ar_bipush (x := 18) rfl rfl ?_
  refine ar_iload rfl rfl ?_
  refine ar_iload rfl rfl ?_
  refine ar_iconst rfl ?_
  refine ar_iconst rfl ?_
  refine ar_iconst rfl ?_
  refine ar_iconst rfl ?_
  refine ar_cs8 rfl rfl (Nat.le_of_ble_eq_true rfl) (dx_part (d := 0) (R := -2000000) I F J (by omega) (by omega) (k := 2) (by unfold kPart; rw [if_neg (by omega), if_pos hn]) (by omega) rfl) (by omega) (fun o q169 hq => ?_)
  obtain ⟨rfl, I169, Y169, F169⟩ := hq
  have H169 := LA_CY H Y169
  refine ar_stI12 rfl ?_
  refine cq_join (pc' := 194) (V := 0) ?_ (fun K194 => ?_)
  · refine ar_stI13 rfl ?_
    refine ar_iload rfl rfl ?_
    refine ar_if_ne rfl rfl (by omega) (fun h198 => ?_) (fun hf => by omega)
    refine ar_iload rfl rfl ?_
    refine ar_if_ne rfl rfl (by omega) (fun ht => by omega) (fun h208 => ?_)
    refine ar_ldc (x := -2000000) rfl rfl ?_
    refine ar_goto rfl rfl ?_
    refine ar_stI14 rfl ?_
    refine ar_iload rfl rfl ?_
    refine ar_if_ge rfl rfl (by omega) (fun ht => by omega) (fun h242 => ?_)
    refine ar_iload rfl rfl ?_
    refine ar_iload rfl rfl ?_
    refine ar_icmp_ne rfl rfl (by omega) (by omega) (fun ht => by omega) (fun h249 => ?_)
    refine ar_iconst rfl ?_
    refine ar_goto rfl rfl ?_
    exact ar_iret rfl (Or.inr ⟨rfl, by first | omega | (split <;> omega)⟩) (K _ _ ⟨rfl, s, T, CI_le I169 (by omega), ⟨F169, J, H169, P⟩, S31_CY Y169, rfl⟩)
  · refine ar_iload rfl rfl ?_
    refine ar_if_le rfl rfl (by omega) (fun h176 => ?_) (fun h176 => ?_)
    · refine ar_iconst rfl ?_
      exact K194 _ (by first | rfl | omega)
    · refine ar_iload rfl rfl ?_
      refine ar_iload rfl rfl ?_
      refine ar_bipush (x := 10) rfl rfl ?_
      refine ar_irem rfl (by omega) (by omega) ?_
      refine ar_icmp_ge rfl rfl (by omega) (by omega) (fun h186 => ?_) (fun h186 => ?_)
      · refine ar_iconst rfl ?_
        exact K194 _ (by first | rfl | omega)
      · refine ar_iconst rfl ?_
        refine ar_goto rfl rfl ?_
        exact K194 _ (by first | rfl | omega)
theorem ic_1I {d e : Nat} {q : am_A} {s : am_Z} {T : am_LT} (I : am_CI e q s) (L : am_LS q s T) {o1 o2 b : Int} (b1 : 0 ≤ o1 ∧ o1 ≤ 100000) (b2 : 0 ≤ o2 ∧ o2 ≤ 100000) (hb : 0 ≤ b ∧ b < rI s 44) (hn : 1 ≤ o2 % 5 ∧ o2 % 5 ≤ rA s 45 b - 1) (h3 : 1 < rA s 47 b ∨ rI s 44 = 40) {Q : am_O → am_A → Prop} (K : ∀ o q', am_LR 6 e q s o q' → Q o q') : am_W2 (d + 22) m_L_isChanged 10 [some (aR 8 0), some (aR 24 3), some (aR 24 4), some (aR 24 5), some (aI (zI 1)), some (aI (zI o1)), some (aI (zI o2)), some (aI (zI b)), none, none, none, none, none, none, none, none] [] q Q := by
  obtain ⟨F, J, H, P⟩ := L
  have B := CV_B I.1
  have b44 := B.2.1 44 0 40 rfl
  obtain ⟨⟨p0, p1, p2, p3, p4, p5, p6⟩, pn, pm, pf, pb, px⟩ := id P
  have c47 := B.1 47 b 0 3 rfl
  have c52 := B.1 52 b 0 10 rfl
  have c45 := B.1 45 b 0 9 rfl
  have c46 := B.1 46 b (-1) 4 rfl
  have c45b := J.1.2.1.2.2.2.2.1 b.toNat (by omega)
  rw [show ((b.toNat : Nat) : Int) = b by omega] at c45b
  refine ar_iload rfl rfl ?_
  refine ar_aload_n rfl rfl ?_
  refine ar_iconst rfl ?_
  refine ar_ial24 (n := 7) rfl H (by omega) rfl (by omega) ?_
  refine ar_icmp_ge rfl rfl (by omega) (by omega) (fun ht => by omega) (fun h15 => ?_)
  refine ar_iconst rfl ?_
  refine ar_goto rfl rfl ?_
  refine ar_stI8 rfl ?_
  refine ar_iload rfl rfl ?_
  refine ar_if_eq rfl rfl (by omega) (fun ht => by omega) (fun h27 => ?_)
  refine ar_aload_n rfl rfl ?_
  refine ar_iload rfl rfl ?_
  refine ar_cv1 rfl rfl rfl (Nat.le_of_ble_eq_true rfl) (T2_is (cs_booking (d := 0) I.1 (by omega)) ⟨by omega, by omega⟩) (by omega) (fun o q33 hq => am_B2_is ?_ hq)
  refine ar_goto rfl rfl ?_
  refine ar_stI9 rfl ?_
  refine ar_iload rfl rfl ?_
  refine ar_sipush (x := 1000) rfl rfl ?_
  refine ar_idiv rfl (by omega) (by omega) ?_
  refine ar_stI10 rfl ?_
  refine ar_iload rfl rfl ?_
  refine ar_if_ne rfl rfl (by omega) (fun h52 => ?_) (fun hf => by omega)
  refine ar_iload rfl rfl ?_
  refine ar_iconst rfl ?_
  refine ar_icmp_ne rfl rfl (by omega) (by omega) (fun ht => by omega) (fun h149 => ?_)
  refine ar_iload rfl rfl ?_
  refine ar_iconst rfl ?_
  refine ar_irem rfl (by omega) (by omega) ?_
  refine ar_stI11 rfl ?_
  refine ar_aload_n rfl rfl ?_
  refine ar_bipush (x := 18) rfl rfl ?_
  refine ar_iload rfl rfl ?_
  refine ar_iload rfl rfl ?_
  refine ar_iconst rfl ?_
  refine ar_iconst rfl ?_
  refine ar_iconst rfl ?_
  refine ar_iconst rfl ?_
  refine ar_cs8 rfl rfl (Nat.le_of_ble_eq_true rfl) (dx_part (d := 0) (R := -1000000) I F J (by omega) (by omega) (k := 3) (by unfold kPart; rw [if_neg (by omega), if_neg (by omega), if_pos h3]) (by omega) rfl) (by omega) (fun o q169 hq => ?_)
  obtain ⟨rfl, I169, Y169, F169⟩ := hq
  have H169 := LA_CY H Y169
  refine ar_stI12 rfl ?_
  refine ar_iload rfl rfl ?_
  refine ar_if_le rfl rfl (by omega) (fun ht => by omega) (fun h176 => ?_)
  refine ar_iload rfl rfl ?_
  refine ar_iload rfl rfl ?_
  refine ar_bipush (x := 10) rfl rfl ?_
  refine ar_irem rfl (by omega) (by omega) ?_
  refine ar_icmp_ge rfl rfl (by omega) (by omega) (fun ht => by omega) (fun h186 => ?_)
  refine ar_iconst rfl ?_
  refine ar_goto rfl rfl ?_
  refine ar_stI13 rfl ?_
  refine ar_iload rfl rfl ?_
  refine ar_if_ne rfl rfl (by omega) (fun h198 => ?_) (fun hf => by omega)
  refine ar_iload rfl rfl ?_
  refine ar_if_ne rfl rfl (by omega) (fun h208 => ?_) (fun hf => by omega)
  refine ar_iload rfl rfl ?_
  refine ar_iconst rfl ?_
  refine ar_icmp_gt rfl rfl (by omega) (by omega) (fun h219 => ?_) (fun h219 => ?_)
  · refine ar_ldc (x := -1000000) rfl rfl ?_
    refine ar_goto rfl rfl ?_
    refine ar_stI14 rfl ?_
    refine ar_iload rfl rfl ?_
    refine ar_if_ge rfl rfl (by omega) (fun ht => by omega) (fun h242 => ?_)
    refine ar_iload rfl rfl ?_
    refine ar_iload rfl rfl ?_
    refine ar_icmp_ne rfl rfl (by omega) (by omega) (fun ht => by omega) (fun h249 => ?_)
    refine ar_iconst rfl ?_
    refine ar_goto rfl rfl ?_
    exact ar_iret rfl (Or.inr ⟨rfl, by first | omega | (split <;> omega)⟩) (K _ _ ⟨rfl, s, T, CI_le I169 (by omega), ⟨F169, J, H169, P⟩, S31_CY Y169, rfl⟩)
  · refine ar_aload_n rfl rfl ?_
    refine ar_iconst rfl ?_
    refine ar_ial24 (n := 7) rfl H169 (by omega) rfl (by omega) ?_
    refine ar_bipush (x := 40) rfl rfl ?_
    refine ar_icmp_ne rfl rfl (by omega) (by omega) (fun ht => by omega) (fun h227 => ?_)
    refine ar_ldc (x := -1000000) rfl rfl ?_
    refine ar_goto rfl rfl ?_
    refine ar_stI14 rfl ?_
    refine ar_iload rfl rfl ?_
    refine ar_if_ge rfl rfl (by omega) (fun ht => by omega) (fun h242 => ?_)
    refine ar_iload rfl rfl ?_
    refine ar_iload rfl rfl ?_
    refine ar_icmp_ne rfl rfl (by omega) (by omega) (fun ht => by omega) (fun h249 => ?_)
    refine ar_iconst rfl ?_
    refine ar_goto rfl rfl ?_
    exact ar_iret rfl (Or.inr ⟨rfl, by first | omega | (split <;> omega)⟩) (K _ _ ⟨rfl, s, T, CI_le I169 (by omega), ⟨F169, J, H169, P⟩, S31_CY Y169, rfl⟩)
theorem ic_1P {d e : Nat} {q : am_A} {s : am_Z} {T : am_LT} (I : am_CI e q s) (L : am_LS q s T) {o1 o2 b : Int} (b1 : 0 ≤ o1 ∧ o1 ≤ 100000) (b2 : 0 ≤ o2 ∧ o2 ≤ 100000) (hb : 0 ≤ b ∧ b < rI s 44) (hn : 1 ≤ o2 % 5 ∧ o2 % 5 ≤ rA s 45 b - 1) (h3 : ¬ (1 < rA s 47 b ∨ rI s 44 = 40)) {Q : am_O → am_A → Prop} (K : ∀ o q', am_LR 6 e q s o q' → Q o q') : am_W2 (d + 22) m_L_isChanged 10 [some (aR 8 0), some (aR 24 3), some (aR 24 4), some (aR 24 5), some (aI (zI 1)), some (aI (zI o1)), some (aI (zI o2)), some (aI (zI b)), none, none, none, none, none, none, none, none] [] q Q := by
  obtain ⟨F, J, H, P⟩ := L
  have B := CV_B I.1
  have b44 := B.2.1 44 0 40 rfl
  obtain ⟨⟨p0, p1, p2, p3, p4, p5, p6⟩, pn, pm, pf, pb, px⟩ := id P
  have c47 := B.1 47 b 0 3 rfl
  have c52 := B.1 52 b 0 10 rfl
  have c45 := B.1 45 b 0 9 rfl
  have c46 := B.1 46 b (-1) 4 rfl
  have c45b := J.1.2.1.2.2.2.2.1 b.toNat (by omega)
  rw [show ((b.toNat : Nat) : Int) = b by omega] at c45b
  have hk : kPart s b (o2 % 5) = 0 := by { unfold kPart; rw [if_neg (by omega), if_neg (by omega), if_neg h3] }
  have J1 := JJ_part J B hk
  have q45 := par_45 (s := s) (b := b) (n := o2 % 5) hb.2
  obtain ⟨xa, _, _, x3, x4, x5, _⟩ := par_src (s := s) (n := o2 % 5) hb b ⟨hb.1, by omega⟩
  rw [x3 (by omega)] at x4 x5
  obtain ⟨ya, _, y2, _, y4, y5, _⟩ := par_src (s := s) (n := o2 % 5) hb (rI s 44) ⟨by omega, by omega⟩
  rw [y2 rfl] at y4 y5
  have n44 : rI (parS s b (o2 % 5)) 44 = rI s 44 + 1 := par_44
  have j52 := (J.2.1.1 b hb.1 hb.2).1.1
  refine ar_iload rfl rfl ?_
  refine ar_aload_n rfl rfl ?_
  refine ar_iconst rfl ?_
  refine ar_ial24 (n := 7) rfl H (by omega) rfl (by omega) ?_
  refine ar_icmp_ge rfl rfl (by omega) (by omega) (fun ht => by omega) (fun h15 => ?_)
  refine ar_iconst rfl ?_
  refine ar_goto rfl rfl ?_
  refine ar_stI8 rfl ?_
  refine ar_iload rfl rfl ?_
  refine ar_if_eq rfl rfl (by omega) (fun ht => by omega) (fun h27 => ?_)
  refine ar_aload_n rfl rfl ?_
  refine ar_iload rfl rfl ?_
  refine ar_cv1 rfl rfl rfl (Nat.le_of_ble_eq_true rfl) (T2_is (cs_booking (d := 0) I.1 (by omega)) ⟨by omega, by omega⟩) (by omega) (fun o q33 hq => am_B2_is ?_ hq)
  refine ar_goto rfl rfl ?_
  refine ar_stI9 rfl ?_
  refine ar_iload rfl rfl ?_
  refine ar_sipush (x := 1000) rfl rfl ?_
  refine ar_idiv rfl (by omega) (by omega) ?_
  refine ar_stI10 rfl ?_
  refine ar_iload rfl rfl ?_
  refine ar_if_ne rfl rfl (by omega) (fun h52 => ?_) (fun hf => by omega)
  refine ar_iload rfl rfl ?_
  refine ar_iconst rfl ?_
  refine ar_icmp_ne rfl rfl (by omega) (by omega) (fun ht => by omega) (fun h149 => ?_)
  refine ar_iload rfl rfl ?_
  refine ar_iconst rfl ?_
  refine ar_irem rfl (by omega) (by omega) ?_
  refine ar_stI11 rfl ?_
  refine ar_aload_n rfl rfl ?_
  refine ar_bipush (x := 18) rfl rfl ?_
  refine ar_iload rfl rfl ?_
  refine ar_iload rfl rfl ?_
  refine ar_iconst rfl ?_
  refine ar_iconst rfl ?_
  refine ar_iconst rfl ?_
  refine ar_iconst rfl ?_
  refine ar_cs8 rfl rfl (Nat.le_of_ble_eq_true rfl) (dz_part (d := 0) I F J (by omega) (by omega) hk) (by omega) (fun o q169 hq => ?_)
  obtain ⟨rfl, I169, Y169, F169⟩ := hq
  have H169 := LA_CY H Y169
  refine ar_stI12 rfl ?_
  refine ar_iload rfl rfl ?_
  refine ar_if_le rfl rfl (by omega) (fun ht => by omega) (fun h176 => ?_)
  refine ar_iload rfl rfl ?_
  refine ar_iload rfl rfl ?_
  refine ar_bipush (x := 10) rfl rfl ?_
  refine ar_irem rfl (by omega) (by omega) ?_
  refine ar_icmp_ge rfl rfl (by omega) (by omega) (fun ht => by omega) (fun h186 => ?_)
  refine ar_iconst rfl ?_
  refine ar_goto rfl rfl ?_
  refine ar_stI13 rfl ?_
  refine ar_iload rfl rfl ?_
  refine ar_if_ne rfl rfl (by omega) (fun h198 => ?_) (fun hf => by omega)
  refine ar_iload rfl rfl ?_
  refine ar_if_ne rfl rfl (by omega) (fun h208 => ?_) (fun hf => by omega)
  refine ar_iload rfl rfl ?_
  refine ar_iconst rfl ?_
  refine ar_icmp_gt rfl rfl (by omega) (by omega) (fun ht => by omega) (fun h219 => ?_)
  refine ar_aload_n rfl rfl ?_
  refine ar_iconst rfl ?_
  refine ar_ial24 (n := 7) rfl H169 (by omega) rfl (by omega) ?_
  refine ar_bipush (x := 40) rfl rfl ?_
  refine ar_icmp_ne rfl rfl (by omega) (by omega) (fun h227 => ?_) (fun hf => by omega)
  refine ar_aload_n rfl rfl ?_
  refine ar_iconst rfl ?_
  refine ar_ial24 (n := 7) rfl H169 (by omega) rfl (by omega) ?_
  rw [p4]
  refine ar_stI14 rfl ?_
  refine ar_iload rfl rfl ?_
  refine ar_if_ge rfl rfl (by omega) (fun h242 => ?_) (fun hf => by omega)
  refine ar_aload_n rfl rfl ?_
  refine ar_iload rfl rfl ?_
  refine ar_aload_n rfl rfl ?_
  refine ar_iload rfl rfl ?_
  refine ar_ial24 (n := 40) rfl H169 (by omega) rfl (by omega) ?_
  refine ar_ias24 (n := 40) rfl H169 (by omega) rfl (by omega) (fun q265 H265 W265 => ?_)
  refine ar_aload_n rfl rfl ?_
  refine ar_iload rfl rfl ?_
  refine ar_aload_n rfl rfl ?_
  refine ar_iload rfl rfl ?_
  refine ar_ial24 (n := 40) rfl H265 (by omega) rfl (by omega) ?_
  refine ar_ias24 (n := 40) rfl H265 (by omega) rfl (by omega) (fun q273 H273 W273 => ?_)
  refine ar_aload_n rfl rfl ?_
  refine ar_iconst rfl ?_
  refine ar_dup2 rfl rfl rfl ?_
  refine ar_ial24 (n := 7) rfl H273 (by omega) rfl (by omega) ?_
  refine ar_iconst rfl ?_
  refine ar_iadd rfl ?_
  refine ar_ias24 (n := 7) rfl H273 (by omega) rfl (by omega) (fun q280 H280 W280 => ?_)
  have WW := W24_t W265 (W24_t W273 W280)
  have I2 := WW.1 _ _ I169
  refine ar_iload rfl rfl ?_
  refine ar_iload rfl rfl ?_
  refine ar_icmp_ne rfl rfl (by omega) (by omega) (fun ht => by omega) (fun h285 => ?_)
  refine ar_aload_n rfl rfl ?_
  refine ar_iload rfl rfl ?_
  refine ar_cv1 rfl rfl rfl (Nat.le_of_ble_eq_true rfl) (T2_is (cs_booking (d := 0) I2.1 (by omega)) ⟨by omega, by omega⟩) (by omega) (fun o q291 hq => am_B2_is ?_ hq)
  rw [x4 47 (by omega), x4 52 (by omega), q45.1]
  refine ar_iload rfl rfl ?_
  refine ar_iload rfl rfl ?_
  refine ar_isub rfl ?_
  refine ar_icmp_ne rfl rfl (by omega) (by omega) (fun ht => by omega) (fun h299 => ?_)
  refine ar_aload_n rfl rfl ?_
  refine ar_iload rfl rfl ?_
  refine ar_cv1 rfl rfl rfl (Nat.le_of_ble_eq_true rfl) (T2_is (cs_booking (d := 0) I2.1 (by omega)) ⟨by omega, by omega⟩) (by omega) (fun o q305 hq => am_B2_is ?_ hq)
  rw [y4 47 (by omega), y4 52 (by omega), q45.2.1]
  refine ar_iload rfl rfl ?_
  refine ar_iload rfl rfl ?_
  refine ar_bipush (x := 10) rfl rfl ?_
  refine ar_irem rfl (by omega) (by omega) ?_
  refine ar_isub rfl ?_
  refine ar_iload rfl rfl ?_
  refine ar_iadd rfl ?_
  refine ar_icmp_ne rfl rfl (by omega) (by omega) (fun ht => by omega) (fun h319 => ?_)
  refine ar_aload_n rfl rfl ?_
  refine ar_iload rfl rfl ?_
  refine ar_iconst rfl ?_
  refine ar_cv2 rfl rfl rfl (Nat.le_of_ble_eq_true rfl) (T2_is (cs_coupon (d := 0) I2.1 (by omega) (by omega)) ⟨⟨by omega, by omega⟩, by omega, by rw [y4 52 (by omega)]; omega⟩) (by omega) (fun o q326 hq => am_B2_is ?_ hq)
  rw [y5 53 0 (by omega) (by omega), y5 54 0 (by omega) (by omega), y5 55 0 (by omega) (by omega)]
  have r53 := B.1 53 (10 * b + 0) 0 1160 rfl
  have r54 := B.1 54 (10 * b + 0) 0 3 rfl
  have r55 := B.1 55 (10 * b + 0) 0 5 rfl
  refine ar_aload_n rfl rfl ?_
  refine ar_iload rfl rfl ?_
  refine ar_iconst rfl ?_
  refine ar_cv2 rfl rfl rfl (Nat.le_of_ble_eq_true rfl) (T2_is (cs_coupon (d := 0) I2.1 (by omega) (by omega)) ⟨⟨by omega, by omega⟩, by omega, by rw [x4 52 (by omega)]; omega⟩) (by omega) (fun o q333 hq => am_B2_is ?_ hq)
  rw [x5 53 0 (by omega) (by omega), x5 54 0 (by omega) (by omega), x5 55 0 (by omega) (by omega)]
  refine ar_icmp_ne rfl rfl (by omega) (by omega) (fun ht => by omega) (fun h336 => ?_)
  refine ar_iconst rfl ?_
  refine ar_goto rfl rfl ?_
  exact ar_iret rfl (Or.inr ⟨rfl, by first | omega | (split <;> omega)⟩) (K _ _ ⟨rfl, _, _, CI_le I2 (by omega), ⟨WW.2.1 F169, J1, H280, PL_part P hb (by rw [uT_e, uT_n (by omega), uT_n (by omega), p4]) (by rw [uT_n (by omega), uT_n (by omega), uT_e]) (by rw [uT_n (by omega), uT_e, uT_n (by omega)]) (fun i x h1 h2 h3 => by rw [uT_n (by omega), uT_n (by omega), uT_n (by omega)])⟩, S31_t (S31_CY Y169) WW.2.2, par_I (by omega)⟩)
theorem ic_2N {d e : Nat} {q : am_A} {s : am_Z} {T : am_LT} (I : am_CI e q s) (L : am_LS q s T) {o1 o2 b : Int} (b1 : 0 ≤ o1 ∧ o1 ≤ 100000) (b2 : 0 ≤ o2 ∧ o2 ≤ 100000) (hb : b = rI s 44)  {Q : am_O → am_A → Prop} (K : ∀ o q', am_LR 6 e q s o q' → Q o q') : am_W2 (d + 22) m_L_isChanged 10 [some (aR 8 0), some (aR 24 3), some (aR 24 4), some (aR 24 5), some (aI (zI 2)), some (aI (zI o1)), some (aI (zI o2)), some (aI (zI b)), none, none, none, none, none, none, none, none] [] q Q := by
  obtain ⟨F, J, H, P⟩ := L
  have B := CV_B I.1
  have b44 := B.2.1 44 0 40 rfl
  obtain ⟨⟨p0, p1, p2, p3, p4, p5, p6⟩, pn, pm, pf, pb, px⟩ := id P
  refine ar_iload rfl rfl ?_
  refine ar_aload_n rfl rfl ?_
  refine ar_iconst rfl ?_
  refine ar_ial24 (n := 7) rfl H (by omega) rfl (by omega) ?_
  refine ar_icmp_ge rfl rfl (by omega) (by omega) (fun h15 => ?_) (fun hf => by omega)
  refine ar_iconst rfl ?_
  refine ar_stI8 rfl ?_
  refine ar_iload rfl rfl ?_
  refine ar_if_eq rfl rfl (by omega) (fun h27 => ?_) (fun hf => by omega)
  refine ar_iconst rfl ?_
  refine ar_stI9 rfl ?_
  refine ar_iload rfl rfl ?_
  refine ar_sipush (x := 1000) rfl rfl ?_
  refine ar_idivr rfl (by omega) ?_
  rw [show iDiv (-1) 1000 = 0 from by decide]
  refine ar_stI10 rfl ?_
  refine ar_iload rfl rfl ?_
  refine ar_if_ne rfl rfl (by omega) (fun h52 => ?_) (fun hf => by omega)
  refine ar_iload rfl rfl ?_
  refine ar_iconst rfl ?_
  refine ar_icmp_ne rfl rfl (by omega) (by omega) (fun h149 => ?_) (fun hf => by omega)
  refine ar_iload rfl rfl ?_
  refine ar_iconst rfl ?_
  refine ar_icmp_ne rfl rfl (by omega) (by omega) (fun ht => by omega) (fun h348 => ?_)
  refine ar_aload_n rfl rfl ?_
  refine ar_bipush (x := 19) rfl rfl ?_
  refine ar_iload rfl rfl ?_
  refine ar_iconst rfl ?_
  refine ar_iconst rfl ?_
  refine ar_iconst rfl ?_
  refine ar_iconst rfl ?_
  refine ar_iconst rfl ?_
  refine ar_cs8 rfl rfl (Nat.le_of_ble_eq_true rfl) (dx_cancel (d := 0) (R := -3000000) I F J (by omega) (k := 1) (if_pos (by omega)) (by omega) rfl) (by omega) (fun o q361 hq => ?_)
  obtain ⟨rfl, I361, Y361, F361⟩ := hq
  have H361 := LA_CY H Y361
  refine ar_stI11 rfl ?_
  refine ar_iload rfl rfl ?_
  refine ar_if_ne rfl rfl (by omega) (fun ht => by omega) (fun h368 => ?_)
  refine ar_iload rfl rfl ?_
  refine ar_ldc (x := -3000000) rfl rfl ?_
  refine ar_icmp_ne rfl rfl (by omega) (by omega) (fun ht => by omega) (fun h375 => ?_)
  refine ar_iconst rfl ?_
  refine ar_goto rfl rfl ?_
  exact ar_iret rfl (Or.inr ⟨rfl, by first | omega | (split <;> omega)⟩) (K _ _ ⟨rfl, s, T, CI_le I361 (by omega), ⟨F361, J, H361, P⟩, S31_CY Y361, rfl⟩)
theorem ic_2E {d e : Nat} {q : am_A} {s : am_Z} {T : am_LT} (I : am_CI e q s) (L : am_LS q s T) {o1 o2 b : Int} (b1 : 0 ≤ o1 ∧ o1 ≤ 100000) (b2 : 0 ≤ o2 ∧ o2 ≤ 100000) (hb : 0 ≤ b ∧ b < rI s 44) (h47 : 1 < rA s 47 b) {Q : am_O → am_A → Prop} (K : ∀ o q', am_LR 6 e q s o q' → Q o q') : am_W2 (d + 22) m_L_isChanged 10 [some (aR 8 0), some (aR 24 3), some (aR 24 4), some (aR 24 5), some (aI (zI 2)), some (aI (zI o1)), some (aI (zI o2)), some (aI (zI b)), none, none, none, none, none, none, none, none] [] q Q := by
  obtain ⟨F, J, H, P⟩ := L
  have B := CV_B I.1
  have b44 := B.2.1 44 0 40 rfl
  obtain ⟨⟨p0, p1, p2, p3, p4, p5, p6⟩, pn, pm, pf, pb, px⟩ := id P
  have c47 := B.1 47 b 0 3 rfl
  have c52 := B.1 52 b 0 10 rfl
  have c45 := B.1 45 b 0 9 rfl
  have c46 := B.1 46 b (-1) 4 rfl
  have c45b := J.1.2.1.2.2.2.2.1 b.toNat (by omega)
  rw [show ((b.toNat : Nat) : Int) = b by omega] at c45b
  refine ar_iload rfl rfl ?_
  refine ar_aload_n rfl rfl ?_
  refine ar_iconst rfl ?_
  refine ar_ial24 (n := 7) rfl H (by omega) rfl (by omega) ?_
  refine ar_icmp_ge rfl rfl (by omega) (by omega) (fun ht => by omega) (fun h15 => ?_)
  refine ar_iconst rfl ?_
  refine ar_goto rfl rfl ?_
  refine ar_stI8 rfl ?_
  refine ar_iload rfl rfl ?_
  refine ar_if_eq rfl rfl (by omega) (fun ht => by omega) (fun h27 => ?_)
  refine ar_aload_n rfl rfl ?_
  refine ar_iload rfl rfl ?_
  refine ar_cv1 rfl rfl rfl (Nat.le_of_ble_eq_true rfl) (T2_is (cs_booking (d := 0) I.1 (by omega)) ⟨by omega, by omega⟩) (by omega) (fun o q33 hq => am_B2_is ?_ hq)
  refine ar_goto rfl rfl ?_
  refine ar_stI9 rfl ?_
  refine ar_iload rfl rfl ?_
  refine ar_sipush (x := 1000) rfl rfl ?_
  refine ar_idiv rfl (by omega) (by omega) ?_
  refine ar_stI10 rfl ?_
  refine ar_iload rfl rfl ?_
  refine ar_if_ne rfl rfl (by omega) (fun h52 => ?_) (fun hf => by omega)
  refine ar_iload rfl rfl ?_
  refine ar_iconst rfl ?_
  refine ar_icmp_ne rfl rfl (by omega) (by omega) (fun h149 => ?_) (fun hf => by omega)
  refine ar_iload rfl rfl ?_
  refine ar_iconst rfl ?_
  refine ar_icmp_ne rfl rfl (by omega) (by omega) (fun ht => by omega) (fun h348 => ?_)
  refine ar_aload_n rfl rfl ?_
  refine ar_bipush (x := 19) rfl rfl ?_
  refine ar_iload rfl rfl ?_
  refine ar_iconst rfl ?_
  refine ar_iconst rfl ?_
  refine ar_iconst rfl ?_
  refine ar_iconst rfl ?_
  refine ar_iconst rfl ?_
  refine ar_cs8 rfl rfl (Nat.le_of_ble_eq_true rfl) (dx_cancel (d := 0) (R := -1000000) I F J (by omega) (k := 2) (by unfold kCancel; rw [if_neg (by omega), if_pos h47]) (by omega) rfl) (by omega) (fun o q361 hq => ?_)
  obtain ⟨rfl, I361, Y361, F361⟩ := hq
  have H361 := LA_CY H Y361
  refine ar_stI11 rfl ?_
  refine ar_iload rfl rfl ?_
  refine ar_if_ne rfl rfl (by omega) (fun h368 => ?_) (fun hf => by omega)
  refine ar_iload rfl rfl ?_
  refine ar_iconst rfl ?_
  refine ar_icmp_le rfl rfl (by omega) (by omega) (fun ht => by omega) (fun h389 => ?_)
  refine ar_iload rfl rfl ?_
  refine ar_ldc (x := -1000000) rfl rfl ?_
  refine ar_icmp_ne rfl rfl (by omega) (by omega) (fun ht => by omega) (fun h396 => ?_)
  refine ar_iconst rfl ?_
  refine ar_goto rfl rfl ?_
  exact ar_iret rfl (Or.inr ⟨rfl, by first | omega | (split <;> omega)⟩) (K _ _ ⟨rfl, s, T, CI_le I361 (by omega), ⟨F361, J, H361, P⟩, S31_CY Y361, rfl⟩)
theorem ic_2H {d e : Nat} {q : am_A} {s : am_Z} {T : am_LT} (I : am_CI e q s) (L : am_LS q s T) {o1 o2 b : Int} (b1 : 0 ≤ o1 ∧ o1 ≤ 100000) (b2 : 0 ≤ o2 ∧ o2 ≤ 100000) (hb : 0 ≤ b ∧ b < rI s 44) (h47 : rA s 47 b = 0) {Q : am_O → am_A → Prop} (K : ∀ o q', am_LR 6 e q s o q' → Q o q') : am_W2 (d + 22) m_L_isChanged 10 [some (aR 8 0), some (aR 24 3), some (aR 24 4), some (aR 24 5), some (aI (zI 2)), some (aI (zI o1)), some (aI (zI o2)), some (aI (zI b)), none, none, none, none, none, none, none, none] [] q Q := by
  obtain ⟨F, J, H, P⟩ := L
  have B := CV_B I.1
  have b44 := B.2.1 44 0 40 rfl
  obtain ⟨⟨p0, p1, p2, p3, p4, p5, p6⟩, pn, pm, pf, pb, px⟩ := id P
  have c47 := B.1 47 b 0 3 rfl
  have c52 := B.1 52 b 0 10 rfl
  have c45 := B.1 45 b 0 9 rfl
  have c46 := B.1 46 b (-1) 4 rfl
  have c45b := J.1.2.1.2.2.2.2.1 b.toNat (by omega)
  rw [show ((b.toNat : Nat) : Int) = b by omega] at c45b
  have J1 := JJ_cancel (b := b) J B
  have cb := cbV_b B (b := b)
  have m2 := mul_b c45 cb
  have e47 : rA (voidS (wA s 47 b 3) b) 47 b = 3 := by { unfold voidS; rw [wB_A, if_neg (fun z => absurd z.1 (by omega)), wA_A, if_pos ⟨rfl, rfl⟩] }
  have e52 : rA (voidS (wA s 47 b 3) b) 52 b = rA s 52 b := vd_Z (by omega)
  have e45 : rA (voidS (wA s 47 b 3) b) 45 b = rA s 45 b := vd_Z (by omega)
  refine ar_iload rfl rfl ?_
  refine ar_aload_n rfl rfl ?_
  refine ar_iconst rfl ?_
  refine ar_ial24 (n := 7) rfl H (by omega) rfl (by omega) ?_
  refine ar_icmp_ge rfl rfl (by omega) (by omega) (fun ht => by omega) (fun h15 => ?_)
  refine ar_iconst rfl ?_
  refine ar_goto rfl rfl ?_
  refine ar_stI8 rfl ?_
  refine ar_iload rfl rfl ?_
  refine ar_if_eq rfl rfl (by omega) (fun ht => by omega) (fun h27 => ?_)
  refine ar_aload_n rfl rfl ?_
  refine ar_iload rfl rfl ?_
  refine ar_cv1 rfl rfl rfl (Nat.le_of_ble_eq_true rfl) (T2_is (cs_booking (d := 0) I.1 (by omega)) ⟨by omega, by omega⟩) (by omega) (fun o q33 hq => am_B2_is ?_ hq)
  refine ar_goto rfl rfl ?_
  refine ar_stI9 rfl ?_
  refine ar_iload rfl rfl ?_
  refine ar_sipush (x := 1000) rfl rfl ?_
  refine ar_idiv rfl (by omega) (by omega) ?_
  refine ar_stI10 rfl ?_
  refine ar_iload rfl rfl ?_
  refine ar_if_ne rfl rfl (by omega) (fun h52 => ?_) (fun hf => by omega)
  refine ar_iload rfl rfl ?_
  refine ar_iconst rfl ?_
  refine ar_icmp_ne rfl rfl (by omega) (by omega) (fun h149 => ?_) (fun hf => by omega)
  refine ar_iload rfl rfl ?_
  refine ar_iconst rfl ?_
  refine ar_icmp_ne rfl rfl (by omega) (by omega) (fun ht => by omega) (fun h348 => ?_)
  refine ar_aload_n rfl rfl ?_
  refine ar_bipush (x := 19) rfl rfl ?_
  refine ar_iload rfl rfl ?_
  refine ar_iconst rfl ?_
  refine ar_iconst rfl ?_
  refine ar_iconst rfl ?_
  refine ar_iconst rfl ?_
  refine ar_iconst rfl ?_
  refine ar_cs8 rfl rfl (Nat.le_of_ble_eq_true rfl) (dz_cancel (d := 0) I F J (by omega) (by unfold kCancel; rw [if_neg (by omega), if_neg (by omega)])) (by omega) (fun o q361 hq => ?_)
  obtain ⟨rfl, I361, Y361, F361⟩ := hq
  have H361 := LA_CY H Y361
  rw [if_pos h47]
  refine ar_stI11 rfl ?_
  refine ar_iload rfl rfl ?_
  refine ar_if_ne rfl rfl (by omega) (fun h368 => ?_) (fun hf => by omega)
  refine ar_iload rfl rfl ?_
  refine ar_iconst rfl ?_
  refine ar_icmp_le rfl rfl (by omega) (by omega) (fun h389 => ?_) (fun hf => by omega)
  refine ar_iload rfl rfl ?_
  refine ar_if_le rfl rfl (by omega) (fun h409 => ?_) (fun hf => by omega)
  refine ar_iload rfl rfl ?_
  refine ar_if_ne rfl rfl (by omega) (fun ht => by omega) (fun h422 => ?_)
  refine ar_aload_n rfl rfl ?_
  refine ar_iload rfl rfl ?_
  refine ar_cv1 rfl rfl rfl (Nat.le_of_ble_eq_true rfl) (T2_is (cs_booking (d := 0) I361.1 (by omega)) ⟨hb.1, hb.2⟩) (by omega) (fun o q428 hq => am_B2_is ?_ hq)
  rw [e47, e52, e45]
  refine ar_sipush (x := 1000) rfl rfl ?_
  refine ar_idiv rfl (by omega) (by omega) ?_
  refine ar_iconst rfl ?_
  refine ar_icmp_ne rfl rfl (by omega) (by omega) (fun ht => by omega) (fun h436 => ?_)
  refine ar_iconst rfl ?_
  refine ar_goto rfl rfl ?_
  exact ar_iret rfl (Or.inr ⟨rfl, by first | omega | (split <;> omega)⟩) (K _ _ ⟨rfl, _, T, CI_le I361 (by omega), ⟨F361, J1, H361, PL_KF P (KF_47 (fun j x h h2 => vd_Z ⟨h, h2⟩) rfl) rfl rfl⟩, S31_CY Y361, rfl⟩)
theorem ic_2T {d e : Nat} {q : am_A} {s : am_Z} {T : am_LT} (I : am_CI e q s) (L : am_LS q s T) {o1 o2 b : Int} (b1 : 0 ≤ o1 ∧ o1 ≤ 100000) (b2 : 0 ≤ o2 ∧ o2 ≤ 100000) (hb : 0 ≤ b ∧ b < rI s 44) (h47 : ¬ rA s 47 b = 0) (h48 : ¬ 1 < rA s 47 b) {Q : am_O → am_A → Prop} (K : ∀ o q', am_LR 6 e q s o q' → Q o q') : am_W2 (d + 22) m_L_isChanged 10 [some (aR 8 0), some (aR 24 3), some (aR 24 4), some (aR 24 5), some (aI (zI 2)), some (aI (zI o1)), some (aI (zI o2)), some (aI (zI b)), none, none, none, none, none, none, none, none] [] q Q := by
  obtain ⟨F, J, H, P⟩ := L
  have B := CV_B I.1
  have b44 := B.2.1 44 0 40 rfl
  obtain ⟨⟨p0, p1, p2, p3, p4, p5, p6⟩, pn, pm, pf, pb, px⟩ := id P
  have c47 := B.1 47 b 0 3 rfl
  have c52 := B.1 52 b 0 10 rfl
  have c45 := B.1 45 b 0 9 rfl
  have c46 := B.1 46 b (-1) 4 rfl
  have c45b := J.1.2.1.2.2.2.2.1 b.toNat (by omega)
  rw [show ((b.toNat : Nat) : Int) = b by omega] at c45b
  have J1 := JJ_cancel (b := b) J B
  have cb := cbV_b B (b := b)
  have m2 := mul_b c45 cb
  have e47 : rA (voidS (wA s 47 b 3) b) 47 b = 3 := by { unfold voidS; rw [wB_A, if_neg (fun z => absurd z.1 (by omega)), wA_A, if_pos ⟨rfl, rfl⟩] }
  have e52 : rA (voidS (wA s 47 b 3) b) 52 b = rA s 52 b := vd_Z (by omega)
  have e45 : rA (voidS (wA s 47 b 3) b) 45 b = rA s 45 b := vd_Z (by omega)
  refine ar_iload rfl rfl ?_
  refine ar_aload_n rfl rfl ?_
  refine ar_iconst rfl ?_
  refine ar_ial24 (n := 7) rfl H (by omega) rfl (by omega) ?_
  refine ar_icmp_ge rfl rfl (by omega) (by omega) (fun ht => by omega) (fun h15 => ?_)
  refine ar_iconst rfl ?_
  refine ar_goto rfl rfl ?_
  refine ar_stI8 rfl ?_
  refine ar_iload rfl rfl ?_
  refine ar_if_eq rfl rfl (by omega) (fun ht => by omega) (fun h27 => ?_)
  refine ar_aload_n rfl rfl ?_
  refine ar_iload rfl rfl ?_
  refine ar_cv1 rfl rfl rfl (Nat.le_of_ble_eq_true rfl) (T2_is (cs_booking (d := 0) I.1 (by omega)) ⟨by omega, by omega⟩) (by omega) (fun o q33 hq => am_B2_is ?_ hq)
  refine ar_goto rfl rfl ?_
  refine ar_stI9 rfl ?_
  refine ar_iload rfl rfl ?_
  refine ar_sipush (x := 1000) rfl rfl ?_
  refine ar_idiv rfl (by omega) (by omega) ?_
  refine ar_stI10 rfl ?_
  refine ar_iload rfl rfl ?_
  refine ar_if_ne rfl rfl (by omega) (fun h52 => ?_) (fun hf => by omega)
  refine ar_iload rfl rfl ?_
  refine ar_iconst rfl ?_
  refine ar_icmp_ne rfl rfl (by omega) (by omega) (fun h149 => ?_) (fun hf => by omega)
  refine ar_iload rfl rfl ?_
  refine ar_iconst rfl ?_
  refine ar_icmp_ne rfl rfl (by omega) (by omega) (fun ht => by omega) (fun h348 => ?_)
  refine ar_aload_n rfl rfl ?_
  refine ar_bipush (x := 19) rfl rfl ?_
  refine ar_iload rfl rfl ?_
  refine ar_iconst rfl ?_
  refine ar_iconst rfl ?_
  refine ar_iconst rfl ?_
  refine ar_iconst rfl ?_
  refine ar_iconst rfl ?_
  refine ar_cs8 rfl rfl (Nat.le_of_ble_eq_true rfl) (dz_cancel (d := 0) I F J (by omega) (by unfold kCancel; rw [if_neg (by omega), if_neg (by omega)])) (by omega) (fun o q361 hq => ?_)
  obtain ⟨rfl, I361, Y361, F361⟩ := hq
  have H361 := LA_CY H Y361
  rw [if_neg h47]
  refine ar_stI11 rfl ?_
  refine ar_iload rfl rfl ?_
  refine ar_if_ne rfl rfl (by omega) (fun h368 => ?_) (fun hf => by omega)
  refine ar_iload rfl rfl ?_
  refine ar_iconst rfl ?_
  refine ar_icmp_le rfl rfl (by omega) (by omega) (fun h389 => ?_) (fun hf => by omega)
  refine ar_iload rfl rfl ?_
  refine ar_if_le rfl rfl (by omega) (fun ht => by omega) (fun h409 => ?_)
  refine ar_iload rfl rfl ?_
  refine ar_if_lt rfl rfl (by omega) (fun ht => by omega) (fun h414 => ?_)
  refine ar_goto rfl rfl ?_
  refine ar_aload_n rfl rfl ?_
  refine ar_iload rfl rfl ?_
  refine ar_cv1 rfl rfl rfl (Nat.le_of_ble_eq_true rfl) (T2_is (cs_booking (d := 0) I361.1 (by omega)) ⟨hb.1, hb.2⟩) (by omega) (fun o q428 hq => am_B2_is ?_ hq)
  rw [e47, e52, e45]
  refine ar_sipush (x := 1000) rfl rfl ?_
  refine ar_idiv rfl (by omega) (by omega) ?_
  refine ar_iconst rfl ?_
  refine ar_icmp_ne rfl rfl (by omega) (by omega) (fun ht => by omega) (fun h436 => ?_)
  refine ar_iconst rfl ?_
  refine ar_goto rfl rfl ?_
  exact ar_iret rfl (Or.inr ⟨rfl, by first | omega | (split <;> omega)⟩) (K _ _ ⟨rfl, _, T, CI_le I361 (by omega), ⟨F361, J1, H361, PL_KF P (KF_47 (fun j x h h2 => vd_Z ⟨h, h2⟩) rfl) rfl rfl⟩, S31_CY Y361, rfl⟩)
theorem ic_3N {d e : Nat} {q : am_A} {s : am_Z} {T : am_LT} (I : am_CI e q s) (L : am_LS q s T) {o1 o2 b : Int} (b1 : 0 ≤ o1 ∧ o1 ≤ 100000) (b2 : 0 ≤ o2 ∧ o2 ≤ 100000) (hb : b = rI s 44)  {Q : am_O → am_A → Prop} (K : ∀ o q', am_LR 6 e q s o q' → Q o q') : am_W2 (d + 22) m_L_isChanged 10 [some (aR 8 0), some (aR 24 3), some (aR 24 4), some (aR 24 5), some (aI (zI 3)), some (aI (zI o1)), some (aI (zI o2)), some (aI (zI b)), none, none, none, none, none, none, none, none] [] q Q := by
  obtain ⟨F, J, H, P⟩ := L
  have B := CV_B I.1
  have b44 := B.2.1 44 0 40 rfl
  obtain ⟨⟨p0, p1, p2, p3, p4, p5, p6⟩, pn, pm, pf, pb, px⟩ := id P
  refine ar_iload rfl rfl ?_
  refine ar_aload_n rfl rfl ?_
  refine ar_iconst rfl ?_
  refine ar_ial24 (n := 7) rfl H (by omega) rfl (by omega) ?_
  refine ar_icmp_ge rfl rfl (by omega) (by omega) (fun h15 => ?_) (fun hf => by omega)
  refine ar_iconst rfl ?_
  refine ar_stI8 rfl ?_
  refine ar_iload rfl rfl ?_
  refine ar_if_eq rfl rfl (by omega) (fun h27 => ?_) (fun hf => by omega)
  refine ar_iconst rfl ?_
  refine ar_stI9 rfl ?_
  refine ar_iload rfl rfl ?_
  refine ar_sipush (x := 1000) rfl rfl ?_
  refine ar_idivr rfl (by omega) ?_
  rw [show iDiv (-1) 1000 = 0 from by decide]
  refine ar_stI10 rfl ?_
  refine ar_iload rfl rfl ?_
  refine ar_if_ne rfl rfl (by omega) (fun h52 => ?_) (fun hf => by omega)
  refine ar_iload rfl rfl ?_
  refine ar_iconst rfl ?_
  refine ar_icmp_ne rfl rfl (by omega) (by omega) (fun h149 => ?_) (fun hf => by omega)
  refine ar_iload rfl rfl ?_
  refine ar_iconst rfl ?_
  refine ar_icmp_ne rfl rfl (by omega) (by omega) (fun h348 => ?_) (fun hf => by omega)
  refine ar_iload rfl rfl ?_
  refine ar_iconst rfl ?_
  refine ar_irem rfl (by omega) (by omega) ?_
  refine ar_stI11 rfl ?_
  refine ar_aload_n rfl rfl ?_
  refine ar_bipush (x := 21) rfl rfl ?_
  refine ar_iload rfl rfl ?_
  refine ar_iload rfl rfl ?_
  refine ar_iconst rfl ?_
  refine ar_iconst rfl ?_
  refine ar_iconst rfl ?_
  refine ar_iconst rfl ?_
  refine ar_cs8 rfl rfl (Nat.le_of_ble_eq_true rfl) (dn_coupon (d := 0) I F (by omega) (by omega) (fun z => by have := z.1.2; omega)) (by omega) (fun o q462 hq => ?_)
  obtain ⟨rfl, I462, Y462, F462⟩ := hq
  have H462 := LA_CY H Y462
  refine ar_stI12 rfl ?_
  refine ar_aload_n rfl rfl ?_
  refine ar_bipush (x := 23) rfl rfl ?_
  refine ar_iload rfl rfl ?_
  refine ar_iload rfl rfl ?_
  refine ar_iconst rfl ?_
  refine ar_iconst rfl ?_
  refine ar_iconst rfl ?_
  refine ar_iconst rfl ?_
  refine ar_cs8 rfl rfl (Nat.le_of_ble_eq_true rfl) (dx_check (d := 0) (R := -3000000) I462 F462 J (by omega) (by omega) (k := 1) (if_pos (fun z => by have := z.1.2; omega)) (by omega) rfl) (by omega) (fun o q478 hq => ?_)
  obtain ⟨rfl, I478, Y478, F478⟩ := hq
  have H478 := LA_CY H462 Y478
  refine ar_stI13 rfl ?_
  refine ar_iload rfl rfl ?_
  refine ar_if_ge rfl rfl (by omega) (fun ht => by omega) (fun h485 => ?_)
  refine ar_iload rfl rfl ?_
  refine ar_ldc (x := -3000000) rfl rfl ?_
  refine ar_icmp_ne rfl rfl (by omega) (by omega) (fun ht => by omega) (fun h492 => ?_)
  refine ar_iload rfl rfl ?_
  refine ar_ldc (x := -3000000) rfl rfl ?_
  refine ar_icmp_ne rfl rfl (by omega) (by omega) (fun ht => by omega) (fun h499 => ?_)
  refine ar_aload_n rfl rfl ?_
  refine ar_bipush (x := 22) rfl rfl ?_
  refine ar_iload rfl rfl ?_
  refine ar_iload rfl rfl ?_
  refine ar_iconst rfl ?_
  refine ar_iconst rfl ?_
  refine ar_iconst rfl ?_
  refine ar_iconst rfl ?_
  refine ar_cs8 rfl rfl (Nat.le_of_ble_eq_true rfl) (dn_share (d := 0) I478 F478 (by omega) (by omega) (fun z => by have := z.1.2; omega)) (by omega) (fun o q513 hq => ?_)
  obtain ⟨rfl, I513, Y513, F513⟩ := hq
  have H513 := LA_CY H478 Y513
  refine ar_ldc (x := -3000000) rfl rfl ?_
  refine ar_icmp_ne rfl rfl (by omega) (by omega) (fun ht => by omega) (fun h518 => ?_)
  refine ar_iconst rfl ?_
  refine ar_goto rfl rfl ?_
  exact ar_iret rfl (Or.inr ⟨rfl, by first | omega | (split <;> omega)⟩) (K _ _ ⟨rfl, s, T, CI_le I513 (by omega), ⟨F513, J, H513, P⟩, S31_t (S31_CY Y462) (S31_t (S31_CY Y478) (S31_CY Y513)), rfl⟩)
theorem ic_3C {d e : Nat} {q : am_A} {s : am_Z} {T : am_LT} (I : am_CI e q s) (L : am_LS q s T) {o1 o2 b : Int} (b1 : 0 ≤ o1 ∧ o1 ≤ 100000) (b2 : 0 ≤ o2 ∧ o2 ≤ 100000) (hb : 0 ≤ b ∧ b < rI s 44) (hc : ¬ o2 % 5 < rA s 52 b) {Q : am_O → am_A → Prop} (K : ∀ o q', am_LR 6 e q s o q' → Q o q') : am_W2 (d + 22) m_L_isChanged 10 [some (aR 8 0), some (aR 24 3), some (aR 24 4), some (aR 24 5), some (aI (zI 3)), some (aI (zI o1)), some (aI (zI o2)), some (aI (zI b)), none, none, none, none, none, none, none, none] [] q Q := by
  obtain ⟨F, J, H, P⟩ := L
  have B := CV_B I.1
  have b44 := B.2.1 44 0 40 rfl
  obtain ⟨⟨p0, p1, p2, p3, p4, p5, p6⟩, pn, pm, pf, pb, px⟩ := id P
  have c47 := B.1 47 b 0 3 rfl
  have c52 := B.1 52 b 0 10 rfl
  have c45 := B.1 45 b 0 9 rfl
  have c46 := B.1 46 b (-1) 4 rfl
  have c45b := J.1.2.1.2.2.2.2.1 b.toNat (by omega)
  rw [show ((b.toNat : Nat) : Int) = b by omega] at c45b
  refine ar_iload rfl rfl ?_
  refine ar_aload_n rfl rfl ?_
  refine ar_iconst rfl ?_
  refine ar_ial24 (n := 7) rfl H (by omega) rfl (by omega) ?_
  refine ar_icmp_ge rfl rfl (by omega) (by omega) (fun ht => by omega) (fun h15 => ?_)
  refine ar_iconst rfl ?_
  refine ar_goto rfl rfl ?_
  refine ar_stI8 rfl ?_
  refine ar_iload rfl rfl ?_
  refine ar_if_eq rfl rfl (by omega) (fun ht => by omega) (fun h27 => ?_)
  refine ar_aload_n rfl rfl ?_
  refine ar_iload rfl rfl ?_
  refine ar_cv1 rfl rfl rfl (Nat.le_of_ble_eq_true rfl) (T2_is (cs_booking (d := 0) I.1 (by omega)) ⟨by omega, by omega⟩) (by omega) (fun o q33 hq => am_B2_is ?_ hq)
  refine ar_goto rfl rfl ?_
  refine ar_stI9 rfl ?_
  refine ar_iload rfl rfl ?_
  refine ar_sipush (x := 1000) rfl rfl ?_
  refine ar_idiv rfl (by omega) (by omega) ?_
  refine ar_stI10 rfl ?_
  refine ar_iload rfl rfl ?_
  refine ar_if_ne rfl rfl (by omega) (fun h52 => ?_) (fun hf => by omega)
  refine ar_iload rfl rfl ?_
  refine ar_iconst rfl ?_
  refine ar_icmp_ne rfl rfl (by omega) (by omega) (fun h149 => ?_) (fun hf => by omega)
  refine ar_iload rfl rfl ?_
  refine ar_iconst rfl ?_
  refine ar_icmp_ne rfl rfl (by omega) (by omega) (fun h348 => ?_) (fun hf => by omega)
  refine ar_iload rfl rfl ?_
  refine ar_iconst rfl ?_
  refine ar_irem rfl (by omega) (by omega) ?_
  refine ar_stI11 rfl ?_
  refine ar_aload_n rfl rfl ?_
  refine ar_bipush (x := 21) rfl rfl ?_
  refine ar_iload rfl rfl ?_
  refine ar_iload rfl rfl ?_
  refine ar_iconst rfl ?_
  refine ar_iconst rfl ?_
  refine ar_iconst rfl ?_
  refine ar_iconst rfl ?_
  refine ar_cs8 rfl rfl (Nat.le_of_ble_eq_true rfl) (dn_coupon (d := 0) I F (by omega) (by omega) (fun z => by have := z.2.2; omega)) (by omega) (fun o q462 hq => ?_)
  obtain ⟨rfl, I462, Y462, F462⟩ := hq
  have H462 := LA_CY H Y462
  refine ar_stI12 rfl ?_
  refine ar_aload_n rfl rfl ?_
  refine ar_bipush (x := 23) rfl rfl ?_
  refine ar_iload rfl rfl ?_
  refine ar_iload rfl rfl ?_
  refine ar_iconst rfl ?_
  refine ar_iconst rfl ?_
  refine ar_iconst rfl ?_
  refine ar_iconst rfl ?_
  refine ar_cs8 rfl rfl (Nat.le_of_ble_eq_true rfl) (dx_check (d := 0) (R := -3000000) I462 F462 J (by omega) (by omega) (k := 1) (if_pos (fun z => by have := z.2.2; omega)) (by omega) rfl) (by omega) (fun o q478 hq => ?_)
  obtain ⟨rfl, I478, Y478, F478⟩ := hq
  have H478 := LA_CY H462 Y478
  refine ar_stI13 rfl ?_
  refine ar_iload rfl rfl ?_
  refine ar_if_ge rfl rfl (by omega) (fun ht => by omega) (fun h485 => ?_)
  refine ar_iload rfl rfl ?_
  refine ar_ldc (x := -3000000) rfl rfl ?_
  refine ar_icmp_ne rfl rfl (by omega) (by omega) (fun ht => by omega) (fun h492 => ?_)
  refine ar_iload rfl rfl ?_
  refine ar_ldc (x := -3000000) rfl rfl ?_
  refine ar_icmp_ne rfl rfl (by omega) (by omega) (fun ht => by omega) (fun h499 => ?_)
  refine ar_aload_n rfl rfl ?_
  refine ar_bipush (x := 22) rfl rfl ?_
  refine ar_iload rfl rfl ?_
  refine ar_iload rfl rfl ?_
  refine ar_iconst rfl ?_
  refine ar_iconst rfl ?_
  refine ar_iconst rfl ?_
  refine ar_iconst rfl ?_
  refine ar_cs8 rfl rfl (Nat.le_of_ble_eq_true rfl) (dn_share (d := 0) I478 F478 (by omega) (by omega) (fun z => by have := z.2.2; omega)) (by omega) (fun o q513 hq => ?_)
  obtain ⟨rfl, I513, Y513, F513⟩ := hq
  have H513 := LA_CY H478 Y513
  refine ar_ldc (x := -3000000) rfl rfl ?_
  refine ar_icmp_ne rfl rfl (by omega) (by omega) (fun ht => by omega) (fun h518 => ?_)
  refine ar_iconst rfl ?_
  refine ar_goto rfl rfl ?_
  exact ar_iret rfl (Or.inr ⟨rfl, by first | omega | (split <;> omega)⟩) (K _ _ ⟨rfl, s, T, CI_le I513 (by omega), ⟨F513, J, H513, P⟩, S31_t (S31_CY Y462) (S31_t (S31_CY Y478) (S31_CY Y513)), rfl⟩)
theorem ic_3Y {d e : Nat} {q : am_A} {s : am_Z} {T : am_LT} (I : am_CI e q s) (L : am_LS q s T) {o1 o2 b : Int} (b1 : 0 ≤ o1 ∧ o1 ≤ 100000) (b2 : 0 ≤ o2 ∧ o2 ≤ 100000) (hb : 0 ≤ b ∧ b < rI s 44) (hc : o2 % 5 < rA s 52 b) (hk : chkP s b (o2 % 5)) {Q : am_O → am_A → Prop} (K : ∀ o q', am_LR 6 e q s o q' → Q o q') : am_W2 (d + 22) m_L_isChanged 10 [some (aR 8 0), some (aR 24 3), some (aR 24 4), some (aR 24 5), some (aI (zI 3)), some (aI (zI o1)), some (aI (zI o2)), some (aI (zI b)), none, none, none, none, none, none, none, none] [] q Q := by
  obtain ⟨F, J, H, P⟩ := L
  have B := CV_B I.1
  have b44 := B.2.1 44 0 40 rfl
  obtain ⟨⟨p0, p1, p2, p3, p4, p5, p6⟩, pn, pm, pf, pb, px⟩ := id P
  have c47 := B.1 47 b 0 3 rfl
  have c52 := B.1 52 b 0 10 rfl
  have c45 := B.1 45 b 0 9 rfl
  have c46 := B.1 46 b (-1) 4 rfl
  have c45b := J.1.2.1.2.2.2.2.1 b.toNat (by omega)
  rw [show ((b.toNat : Nat) : Int) = b by omega] at c45b
  have hcp : cpP s b (o2 % 5) := ⟨hb, by omega, hc⟩
  have r53 := B.1 53 (10 * b + o2 % 5) 0 1160 rfl
  have r54 := B.1 54 (10 * b + o2 % 5) 0 3 rfl
  have r55 := B.1 55 (10 * b + o2 % 5) 0 5 rfl
  have hl : legP s (rA s 53 (10 * b + o2 % 5)) := by
    have z := (I.1.2.2.2.2.2.2.1.2.2.2.1 b.toNat (o2 % 5).toNat (by omega) (by rw [show ((b.toNat : Nat) : Int) = b by omega]; omega)).2.2.2.1
    rw [show ((b.toNat : Nat) : Int) = b by omega, show (((o2 % 5).toNat : Nat) : Int) = o2 % 5 by omega] at z
    exact z
  have sb := standing_b B (l := rA s 53 (10 * b + o2 % 5))
  have sb2 := sb.2.2.2.1
  have db := dep_b B (legP_R B hl)
  have b0 := B.2.1 0 0 60000 rfl
  have hk2 := hk
  obtain ⟨k1, k2, k3, k4⟩ := hk2
  have J1 := JJ_check J B hb.1 ⟨by omega, hc⟩ k1 k2
  have cs := chk_s J B hcp hk
  have e55 : rA (wA s 55 (10 * b + o2 % 5) 1) 55 (10 * b + o2 % 5) = 1 := if_pos ⟨rfl, rfl⟩
  have e53 : rA (wA s 55 (10 * b + o2 % 5) 1) 53 (10 * b + o2 % 5) = rA s 53 (10 * b + o2 % 5) := wA_ne (by omega)
  have e54 : rA (wA s 55 (10 * b + o2 % 5) 1) 54 (10 * b + o2 % 5) = rA s 54 (10 * b + o2 % 5) := wA_ne (by omega)
  have es : standing (wA s 55 (10 * b + o2 % 5) 1) (rA s 53 (10 * b + o2 % 5)) = standing s (rA s 53 (10 * b + o2 % 5)) := rfl
  have ed : dep (wA s 55 (10 * b + o2 % 5) 1) (rA s 53 (10 * b + o2 % 5)) = dep s (rA s 53 (10 * b + o2 % 5)) := rfl
  have sf : ¬ standing s (rA s 53 (10 * b + o2 % 5)) % 10 > 0 := fun z => sb2.mp z k3
  have hl1 : legP (wA s 55 (10 * b + o2 % 5) 1) (rA s 53 (10 * b + o2 % 5)) := hl
  have hcp1 : cpP (wA s 55 (10 * b + o2 % 5) 1) b (o2 % 5) := hcp
  refine ar_iload rfl rfl ?_
  refine ar_aload_n rfl rfl ?_
  refine ar_iconst rfl ?_
  refine ar_ial24 (n := 7) rfl H (by omega) rfl (by omega) ?_
  refine ar_icmp_ge rfl rfl (by omega) (by omega) (fun ht => by omega) (fun h15 => ?_)
  refine ar_iconst rfl ?_
  refine ar_goto rfl rfl ?_
  refine ar_stI8 rfl ?_
  refine ar_iload rfl rfl ?_
  refine ar_if_eq rfl rfl (by omega) (fun ht => by omega) (fun h27 => ?_)
  refine ar_aload_n rfl rfl ?_
  refine ar_iload rfl rfl ?_
  refine ar_cv1 rfl rfl rfl (Nat.le_of_ble_eq_true rfl) (T2_is (cs_booking (d := 0) I.1 (by omega)) ⟨by omega, by omega⟩) (by omega) (fun o q33 hq => am_B2_is ?_ hq)
  refine ar_goto rfl rfl ?_
  refine ar_stI9 rfl ?_
  refine ar_iload rfl rfl ?_
  refine ar_sipush (x := 1000) rfl rfl ?_
  refine ar_idiv rfl (by omega) (by omega) ?_
  refine ar_stI10 rfl ?_
  refine ar_iload rfl rfl ?_
  refine ar_if_ne rfl rfl (by omega) (fun h52 => ?_) (fun hf => by omega)
  refine ar_iload rfl rfl ?_
  refine ar_iconst rfl ?_
  refine ar_icmp_ne rfl rfl (by omega) (by omega) (fun h149 => ?_) (fun hf => by omega)
  refine ar_iload rfl rfl ?_
  refine ar_iconst rfl ?_
  refine ar_icmp_ne rfl rfl (by omega) (by omega) (fun h348 => ?_) (fun hf => by omega)
  refine ar_iload rfl rfl ?_
  refine ar_iconst rfl ?_
  refine ar_irem rfl (by omega) (by omega) ?_
  refine ar_stI11 rfl ?_
  refine ar_aload_n rfl rfl ?_
  refine ar_bipush (x := 21) rfl rfl ?_
  refine ar_iload rfl rfl ?_
  refine ar_iload rfl rfl ?_
  refine ar_iconst rfl ?_
  refine ar_iconst rfl ?_
  refine ar_iconst rfl ?_
  refine ar_iconst rfl ?_
  refine ar_cs8 rfl rfl (Nat.le_of_ble_eq_true rfl) (dp_coupon (d := 0) I F (by omega) (by omega) hcp) (by omega) (fun o q462 hq => ?_)
  obtain ⟨rfl, I462, Y462, F462⟩ := hq
  have H462 := LA_CY H Y462
  refine ar_stI12 rfl ?_
  refine ar_aload_n rfl rfl ?_
  refine ar_bipush (x := 23) rfl rfl ?_
  refine ar_iload rfl rfl ?_
  refine ar_iload rfl rfl ?_
  refine ar_iconst rfl ?_
  refine ar_iconst rfl ?_
  refine ar_iconst rfl ?_
  refine ar_iconst rfl ?_
  refine ar_cs8 rfl rfl (Nat.le_of_ble_eq_true rfl) (dz_check (d := 0) I462 F462 J (by omega) (by omega) (by unfold kCheck; rw [if_neg (fun z => z hcp), if_pos hk])) (by omega) (fun o q478 hq => ?_)
  obtain ⟨rfl, I478, Y478, F478⟩ := hq
  have H478 := LA_CY H462 Y478
  refine ar_stI13 rfl ?_
  refine ar_iload rfl rfl ?_
  refine ar_if_ge rfl rfl (by omega) (fun h485 => ?_) (fun hf => by omega)
  refine ar_iload rfl rfl ?_
  refine ar_bipush (x := 100) rfl rfl ?_
  refine ar_idiv rfl (by omega) (by omega) ?_
  rw [show (100 * rA s 53 (10 * b + o2 % 5) + 10 * rA s 54 (10 * b + o2 % 5) + rA s 55 (10 * b + o2 % 5)) / 100 = rA s 53 (10 * b + o2 % 5) by omega]
  refine ar_stI14 rfl ?_
  refine ar_iload rfl rfl ?_
  refine ar_iconst rfl ?_
  refine ar_icmp_ne rfl rfl (by omega) (by omega) (fun ht => by omega) (fun h537 => ?_)
  refine ar_iload rfl rfl ?_
  refine ar_bipush (x := 10) rfl rfl ?_
  refine ar_irem rfl (by omega) (by omega) ?_
  refine ar_if_ne rfl rfl (by omega) (fun ht => by omega) (fun h545 => ?_)
  refine ar_aload_n rfl rfl ?_
  refine ar_iload rfl rfl ?_
  refine ar_cv1 rfl rfl rfl (Nat.le_of_ble_eq_true rfl) (T2_is (cs_standing (d := 0) I478.1 (by omega)) hl1) (by omega) (fun o q551 hq => am_B2_is ?_ hq)
  rw [es]
  refine ar_bipush (x := 10) rfl rfl ?_
  refine ar_irem rfl (by omega) (by omega) ?_
  refine ar_if_ne rfl rfl (by omega) (fun ht => by omega) (fun h557 => ?_)
  refine ar_aload_n rfl rfl ?_
  refine ar_iload rfl rfl ?_
  refine ar_cv1 rfl rfl rfl (Nat.le_of_ble_eq_true rfl) (T2_is (cs_departure (d := 0) I478.1 (by omega)) hl1) (by omega) (fun o q563 hq => am_B2_is ?_ hq)
  rw [ed]
  refine ar_aload_n rfl rfl ?_
  refine ar_iconst rfl ?_
  refine ar_ial24 (n := 7) rfl H478 (by omega) rfl (by omega) ?_
  refine ar_isub rfl ?_
  refine ar_bipush (x := 24) rfl rfl ?_
  refine ar_icmp_gt rfl rfl (by omega) (by omega) (fun ht => by omega) (fun h572 => ?_)
  refine ar_iconst rfl ?_
  refine ar_goto rfl rfl ?_
  refine ar_stI15 rfl ?_
  refine ar_iload rfl rfl ?_
  refine ar_if_eq rfl rfl (by omega) (fun ht => by omega) (fun h584 => ?_)
  refine ar_iload rfl rfl ?_
  refine ar_iload rfl rfl ?_
  refine ar_bipush (x := 10) rfl rfl ?_
  refine ar_irem rfl (by omega) (by omega) ?_
  refine ar_icmp_lt rfl rfl (by omega) (by omega) (fun ht => by omega) (fun h594 => ?_)
  refine ar_aload_n rfl rfl ?_
  refine ar_iload rfl rfl ?_
  refine ar_iload rfl rfl ?_
  refine ar_cv2 rfl rfl rfl (Nat.le_of_ble_eq_true rfl) (T2_is (cs_coupon (d := 0) I478.1 (by omega) (by omega)) hcp1) (by omega) (fun o q602 hq => am_B2_is ?_ hq)
  rw [e53, e54, e55]
  refine ar_iload rfl rfl ?_
  refine ar_iconst rfl ?_
  refine ar_iadd rfl ?_
  refine ar_icmp_ne rfl rfl (by omega) (by omega) (fun ht => by omega) (fun h609 => ?_)
  refine ar_aload_n rfl rfl ?_
  refine ar_bipush (x := 23) rfl rfl ?_
  refine ar_iload rfl rfl ?_
  refine ar_iload rfl rfl ?_
  refine ar_iconst rfl ?_
  refine ar_iconst rfl ?_
  refine ar_iconst rfl ?_
  refine ar_iconst rfl ?_
  refine ar_cs8 rfl rfl (Nat.le_of_ble_eq_true rfl) (dx_check (d := 0) (R := -1000000) I478 F478 J1 (by omega) (by omega) (k := 2) (by unfold kCheck; rw [if_neg (fun z => z hcp1), if_neg (fun z => by have := z.2.1; omega)]) (by omega) rfl) (by omega) (fun o q623 hq => ?_)
  obtain ⟨rfl, I623, Y623, F623⟩ := hq
  have H623 := LA_CY H478 Y623
  refine ar_ldc (x := -1000000) rfl rfl ?_
  refine ar_icmp_ne rfl rfl (by omega) (by omega) (fun ht => by omega) (fun h628 => ?_)
  refine ar_iconst rfl ?_
  refine ar_goto rfl rfl ?_
  exact ar_iret rfl (Or.inr ⟨rfl, by first | omega | (split <;> omega)⟩) (K _ _ ⟨rfl, _, T, CI_le I623 (by omega), ⟨F623, J1, H623, PL_KF P (KF_47 (fun j x _ h => wA_ne h) rfl) rfl rfl⟩, S31_t (S31_CY Y462) (S31_t (S31_CY Y478) (S31_CY Y623)), rfl⟩)
theorem ic_3Z {d e : Nat} {q : am_A} {s : am_Z} {T : am_LT} (I : am_CI e q s) (L : am_LS q s T) {o1 o2 b : Int} (b1 : 0 ≤ o1 ∧ o1 ≤ 100000) (b2 : 0 ≤ o2 ∧ o2 ≤ 100000) (hb : 0 ≤ b ∧ b < rI s 44) (hc : o2 % 5 < rA s 52 b) (hk : ¬ chkP s b (o2 % 5)) {Q : am_O → am_A → Prop} (K : ∀ o q', am_LR 6 e q s o q' → Q o q') : am_W2 (d + 22) m_L_isChanged 10 [some (aR 8 0), some (aR 24 3), some (aR 24 4), some (aR 24 5), some (aI (zI 3)), some (aI (zI o1)), some (aI (zI o2)), some (aI (zI b)), none, none, none, none, none, none, none, none] [] q Q := by
  obtain ⟨F, J, H, P⟩ := L
  have B := CV_B I.1
  have b44 := B.2.1 44 0 40 rfl
  obtain ⟨⟨p0, p1, p2, p3, p4, p5, p6⟩, pn, pm, pf, pb, px⟩ := id P
  have c47 := B.1 47 b 0 3 rfl
  have c52 := B.1 52 b 0 10 rfl
  have c45 := B.1 45 b 0 9 rfl
  have c46 := B.1 46 b (-1) 4 rfl
  have c45b := J.1.2.1.2.2.2.2.1 b.toNat (by omega)
  rw [show ((b.toNat : Nat) : Int) = b by omega] at c45b
  have hcp : cpP s b (o2 % 5) := ⟨hb, by omega, hc⟩
  have r53 := B.1 53 (10 * b + o2 % 5) 0 1160 rfl
  have r54 := B.1 54 (10 * b + o2 % 5) 0 3 rfl
  have r55 := B.1 55 (10 * b + o2 % 5) 0 5 rfl
  have hl : legP s (rA s 53 (10 * b + o2 % 5)) := by
    have z := (I.1.2.2.2.2.2.2.1.2.2.2.1 b.toNat (o2 % 5).toNat (by omega) (by rw [show ((b.toNat : Nat) : Int) = b by omega]; omega)).2.2.2.1
    rw [show ((b.toNat : Nat) : Int) = b by omega, show (((o2 % 5).toNat : Nat) : Int) = o2 % 5 by omega] at z
    exact z
  have sb := standing_b B (l := rA s 53 (10 * b + o2 % 5))
  have sb2 := sb.2.2.2.1
  have db := dep_b B (legP_R B hl)
  have b0 := B.2.1 0 0 60000 rfl
  have hno : ¬ (rA s 47 b = 1 ∧ rA s 55 (10 * b + o2 % 5) = 0 ∧ standing s (rA s 53 (10 * b + o2 % 5)) % 10 = 0 ∧ dep s (rA s 53 (10 * b + o2 % 5)) - rI s 0 ≤ 24) := fun z => hk ⟨z.1, z.2.1, Classical.byContradiction (fun y => by have := sb2.mpr y; omega), z.2.2.2⟩
  refine ar_iload rfl rfl ?_
  refine ar_aload_n rfl rfl ?_
  refine ar_iconst rfl ?_
  refine ar_ial24 (n := 7) rfl H (by omega) rfl (by omega) ?_
  refine ar_icmp_ge rfl rfl (by omega) (by omega) (fun ht => by omega) (fun h15 => ?_)
  refine ar_iconst rfl ?_
  refine ar_goto rfl rfl ?_
  refine ar_stI8 rfl ?_
  refine ar_iload rfl rfl ?_
  refine ar_if_eq rfl rfl (by omega) (fun ht => by omega) (fun h27 => ?_)
  refine ar_aload_n rfl rfl ?_
  refine ar_iload rfl rfl ?_
  refine ar_cv1 rfl rfl rfl (Nat.le_of_ble_eq_true rfl) (T2_is (cs_booking (d := 0) I.1 (by omega)) ⟨by omega, by omega⟩) (by omega) (fun o q33 hq => am_B2_is ?_ hq)
  refine ar_goto rfl rfl ?_
  refine ar_stI9 rfl ?_
  refine ar_iload rfl rfl ?_
  refine ar_sipush (x := 1000) rfl rfl ?_
  refine ar_idiv rfl (by omega) (by omega) ?_
  refine ar_stI10 rfl ?_
  refine ar_iload rfl rfl ?_
  refine ar_if_ne rfl rfl (by omega) (fun h52 => ?_) (fun hf => by omega)
  refine ar_iload rfl rfl ?_
  refine ar_iconst rfl ?_
  refine ar_icmp_ne rfl rfl (by omega) (by omega) (fun h149 => ?_) (fun hf => by omega)
  refine ar_iload rfl rfl ?_
  refine ar_iconst rfl ?_
  refine ar_icmp_ne rfl rfl (by omega) (by omega) (fun h348 => ?_) (fun hf => by omega)
  refine ar_iload rfl rfl ?_
  refine ar_iconst rfl ?_
  refine ar_irem rfl (by omega) (by omega) ?_
  refine ar_stI11 rfl ?_
  refine ar_aload_n rfl rfl ?_
  refine ar_bipush (x := 21) rfl rfl ?_
  refine ar_iload rfl rfl ?_
  refine ar_iload rfl rfl ?_
  refine ar_iconst rfl ?_
  refine ar_iconst rfl ?_
  refine ar_iconst rfl ?_
  refine ar_iconst rfl ?_
  refine ar_cs8 rfl rfl (Nat.le_of_ble_eq_true rfl) (dp_coupon (d := 0) I F (by omega) (by omega) hcp) (by omega) (fun o q462 hq => ?_)
  obtain ⟨rfl, I462, Y462, F462⟩ := hq
  have H462 := LA_CY H Y462
  refine ar_stI12 rfl ?_
  refine ar_aload_n rfl rfl ?_
  refine ar_bipush (x := 23) rfl rfl ?_
  refine ar_iload rfl rfl ?_
  refine ar_iload rfl rfl ?_
  refine ar_iconst rfl ?_
  refine ar_iconst rfl ?_
  refine ar_iconst rfl ?_
  refine ar_iconst rfl ?_
  refine ar_cs8 rfl rfl (Nat.le_of_ble_eq_true rfl) (dx_check (d := 0) (R := -1000000) I462 F462 J (by omega) (by omega) (k := 2) (by unfold kCheck; rw [if_neg (fun z => z hcp), if_neg hk]) (by omega) rfl) (by omega) (fun o q478 hq => ?_)
  obtain ⟨rfl, I478, Y478, F478⟩ := hq
  have H478 := LA_CY H462 Y478
  refine ar_stI13 rfl ?_
  refine ar_iload rfl rfl ?_
  refine ar_if_ge rfl rfl (by omega) (fun h485 => ?_) (fun hf => by omega)
  refine ar_iload rfl rfl ?_
  refine ar_bipush (x := 100) rfl rfl ?_
  refine ar_idiv rfl (by omega) (by omega) ?_
  rw [show (100 * rA s 53 (10 * b + o2 % 5) + 10 * rA s 54 (10 * b + o2 % 5) + rA s 55 (10 * b + o2 % 5)) / 100 = rA s 53 (10 * b + o2 % 5) by omega]
  refine ar_stI14 rfl ?_
  refine cq_join (pc' := 580) (V := 0) ?_ (fun K580 => ?_)
  · refine ar_stI15 rfl ?_
    refine ar_iload rfl rfl ?_
    refine ar_if_eq rfl rfl (by omega) (fun h584 => ?_) (fun hf => by omega)
    refine ar_iload rfl rfl ?_
    refine ar_ldc (x := -1000000) rfl rfl ?_
    refine ar_icmp_ne rfl rfl (by omega) (by omega) (fun ht => by omega) (fun h643 => ?_)
    refine ar_iconst rfl ?_
    refine ar_goto rfl rfl ?_
    exact ar_iret rfl (Or.inr ⟨rfl, by first | omega | (split <;> omega)⟩) (K _ _ ⟨rfl, s, T, CI_le I478 (by omega), ⟨F478, J, H478, P⟩, S31_t (S31_CY Y462) (S31_CY Y478), rfl⟩)
  · refine ar_iload rfl rfl ?_
    refine ar_iconst rfl ?_
    refine ar_icmp_ne rfl rfl (by omega) (by omega) (fun h537 => ?_) (fun h537 => ?_)
    · refine ar_iconst rfl ?_
      exact K580 _ (by first | rfl | (exfalso; omega))
    · refine ar_iload rfl rfl ?_
      refine ar_bipush (x := 10) rfl rfl ?_
      refine ar_irem rfl (by omega) (by omega) ?_
      refine ar_if_ne rfl rfl (by omega) (fun h545 => ?_) (fun h545 => ?_)
      · refine ar_iconst rfl ?_
        exact K580 _ (by first | rfl | (exfalso; omega))
      · refine ar_aload_n rfl rfl ?_
        refine ar_iload rfl rfl ?_
        refine ar_cv1 rfl rfl rfl (Nat.le_of_ble_eq_true rfl) (T2_is (cs_standing (d := 0) I478.1 (by omega)) hl) (by omega) (fun o q551 hq => am_B2_is ?_ hq)
        refine ar_bipush (x := 10) rfl rfl ?_
        refine ar_irem rfl (by omega) (by omega) ?_
        refine ar_if_ne rfl rfl (by omega) (fun h557 => ?_) (fun h557 => ?_)
        · refine ar_iconst rfl ?_
          exact K580 _ (by first | rfl | (exfalso; omega))
        · refine ar_aload_n rfl rfl ?_
          refine ar_iload rfl rfl ?_
          refine ar_cv1 rfl rfl rfl (Nat.le_of_ble_eq_true rfl) (T2_is (cs_departure (d := 0) I478.1 (by omega)) hl) (by omega) (fun o q563 hq => am_B2_is ?_ hq)
          refine ar_aload_n rfl rfl ?_
          refine ar_iconst rfl ?_
          refine ar_ial24 (n := 7) rfl H478 (by omega) rfl (by omega) ?_
          refine ar_isub rfl ?_
          refine ar_bipush (x := 24) rfl rfl ?_
          refine ar_icmp_gt rfl rfl (by omega) (by omega) (fun h572 => ?_) (fun h572 => ?_)
          · refine ar_iconst rfl ?_
            exact K580 _ (by first | rfl | (exfalso; omega))
          · refine ar_iconst rfl ?_
            refine ar_goto rfl rfl ?_
            exact K580 _ (by first | rfl | (exfalso; omega))
theorem ic_0 {d e : Nat} {q : am_A} {s : am_Z} {T : am_LT} (I : am_CI e q s) (L : am_LS q s T) {o1 o2 b : Int} (b1 : 0 ≤ o1 ∧ o1 ≤ 100000) (b2 : 0 ≤ o2 ∧ o2 ≤ 100000) (hbb : 0 ≤ b ∧ b ≤ rI s 44) {Q : am_O → am_A → Prop} (K : ∀ o q', am_LR 6 e q s o q' → Q o q') : am_W2 (d + 22) m_L_isChanged 10 [some (aR 8 0), some (aR 24 3), some (aR 24 4), some (aR 24 5), some (aI (zI 0)), some (aI (zI o1)), some (aI (zI o2)), some (aI (zI b)), none, none, none, none, none, none, none, none] [] q Q := by
  by_cases hn : b = rI s 44
  · have hb := hn
    exact ic_0N (d := d) I L b1 b2 hb  K
  · have hb : 0 ≤ b ∧ b < rI s 44 := by omega
    by_cases h47 : rA s 47 b = 0
    · exact ic_0O (d := d) I L b1 b2 hb h47 K
    · exact ic_0T (d := d) I L b1 b2 hb h47 K

theorem ic_1 {d e : Nat} {q : am_A} {s : am_Z} {T : am_LT} (I : am_CI e q s) (L : am_LS q s T) {o1 o2 b : Int} (b1 : 0 ≤ o1 ∧ o1 ≤ 100000) (b2 : 0 ≤ o2 ∧ o2 ≤ 100000) (hbb : 0 ≤ b ∧ b ≤ rI s 44) {Q : am_O → am_A → Prop} (K : ∀ o q', am_LR 6 e q s o q' → Q o q') : am_W2 (d + 22) m_L_isChanged 10 [some (aR 8 0), some (aR 24 3), some (aR 24 4), some (aR 24 5), some (aI (zI 1)), some (aI (zI o1)), some (aI (zI o2)), some (aI (zI b)), none, none, none, none, none, none, none, none] [] q Q := by
  by_cases hn : b = rI s 44
  · have hb := hn
    exact ic_1N (d := d) I L b1 b2 hb  K
  · have hb : 0 ≤ b ∧ b < rI s 44 := by omega
    by_cases hn : 1 ≤ o2 % 5 ∧ o2 % 5 ≤ rA s 45 b - 1
    · by_cases h3 : 1 < rA s 47 b ∨ rI s 44 = 40
      · exact ic_1I (d := d) I L b1 b2 hb hn h3 K
      · exact ic_1P (d := d) I L b1 b2 hb hn h3 K
    · exact ic_1B (d := d) I L b1 b2 hb hn K

theorem ic_2 {d e : Nat} {q : am_A} {s : am_Z} {T : am_LT} (I : am_CI e q s) (L : am_LS q s T) {o1 o2 b : Int} (b1 : 0 ≤ o1 ∧ o1 ≤ 100000) (b2 : 0 ≤ o2 ∧ o2 ≤ 100000) (hbb : 0 ≤ b ∧ b ≤ rI s 44) {Q : am_O → am_A → Prop} (K : ∀ o q', am_LR 6 e q s o q' → Q o q') : am_W2 (d + 22) m_L_isChanged 10 [some (aR 8 0), some (aR 24 3), some (aR 24 4), some (aR 24 5), some (aI (zI 2)), some (aI (zI o1)), some (aI (zI o2)), some (aI (zI b)), none, none, none, none, none, none, none, none] [] q Q := by
  by_cases hn : b = rI s 44
  · have hb := hn
    exact ic_2N (d := d) I L b1 b2 hb  K
  · have hb : 0 ≤ b ∧ b < rI s 44 := by omega
    by_cases h47 : rA s 47 b = 0
    · exact ic_2H (d := d) I L b1 b2 hb h47 K
    · by_cases h48 : 1 < rA s 47 b
      · exact ic_2E (d := d) I L b1 b2 hb h48 K
      · exact ic_2T (d := d) I L b1 b2 hb h47 h48 K

theorem ic_3 {d e : Nat} {q : am_A} {s : am_Z} {T : am_LT} (I : am_CI e q s) (L : am_LS q s T) {o1 o2 b : Int} (b1 : 0 ≤ o1 ∧ o1 ≤ 100000) (b2 : 0 ≤ o2 ∧ o2 ≤ 100000) (hbb : 0 ≤ b ∧ b ≤ rI s 44) {Q : am_O → am_A → Prop} (K : ∀ o q', am_LR 6 e q s o q' → Q o q') : am_W2 (d + 22) m_L_isChanged 10 [some (aR 8 0), some (aR 24 3), some (aR 24 4), some (aR 24 5), some (aI (zI 3)), some (aI (zI o1)), some (aI (zI o2)), some (aI (zI b)), none, none, none, none, none, none, none, none] [] q Q := by
  by_cases hn : b = rI s 44
  · have hb := hn
    exact ic_3N (d := d) I L b1 b2 hb  K
  · have hb : 0 ≤ b ∧ b < rI s 44 := by omega
    by_cases hc : o2 % 5 < rA s 52 b
    · by_cases hk : chkP s b (o2 % 5)
      · exact ic_3Y (d := d) I L b1 b2 hb hc hk K
      · exact ic_3Z (d := d) I L b1 b2 hb hc hk K
    · exact ic_3C (d := d) I L b1 b2 hb hc K

theorem cs_isChanged0 {d : Nat} {q : am_A} {e : Nat} {s : am_Z} {T : am_LT} (I : am_CI e q s) (L : am_LS q s T) {o1 o2 : Int} (b1 : 0 ≤ o1 ∧ o1 ≤ 100000) (b2 : 0 ≤ o2 ∧ o2 ≤ 100000)  : am_C2 (d + 22) m_L_isChanged [aR 8 0, aR 24 3, aR 24 4, aR 24 5, aI (zI 0), aI (zI o1), aI (zI o2)] q (am_LR 6 e q s) := by
  refine am_C2_i (ls := [some (aR 8 0), some (aR 24 3), some (aR 24 4), some (aR 24 5), some (aI (zI 0)), some (aI (zI o1)), some (aI (zI o2)), none, none, none, none, none, none, none, none, none]) rfl ?_
  obtain ⟨F, J, H, P⟩ := L
  have B := CV_B I.1
  have b44 := B.2.1 44 0 40 rfl
  have p4 := P.1.2.2.2.2.1
  refine ar_iload rfl rfl ?_
  refine ar_aload_n rfl rfl ?_
  refine ar_iconst rfl ?_
  refine ar_ial24 (n := 7) rfl H (by omega) rfl (by omega) ?_
  refine ar_iconst rfl ?_
  refine ar_iadd rfl ?_
  refine ar_irem rfl (by omega) (by omega) ?_
  have d1 := Int.emod_nonneg o1 (b := T 5 4 + 1) (by omega)
  have d2 := Int.emod_lt_of_pos o1 (b := T 5 4 + 1) (by omega)
  generalize o1 % (T 5 4 + 1) = b at d1 d2 ⊢
  refine ar_stI7 rfl ?_
  exact ic_0 (d := d) I ⟨F, J, H, P⟩ b1 b2 (by omega) (fun o q2 h => h)
theorem cs_isChanged1 {d : Nat} {q : am_A} {e : Nat} {s : am_Z} {T : am_LT} (I : am_CI e q s) (L : am_LS q s T) {o1 o2 : Int} (b1 : 0 ≤ o1 ∧ o1 ≤ 100000) (b2 : 0 ≤ o2 ∧ o2 ≤ 100000)  : am_C2 (d + 22) m_L_isChanged [aR 8 0, aR 24 3, aR 24 4, aR 24 5, aI (zI 1), aI (zI o1), aI (zI o2)] q (am_LR 6 e q s) := by
  refine am_C2_i (ls := [some (aR 8 0), some (aR 24 3), some (aR 24 4), some (aR 24 5), some (aI (zI 1)), some (aI (zI o1)), some (aI (zI o2)), none, none, none, none, none, none, none, none, none]) rfl ?_
  obtain ⟨F, J, H, P⟩ := L
  have B := CV_B I.1
  have b44 := B.2.1 44 0 40 rfl
  have p4 := P.1.2.2.2.2.1
  refine ar_iload rfl rfl ?_
  refine ar_aload_n rfl rfl ?_
  refine ar_iconst rfl ?_
  refine ar_ial24 (n := 7) rfl H (by omega) rfl (by omega) ?_
  refine ar_iconst rfl ?_
  refine ar_iadd rfl ?_
  refine ar_irem rfl (by omega) (by omega) ?_
  have d1 := Int.emod_nonneg o1 (b := T 5 4 + 1) (by omega)
  have d2 := Int.emod_lt_of_pos o1 (b := T 5 4 + 1) (by omega)
  generalize o1 % (T 5 4 + 1) = b at d1 d2 ⊢
  refine ar_stI7 rfl ?_
  exact ic_1 (d := d) I ⟨F, J, H, P⟩ b1 b2 (by omega) (fun o q2 h => h)
theorem cs_isChanged2 {d : Nat} {q : am_A} {e : Nat} {s : am_Z} {T : am_LT} (I : am_CI e q s) (L : am_LS q s T) {o1 o2 : Int} (b1 : 0 ≤ o1 ∧ o1 ≤ 100000) (b2 : 0 ≤ o2 ∧ o2 ≤ 100000)  : am_C2 (d + 22) m_L_isChanged [aR 8 0, aR 24 3, aR 24 4, aR 24 5, aI (zI 2), aI (zI o1), aI (zI o2)] q (am_LR 6 e q s) := by
  refine am_C2_i (ls := [some (aR 8 0), some (aR 24 3), some (aR 24 4), some (aR 24 5), some (aI (zI 2)), some (aI (zI o1)), some (aI (zI o2)), none, none, none, none, none, none, none, none, none]) rfl ?_
  obtain ⟨F, J, H, P⟩ := L
  have B := CV_B I.1
  have b44 := B.2.1 44 0 40 rfl
  have p4 := P.1.2.2.2.2.1
  refine ar_iload rfl rfl ?_
  refine ar_aload_n rfl rfl ?_
  refine ar_iconst rfl ?_
  refine ar_ial24 (n := 7) rfl H (by omega) rfl (by omega) ?_
  refine ar_iconst rfl ?_
  refine ar_iadd rfl ?_
  refine ar_irem rfl (by omega) (by omega) ?_
  have d1 := Int.emod_nonneg o1 (b := T 5 4 + 1) (by omega)
  have d2 := Int.emod_lt_of_pos o1 (b := T 5 4 + 1) (by omega)
  generalize o1 % (T 5 4 + 1) = b at d1 d2 ⊢
  refine ar_stI7 rfl ?_
  exact ic_2 (d := d) I ⟨F, J, H, P⟩ b1 b2 (by omega) (fun o q2 h => h)
theorem cs_isChanged3 {d : Nat} {q : am_A} {e : Nat} {s : am_Z} {T : am_LT} (I : am_CI e q s) (L : am_LS q s T) {o1 o2 : Int} (b1 : 0 ≤ o1 ∧ o1 ≤ 100000) (b2 : 0 ≤ o2 ∧ o2 ≤ 100000)  : am_C2 (d + 22) m_L_isChanged [aR 8 0, aR 24 3, aR 24 4, aR 24 5, aI (zI 3), aI (zI o1), aI (zI o2)] q (am_LR 6 e q s) := by
  refine am_C2_i (ls := [some (aR 8 0), some (aR 24 3), some (aR 24 4), some (aR 24 5), some (aI (zI 3)), some (aI (zI o1)), some (aI (zI o2)), none, none, none, none, none, none, none, none, none]) rfl ?_
  obtain ⟨F, J, H, P⟩ := L
  have B := CV_B I.1
  have b44 := B.2.1 44 0 40 rfl
  have p4 := P.1.2.2.2.2.1
  refine ar_iload rfl rfl ?_
  refine ar_aload_n rfl rfl ?_
  refine ar_iconst rfl ?_
  refine ar_ial24 (n := 7) rfl H (by omega) rfl (by omega) ?_
  refine ar_iconst rfl ?_
  refine ar_iadd rfl ?_
  refine ar_irem rfl (by omega) (by omega) ?_
  have d1 := Int.emod_nonneg o1 (b := T 5 4 + 1) (by omega)
  have d2 := Int.emod_lt_of_pos o1 (b := T 5 4 + 1) (by omega)
  generalize o1 % (T 5 4 + 1) = b at d1 d2 ⊢
  refine ar_stI7 rfl ?_
  exact ic_3 (d := d) I ⟨F, J, H, P⟩ b1 b2 (by omega) (fun o q2 h => h)
end

noncomputable section
theorem ar_ne_same {d y pc p t : Nat} {ls : List (Option am_V)} {st : List am_V} {q : am_A} {Q : am_O → am_A → Prop} {a : Int} {off : Int} (hc : am_c y pc = some (.if_icmp .ne off, p)) (ht : am_tg pc off = some t) (k : am_W2 d y p ls st q Q) : am_W2 d y pc ls (aI (zI a) :: aI (zI a) :: st) q Q := fun h R => s_icmp_ne hc ht (fun z => absurd rfl z) (fun _ => k h R)
/-- the law's sums, as far as they are made -/
def am_EE (s : am_Z) (T : am_LT) (f g : Int → Int) : Prop := (∀ i : Int, 0 ≤ i → i < 9 → T 6 i = f i) ∧ ∀ m : Int, 0 ≤ m → m < 4 → T 6 (9 + m) = g m
abbrev fO (s : am_Z) (i : Int) : am_U := uO (rA s 4) i
abbrev fP (s : am_Z) (i : Int) : am_U := uP (rA s 8) i
theorem PL_6 {s : am_Z} {T T1 : am_LT} (P : am_PL s T) (eo : ∀ (i : Nat) (x : Int), i ≠ 6 → T1 i x = T i x) : am_PL s T1 := by
  obtain ⟨⟨p0, p1, p2, p3, p4, p5, p6⟩, pn, pm, pf, pb, px⟩ := P
  refine ⟨⟨by rw [eo _ _ (by omega)]; exact p0, by rw [eo _ _ (by omega)]; exact p1, by rw [eo _ _ (by omega)]; exact p2, by rw [eo _ _ (by omega)]; exact p3, by rw [eo _ _ (by omega)]; exact p4, by rw [eo _ _ (by omega)]; exact p5, P6_cg p6 rfl rfl (eo 5 6 (by omega))⟩, fun f h1 h2 => ?_, fun f b h1 h2 h3 h4 => ?_, fun i h1 h2 => ?_, fun k h1 h2 => ?_, fun w h1 h2 => ?_⟩
  · rw [eo 0 _ (by omega), eo 0 _ (by omega), eo 0 _ (by omega), eo 0 _ (by omega), eo 0 _ (by omega)]
    exact pn f h1 h2
  · rw [eo 1 _ (by omega)]
    exact pm f b h1 h2 h3 h4
  · rw [eo 2 _ (by omega)]
    exact pf i h1 h2
  · rw [eo 3 _ (by omega), eo 4 _ (by omega)]
    exact pb k h1 h2
  · rw [eo 7 _ (by omega)]
    exact px w h1 h2
theorem EE_no {s : am_Z} {T : am_LT} {f0 g0 : Int → Int} {b : Int} {j : Nat} (E : am_EE s T (fun i => f0 i + sumI (10 * b) j (fw s (fO s i) b)) (fun m => g0 m + sumI (10 * b) j (fw s (fP s m) b))) (h : rA s 55 (10 * b + j) ≠ 2) : am_EE s T (fun i => f0 i + sumI (10 * b) (j + 1) (fw s (fO s i) b)) (fun m => g0 m + sumI (10 * b) (j + 1) (fw s (fP s m) b)) := by
  refine ⟨fun i h1 h2 => (E.1 i h1 h2).trans ?_, fun m h1 h2 => (E.2 m h1 h2).trans ?_⟩
  · show f0 i + sumI (10 * b) j (fw s (fO s i) b) = f0 i + (sumI (10 * b) j (fw s (fO s i) b) + fw s (fO s i) b (10 * b + j))
    rw [show fw s (fO s i) b (10 * b + j) = 0 from if_neg h]
    omega
  · show g0 m + sumI (10 * b) j (fw s (fP s m) b) = g0 m + (sumI (10 * b) j (fw s (fP s m) b) + fw s (fP s m) b (10 * b + j))
    rw [show fw s (fP s m) b (10 * b + j) = 0 from if_neg h]
    omega
theorem EE_yes {s : am_Z} {T : am_LT} {f0 g0 : Int → Int} {b : Int} {j : Nat} (E : am_EE s T (fun i => f0 i + sumI (10 * b) j (fw s (fO s i) b)) (fun m => g0 m + sumI (10 * b) j (fw s (fP s m) b))) (h : rA s 55 (10 * b + j) = 2) (b50 : 0 ≤ rA s 50 b ∧ rA s 50 b ≤ 2) (b4 : 0 ≤ rA s 4 (rA s 53 (10 * b + j) / 100) ∧ rA s 4 (rA s 53 (10 * b + j) / 100) ≤ 2) (b46 : -1 ≤ rA s 46 b ∧ rA s 46 b ≤ 3) : am_EE s (uT (uT T 6 (3 * rA s 50 b + rA s 4 (rA s 53 (10 * b + j) / 100)) (T 6 (3 * rA s 50 b + rA s 4 (rA s 53 (10 * b + j) / 100)) + rA s 45 b * rA s 57 (10 * b + j))) 6 (9 + (if rA s 46 b < 0 then 4 else rA s 46 b)) (uT T 6 (3 * rA s 50 b + rA s 4 (rA s 53 (10 * b + j) / 100)) (T 6 (3 * rA s 50 b + rA s 4 (rA s 53 (10 * b + j) / 100)) + rA s 45 b * rA s 57 (10 * b + j)) 6 (9 + (if rA s 46 b < 0 then 4 else rA s 46 b)) + (if rA s 46 b < 0 then 0 else 10 * rA s 45 b * rA s 8 (rA s 53 (10 * b + j) / 100)))) (fun i => f0 i + sumI (10 * b) (j + 1) (fw s (fO s i) b)) (fun m => g0 m + sumI (10 * b) (j + 1) (fw s (fP s m) b)) := by
  have bi : 9 ≤ 9 + (if rA s 46 b < 0 then 4 else rA s 46 b) := by split <;> omega
  refine ⟨fun i h1 h2 => ?_, fun m h1 h2 => ?_⟩
  · rw [uT_n (by omega)]
    show _ = f0 i + (sumI (10 * b) j (fw s (fO s i) b) + fw s (fO s i) b (10 * b + j))
    have e : fw s (fO s i) b (10 * b + j) = rA s 45 b * (if 3 * rA s 50 b + rA s 4 (rA s 53 (10 * b + j) / 100) = i then rA s 57 (10 * b + j) else 0) := if_pos h
    have z : T 6 i = f0 i + sumI (10 * b) j (fw s (fO s i) b) := E.1 i h1 h2
    rw [e]
    by_cases y : 3 * rA s 50 b + rA s 4 (rA s 53 (10 * b + j) / 100) = i
    · rw [if_pos y, y, uT_e, z]
      omega
    · rw [if_neg y, uT_n (Or.inr (fun w => y w.symm)), z, Int.mul_zero]
      omega
  · show _ = g0 m + (sumI (10 * b) j (fw s (fP s m) b) + fw s (fP s m) b (10 * b + j))
    have e : fw s (fP s m) b (10 * b + j) = rA s 45 b * (if rA s 46 b = m then 10 * rA s 8 (rA s 53 (10 * b + j) / 100) else 0) := if_pos h
    have z : T 6 (9 + m) = g0 m + sumI (10 * b) j (fw s (fP s m) b) := E.2 m h1 h2
    rw [e]
    by_cases y : rA s 46 b = m
    · rw [if_pos y, if_neg (by omega), if_neg (by omega), y, uT_e, uT_n (by omega), z, Int.mul_comm 10 (rA s 45 b), Int.mul_assoc]
      omega
    · have hn : 9 + m ≠ 9 + (if rA s 46 b < 0 then 4 else rA s 46 b) := by split <;> omega
      rw [if_neg y, uT_n (Or.inr hn), uT_n (by omega), z, Int.mul_zero]
      omega
theorem lp_ac {d : Nat} {q : am_A} {Q : am_O → am_A → Prop} {e : Nat} {s : am_Z} {T : am_LT} {b : Nat} {f0 g0 : Int → Int} (I : am_CI e q s) (J : am_JJ s) (P : am_PL s T) (hb : (b : Int) < rI s 44) : ∀ (m : Nat) (j : Nat) (c sm : Int) (q1 : am_A) (T1 : am_LT) (x13 x14 x15 x16 : Option am_V), 11 - j < m → (c = j ∧ (j : Int) ≤ rA s 52 (b : Int) ∧ sm = sumI (10 * (b : Int)) j (rA s 57) ∧ am_LA q1 T1 ∧ am_W24 q q1 ∧ (∀ (i : Nat) (x : Int), i ≠ 6 → T1 i x = T i x) ∧ am_EE s T1 (fun i => f0 i + sumI (10 * (b : Int)) j (fw s (fO s i) b)) (fun m => g0 m + sumI (10 * (b : Int)) j (fw s (fP s m) b))) → (∀ x12 x13 x14 x15 x16 q1 T1, am_LA q1 T1 → am_W24 q q1 → (∀ (i : Nat) (x : Int), i ≠ 6 → T1 i x = T i x) → am_EE s T1 (fun i => f0 i + sumI (10 * (b : Int)) (rA s 52 (b : Int)).toNat (fw s (fO s i) b)) (fun m => g0 m + sumI (10 * (b : Int)) (rA s 52 (b : Int)).toNat (fw s (fP s m) b)) → am_W2 (d + 7) m_L_areBookings 419 [some (aR 8 0), some (aR 24 0), some (aR 24 3), some (aR 24 4), some (aR 24 5), some (aR 24 6), some (aI (zI 1)), some (aI (zI (b : Int))), some (aI (zI (1000 * rA s 47 (b : Int) + 10 * rA s 52 (b : Int) + rA s 45 (b : Int)))), some (aI (zI (rA s 52 (b : Int)))), some (aI (zI (sumI (10 * (b : Int)) (rA s 52 (b : Int)).toNat (rA s 57)))), some (aI (zI (rA s 50 (b : Int)))), x12, x13, x14, x15, x16] [] (q1) Q) → am_W2 (d + 7) m_L_areBookings 164 [some (aR 8 0), some (aR 24 0), some (aR 24 3), some (aR 24 4), some (aR 24 5), some (aR 24 6), some (aI (zI 1)), some (aI (zI (b : Int))), some (aI (zI (1000 * rA s 47 (b : Int) + 10 * rA s 52 (b : Int) + rA s 45 (b : Int)))), some (aI (zI (rA s 52 (b : Int)))), some (aI (zI sm)), some (aI (zI (rA s 50 (b : Int)))), some (aI (zI c)), x13, x14, x15, x16] [] (q1) Q := by
  intro m
  induction m with
  | zero => intro j c sm q1 T1 x13 x14 x15 x16 hm; exact absurd hm (Nat.not_lt_zero _)
  | succ m ih =>
    intro j c sm q1 T1 x13 x14 x15 x16 hm ⟨hj, hj2, hs, hH, hW, hO, hE⟩ K
    subst hj
    subst hs
    have I1 := hW.1 _ _ I
    have B := CV_B I.1
    have b44 := B.2.1 44 0 40 rfl
    have b3 := B.2.1 3 0 12 rfl
    have c47 := B.1 47 (b : Int) 0 3 rfl
    have c52 := B.1 52 (b : Int) 0 10 rfl
    have c45 := B.1 45 (b : Int) 0 9 rfl
    have b50 := B.1 50 (b : Int) 0 2 rfl
    have b46 : -1 ≤ rA s 46 (b : Int) ∧ rA s 46 (b : Int) ≤ 3 := ⟨(B.1 46 (b : Int) (-1) 4 rfl).1, (J.2.1.1 b (by omega) hb).1.2.1⟩
    have r53 := B.1 53 (10 * (b : Int) + (j : Int)) 0 1160 rfl
    have r54 := B.1 54 (10 * (b : Int) + (j : Int)) 0 3 rfl
    have r55 := B.1 55 (10 * (b : Int) + (j : Int)) 0 5 rfl
    have r57 := B.1 57 (10 * (b : Int) + (j : Int)) (-2147483648) 2147483647 rfl
    have b4 := B.1 4 (rA s 53 (10 * (b : Int) + (j : Int)) / 100) 0 2 rfl
    have b8 := B.1 8 (rA s 53 (10 * (b : Int) + (j : Int)) / 100) 0 20 rfl
    have hc : (j : Int) < rA s 52 (b : Int) → (legP s (rA s 53 (10 * (b : Int) + (j : Int))) ∧ (rA s 55 (10 * (b : Int) + (j : Int)) = 2 ∨ rA s 55 (10 * (b : Int) + (j : Int)) = 3 → standing s (rA s 53 (10 * (b : Int) + (j : Int))) % 10 = 1)) ∧ (2 ≤ rA s 47 (b : Int) → 2 ≤ rA s 55 (10 * (b : Int) + (j : Int))) ∧ (rA s 55 (10 * (b : Int) + (j : Int)) = 4 → rA s 57 (10 * (b : Int) + (j : Int)) = 0) ∧ (rA s 47 (b : Int) = 0 → rA s 55 (10 * (b : Int) + (j : Int)) = 0) := fun z => by
      have z1 := (I.1.2.2.2.2.2.2.1.2.2.2.1 b j hb z).2.2.2.1
      have z2 := (J.2.1.1 b (by omega) hb).2.2 j (by omega) z
      refine ⟨⟨z1, fun y => ?_⟩, z2.2.1, z2.2.2, fun y => J.1.2.1.2.1 b j hb y z⟩
      have g := (J.2.2 (10 * (b : Int) + (j : Int)) y).2
      unfold standing
      rw [if_neg (fun w => w g.1), if_pos g]
      omega
    have pn0 : rA s 53 (10 * (b : Int) + (j : Int)) / 100 < rI s 3 → T1 0 (5 * (rA s 53 (10 * (b : Int) + (j : Int)) / 100)) = rA s 4 (rA s 53 (10 * (b : Int) + (j : Int)) / 100) ∧ T1 0 (5 * (rA s 53 (10 * (b : Int) + (j : Int)) / 100) + 3) = rA s 8 (rA s 53 (10 * (b : Int) + (j : Int)) / 100) := fun z => by
      have y := P.2.1 (rA s 53 (10 * (b : Int) + (j : Int)) / 100) (by omega) z
      rw [hO 0 _ (by omega), hO 0 _ (by omega)]
      exact ⟨y.1, y.2.2.2.1⟩
    have p46 : T1 4 (b : Int) = rA s 46 (b : Int) := by
      rw [hO 4 _ (by omega)]
      exact (P.2.2.2.2.1 b (by omega) hb).2
    refine ar_iload rfl rfl ?_
    refine ar_iload rfl rfl ?_
    refine ar_icmp_ge rfl rfl (by omega) (by omega) (fun h168 => ?_) (fun h168 => ?_)
    · have ej : j = (rA s 52 (b : Int)).toNat := by omega
      rw [ej] at hE
      rw [show sumI (10 * (b : Int)) j (rA s 57) = sumI (10 * (b : Int)) (rA s 52 (b : Int)).toNat (rA s 57) from by rw [ej]]
      exact K _ _ _ _ _ _ _ hH hW hO hE
    · refine ar_iload rfl rfl ?_
      refine ar_if_eq rfl rfl (by omega) (fun ht => by omega) (fun h173 => ?_)
      refine ar_aload_n rfl rfl ?_
      refine ar_iload rfl rfl ?_
      refine ar_iload rfl rfl ?_
      refine ar_cv2 rfl rfl rfl (Nat.le_of_ble_eq_true rfl) (T2_is (cs_coupon (d := 0) I1.1 (by omega) (by omega)) ⟨⟨by omega, hb⟩, by omega, by omega⟩) (by omega) (fun o q181 hq => am_B2_is ?_ hq)
      obtain ⟨⟨hl, hst⟩, hc2, hc4, hc0⟩ := hc (by omega)
      obtain ⟨n4, n8⟩ := pn0 hl.2.1
      have bst := st_b B (l := rA s 53 (10 * (b : Int) + (j : Int)))
      refine ar_stI13 rfl ?_
      refine ar_iload rfl rfl ?_
      refine ar_bipush (x := 10) rfl rfl ?_
      refine ar_irem rfl (by omega) (by omega) ?_
      rw [show (100 * rA s 53 (10 * (b : Int) + (j : Int)) + 10 * rA s 54 (10 * (b : Int) + (j : Int)) + rA s 55 (10 * (b : Int) + (j : Int))) % 10 = rA s 55 (10 * (b : Int) + (j : Int)) by omega]
      refine ar_stI14 rfl ?_
      refine ar_iload rfl rfl ?_
      refine ar_sipush (x := 10000) rfl rfl ?_
      refine ar_idiv rfl (by omega) (by omega) ?_
      rw [show (100 * rA s 53 (10 * (b : Int) + (j : Int)) + 10 * rA s 54 (10 * (b : Int) + (j : Int)) + rA s 55 (10 * (b : Int) + (j : Int))) / 10000 = rA s 53 (10 * (b : Int) + (j : Int)) / 100 by omega]
      refine ar_stI15 rfl ?_
      refine ar_iload rfl rfl ?_
      refine ar_aload_n rfl rfl ?_
      refine ar_iload rfl rfl ?_
      refine ar_iload rfl rfl ?_
      refine ar_cv2 rfl rfl rfl (Nat.le_of_ble_eq_true rfl) (T2_is (cs_share (d := 0) I1.1 (by omega) (by omega)) ⟨⟨by omega, hb⟩, by omega, by omega⟩) (by omega) (fun o q208 hq => am_B2_is ?_ hq)
      refine ar_iadd rfl ?_
      refine ar_stI10 rfl ?_
      refine cq_join (pc' := 227) (V := if 2000 ≤ (1000 * rA s 47 (b : Int) + 10 * rA s 52 (b : Int) + rA s 45 (b : Int)) then 1 else 0) ?_ (fun K227 => ?_)
      · refine ar_stI16 rfl ?_
        refine cq_join (pc' := 322) (V := 1) ?_ (fun K322 => ?_)
        · refine ar_stI6 rfl ?_
          refine ar_iload rfl rfl ?_
          refine ar_iconst rfl ?_
          refine ar_icmp_ne rfl rfl (by omega) (by omega) (fun h327 => ?_) (fun h327 => ?_)
          · refine ar_inc12 rfl ?_
            refine ar_goto rfl rfl ?_
            first | exact ih (j + 1) _ _ _ _ _ _ _ _ (by omega) ⟨by omega, by omega, by rw [sumI_s], hH, hW, hO, EE_no hE h327⟩ K | exact ih (j + 1) _ _ _ _ _ _ _ _ (by omega) ⟨by omega, by omega, by rw [sumI_s], H412, W24_t hW (W24_t W360 W412), (fun i x hx => by rw [uT_n (Or.inl hx), uT_n (Or.inl hx)]; exact hO i x hx), EE_yes hE h327 b50 b4 b46⟩ K
          · refine ar_aload rfl rfl ?_
            refine ar_iconst rfl ?_
            refine ar_iload rfl rfl ?_
            refine ar_imul rfl ?_
            refine ar_aload_n rfl rfl ?_
            refine ar_iconst rfl ?_
            refine ar_iload rfl rfl ?_
            refine ar_imul rfl ?_
            refine ar_ial24 (n := 60) rfl hH (by omega) rfl (by omega) ?_
            rw [n4]
            refine ar_iadd rfl ?_
            refine ar_dup2 rfl rfl rfl ?_
            refine ar_ial24 (n := 14) rfl hH (by omega) rfl (by omega) ?_
            refine ar_iload rfl rfl ?_
            refine ar_bipush (x := 10) rfl rfl ?_
            refine ar_irem rfl (by omega) (by omega) ?_
            rw [show (1000 * rA s 47 (b : Int) + 10 * rA s 52 (b : Int) + rA s 45 (b : Int)) % 10 = rA s 45 (b : Int) by omega]
            refine ar_aload_n rfl rfl ?_
            refine ar_iload rfl rfl ?_
            refine ar_iload rfl rfl ?_
            refine ar_cv2 rfl rfl rfl (Nat.le_of_ble_eq_true rfl) (T2_is (cs_share (d := 0) I1.1 (by omega) (by omega)) ⟨⟨by omega, hb⟩, by omega, by omega⟩) (by omega) (fun o q355 hq => am_B2_is ?_ hq)
            refine ar_imul rfl ?_
            refine ar_iadd rfl ?_
            refine ar_ias24 (n := 14) rfl hH (by omega) rfl (by omega) (fun q360 H360 W360 => ?_)
            refine ar_aload rfl rfl ?_
            refine ar_bipush (x := 9) rfl rfl ?_
            refine cq_join (pc' := 380) (V := if rA s 46 (b : Int) < 0 then 4 else rA s 46 (b : Int)) ?_ (fun K380 => ?_)
            · have bm : 0 ≤ (if rA s 46 (b : Int) < 0 then 4 else rA s 46 (b : Int)) ∧ (if rA s 46 (b : Int) < 0 then 4 else rA s 46 (b : Int)) ≤ 4 := by split <;> omega
              refine ar_iadd rfl ?_
              refine ar_dup2 rfl rfl rfl ?_
              refine ar_ial24 (n := 14) rfl H360 (by omega) rfl (by omega) ?_
              refine cq_join (pc' := 411) (V := if rA s 46 (b : Int) < 0 then 0 else 10 * rA s 45 (b : Int) * rA s 8 (rA s 53 (10 * (b : Int) + (j : Int)) / 100)) ?_ (fun K411 => ?_)
              · refine ar_iadd rfl ?_
                refine ar_ias24 (n := 14) rfl H360 (by omega) rfl (by omega) (fun q412 H412 W412 => ?_)
                refine ar_inc12 rfl ?_
                refine ar_goto rfl rfl ?_
                first | exact ih (j + 1) _ _ _ _ _ _ _ _ (by omega) ⟨by omega, by omega, by rw [sumI_s], hH, hW, hO, EE_no hE h327⟩ K | exact ih (j + 1) _ _ _ _ _ _ _ _ (by omega) ⟨by omega, by omega, by rw [sumI_s], H412, W24_t hW (W24_t W360 W412), (fun i x hx => by rw [uT_n (Or.inl hx), uT_n (Or.inl hx)]; exact hO i x hx), EE_yes hE h327 b50 b4 b46⟩ K
              · refine ar_aload_n rfl rfl ?_
                refine ar_iload rfl rfl ?_
                refine ar_ial24 (n := 40) rfl H360 (by omega) rfl (by omega) ?_
                rw [uT_n (by omega), p46]
                refine ar_if_ge rfl rfl (by omega) (fun h387 => ?_) (fun h387 => ?_)
                · refine ar_bipush (x := 10) rfl rfl ?_
                  refine ar_iload rfl rfl ?_
                  refine ar_bipush (x := 10) rfl rfl ?_
                  refine ar_irem rfl (by omega) (by omega) ?_
                  rw [show (1000 * rA s 47 (b : Int) + 10 * rA s 52 (b : Int) + rA s 45 (b : Int)) % 10 = rA s 45 (b : Int) by omega]
                  refine ar_imul rfl ?_
                  refine ar_aload_n rfl rfl ?_
                  refine ar_iconst rfl ?_
                  refine ar_iload rfl rfl ?_
                  refine ar_imul rfl ?_
                  refine ar_iconst rfl ?_
                  refine ar_iadd rfl ?_
                  refine ar_ial24 (n := 60) rfl H360 (by omega) rfl (by omega) ?_
                  rw [uT_n (by omega), n8]
                  refine ar_imul rfl ?_
                  exact K411 _ (by first | rw [if_pos (by omega)] | rw [if_neg (by omega)])
                · refine ar_iconst rfl ?_
                  refine ar_goto rfl rfl ?_
                  exact K411 _ (by first | rw [if_pos (by omega)] | rw [if_neg (by omega)])
            · refine ar_aload_n rfl rfl ?_
              refine ar_iload rfl rfl ?_
              refine ar_ial24 (n := 40) rfl H360 (by omega) rfl (by omega) ?_
              rw [uT_n (by omega), p46]
              refine ar_if_ge rfl rfl (by omega) (fun h369 => ?_) (fun h369 => ?_)
              · refine ar_aload_n rfl rfl ?_
                refine ar_iload rfl rfl ?_
                refine ar_ial24 (n := 40) rfl H360 (by omega) rfl (by omega) ?_
                exact K380 _ (by first | (rw [uT_n (by omega), p46, if_neg (by omega)]; done) | (rw [if_pos (by omega)]; done) | (rw [if_neg (by omega)]; done))
              · refine ar_iconst rfl ?_
                refine ar_goto rfl rfl ?_
                exact K380 _ (by first | (rw [uT_n (by omega), p46, if_neg (by omega)]; done) | (rw [if_pos (by omega)]; done) | (rw [if_neg (by omega)]; done))
        · refine ar_iload rfl rfl ?_
          refine ar_bipush (x := 6) rfl rfl ?_
          refine ar_icmp_ge rfl rfl (by omega) (by omega) (fun h233 => ?_) (fun h233 => ?_)
          · refine ar_iconst rfl ?_
            exact K322 _ (by first | rfl | (exfalso; omega))
          · refine ar_iload rfl rfl ?_
            refine ar_bipush (x := 10) rfl rfl ?_
            refine ar_idiv rfl (by omega) (by omega) ?_
            refine ar_bipush (x := 10) rfl rfl ?_
            refine ar_irem rfl (by omega) (by omega) ?_
            refine ar_iconst rfl ?_
            refine ar_icmp_ge rfl rfl (by omega) (by omega) (fun h245 => ?_) (fun h245 => ?_)
            · refine ar_iconst rfl ?_
              exact K322 _ (by first | rfl | (exfalso; omega))
            · refine ar_iload rfl rfl ?_
              refine ar_iconst rfl ?_
              refine ar_icmp_ne rfl rfl (by omega) (by omega) (fun h251 => ?_) (fun h251 => ?_)
              · refine ar_iload rfl rfl ?_
                refine ar_if_eqB rfl rfl (fun h267 => ?_) (fun h267 => ?_)
                · refine ar_iload rfl rfl ?_
                  refine ar_sipush (x := 1000) rfl rfl ?_
                  refine ar_icmp_ge rfl rfl (by omega) (by omega) (fun h281 => ?_) (fun h281 => ?_)
                  · refine ar_iload rfl rfl ?_
                    refine ar_iconst rfl ?_
                    refine ar_icmp_eq rfl rfl (by omega) (by omega) (fun h292 => ?_) (fun h292 => ?_)
                    · refine ar_aload_n rfl rfl ?_
                      have hst1 := hst (by omega)
                      refine ar_iload rfl rfl ?_
                      refine ar_bipush (x := 100) rfl rfl ?_
                      refine ar_idiv rfl (by omega) (by omega) ?_
                      rw [show (100 * rA s 53 (10 * (b : Int) + (j : Int)) + 10 * rA s 54 (10 * (b : Int) + (j : Int)) + rA s 55 (10 * (b : Int) + (j : Int))) / 100 = rA s 53 (10 * (b : Int) + (j : Int)) by omega]
                      refine ar_cv1 rfl rfl rfl (Nat.le_of_ble_eq_true rfl) (T2_is (cs_standing (d := 0) I1.1 (by omega)) hl) (by omega) (fun o q307 hq => am_B2_is ?_ hq)
                      refine ar_bipush (x := 10) rfl rfl ?_
                      refine ar_irem rfl (by omega) (by omega) ?_
                      refine ar_iconst rfl ?_
                      refine ar_icmp_ne rfl rfl (by omega) (by omega) (fun h314 => ?_) (fun h314 => ?_)
                      · refine ar_iconst rfl ?_
                        exact K322 _ (by first | rfl | (exfalso; omega))
                      · refine ar_iconst rfl ?_
                        refine ar_goto rfl rfl ?_
                        exact K322 _ (by first | rfl | (exfalso; omega))
                    · refine ar_iload rfl rfl ?_
                      refine ar_iconst rfl ?_
                      refine ar_icmp_ne rfl rfl (by omega) (by omega) (fun h298 => ?_) (fun h298 => ?_)
                      · refine ar_iconst rfl ?_
                        refine ar_goto rfl rfl ?_
                        exact K322 _ (by first | rfl | (exfalso; omega))
                      · refine ar_aload_n rfl rfl ?_
                        have hst1 := hst (by omega)
                        refine ar_iload rfl rfl ?_
                        refine ar_bipush (x := 100) rfl rfl ?_
                        refine ar_idiv rfl (by omega) (by omega) ?_
                        rw [show (100 * rA s 53 (10 * (b : Int) + (j : Int)) + 10 * rA s 54 (10 * (b : Int) + (j : Int)) + rA s 55 (10 * (b : Int) + (j : Int))) / 100 = rA s 53 (10 * (b : Int) + (j : Int)) by omega]
                        refine ar_cv1 rfl rfl rfl (Nat.le_of_ble_eq_true rfl) (T2_is (cs_standing (d := 0) I1.1 (by omega)) hl) (by omega) (fun o q307 hq => am_B2_is ?_ hq)
                        refine ar_bipush (x := 10) rfl rfl ?_
                        refine ar_irem rfl (by omega) (by omega) ?_
                        refine ar_iconst rfl ?_
                        refine ar_icmp_ne rfl rfl (by omega) (by omega) (fun h314 => ?_) (fun h314 => ?_)
                        · refine ar_iconst rfl ?_
                          exact K322 _ (by first | rfl | (exfalso; omega))
                        · refine ar_iconst rfl ?_
                          refine ar_goto rfl rfl ?_
                          exact K322 _ (by first | rfl | (exfalso; omega))
                  · refine ar_iload rfl rfl ?_
                    refine ar_if_ne rfl rfl (by omega) (fun h286 => ?_) (fun h286 => ?_)
                    · refine ar_iconst rfl ?_
                      exact K322 _ (by first | rfl | (exfalso; omega))
                    · refine ar_iload rfl rfl ?_
                      refine ar_iconst rfl ?_
                      refine ar_icmp_eq rfl rfl (by omega) (by omega) (fun h292 => ?_) (fun h292 => ?_)
                      · refine ar_aload_n rfl rfl ?_
                        have hst1 := hst (by omega)
                        refine ar_iload rfl rfl ?_
                        refine ar_bipush (x := 100) rfl rfl ?_
                        refine ar_idiv rfl (by omega) (by omega) ?_
                        rw [show (100 * rA s 53 (10 * (b : Int) + (j : Int)) + 10 * rA s 54 (10 * (b : Int) + (j : Int)) + rA s 55 (10 * (b : Int) + (j : Int))) / 100 = rA s 53 (10 * (b : Int) + (j : Int)) by omega]
                        refine ar_cv1 rfl rfl rfl (Nat.le_of_ble_eq_true rfl) (T2_is (cs_standing (d := 0) I1.1 (by omega)) hl) (by omega) (fun o q307 hq => am_B2_is ?_ hq)
                        refine ar_bipush (x := 10) rfl rfl ?_
                        refine ar_irem rfl (by omega) (by omega) ?_
                        refine ar_iconst rfl ?_
                        refine ar_icmp_ne rfl rfl (by omega) (by omega) (fun h314 => ?_) (fun h314 => ?_)
                        · refine ar_iconst rfl ?_
                          exact K322 _ (by first | rfl | (exfalso; omega))
                        · refine ar_iconst rfl ?_
                          refine ar_goto rfl rfl ?_
                          exact K322 _ (by first | rfl | (exfalso; omega))
                      · refine ar_iload rfl rfl ?_
                        refine ar_iconst rfl ?_
                        refine ar_icmp_ne rfl rfl (by omega) (by omega) (fun h298 => ?_) (fun h298 => ?_)
                        · refine ar_iconst rfl ?_
                          refine ar_goto rfl rfl ?_
                          exact K322 _ (by first | rfl | (exfalso; omega))
                        · refine ar_aload_n rfl rfl ?_
                          have hst1 := hst (by omega)
                          refine ar_iload rfl rfl ?_
                          refine ar_bipush (x := 100) rfl rfl ?_
                          refine ar_idiv rfl (by omega) (by omega) ?_
                          rw [show (100 * rA s 53 (10 * (b : Int) + (j : Int)) + 10 * rA s 54 (10 * (b : Int) + (j : Int)) + rA s 55 (10 * (b : Int) + (j : Int))) / 100 = rA s 53 (10 * (b : Int) + (j : Int)) by omega]
                          refine ar_cv1 rfl rfl rfl (Nat.le_of_ble_eq_true rfl) (T2_is (cs_standing (d := 0) I1.1 (by omega)) hl) (by omega) (fun o q307 hq => am_B2_is ?_ hq)
                          refine ar_bipush (x := 10) rfl rfl ?_
                          refine ar_irem rfl (by omega) (by omega) ?_
                          refine ar_iconst rfl ?_
                          refine ar_icmp_ne rfl rfl (by omega) (by omega) (fun h314 => ?_) (fun h314 => ?_)
                          · refine ar_iconst rfl ?_
                            exact K322 _ (by first | rfl | (exfalso; omega))
                          · refine ar_iconst rfl ?_
                            refine ar_goto rfl rfl ?_
                            exact K322 _ (by first | rfl | (exfalso; omega))
                · refine ar_iload rfl rfl ?_
                  refine ar_iconst rfl ?_
                  refine ar_icmp_le rfl rfl (by omega) (by omega) (fun h273 => ?_) (fun h273 => ?_)
                  · refine ar_iconst rfl ?_
                    exact K322 _ (by first | rfl | (exfalso; omega))
                  · refine ar_iload rfl rfl ?_
                    refine ar_sipush (x := 1000) rfl rfl ?_
                    refine ar_icmp_ge rfl rfl (by omega) (by omega) (fun h281 => ?_) (fun h281 => ?_)
                    · refine ar_iload rfl rfl ?_
                      refine ar_iconst rfl ?_
                      refine ar_icmp_eq rfl rfl (by omega) (by omega) (fun h292 => ?_) (fun h292 => ?_)
                      · refine ar_aload_n rfl rfl ?_
                        have hst1 := hst (by omega)
                        refine ar_iload rfl rfl ?_
                        refine ar_bipush (x := 100) rfl rfl ?_
                        refine ar_idiv rfl (by omega) (by omega) ?_
                        rw [show (100 * rA s 53 (10 * (b : Int) + (j : Int)) + 10 * rA s 54 (10 * (b : Int) + (j : Int)) + rA s 55 (10 * (b : Int) + (j : Int))) / 100 = rA s 53 (10 * (b : Int) + (j : Int)) by omega]
                        refine ar_cv1 rfl rfl rfl (Nat.le_of_ble_eq_true rfl) (T2_is (cs_standing (d := 0) I1.1 (by omega)) hl) (by omega) (fun o q307 hq => am_B2_is ?_ hq)
                        refine ar_bipush (x := 10) rfl rfl ?_
                        refine ar_irem rfl (by omega) (by omega) ?_
                        refine ar_iconst rfl ?_
                        refine ar_icmp_ne rfl rfl (by omega) (by omega) (fun h314 => ?_) (fun h314 => ?_)
                        · refine ar_iconst rfl ?_
                          exact K322 _ (by first | rfl | (exfalso; omega))
                        · refine ar_iconst rfl ?_
                          refine ar_goto rfl rfl ?_
                          exact K322 _ (by first | rfl | (exfalso; omega))
                      · refine ar_iload rfl rfl ?_
                        refine ar_iconst rfl ?_
                        refine ar_icmp_ne rfl rfl (by omega) (by omega) (fun h298 => ?_) (fun h298 => ?_)
                        · refine ar_iconst rfl ?_
                          refine ar_goto rfl rfl ?_
                          exact K322 _ (by first | rfl | (exfalso; omega))
                        · refine ar_aload_n rfl rfl ?_
                          have hst1 := hst (by omega)
                          refine ar_iload rfl rfl ?_
                          refine ar_bipush (x := 100) rfl rfl ?_
                          refine ar_idiv rfl (by omega) (by omega) ?_
                          rw [show (100 * rA s 53 (10 * (b : Int) + (j : Int)) + 10 * rA s 54 (10 * (b : Int) + (j : Int)) + rA s 55 (10 * (b : Int) + (j : Int))) / 100 = rA s 53 (10 * (b : Int) + (j : Int)) by omega]
                          refine ar_cv1 rfl rfl rfl (Nat.le_of_ble_eq_true rfl) (T2_is (cs_standing (d := 0) I1.1 (by omega)) hl) (by omega) (fun o q307 hq => am_B2_is ?_ hq)
                          refine ar_bipush (x := 10) rfl rfl ?_
                          refine ar_irem rfl (by omega) (by omega) ?_
                          refine ar_iconst rfl ?_
                          refine ar_icmp_ne rfl rfl (by omega) (by omega) (fun h314 => ?_) (fun h314 => ?_)
                          · refine ar_iconst rfl ?_
                            exact K322 _ (by first | rfl | (exfalso; omega))
                          · refine ar_iconst rfl ?_
                            refine ar_goto rfl rfl ?_
                            exact K322 _ (by first | rfl | (exfalso; omega))
                    · refine ar_iload rfl rfl ?_
                      refine ar_if_ne rfl rfl (by omega) (fun h286 => ?_) (fun h286 => ?_)
                      · refine ar_iconst rfl ?_
                        exact K322 _ (by first | rfl | (exfalso; omega))
                      · refine ar_iload rfl rfl ?_
                        refine ar_iconst rfl ?_
                        refine ar_icmp_eq rfl rfl (by omega) (by omega) (fun h292 => ?_) (fun h292 => ?_)
                        · refine ar_aload_n rfl rfl ?_
                          have hst1 := hst (by omega)
                          refine ar_iload rfl rfl ?_
                          refine ar_bipush (x := 100) rfl rfl ?_
                          refine ar_idiv rfl (by omega) (by omega) ?_
                          rw [show (100 * rA s 53 (10 * (b : Int) + (j : Int)) + 10 * rA s 54 (10 * (b : Int) + (j : Int)) + rA s 55 (10 * (b : Int) + (j : Int))) / 100 = rA s 53 (10 * (b : Int) + (j : Int)) by omega]
                          refine ar_cv1 rfl rfl rfl (Nat.le_of_ble_eq_true rfl) (T2_is (cs_standing (d := 0) I1.1 (by omega)) hl) (by omega) (fun o q307 hq => am_B2_is ?_ hq)
                          refine ar_bipush (x := 10) rfl rfl ?_
                          refine ar_irem rfl (by omega) (by omega) ?_
                          refine ar_iconst rfl ?_
                          refine ar_icmp_ne rfl rfl (by omega) (by omega) (fun h314 => ?_) (fun h314 => ?_)
                          · refine ar_iconst rfl ?_
                            exact K322 _ (by first | rfl | (exfalso; omega))
                          · refine ar_iconst rfl ?_
                            refine ar_goto rfl rfl ?_
                            exact K322 _ (by first | rfl | (exfalso; omega))
                        · refine ar_iload rfl rfl ?_
                          refine ar_iconst rfl ?_
                          refine ar_icmp_ne rfl rfl (by omega) (by omega) (fun h298 => ?_) (fun h298 => ?_)
                          · refine ar_iconst rfl ?_
                            refine ar_goto rfl rfl ?_
                            exact K322 _ (by first | rfl | (exfalso; omega))
                          · refine ar_aload_n rfl rfl ?_
                            have hst1 := hst (by omega)
                            refine ar_iload rfl rfl ?_
                            refine ar_bipush (x := 100) rfl rfl ?_
                            refine ar_idiv rfl (by omega) (by omega) ?_
                            rw [show (100 * rA s 53 (10 * (b : Int) + (j : Int)) + 10 * rA s 54 (10 * (b : Int) + (j : Int)) + rA s 55 (10 * (b : Int) + (j : Int))) / 100 = rA s 53 (10 * (b : Int) + (j : Int)) by omega]
                            refine ar_cv1 rfl rfl rfl (Nat.le_of_ble_eq_true rfl) (T2_is (cs_standing (d := 0) I1.1 (by omega)) hl) (by omega) (fun o q307 hq => am_B2_is ?_ hq)
                            refine ar_bipush (x := 10) rfl rfl ?_
                            refine ar_irem rfl (by omega) (by omega) ?_
                            refine ar_iconst rfl ?_
                            refine ar_icmp_ne rfl rfl (by omega) (by omega) (fun h314 => ?_) (fun h314 => ?_)
                            · refine ar_iconst rfl ?_
                              exact K322 _ (by first | rfl | (exfalso; omega))
                            · refine ar_iconst rfl ?_
                              refine ar_goto rfl rfl ?_
                              exact K322 _ (by first | rfl | (exfalso; omega))
              · refine ar_aload_n rfl rfl ?_
                refine ar_iload rfl rfl ?_
                refine ar_iload rfl rfl ?_
                refine ar_cv2 rfl rfl rfl (Nat.le_of_ble_eq_true rfl) (T2_is (cs_share (d := 0) I1.1 (by omega) (by omega)) ⟨⟨by omega, hb⟩, by omega, by omega⟩) (by omega) (fun o q259 hq => am_B2_is ?_ hq)
                refine ar_if_ne rfl rfl (by omega) (fun h262 => ?_) (fun h262 => ?_)
                · refine ar_iconst rfl ?_
                  exact K322 _ (by first | rfl | (exfalso; omega))
                · refine ar_iload rfl rfl ?_
                  refine ar_if_eqB rfl rfl (fun h267 => ?_) (fun h267 => ?_)
                  · refine ar_iload rfl rfl ?_
                    refine ar_sipush (x := 1000) rfl rfl ?_
                    refine ar_icmp_ge rfl rfl (by omega) (by omega) (fun h281 => ?_) (fun h281 => ?_)
                    · refine ar_iload rfl rfl ?_
                      refine ar_iconst rfl ?_
                      refine ar_icmp_eq rfl rfl (by omega) (by omega) (fun h292 => ?_) (fun h292 => ?_)
                      · refine ar_aload_n rfl rfl ?_
                        have hst1 := hst (by omega)
                        refine ar_iload rfl rfl ?_
                        refine ar_bipush (x := 100) rfl rfl ?_
                        refine ar_idiv rfl (by omega) (by omega) ?_
                        rw [show (100 * rA s 53 (10 * (b : Int) + (j : Int)) + 10 * rA s 54 (10 * (b : Int) + (j : Int)) + rA s 55 (10 * (b : Int) + (j : Int))) / 100 = rA s 53 (10 * (b : Int) + (j : Int)) by omega]
                        refine ar_cv1 rfl rfl rfl (Nat.le_of_ble_eq_true rfl) (T2_is (cs_standing (d := 0) I1.1 (by omega)) hl) (by omega) (fun o q307 hq => am_B2_is ?_ hq)
                        refine ar_bipush (x := 10) rfl rfl ?_
                        refine ar_irem rfl (by omega) (by omega) ?_
                        refine ar_iconst rfl ?_
                        refine ar_icmp_ne rfl rfl (by omega) (by omega) (fun h314 => ?_) (fun h314 => ?_)
                        · refine ar_iconst rfl ?_
                          exact K322 _ (by first | rfl | (exfalso; omega))
                        · refine ar_iconst rfl ?_
                          refine ar_goto rfl rfl ?_
                          exact K322 _ (by first | rfl | (exfalso; omega))
                      · refine ar_iload rfl rfl ?_
                        refine ar_iconst rfl ?_
                        refine ar_icmp_ne rfl rfl (by omega) (by omega) (fun h298 => ?_) (fun h298 => ?_)
                        · refine ar_iconst rfl ?_
                          refine ar_goto rfl rfl ?_
                          exact K322 _ (by first | rfl | (exfalso; omega))
                        · refine ar_aload_n rfl rfl ?_
                          have hst1 := hst (by omega)
                          refine ar_iload rfl rfl ?_
                          refine ar_bipush (x := 100) rfl rfl ?_
                          refine ar_idiv rfl (by omega) (by omega) ?_
                          rw [show (100 * rA s 53 (10 * (b : Int) + (j : Int)) + 10 * rA s 54 (10 * (b : Int) + (j : Int)) + rA s 55 (10 * (b : Int) + (j : Int))) / 100 = rA s 53 (10 * (b : Int) + (j : Int)) by omega]
                          refine ar_cv1 rfl rfl rfl (Nat.le_of_ble_eq_true rfl) (T2_is (cs_standing (d := 0) I1.1 (by omega)) hl) (by omega) (fun o q307 hq => am_B2_is ?_ hq)
                          refine ar_bipush (x := 10) rfl rfl ?_
                          refine ar_irem rfl (by omega) (by omega) ?_
                          refine ar_iconst rfl ?_
                          refine ar_icmp_ne rfl rfl (by omega) (by omega) (fun h314 => ?_) (fun h314 => ?_)
                          · refine ar_iconst rfl ?_
                            exact K322 _ (by first | rfl | (exfalso; omega))
                          · refine ar_iconst rfl ?_
                            refine ar_goto rfl rfl ?_
                            exact K322 _ (by first | rfl | (exfalso; omega))
                    · refine ar_iload rfl rfl ?_
                      refine ar_if_ne rfl rfl (by omega) (fun h286 => ?_) (fun h286 => ?_)
                      · refine ar_iconst rfl ?_
                        exact K322 _ (by first | rfl | (exfalso; omega))
                      · refine ar_iload rfl rfl ?_
                        refine ar_iconst rfl ?_
                        refine ar_icmp_eq rfl rfl (by omega) (by omega) (fun h292 => ?_) (fun h292 => ?_)
                        · refine ar_aload_n rfl rfl ?_
                          have hst1 := hst (by omega)
                          refine ar_iload rfl rfl ?_
                          refine ar_bipush (x := 100) rfl rfl ?_
                          refine ar_idiv rfl (by omega) (by omega) ?_
                          rw [show (100 * rA s 53 (10 * (b : Int) + (j : Int)) + 10 * rA s 54 (10 * (b : Int) + (j : Int)) + rA s 55 (10 * (b : Int) + (j : Int))) / 100 = rA s 53 (10 * (b : Int) + (j : Int)) by omega]
                          refine ar_cv1 rfl rfl rfl (Nat.le_of_ble_eq_true rfl) (T2_is (cs_standing (d := 0) I1.1 (by omega)) hl) (by omega) (fun o q307 hq => am_B2_is ?_ hq)
                          refine ar_bipush (x := 10) rfl rfl ?_
                          refine ar_irem rfl (by omega) (by omega) ?_
                          refine ar_iconst rfl ?_
                          refine ar_icmp_ne rfl rfl (by omega) (by omega) (fun h314 => ?_) (fun h314 => ?_)
                          · refine ar_iconst rfl ?_
                            exact K322 _ (by first | rfl | (exfalso; omega))
                          · refine ar_iconst rfl ?_
                            refine ar_goto rfl rfl ?_
                            exact K322 _ (by first | rfl | (exfalso; omega))
                        · refine ar_iload rfl rfl ?_
                          refine ar_iconst rfl ?_
                          refine ar_icmp_ne rfl rfl (by omega) (by omega) (fun h298 => ?_) (fun h298 => ?_)
                          · refine ar_iconst rfl ?_
                            refine ar_goto rfl rfl ?_
                            exact K322 _ (by first | rfl | (exfalso; omega))
                          · refine ar_aload_n rfl rfl ?_
                            have hst1 := hst (by omega)
                            refine ar_iload rfl rfl ?_
                            refine ar_bipush (x := 100) rfl rfl ?_
                            refine ar_idiv rfl (by omega) (by omega) ?_
                            rw [show (100 * rA s 53 (10 * (b : Int) + (j : Int)) + 10 * rA s 54 (10 * (b : Int) + (j : Int)) + rA s 55 (10 * (b : Int) + (j : Int))) / 100 = rA s 53 (10 * (b : Int) + (j : Int)) by omega]
                            refine ar_cv1 rfl rfl rfl (Nat.le_of_ble_eq_true rfl) (T2_is (cs_standing (d := 0) I1.1 (by omega)) hl) (by omega) (fun o q307 hq => am_B2_is ?_ hq)
                            refine ar_bipush (x := 10) rfl rfl ?_
                            refine ar_irem rfl (by omega) (by omega) ?_
                            refine ar_iconst rfl ?_
                            refine ar_icmp_ne rfl rfl (by omega) (by omega) (fun h314 => ?_) (fun h314 => ?_)
                            · refine ar_iconst rfl ?_
                              exact K322 _ (by first | rfl | (exfalso; omega))
                            · refine ar_iconst rfl ?_
                              refine ar_goto rfl rfl ?_
                              exact K322 _ (by first | rfl | (exfalso; omega))
                  · refine ar_iload rfl rfl ?_
                    refine ar_iconst rfl ?_
                    refine ar_icmp_le rfl rfl (by omega) (by omega) (fun h273 => ?_) (fun h273 => ?_)
                    · refine ar_iconst rfl ?_
                      exact K322 _ (by first | rfl | (exfalso; omega))
                    · refine ar_iload rfl rfl ?_
                      refine ar_sipush (x := 1000) rfl rfl ?_
                      refine ar_icmp_ge rfl rfl (by omega) (by omega) (fun h281 => ?_) (fun h281 => ?_)
                      · refine ar_iload rfl rfl ?_
                        refine ar_iconst rfl ?_
                        refine ar_icmp_eq rfl rfl (by omega) (by omega) (fun h292 => ?_) (fun h292 => ?_)
                        · refine ar_aload_n rfl rfl ?_
                          have hst1 := hst (by omega)
                          refine ar_iload rfl rfl ?_
                          refine ar_bipush (x := 100) rfl rfl ?_
                          refine ar_idiv rfl (by omega) (by omega) ?_
                          rw [show (100 * rA s 53 (10 * (b : Int) + (j : Int)) + 10 * rA s 54 (10 * (b : Int) + (j : Int)) + rA s 55 (10 * (b : Int) + (j : Int))) / 100 = rA s 53 (10 * (b : Int) + (j : Int)) by omega]
                          refine ar_cv1 rfl rfl rfl (Nat.le_of_ble_eq_true rfl) (T2_is (cs_standing (d := 0) I1.1 (by omega)) hl) (by omega) (fun o q307 hq => am_B2_is ?_ hq)
                          refine ar_bipush (x := 10) rfl rfl ?_
                          refine ar_irem rfl (by omega) (by omega) ?_
                          refine ar_iconst rfl ?_
                          refine ar_icmp_ne rfl rfl (by omega) (by omega) (fun h314 => ?_) (fun h314 => ?_)
                          · refine ar_iconst rfl ?_
                            exact K322 _ (by first | rfl | (exfalso; omega))
                          · refine ar_iconst rfl ?_
                            refine ar_goto rfl rfl ?_
                            exact K322 _ (by first | rfl | (exfalso; omega))
                        · refine ar_iload rfl rfl ?_
                          refine ar_iconst rfl ?_
                          refine ar_icmp_ne rfl rfl (by omega) (by omega) (fun h298 => ?_) (fun h298 => ?_)
                          · refine ar_iconst rfl ?_
                            refine ar_goto rfl rfl ?_
                            exact K322 _ (by first | rfl | (exfalso; omega))
                          · refine ar_aload_n rfl rfl ?_
                            have hst1 := hst (by omega)
                            refine ar_iload rfl rfl ?_
                            refine ar_bipush (x := 100) rfl rfl ?_
                            refine ar_idiv rfl (by omega) (by omega) ?_
                            rw [show (100 * rA s 53 (10 * (b : Int) + (j : Int)) + 10 * rA s 54 (10 * (b : Int) + (j : Int)) + rA s 55 (10 * (b : Int) + (j : Int))) / 100 = rA s 53 (10 * (b : Int) + (j : Int)) by omega]
                            refine ar_cv1 rfl rfl rfl (Nat.le_of_ble_eq_true rfl) (T2_is (cs_standing (d := 0) I1.1 (by omega)) hl) (by omega) (fun o q307 hq => am_B2_is ?_ hq)
                            refine ar_bipush (x := 10) rfl rfl ?_
                            refine ar_irem rfl (by omega) (by omega) ?_
                            refine ar_iconst rfl ?_
                            refine ar_icmp_ne rfl rfl (by omega) (by omega) (fun h314 => ?_) (fun h314 => ?_)
                            · refine ar_iconst rfl ?_
                              exact K322 _ (by first | rfl | (exfalso; omega))
                            · refine ar_iconst rfl ?_
                              refine ar_goto rfl rfl ?_
                              exact K322 _ (by first | rfl | (exfalso; omega))
                      · refine ar_iload rfl rfl ?_
                        refine ar_if_ne rfl rfl (by omega) (fun h286 => ?_) (fun h286 => ?_)
                        · refine ar_iconst rfl ?_
                          exact K322 _ (by first | rfl | (exfalso; omega))
                        · refine ar_iload rfl rfl ?_
                          refine ar_iconst rfl ?_
                          refine ar_icmp_eq rfl rfl (by omega) (by omega) (fun h292 => ?_) (fun h292 => ?_)
                          · refine ar_aload_n rfl rfl ?_
                            have hst1 := hst (by omega)
                            refine ar_iload rfl rfl ?_
                            refine ar_bipush (x := 100) rfl rfl ?_
                            refine ar_idiv rfl (by omega) (by omega) ?_
                            rw [show (100 * rA s 53 (10 * (b : Int) + (j : Int)) + 10 * rA s 54 (10 * (b : Int) + (j : Int)) + rA s 55 (10 * (b : Int) + (j : Int))) / 100 = rA s 53 (10 * (b : Int) + (j : Int)) by omega]
                            refine ar_cv1 rfl rfl rfl (Nat.le_of_ble_eq_true rfl) (T2_is (cs_standing (d := 0) I1.1 (by omega)) hl) (by omega) (fun o q307 hq => am_B2_is ?_ hq)
                            refine ar_bipush (x := 10) rfl rfl ?_
                            refine ar_irem rfl (by omega) (by omega) ?_
                            refine ar_iconst rfl ?_
                            refine ar_icmp_ne rfl rfl (by omega) (by omega) (fun h314 => ?_) (fun h314 => ?_)
                            · refine ar_iconst rfl ?_
                              exact K322 _ (by first | rfl | (exfalso; omega))
                            · refine ar_iconst rfl ?_
                              refine ar_goto rfl rfl ?_
                              exact K322 _ (by first | rfl | (exfalso; omega))
                          · refine ar_iload rfl rfl ?_
                            refine ar_iconst rfl ?_
                            refine ar_icmp_ne rfl rfl (by omega) (by omega) (fun h298 => ?_) (fun h298 => ?_)
                            · refine ar_iconst rfl ?_
                              refine ar_goto rfl rfl ?_
                              exact K322 _ (by first | rfl | (exfalso; omega))
                            · refine ar_aload_n rfl rfl ?_
                              have hst1 := hst (by omega)
                              refine ar_iload rfl rfl ?_
                              refine ar_bipush (x := 100) rfl rfl ?_
                              refine ar_idiv rfl (by omega) (by omega) ?_
                              rw [show (100 * rA s 53 (10 * (b : Int) + (j : Int)) + 10 * rA s 54 (10 * (b : Int) + (j : Int)) + rA s 55 (10 * (b : Int) + (j : Int))) / 100 = rA s 53 (10 * (b : Int) + (j : Int)) by omega]
                              refine ar_cv1 rfl rfl rfl (Nat.le_of_ble_eq_true rfl) (T2_is (cs_standing (d := 0) I1.1 (by omega)) hl) (by omega) (fun o q307 hq => am_B2_is ?_ hq)
                              refine ar_bipush (x := 10) rfl rfl ?_
                              refine ar_irem rfl (by omega) (by omega) ?_
                              refine ar_iconst rfl ?_
                              refine ar_icmp_ne rfl rfl (by omega) (by omega) (fun h314 => ?_) (fun h314 => ?_)
                              · refine ar_iconst rfl ?_
                                exact K322 _ (by first | rfl | (exfalso; omega))
                              · refine ar_iconst rfl ?_
                                refine ar_goto rfl rfl ?_
                                exact K322 _ (by first | rfl | (exfalso; omega))
      · refine ar_iload rfl rfl ?_
        refine ar_sipush (x := 2000) rfl rfl ?_
        refine ar_icmp_lt rfl rfl (by omega) (by omega) (fun h219 => ?_) (fun h219 => ?_)
        · refine ar_iconst rfl ?_
          exact K227 _ (by first | rw [if_pos (by omega)] | rw [if_neg (by omega)])
        · refine ar_iconst rfl ?_
          refine ar_goto rfl rfl ?_
          exact K227 _ (by first | rw [if_pos (by omega)] | rw [if_neg (by omega)])
theorem lp_ab {d : Nat} {q : am_A} {Q : am_O → am_A → Prop} {s : am_Z} {T : am_LT} (J : am_JJ s) (P : am_PL s T) : ∀ (m : Nat) (e : Nat) (b : Nat) (k : Int) (q1 : am_A) (T1 : am_LT) (x8 x9 x10 x11 x12 x13 x14 x15 x16 : Option am_V), 41 - b < m → (k = b ∧ (b : Int) ≤ rI s 44 ∧ am_CI (e + b) q1 s ∧ am_DFh q1 ∧ am_LA q1 T1 ∧ am_S31 q q1 ∧ (∀ (i : Nat) (x : Int), i ≠ 6 → T1 i x = T i x) ∧ am_EE s T1 (fun i => sumI 0 b (fB s (fO s i))) (fun m => sumI 0 b (fB s (fP s m)))) → (∀ x7 x8 x9 x10 x11 x12 x13 x14 x15 x16 q1 T1, am_CI (e + 40) q1 s → am_DFh q1 → am_LA q1 T1 → am_S31 q q1 → (∀ (i : Nat) (x : Int), i ≠ 6 → T1 i x = T i x) → am_EE s T1 (fun i => sumI 0 (rI s 44).toNat (fB s (fO s i))) (fun m => sumI 0 (rI s 44).toNat (fB s (fP s m))) → am_W2 (d + 22) m_L_areBookings 446 [some (aR 8 0), some (aR 24 0), some (aR 24 3), some (aR 24 4), some (aR 24 5), some (aR 24 6), some (aI (zI 1)), x7, x8, x9, x10, x11, x12, x13, x14, x15, x16] [] (q1) Q) → am_W2 (d + 22) m_L_areBookings 52 [some (aR 8 0), some (aR 24 0), some (aR 24 3), some (aR 24 4), some (aR 24 5), some (aR 24 6), some (aI (zI 1)), some (aI (zI k)), x8, x9, x10, x11, x12, x13, x14, x15, x16] [] (q1) Q := by
  intro m
  induction m with
  | zero => intro e b k q1 T1 x8 x9 x10 x11 x12 x13 x14 x15 x16 hm; exact absurd hm (Nat.not_lt_zero _)
  | succ m ih =>
    intro e b k q1 T1 x8 x9 x10 x11 x12 x13 x14 x15 x16 hm ⟨hj, hj2, hI, hF, hH, hS, hO, hE⟩ K
    subst hj
    have B := CV_B hI.1
    have b44 := B.2.1 44 0 40 rfl
    have c47 := B.1 47 (b : Int) 0 3 rfl
    have c52 := B.1 52 (b : Int) 0 10 rfl
    have c45 := B.1 45 (b : Int) 0 9 rfl
    have r53 := B.1 53 (10 * (b : Int) + 0) 0 1160 rfl
    have r54 := B.1 54 (10 * (b : Int) + 0) 0 3 rfl
    have r55 := B.1 55 (10 * (b : Int) + 0) 0 5 rfl
    have b3 := B.2.1 3 0 12 rfl
    have p4 : T1 5 4 = rI s 44 := (hO 5 4 (by omega)).trans P.1.2.2.2.2.1
    have b50 := B.1 50 (b : Int) 0 2 rfl
    have pf := (pfo_b B (b := (b : Int))).1
    have hc : (b : Int) < rI s 44 → (1 ≤ rA s 52 (b : Int) ∧ rA s 50 (b : Int) = rA s 4 (rA s 53 (10 * (b : Int) + 0) / 100) ∧ rA s 53 (10 * (b : Int) + 0) / 100 < rI s 3) ∧ sumI (10 * (b : Int)) (rA s 52 (b : Int)).toNat (rA s 57) = sumI (4 * (b : Int)) 4 (rA s 59) ∧ 1 ≤ rA s 45 (b : Int) := fun z => by
      have ja := J.2.1.1 b (by omega) z
      rw [Int.add_zero]
      have l0 := (ja.2.2 0 (by omega) (by have := ja.1.1; omega)).1
      rw [Int.add_zero] at l0
      exact ⟨⟨ja.1.1, ja.1.2.2, l0⟩, ja.2.1, J.1.2.1.2.2.2.2.1 b z⟩
    refine ar_iload rfl rfl ?_
    refine ar_aload rfl rfl ?_
    refine ar_iconst rfl ?_
    refine ar_ial24 (n := 7) rfl hH (by omega) rfl (by omega) ?_
    refine ar_icmp_ge rfl rfl (by omega) (by omega) (fun h58 => ?_) (fun h58 => ?_)
    · have ej : b = (rI s 44).toNat := by omega
      rw [ej] at hE
      exact K _ _ _ _ _ _ _ _ _ _ _ _ (CI_le hI (by omega)) hF hH hS hO hE
    · refine ar_iload rfl rfl ?_
      refine ar_if_eq rfl rfl (by omega) (fun ht => by omega) (fun h63 => ?_)
      refine ar_aload_n rfl rfl ?_
      refine ar_iload rfl rfl ?_
      refine ar_cv1 rfl rfl rfl (Nat.le_of_ble_eq_true rfl) (T2_is (cs_booking (d := 0) hI.1 (by omega)) ⟨by omega, by omega⟩) (by omega) (fun o q69 hq => am_B2_is ?_ hq)
      obtain ⟨⟨hc1, hc2, hc3⟩, hc4, hc5⟩ := hc (by omega)
      refine ar_stI8 rfl ?_
      refine ar_iload rfl rfl ?_
      refine ar_sipush (x := 1000) rfl rfl ?_
      refine ar_irem rfl (by omega) (by omega) ?_
      refine ar_bipush (x := 10) rfl rfl ?_
      refine ar_idiv rfl (by omega) (by omega) ?_
      rw [show (1000 * rA s 47 (b : Int) + 10 * rA s 52 (b : Int) + rA s 45 (b : Int)) % 1000 / 10 = rA s 52 (b : Int) by omega]
      refine ar_stI9 rfl ?_
      refine ar_iconst rfl ?_
      refine ar_stI10 rfl ?_
      refine ar_iload rfl rfl ?_
      refine ar_sipush (x := 1000) rfl rfl ?_
      refine ar_idiv rfl (by omega) (by omega) ?_
      refine ar_iconst rfl ?_
      refine ar_icmp_ge rfl rfl (by omega) (by omega) (fun ht => by omega) (fun h95 => ?_)
      refine ar_iload rfl rfl ?_
      refine ar_if_le rfl rfl (by omega) (fun ht => by omega) (fun h100 => ?_)
      refine ar_iload rfl rfl ?_
      refine ar_bipush (x := 11) rfl rfl ?_
      refine ar_icmp_ge rfl rfl (by omega) (by omega) (fun ht => by omega) (fun h107 => ?_)
      refine ar_iload rfl rfl ?_
      refine ar_bipush (x := 10) rfl rfl ?_
      refine ar_irem rfl (by omega) (by omega) ?_
      refine ar_if_le rfl rfl (by omega) (fun ht => by omega) (fun h115 => ?_)
      refine ar_aload_n rfl rfl ?_
      refine ar_bipush (x := 21) rfl rfl ?_
      refine ar_iload rfl rfl ?_
      refine ar_iload rfl rfl ?_
      refine ar_iconst rfl ?_
      refine ar_iconst rfl ?_
      refine ar_iconst rfl ?_
      refine ar_iconst rfl ?_
      refine ar_cs8 rfl rfl (Nat.le_of_ble_eq_true rfl) (dn_coupon (d := 0) hI hF (by omega) (by omega) (fun z => by have := z.2.2; omega)) (by omega) (fun o q129 hq => ?_)
      obtain ⟨rfl, I129, Y129, F129⟩ := hq
      have H129 := LA_CY hH Y129
      refine ar_ldc (x := -3000000) rfl rfl ?_
      refine ar_icmp_ne rfl rfl (by omega) (by omega) (fun ht => by omega) (fun h134 => ?_)
      refine ar_iconst rfl ?_
      refine ar_goto rfl rfl ?_
      refine ar_stI6 rfl ?_
      refine ar_aload_n rfl rfl ?_
      refine ar_iconst rfl ?_
      refine ar_aload_n rfl rfl ?_
      refine ar_iload rfl rfl ?_
      refine ar_iconst rfl ?_
      refine ar_cv2 rfl rfl rfl (Nat.le_of_ble_eq_true rfl) (T2_is (cs_coupon (d := 0) I129.1 (by omega) (by omega)) ⟨⟨by omega, by omega⟩, by omega, by omega⟩) (by omega) (fun o q150 hq => am_B2_is ?_ hq)
      refine ar_sipush (x := 10000) rfl rfl ?_
      refine ar_idiv rfl (by omega) (by omega) ?_
      rw [show (100 * rA s 53 (10 * (b : Int) + 0) + 10 * rA s 54 (10 * (b : Int) + 0) + rA s 55 (10 * (b : Int) + 0)) / 10000 = rA s 53 (10 * (b : Int) + 0) / 100 by omega]
      refine ar_imul rfl ?_
      refine ar_ial24 (n := 60) rfl H129 (by omega) rfl (by omega) ?_
      rw [hO 0 _ (by omega), (P.2.1 (rA s 53 (10 * (b : Int) + 0) / 100) (by omega) hc3).1, ← hc2]
      refine ar_stI11 rfl ?_
      refine ar_iconst rfl ?_
      refine ar_stI12 rfl ?_
      refine lp_ac (d := d + 15) (q := q129) (Q := Q) (f0 := (fun i => sumI 0 b (fB s (fO s i)))) (g0 := (fun m => sumI 0 b (fB s (fP s m)))) I129 J P (by omega) 1000 0 0 0 q129 T1 _ _ _ _ (by omega) ⟨rfl, by omega, rfl, H129, W24_r, hO, ⟨fun i i1 i2 => by rw [hE.1 i i1 i2]; exact (Int.add_zero _).symm, fun m m1 m2 => by rw [hE.2 m m1 m2]; exact (Int.add_zero _).symm⟩⟩ (fun y12 y13 y14 y15 y16 q2 T2 H2 W2 O2 E2 => ?_)
      refine ar_iload rfl rfl ?_
      refine ar_if_eq rfl rfl (by omega) (fun ht => by omega) (fun h421 => ?_)
      refine ar_iload rfl rfl ?_
      refine ar_aload_n rfl rfl ?_
      refine ar_iload rfl rfl ?_
      refine ar_ial24 (n := 40) rfl H2 (by omega) rfl (by omega) ?_
      rw [O2 3 _ (by omega), (P.2.2.2.2.1 b (by omega) (by omega)).1, hc4]
      refine ar_icmp_ne rfl rfl (by omega) (by omega) (fun ht => by omega) (fun h430 => ?_)
      refine ar_iconst rfl ?_
      refine ar_goto rfl rfl ?_
      refine ar_stI6 rfl ?_
      refine ar_inc7 rfl ?_
      refine ar_goto rfl rfl ?_
      refine ih e (b + 1) _ _ _ _ _ _ _ _ _ _ _ _ (by omega) ⟨by omega, by omega, CI_le (W2.1 _ _ I129) (by omega), W2.2.1 F129, H2, S31_t hS (S31_t (S31_CY Y129) W2.2.2), O2, ⟨fun i i1 i2 => ?_, fun m m1 m2 => ?_⟩⟩ K
      · rw [E2.1 i i1 i2]
        show sumI 0 b (fB s (fO s i)) + sumI (10 * (b : Int)) (rA s 52 (b : Int)).toNat (fw s (fO s i) b) = sumI 0 b (fB s (fO s i)) + fB s (fO s i) (0 + (b : Int))
        rw [Int.zero_add]
        rfl
      · rw [E2.2 m m1 m2]
        show sumI 0 b (fB s (fP s m)) + sumI (10 * (b : Int)) (rA s 52 (b : Int)).toNat (fw s (fP s m) b) = sumI 0 b (fB s (fP s m)) + fB s (fP s m) (0 + (b : Int))
        rw [Int.zero_add]
        rfl
theorem lp_az {d : Nat} {q : am_A} {Q : am_O → am_A → Prop} {T : am_LT} {x7 x8 x9 x10 x11 x12 x13 x14 x15 x16 : Option am_V} : ∀ (m : Nat) (j : Nat) (k : Int) (q1 : am_A) (T1 : am_LT), 15 - j < m → (k = j ∧ j ≤ 14 ∧ am_LA q1 T1 ∧ am_W24 q q1 ∧ (∀ (i : Nat) (x : Int), i ≠ 6 → T1 i x = T i x) ∧ ∀ x : Int, 0 ≤ x → x < j → T1 6 x = 0) → (∀ x6 q1 T1, am_LA q1 T1 → am_W24 q q1 → (∀ (i : Nat) (x : Int), i ≠ 6 → T1 i x = T i x) → (∀ x : Int, 0 ≤ x → x < 14 → T1 6 x = 0) → am_W2 d m_L_areBookings 22 [some (aR 8 0), some (aR 24 0), some (aR 24 3), some (aR 24 4), some (aR 24 5), some (aR 24 6), x6, x7, x8, x9, x10, x11, x12, x13, x14, x15, x16] [] (q1) Q) → am_W2 d m_L_areBookings 3 [some (aR 8 0), some (aR 24 0), some (aR 24 3), some (aR 24 4), some (aR 24 5), some (aR 24 6), some (aI (zI k)), x7, x8, x9, x10, x11, x12, x13, x14, x15, x16] [] (q1) Q := by
  intro m
  induction m with
  | zero => intro j k q1 T1 hm; exact absurd hm (Nat.not_lt_zero _)
  | succ m ih =>
    intro j k q1 T1 hm ⟨hj, hj2, hH, hW, hO, hz⟩ K
    subst hj
    refine ar_iload rfl rfl ?_
    refine ar_bipush (x := 14) rfl rfl ?_
    refine ar_icmp_ge rfl rfl (by omega) (by omega) (fun h7 => ?_) (fun h7 => ?_)
    · exact K _ _ _ hH hW hO (fun x x1 x2 => hz x x1 (by omega))
    · refine ar_aload rfl rfl ?_
      refine ar_iload rfl rfl ?_
      refine ar_iconst rfl ?_
      refine ar_ias24 (n := 14) rfl hH (by omega) rfl (by omega) (fun q15 H15 W15 => ?_)
      refine ar_inc6 rfl ?_
      refine ar_goto rfl rfl ?_
      refine ih (j + 1) _ _ _ (by omega) ⟨by omega, by omega, H15, W24_t hW W15, (fun i x hx => by rw [uT_n (Or.inl hx)]; exact hO i x hx), fun x x1 x2 => ?_⟩ K
      by_cases e : x = j
      · rw [e, uT_e]
      · rw [uT_n (by omega)]; exact hz x x1 (by omega)
theorem lp_aw {d : Nat} {q : am_A} {Q : am_O → am_A → Prop} {s : am_Z} {T : am_LT} {x8 x9 x10 x11 x12 x13 x14 x15 x16 : Option am_V} (V : am_CV q s) (H : am_LA q T) (h : ∀ i : Int, 0 ≤ i → i < 9 → T 6 i = rA s 70 i) : ∀ (m : Nat) (j : Nat) (k : Int), 10 - j < m → (k = j ∧ j ≤ 9) → (∀ x7, am_W2 (d + 3) m_L_areBookings 494 [some (aR 8 0), some (aR 24 0), some (aR 24 3), some (aR 24 4), some (aR 24 5), some (aR 24 6), some (aI (zI 1)), x7, x8, x9, x10, x11, x12, x13, x14, x15, x16] [] (q) Q) → am_W2 (d + 3) m_L_areBookings 449 [some (aR 8 0), some (aR 24 0), some (aR 24 3), some (aR 24 4), some (aR 24 5), some (aR 24 6), some (aI (zI 1)), some (aI (zI k)), x8, x9, x10, x11, x12, x13, x14, x15, x16] [] (q) Q := by
  intro m
  induction m with
  | zero => intro j k hm; exact absurd hm (Nat.not_lt_zero _)
  | succ m ih =>
    intro j k hm ⟨hj, hj2⟩ K
    subst hj
    refine ar_iload rfl rfl ?_
    refine ar_bipush (x := 9) rfl rfl ?_
    refine ar_icmp_ge rfl rfl (by omega) (by omega) (fun h453 => ?_) (fun h453 => ?_)
    · exact K _
    · refine ar_iload rfl rfl ?_
      refine ar_if_eq rfl rfl (by omega) (fun ht => by omega) (fun h458 => ?_)
      refine ar_aload_n rfl rfl ?_
      refine ar_iload rfl rfl ?_
      refine ar_iconst rfl ?_
      refine ar_idiv rfl (by omega) (by omega) ?_
      refine ar_iload rfl rfl ?_
      refine ar_iconst rfl ?_
      refine ar_irem rfl (by omega) (by omega) ?_
      refine ar_cv2 rfl rfl rfl (Nat.le_of_ble_eq_true rfl) (T2_is (cs_owed (d := 0) V (by omega) (by omega)) ⟨by omega, by omega⟩) (by omega) (fun o q470 hq => am_B2_is ?_ hq)
      refine ar_aload rfl rfl ?_
      refine ar_iload rfl rfl ?_
      refine ar_ial24 (n := 14) rfl H (by omega) rfl (by omega) ?_
      rw [h _ (by omega) (by omega), show (j : Int) / 3 * 3 + (j : Int) % 3 = j by omega]
      refine ar_ne_same rfl rfl ?_
      refine ar_iconst rfl ?_
      refine ar_goto rfl rfl ?_
      refine ar_stI6 rfl ?_
      refine ar_inc7 rfl ?_
      refine ar_goto rfl rfl ?_
      exact ih (j + 1) _ (by omega) ⟨by omega, by omega⟩ K
theorem lp_ap {d : Nat} {q : am_A} {Q : am_O → am_A → Prop} {s : am_Z} {T : am_LT} {x8 x9 x10 x11 x12 x13 x14 x15 x16 : Option am_V} (V : am_CV q s) (H : am_LA q T) (h : ∀ i : Int, 0 ≤ i → i < 4 → T 6 (9 + i) = rA s 69 i) : ∀ (m : Nat) (j : Nat) (k : Int), 5 - j < m → (k = j ∧ j ≤ 4) → (∀ x7, am_W2 (d + 3) m_L_areBookings 538 [some (aR 8 0), some (aR 24 0), some (aR 24 3), some (aR 24 4), some (aR 24 5), some (aR 24 6), some (aI (zI 1)), x7, x8, x9, x10, x11, x12, x13, x14, x15, x16] [] (q) Q) → am_W2 (d + 3) m_L_areBookings 497 [some (aR 8 0), some (aR 24 0), some (aR 24 3), some (aR 24 4), some (aR 24 5), some (aR 24 6), some (aI (zI 1)), some (aI (zI k)), x8, x9, x10, x11, x12, x13, x14, x15, x16] [] (q) Q := by
  intro m
  induction m with
  | zero => intro j k hm; exact absurd hm (Nat.not_lt_zero _)
  | succ m ih =>
    intro j k hm ⟨hj, hj2⟩ K
    subst hj
    refine ar_iload rfl rfl ?_
    refine ar_iconst rfl ?_
    refine ar_icmp_ge rfl rfl (by omega) (by omega) (fun h500 => ?_) (fun h500 => ?_)
    · exact K _
    · refine ar_iload rfl rfl ?_
      refine ar_if_eq rfl rfl (by omega) (fun ht => by omega) (fun h505 => ?_)
      refine ar_aload_n rfl rfl ?_
      refine ar_iload rfl rfl ?_
      refine ar_cv1 rfl rfl rfl (Nat.le_of_ble_eq_true rfl) (T2_is (cs_points (d := 0) V (by omega)) (by omega)) (by omega) (fun o q511 hq => am_B2_is ?_ hq)
      refine ar_aload rfl rfl ?_
      refine ar_bipush (x := 9) rfl rfl ?_
      refine ar_iload rfl rfl ?_
      refine ar_iadd rfl ?_
      refine ar_ial24 (n := 14) rfl H (by omega) rfl (by omega) ?_
      rw [h _ (by omega) (by omega)]
      refine ar_ne_same rfl rfl ?_
      refine ar_iconst rfl ?_
      refine ar_goto rfl rfl ?_
      refine ar_stI6 rfl ?_
      refine ar_inc7 rfl ?_
      refine ar_goto rfl rfl ?_
      exact ih (j + 1) _ (by omega) ⟨by omega, by omega⟩ K
theorem cs_areBookings {d : Nat} {q : am_A} {e : Nat} {s : am_Z} {T : am_LT} (I : am_CI e q s) (L : am_LS q s T) (b0 : rI s 0 ≤ 2000)  : am_C2 (d + 22) m_L_areBookings [aR 8 0, aR 24 0, aR 24 3, aR 24 4, aR 24 5, aR 24 6] q (am_LR 50 e q s) := by
  refine am_C2_i (ls := [some (aR 8 0), some (aR 24 0), some (aR 24 3), some (aR 24 4), some (aR 24 5), some (aR 24 6), none, none, none, none, none, none, none, none, none, none, none]) rfl ?_
  obtain ⟨F, J, H, P⟩ := L
  have B := CV_B I.1
  have b44 := B.2.1 44 0 40 rfl
  obtain ⟨⟨p0, p1, p2, p3, p4, p5, p6⟩, pn, pm, pf, pb, px⟩ := id P
  obtain ⟨d1, d2, d3⟩ := p6
  have m4 : rA s 69 4 = 0 := by
    rw [J.2.1.2.1.2 4 (by omega) (by omega)]
    refine sumI_z _ (fun b b1 b2 => sumI_z _ (fun x x1 x2 => ?_))
    have y := (J.2.1.1 b b1 (by omega)).1.2.1
    unfold fw uP
    split
    · rw [if_neg (by omega), Int.mul_zero]
    · rfl
  refine ar_iconst rfl ?_
  refine ar_stI6 rfl ?_
  refine lp_az (d := d + 22) (q := q) 1000 0 0 q T (by omega) ⟨rfl, by omega, H, W24_r, fun _ _ _ => rfl, fun x x1 x2 => absurd x2 (by omega)⟩ (fun x6 q1 T1 H1 W1 O1 Z1 => ?_)
  have P1 := PL_6 P O1
  refine ar_aload_n rfl rfl ?_
  refine ar_bipush (x := 20) rfl rfl ?_
  refine ar_aload rfl rfl ?_
  refine ar_iconst rfl ?_
  refine ar_ial24 (n := 7) rfl H1 (by omega) rfl (by omega) ?_
  rw [O1 5 4 (by omega), p4]
  refine ar_iconst rfl ?_
  refine ar_iconst rfl ?_
  refine ar_iconst rfl ?_
  refine ar_iconst rfl ?_
  refine ar_iconst rfl ?_
  refine ar_cs8 rfl rfl (Nat.le_of_ble_eq_true rfl) (dn_booking (d := 0) (W1.1 _ _ I) (W1.2.1 F) (by omega) (by omega)) (by omega) (fun o q34 hq => ?_)
  obtain ⟨rfl, I34, Y34, F34⟩ := hq
  have H34 := LA_CY H1 Y34
  refine ar_ldc (x := -3000000) rfl rfl ?_
  refine ar_icmp_ne rfl rfl (by omega) (by omega) (fun ht => by omega) (fun h39 => ?_)
  refine ar_iconst rfl ?_
  refine ar_goto rfl rfl ?_
  refine ar_stI6 rfl ?_
  refine ar_iconst rfl ?_
  refine ar_stI7 rfl ?_
  refine lp_ab (d := d) (q := q34) J P1 1000 (e + 1) 0 0 q34 T1 none none none none none none none none none (by omega) ⟨rfl, by omega, CI_le I34 (by omega), F34, H34, S31_r, fun _ _ _ => rfl, ⟨fun i i1 i2 => Z1 i i1 (by omega), fun m m1 m2 => Z1 (9 + m) (by omega) (by omega)⟩⟩ (fun y7 y8 y9 y10 y11 y12 y13 y14 y15 y16 q2 T2 I2 F2 H2 S2 O2 E2 => ?_)
  have P2 := PL_6 P1 O2
  have o56 : T2 5 6 = T 5 6 := (O2 5 6 (by omega)).trans (O1 5 6 (by omega))
  refine ar_iconst rfl ?_
  refine ar_stI7 rfl ?_
  refine lp_aw (d := d + 19) I2.1 H2 (fun i i1 i2 => (E2.1 i i1 i2).trans (J.2.1.2.1.1 i i1 i2).symm) 1000 0 0 (by omega) ⟨rfl, by omega⟩ (fun z7 => ?_)
  refine ar_iconst rfl ?_
  refine ar_stI7 rfl ?_
  refine lp_ap (d := d + 19) I2.1 H2 (fun i i1 i2 => (E2.2 i i1 i2).trans (J.2.1.2.1.2 i i1 (by omega)).symm) 1000 0 0 (by omega) ⟨rfl, by omega⟩ (fun w7 => ?_)
  refine ar_iload rfl rfl ?_
  refine ar_if_eq rfl rfl (by omega) (fun ht => by omega) (fun h540 => ?_)
  refine ar_aload_n rfl rfl ?_
  refine ar_cv0 rfl rfl rfl (Nat.le_of_ble_eq_true rfl) (cs_denied (d := 0) I2.1) (by omega) (fun o q544 hq => am_B2_is ?_ hq)
  refine ar_aload rfl rfl ?_
  refine ar_bipush (x := 6) rfl rfl ?_
  refine ar_ial24 (n := 7) rfl H2 (by omega) rfl (by omega) ?_
  refine ar_icmp_lt rfl rfl (by omega) (by omega) (fun ht => by omega) (fun h552 => ?_)
  refine ar_aload_n rfl rfl ?_
  refine ar_iconst rfl ?_
  refine ar_cv1 rfl rfl rfl (Nat.le_of_ble_eq_true rfl) (T2_is (cs_points (d := 0) I2.1 (by omega)) (by omega)) (by omega) (fun o q557 hq => am_B2_is ?_ hq)
  rw [m4]
  refine ar_if_ne rfl rfl (by omega) (fun ht => by omega) (fun h560 => ?_)
  refine ar_iconst rfl ?_
  refine ar_goto rfl rfl ?_
  exact ar_iret rfl (Or.inr ⟨rfl, by first | omega | (split <;> omega)⟩) (⟨rfl, s, T2, CI_le I2 (by omega), ⟨F2, J, H2, P2⟩, S31_t W1.2.2 (S31_t (S31_CY Y34) S2), rfl⟩)
end

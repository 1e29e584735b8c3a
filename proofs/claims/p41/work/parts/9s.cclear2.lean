noncomputable section
section CLW
variable {e : Nat} {q0 q1 q2 : am_A} {s s2 s3 : am_Z} {n v i t : Int} {F : Nat}
abbrev hd4 (s s3 : am_Z) (i : Int) : am_Z := wA (bkT s3 (rA s 62 i) (rA s 63 i) 24) 66 i (rI s 44)
theorem CQ_step (C : clQ F s n s2 v) (hw : nwS s = i) (h0 : 0 ≤ i) (h44 : rI s 44 < 40) : ∃ F3 s3, F = F3 + 1 ∧ in_S s3 ∧ am_BR (jw s i) s3 ∧ am_WQ s3 (bestW (jw s i) (rA s 62 i)) ∧ (((bestW (jw s i) (rA s 62 i)).1 = -1 ∧ clQ F3 s3 n s2 v) ∨ ((bestW (jw s i) (rA s 62 i)).1 ≠ -1 ∧ clQ F3 (hd4 s s3 i) (n + 1) s2 v)) := by
  cases F with
  | zero => exact False.elim C
  | succ F =>
    rcases C with C | ⟨_, s3, C1, C2, C3, C4⟩
    · omega
    · rw [hw] at C2 C3 C4
      exact ⟨F, s3, rfl, C1, C2, C3, C4⟩
theorem CQ_end (C : clQ F s n s2 v) (B : in_S s) (P : am_PN s) (h : 40 ≤ rI s 44 ∨ am_DW s (-1) 0) : s2 = s ∧ v = n := by
  have b61 := B.2.1 61 0 20 rfl
  cases F with
  | zero => exact False.elim C
  | succ F =>
    rcases C with C | ⟨C0, _⟩
    · exact C.2
    · rcases h with h | h
      · omega
      · refine absurd (nw_no (n := (rI s 61).toNat) (fun k hk hc => ?_)) C0.1
        have z := (h k (by omega) hc.1).mpr (Or.inl (by have := tiW_b B P k; omega))
        exact z hc.2
theorem pr_cg (m : ∀ j x, (j < 36 ∨ (61 < j ∧ j ≠ 66 ∧ j ≠ 67)) → rA s3 j x = rA s j x) (n61 : rI s3 61 = rI s 61) (a : hWL s) (b : am_WO s) (c : am_PN s) : hWL s3 ∧ am_WO s3 ∧ am_PN s3 := by
  refine ⟨fun w k h1 h2 h3 h4 => ?_, fun w hw => ?_, fun i h1 h2 => ?_⟩
  · rw [m 64 _ (by omega)] at h4
    rw [m 8 _ (by omega), m 65 _ (by omega)]
    exact a w k h1 (by omega) h3 h4
  · rw [m 64 _ (by omega), m 62 _ (by omega)]
    exact b w (by omega)
  · rw [m 69 _ (by omega)]
    exact c i h1 h2
theorem CI_R3 (I : am_CI e q1 (jw s i)) (R : am_BR (jw s i) s3) (B3 : in_S s3) : am_CI e q1 s3 := CI_s I (fun j x h => R.1 j x (scr_o (by omega))) (fun j h => R.2 j (by omega) (by omega)) B3
theorem CI_jw (I : am_CI e q1 s) : am_CI e q1 (jw s i) := CI_s I (fun j x h => (if_neg (fun z => by have := z.1; omega)).trans (if_neg (fun z => by have := z.1; omega))) (fun j h => if_neg (by omega)) (jw_in (CV_B I.1) i)
theorem CQ_none (C : am_CQ e q0 q1 s s2 n v F) (R : am_BR (jw s i) s3) (B3 : in_S s3) (I : am_CI e q2 (jw s i)) (G : am_CG q0 q2) {F3 : Nat} (c : clQ F3 s3 n s2 v) : am_CQ e q0 q2 s3 s2 n v F3 := by
  have z := BR_jw R
  have p := pr_cg (s3 := s3) (fun j x h => z.1 j x (by omega) (by omega)) (z.2.2 61 (by omega) (by omega) (by omega)) C.2.2.2.1 C.2.2.2.2.1 C.2.2.2.2.2.1
  refine ⟨c, CI_R3 I R B3, G, p.1, p.2.1, p.2.2, fun x hx => ?_⟩
  rw [z.2.2 44 (by omega) (by omega) (by omega)] at hx
  rw [z.1 59 _ (by omega) (by omega), z.1 60 _ (by omega) (by omega)]
  exact C.2.2.2.2.2.2 x hx
theorem hd_m (R : am_BR (jw s i) s3) (hS : ∀ k : Nat, (k : Int) < rI s3 38 → 0 ≤ sumI 0 k (rA s3 39)) : (∀ j x, (j < 36 ∨ (61 < j ∧ j ≠ 66 ∧ j ≠ 67)) → rA (hd4 s s3 i) j x = rA s j x) ∧ (∀ x, rA (hd4 s s3 i) 67 x = if x = i then 1 else rA s 67 x) ∧ (∀ x, x ≠ i → rA (hd4 s s3 i) 66 x = rA s 66 x) ∧ (rI (hd4 s s3 i) 44 = rI s 44 + 1 ∧ ∀ j, j ≠ 35 → j ≠ 37 → j ≠ 38 → j ≠ 44 → rI (hd4 s s3 i) j = rI s j) := by
  have z := BR_jw R
  have u : ∀ j x, (j < 45 ∨ 60 < j) → rA (bkT s3 (rA s 62 i) (rA s 63 i) 24) j x = rA s3 j x := fun j x h => bkT_U hS (Or.inl h)
  have wn : ∀ j x, j ≠ 66 → rA (hd4 s s3 i) j x = rA (bkT s3 (rA s 62 i) (rA s 63 i) 24) j x := fun j x h => if_neg (fun y => h y.1)
  refine ⟨fun j x h => ?_, fun x => ?_, fun x hx => ?_, ?_, fun j h1 h2 h3 h4 => ?_⟩
  · exact (wn j x (by omega)).trans ((u j x (by omega)).trans (z.1 j x (by omega) (by omega)))
  · exact (wn 67 x (by omega)).trans ((u 67 x (by omega)).trans (z.2.1 x))
  · exact (if_neg (fun y => hx y.2)).trans ((u 66 x (by omega)).trans (z.1 66 x (by omega) (by omega)))
  · exact (bkT_I 44).trans ((if_pos rfl).trans (by rw [z.2.2 44 (by omega) (by omega) (by omega)]))
  · exact (bkT_I j).trans ((if_neg h4).trans (z.2.2 j h1 h2 h3))
theorem DN_hold (D : am_DW s t i) (B : in_S s) (ht : tiW s i = t) (R : am_BR (jw s i) s3) (hS : ∀ k : Nat, (k : Int) < rI s3 38 → 0 ≤ sumI 0 k (rA s3 39)) : am_DW (hd4 s s3 i) t (i + 1) := fun k hk hw => by
  have z := hd_m R hS
  have y := wt_cg (s := s) (s3 := hd4 s s3 i) z.1 (z.2.2.2.2 0 (by omega) (by omega) (by omega) (by omega)) k
  have b44 := B.2.1 44 0 40 rfl
  rw [y.1, z.2.1]
  rw [z.2.2.2.2 61 (by omega) (by omega) (by omega) (by omega)] at hk
  by_cases e : (k : Int) = i
  · have h66 : rA (hd4 s s3 i) 66 k = rI s 44 := if_pos ⟨rfl, e⟩
    have := hw.1
    omega
  · have hw2 : waitP s k := ⟨by have := hw.1; rw [z.2.2.1 _ e] at this; exact this, fun g => hw.2 (y.2.mpr g)⟩
    have d := D k hk hw2
    rw [if_neg e, d]
    omega
theorem CQ_hold (C : am_CQ e q0 q1 s s2 n v F) (R : am_BR (jw s i) s3) (hS : ∀ k : Nat, (k : Int) < rI s3 38 → 0 ≤ sumI 0 k (rA s3 39)) (h38 : rI s3 38 ≤ 4) (I : am_CI e q2 (hd4 s s3 i)) (G : am_CG q0 q2) {F3 : Nat} (c : clQ F3 (hd4 s s3 i) (n + 1) s2 v) : am_CQ e q0 q2 (hd4 s s3 i) s2 (n + 1) v F3 := by
  have z := hd_m R hS
  have y := BR_jw R
  have p := pr_cg (s3 := hd4 s s3 i) z.1 (z.2.2.2.2 61 (by omega) (by omega) (by omega) (by omega)) C.2.2.2.1 C.2.2.2.2.1 C.2.2.2.2.2.1
  refine ⟨c, I, G, p.1, p.2.1, p.2.2, fun x hx => ?_⟩
  rw [z.2.2.2.1] at hx
  have e44 := y.2.2 44 (by omega) (by omega) (by omega)
  have h1 : ∀ j, j = 59 ∨ j = 60 → rA (hd4 s s3 i) j x = rA s j x := fun j hj => (if_neg (fun u => by have := u.1; omega)).trans ((bkT_hi h38 hj (by omega)).trans (y.1 j x (by omega) (by omega)))
  rw [h1 59 (Or.inl rfl), h1 60 (Or.inr rfl)]
  exact C.2.2.2.2.2.2 x (by omega)
end CLW
theorem lp_clr {d : Nat} {q : am_A} {Q : am_O → am_A → Prop} {e : Nat} {s2 : am_Z} {v : Int} : ∀ (m : Nat) (t i n : Int) (s : am_Z) (F : Nat) (q1 : am_A) (x4 : Option am_V), (21 * t + 21 - i).toNat < m → ((0 ≤ t ∧ t ≤ 3) ∧ (0 ≤ i ∧ i ≤ rI s 61) ∧ am_CQ e q q1 s s2 n v F ∧ (40 ≤ rI s 44 ∨ am_DW s t i)) → (∀ x2 x3 x4 q2, am_CI e q2 s2 → am_CG q q2 → am_W2 (d + 17) m_X_clear 140 [some (aR 8 0), some (aI (zI v)), x2, x3, x4] [] (q2) Q) → am_W2 (d + 17) m_X_clear 10 [some (aR 8 0), some (aI (zI n)), some (aI (zI t)), some (aI (zI i)), x4] [] (q1) Q := by
  intro m
  induction m with
  | zero => intro t i n s F q1 x4 hm; exact absurd hm (Nat.not_lt_zero _)
  | succ m ih =>
    intro t i n s F q1 x4 hm ⟨ht, hi, C, hD⟩ K
    have V := C.2.1.1
    have B := CV_B V
    have b61 := B.2.1 61 0 20 rfl
    have b44 := B.2.1 44 0 40 rfl
    have b0 := B.2.1 0 0 60000 rfl
    refine ar_iload_n rfl rfl ?_
    refine ar_aload_n rfl rfl ?_
    refine ar_gfR rfl rfl rfl (by omega) (V.1.1 807 _ rfl) ?_
    refine ar_cv0 rfl rfl rfl (Nat.le_of_ble_eq_true rfl) (cl_szW (d := 0) V) (by omega) (fun o q15 hq => am_B2_is ?_ hq)
    refine ar_icmp_ge rfl rfl (by omega) (by omega) (fun h18 => ?_) (fun h18 => ?_)
    · refine ar_inc2 rfl ?_
      refine ar_goto rfl rfl ?_
      refine ar_iload_n rfl rfl ?_
      refine ar_if_lt rfl rfl (by omega) (fun h5 => ?_) (fun h5 => ?_)
      · have ez := CQ_end C.1 B C.2.2.2.2.2.1 (hD.imp id (fun D => by { have z := DN_tier D (by omega); rw [show t - 1 = -1 by omega] at z; exact z }))
        rw [ez.1, ez.2] at K
        exact K _ _ _ _ C.2.1 C.2.2.1
      · refine ar_iconst rfl ?_
        refine ar_stI3 rfl ?_
        exact ih (t + -1) 0 n s F q1 _ (by omega) ⟨by omega, by omega, C, hD.imp id (fun D => by rw [show t + -1 = t - 1 by omega]; exact DN_tier D (by omega))⟩ K
    · have ew : ((i.toNat : Nat) : Int) = i := by omega
      have hW := (V.2.2.2.2.2.2.2.1.2.2 i.toNat (by omega))
      rw [ew] at hW
      have wo := C.2.2.2.2.1 i.toNat (by omega)
      rw [ew] at wo
      have b62 := B.1 62 i 0 9 rfl
      have b63 := B.1 63 i (-1) 4 rfl
      have b64 := B.1 64 i 0 4 rfl
      refine ar_aload_n rfl rfl ?_
      refine ar_gfR rfl rfl rfl (by omega) (V.1.1 807 _ rfl) ?_
      refine ar_iload_n rfl rfl ?_
      refine ar_cv1 rfl rfl rfl (Nat.le_of_ble_eq_true rfl) (cl_getW (d := 0) V (by omega)) (by omega) (fun o q26 hq => am_B2_is ?_ hq)
      refine ar_cast rfl rfl rfl ?_
      refine ar_stA4 rfl ?_
      refine ar_aload_n rfl rfl ?_
      refine ar_gfR rfl rfl rfl (by omega) (V.1.1 806 _ rfl) ?_
      refine ar_cv0 rfl rfl rfl (Nat.le_of_ble_eq_true rfl) (cl_szB (d := 0) V) (by omega) (fun o q38 hq => am_B2_is ?_ hq)
      refine ar_bipush (x := 40) rfl rfl ?_
      refine ar_icmp_ge rfl rfl (by omega) (by omega) (fun h43 => ?_) (fun h43 => ?_)
      · refine ar_inc3 rfl ?_
        refine ar_goto rfl rfl ?_
        first
          | exact ih t (i + 1) (n + 1) (hd4 s s3 i) F3 _ _ (by omega) ⟨ht, by omega, C5, Or.inr D5⟩ K
          | exact ih t (i + 1) n s3 F3 _ _ (by omega) ⟨ht, by rw [(BR_jw R).2.2 61 (by omega) (by omega) (by omega)]; omega, CQ_none C R B3 hP2.1 G2 (hal.elim (fun z => z.2) (fun z => absurd h96 z.1)), Or.inr (DN_none hDW h68 R)⟩ K
          | exact ih t (i + 1) n s F q1 _ (by omega) ⟨ht, by omega, C, hD.imp id (fun D => DN_next D (Or.inr h68))⟩ K
          | exact ih t (i + 1) n s F q1 _ (by omega) ⟨ht, by omega, C, hD.imp id (fun D => DN_next D (Or.inl (fun z => h55 ⟨z.1, by omega, z.2⟩)))⟩ K
          | exact ih t (i + 1) n s F q1 _ (by omega) ⟨ht, by omega, C, Or.inl h43⟩ K
      · refine ar_aload rfl rfl ?_
        refine ar_aload_n rfl rfl ?_
        refine ar_gfIv rfl rfl rfl (by omega) (V.2.1.2.2.2.2.1) ?_
        refine ar_cv1 rfl rfl rfl (Nat.le_of_ble_eq_true rfl) (by { have z := cs_waits (d := 0) V (w := i.toNat) (by omega) b0; rw [ew] at z; exact z }) (by omega) (fun o q52 hq => am_B2_is ?_ hq)
        refine ar_if_eqB rfl rfl (fun h55 => ?_) (fun h55 => ?_)
        · refine ar_inc3 rfl ?_
          refine ar_goto rfl rfl ?_
          first
            | exact ih t (i + 1) (n + 1) (hd4 s s3 i) F3 _ _ (by omega) ⟨ht, by omega, C5, Or.inr D5⟩ K
            | exact ih t (i + 1) n s3 F3 _ _ (by omega) ⟨ht, by rw [(BR_jw R).2.2 61 (by omega) (by omega) (by omega)]; omega, CQ_none C R B3 hP2.1 G2 (hal.elim (fun z => z.2) (fun z => absurd h96 z.1)), Or.inr (DN_none hDW h68 R)⟩ K
            | exact ih t (i + 1) n s F q1 _ (by omega) ⟨ht, by omega, C, hD.imp id (fun D => DN_next D (Or.inr h68))⟩ K
            | exact ih t (i + 1) n s F q1 _ (by omega) ⟨ht, by omega, C, hD.imp id (fun D => DN_next D (Or.inl (fun z => h55 ⟨z.1, by omega, z.2⟩)))⟩ K
            | exact ih t (i + 1) n s F q1 _ (by omega) ⟨ht, by omega, C, Or.inl h43⟩ K
        · have hwt : waitP s i := ⟨h55.1, h55.2.2⟩
          refine ar_aload_n rfl rfl ?_
          refine ar_aload rfl rfl ?_
          refine ar_gfIv rfl rfl rfl (by omega) (hW.1 701 63 rfl) ?_
          refine ar_cv1 rfl rfl rfl (Nat.le_of_ble_eq_true rfl) (cs_tierOf (d := 0) V (by omega)) (by omega) (fun o q64 hq => am_B2_is ?_ hq)
          have btw : 0 ≤ tierS s (rA s 63 i) ∧ tierS s (rA s 63 i) ≤ 3 := tiW_b B C.2.2.2.2.2.1 i
          refine ar_iload_n rfl rfl ?_
          refine ar_icmp_eq rfl rfl (by omega) (by omega) (fun h68 => ?_) (fun h68 => ?_)
          · have hDW : am_DW s t i := hD.elim (fun z => by omega) id
            have hnw := DN_nw B hDW hi.1 (by omega) hwt h68
            obtain ⟨F3, s3, rfl, B3, R, Q3, hal⟩ := CQ_step C.1 hnw hi.1 (by omega)
            have Ij : am_CI e q1 (jw s i) := CI_jw C.2.1
            have Lj : am_LL q1 (jw s i) (1702, i.toNat) (rA s 64 i) (fun k => rA s 65 (4 * i + k)) := by { have z := hW.2.2; exact LL_cg z rfl (fun _ _ => rfl) rfl (fun _ _ _ => rfl) (fun j x h => (if_neg (fun z => by have := z.1; omega)).trans (if_neg (fun z => by have := z.1; omega))) rfl }
            have c17 : i.toNat < qCN q1 1702 := by { have := V.2.2.2.2.2.2.2.1.2.1.2; omega }
            have hJj : ∀ k, 0 ≤ k → k < rA s 64 i → rA (jw s i) 36 k = rA s 65 (4 * i + k) := fun k z1 z2 => if_pos ⟨rfl, z1, by omega⟩
            refine ar_aload_n rfl rfl ?_
            refine ar_aload rfl rfl ?_
            refine ar_gfR rfl rfl rfl (by omega) (hW.2.1) ?_
            refine ar_aload rfl rfl ?_
            refine ar_gfIv rfl rfl rfl (by omega) (hW.1 700 62 rfl) ?_
            refine ar_cv2 rfl rfl rfl (Nat.le_of_ble_eq_true rfl) (cs_buildPrice (d := 0) Ij (t := 1702) (i := i.toNat) rfl (by omega) c17 Lj (by omega) (by omega) (by omega) rfl hJj) (by omega) (fun o q85 hq => ?_)
            obtain ⟨rfl, hP2, hB2⟩ := hq
            have V2 := hP2.1.1
            have bw := hP2.2.2.2.2.2.2.1
            have G2 := CG_t C.2.2.1 hP2.2.1
            refine ar_aload_n rfl rfl ?_
            refine ar_gfR rfl rfl rfl (by omega) (V2.1.1 805 _ rfl) ?_
            refine ar_gfIv rfl rfl rfl (by omega) (hP2.2.2.2.2.1.2.2.2.2) ?_
            refine ar_iconst rfl ?_
            refine ar_icmp_eq rfl rfl (by omega) (by omega) (fun h96 => ?_) (fun h96 => ?_)
            · refine ar_inc3 rfl ?_
              refine ar_goto rfl rfl ?_
              first
                | exact ih t (i + 1) (n + 1) (hd4 s s3 i) F3 _ _ (by omega) ⟨ht, by omega, C5, Or.inr D5⟩ K
                | exact ih t (i + 1) n s3 F3 _ _ (by omega) ⟨ht, by rw [(BR_jw R).2.2 61 (by omega) (by omega) (by omega)]; omega, CQ_none C R B3 hP2.1 G2 (hal.elim (fun z => z.2) (fun z => absurd h96 z.1)), Or.inr (DN_none hDW h68 R)⟩ K
                | exact ih t (i + 1) n s F q1 _ (by omega) ⟨ht, by omega, C, hD.imp id (fun D => DN_next D (Or.inr h68))⟩ K
                | exact ih t (i + 1) n s F q1 _ (by omega) ⟨ht, by omega, C, hD.imp id (fun D => DN_next D (Or.inl (fun z => h55 ⟨z.1, by omega, z.2⟩)))⟩ K
                | exact ih t (i + 1) n s F q1 _ (by omega) ⟨ht, by omega, C, Or.inl h43⟩ K
            · have hal2 := hal.elim (fun z => absurd z.1 h96) id
              have I3 := CI_R3 hP2.1 R B3
              have V3 := I3.1
              have y := BR_jw R
              have e44 : rI s3 44 = rI s 44 := y.2.2 44 (by omega) (by omega) (by omega)
              have hok := bestW_ok (jw_in B i) (rA s 62 i) hal2.1
              have h1 := best_pos hal2.1
              have e35 : rI (jw s i) 35 = rA s 64 i := rfl
              have wS := wq_S Q3 hok.1 (hok.2.1.trans e35)
              have h38 : rI s3 38 ≤ 4 := by { have := Q3.2.1; have := Q3.2.2.1; omega }
              have hW3 := V3.2.2.2.2.2.2.2.1.2.2 i.toNat (by rw [y.2.2 61 (by omega) (by omega) (by omega)]; omega)
              rw [ew] at hW3
              have L3 : am_LL q85 s3 (1702, i.toNat) (rA s 64 i) (fun k => rA s 65 (4 * i + k)) := LL_cg hP2.2.2.2.1.1 rfl (fun _ _ => rfl) rfl (fun _ _ _ => rfl) (fun j x h => R.1 j x (scr_o (by omega))) (R.2 3 (by omega) (by omega))
              have bW3 : am_BW q85 s3 (bestW (jw s i) (rA s 62 i)) := ⟨hB2.1, hB2.2.1, fun x hx => ⟨(hB2.2.2 x hx).1, (hB2.2.2 x hx).2.1, by have z := (hB2.2.2 x hx).2.2; rw [show rI s3 20 = rI (jw s i) 20 from R.2 20 (by omega) (by omega)]; exact z⟩⟩
              refine ar_aload rfl rfl ?_
              refine ar_aload_n rfl rfl ?_
              refine ar_aload rfl rfl ?_
              refine ar_gfR rfl rfl rfl (by omega) (hW3.2.1) ?_
              refine ar_aload rfl rfl ?_
              refine ar_gfIv rfl rfl rfl (by omega) ((hW3.1 700 62 rfl).trans (y.1 62 i (by omega) (by omega))) ?_
              refine ar_aload rfl rfl ?_
              refine ar_gfIv rfl rfl rfl (by omega) ((hW3.1 701 63 rfl).trans (y.1 63 i (by omega) (by omega))) ?_
              refine ar_bipush (x := 24) rfl rfl ?_
              refine ar_cv4 rfl rfl rfl (Nat.le_of_ble_eq_true rfl) (cs_holdPriced (d := 0) I3 (N := (rI s 44).toNat) (by rw [e44]) (t := 1702) (i := i.toNat) rfl (by omega) (by omega) (by have := V3.2.2.2.2.2.2.2.1.2.1.2; have := y.2.2 61 (by omega) (by omega) (by omega); omega) L3 (by omega) (fun k z1 z2 => (R.1 36 k (scr_o (by omega))).trans (hJj k z1 z2)) (by omega) bW3 Q3 hok.1 (hok.2.1.trans e35) (fun k z1 z2 => by rw [y.1 8 _ (by omega) (by omega)]; exact C.2.2.2.1 i k hi.1 (by omega) z1 z2) (by omega) (by omega) (by omega) (by omega) ((R.2 35 (by omega) (by omega)).trans e35) (fun x z => by rw [y.1 59 _ (by omega) (by omega), y.1 60 _ (by omega) (by omega)]; exact C.2.2.2.2.2.2 x (by omega))) (by omega) (fun o q119 hq => ?_)
              obtain ⟨rfl, I4, G4⟩ := hq
              rw [e44]
              refine ar_pfI rfl rfl rfl rfl (by omega) (Or.inl rfl) ?_
              have I5 : am_CI e (uFI q119 703 (7, i.toNat) (rI s 44)) (hd4 s s3 i) := by { have z := CI_w I4 (CV_wW I4.1 (f0 := 703) (j0 := 66) (i0 := i.toNat) (v := rI s 44) rfl (fun lo hi h => by cases h; omega)) rfl rfl rfl rfl (fun _ => ⟨rfl, rfl⟩) ⟨rfl, rfl, rfl⟩; rw [ew] at z; exact z }
              have C5 := CQ_hold C R (fun k hk => (wS.2.1 k hk).1) h38 I5 (CG_FI (CG_t G2 G4) (by show cK 7; omega)) hal2.2
              have D5 := DN_hold hDW B h68 R (fun k hk => (wS.2.1 k hk).1)
              have e615 : rI (hd4 s s3 i) 61 = rI s 61 := (hd_m R (fun k hk => (wS.2.1 k hk).1)).2.2.2.2 61 (by omega) (by omega) (by omega) (by omega)
              refine ar_inc1 rfl ?_
              refine ar_inc3 rfl ?_
              refine ar_goto rfl rfl ?_
              first
                | exact ih t (i + 1) (n + 1) (hd4 s s3 i) F3 _ _ (by omega) ⟨ht, by omega, C5, Or.inr D5⟩ K
                | exact ih t (i + 1) n s3 F3 _ _ (by omega) ⟨ht, by rw [(BR_jw R).2.2 61 (by omega) (by omega) (by omega)]; omega, CQ_none C R B3 hP2.1 G2 (hal.elim (fun z => z.2) (fun z => absurd h96 z.1)), Or.inr (DN_none hDW h68 R)⟩ K
                | exact ih t (i + 1) n s F q1 _ (by omega) ⟨ht, by omega, C, hD.imp id (fun D => DN_next D (Or.inr h68))⟩ K
                | exact ih t (i + 1) n s F q1 _ (by omega) ⟨ht, by omega, C, hD.imp id (fun D => DN_next D (Or.inl (fun z => h55 ⟨z.1, by omega, z.2⟩)))⟩ K
                | exact ih t (i + 1) n s F q1 _ (by omega) ⟨ht, by omega, C, Or.inl h43⟩ K
          · refine ar_goto rfl rfl ?_
            refine ar_inc3 rfl ?_
            refine ar_goto rfl rfl ?_
            first
              | exact ih t (i + 1) (n + 1) (hd4 s s3 i) F3 _ _ (by omega) ⟨ht, by omega, C5, Or.inr D5⟩ K
              | exact ih t (i + 1) n s3 F3 _ _ (by omega) ⟨ht, by rw [(BR_jw R).2.2 61 (by omega) (by omega) (by omega)]; omega, CQ_none C R B3 hP2.1 G2 (hal.elim (fun z => z.2) (fun z => absurd h96 z.1)), Or.inr (DN_none hDW h68 R)⟩ K
              | exact ih t (i + 1) n s F q1 _ (by omega) ⟨ht, by omega, C, hD.imp id (fun D => DN_next D (Or.inr h68))⟩ K
              | exact ih t (i + 1) n s F q1 _ (by omega) ⟨ht, by omega, C, hD.imp id (fun D => DN_next D (Or.inl (fun z => h55 ⟨z.1, by omega, z.2⟩)))⟩ K
              | exact ih t (i + 1) n s F q1 _ (by omega) ⟨ht, by omega, C, Or.inl h43⟩ K
theorem cs_clear {d : Nat} {q : am_A} {e : Nat} {s s2 : am_Z} {v : Int} {F : Nat} (I : am_CI e q (wB s 67 0 20 (fun _ => 0))) (c : clQ F (wB s 67 0 20 (fun _ => 0)) 0 s2 v) (hWl : hWL s) (WO : am_WO s) (P : am_PN s) (V4 : am_V4 s) : am_C2 (d + 17) m_X_clear [aR 8 0] q (fun o q' => o = .inl (some (aI (zI v))) ∧ am_CI e q' s2 ∧ am_CG q q') := by
  refine am_C2_i (ls := [some (aR 8 0), none, none, none, none]) rfl ?_
  have p := pr_cg (s3 := wB s 67 0 20 (fun _ => 0)) (s := s) (fun j x h => if_neg (fun z => by have := z.1; omega)) rfl hWl WO P
  have b61 := (CV_B I.1).2.1 61 0 20 rfl
  have hD : am_DW (wB s 67 0 20 (fun _ => 0)) 3 0 := fun k hk _ => by { have h67 : rA (wB s 67 0 20 (fun _ => 0)) 67 k = 0 := if_pos ⟨rfl, by omega, by have : (k : Int) < rI s 61 := hk; have : rI s 61 ≤ 20 := b61.2; omega⟩; have bt := tiW_b (CV_B I.1) p.2.2 k; rw [h67]; omega }
  refine ar_iconst rfl ?_
  refine ar_stI1 rfl ?_
  refine ar_iconst rfl ?_
  refine ar_stI2 rfl ?_
  refine ar_iload_n rfl rfl ?_
  refine ar_if_lt rfl rfl (by omega) (fun ht => by omega) (fun h5 => ?_)
  refine ar_iconst rfl ?_
  refine ar_stI3 rfl ?_
  refine lp_clr (d := d) (q := q) (e := e) (s2 := s2) (v := v) 1000 3 0 0 (wB s 67 0 20 (fun _ => 0)) F q _ (by omega) ⟨by omega, by omega, ⟨c, I, CG_r, p.1, p.2.1, p.2.2, fun x hx => V4 x hx⟩, Or.inr hD⟩ (fun x2 x3 x4 q2 I2 G2 => ?_)
  refine ar_iload_n rfl rfl ?_
  exact ar_iret rfl (Or.inl rfl) (⟨rfl, I2, G2⟩)
end

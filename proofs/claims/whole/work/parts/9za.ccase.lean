noncomputable section
theorem lg_self (a : Int64) : lg_cmp a a = zI 0 := by
  have h : ¬ (a > a) := Int64.lt_irrefl
  unfold lg_cmp
  rw [if_neg h, if_pos rfl]
  rfl
theorem RV_J {q0 q : am_A} {s : am_Z} (R : am_RV q0 q s) : qAJ q = qAJ q0 ∧ qAD q = qAD q0 := by
  have e2 := R.2.2.2.2.2.2.2.2
  exact ⟨congrArg (fun x : (am_R → Nat → Option am_R) × (am_R → Nat → Int64) × (am_R → Nat → UInt64) × (am_R → Nat) × (Nat → Nat) × (am_R → List am_R) × (am_R → Nat) × Nat × Nat => x.2.1) e2, congrArg (fun x : (am_R → Nat → Option am_R) × (am_R → Nat → Int64) × (am_R → Nat → UInt64) × (am_R → Nat) × (Nat → Nat) × (am_R → List am_R) × (am_R → Nat) × Nat × Nat => x.2.2.1) e2⟩
/-- what class and reference have done, side by side: the reference's state is s2, J holds of it, the class has the same -/
def am_SD (J : am_Z → Prop) (k : Int) (s1 s2 : am_Z) : Prop := rI s2 74 = k ∧ J s2 ∧ (∀ j x, usA j → rA s2 j x = rA s1 j x) ∧ ∀ j, usI j → rI s2 j = rI s1 j
section SCR
variable {d y pc p : Nat} {ls : List (Option am_V)} {st : List am_V} {q : am_A} {Q : am_O → am_A → Prop} {e L : Nat} {s sR : am_Z} {X : Nat → Int} {i : Int}
theorem ar_scr (P : am_LP e q s sR L X) (hL : L ≤ 4096) (hc : am_c y pc = some (.iaload, p)) (hb : 0 ≤ i ∧ i < L) (k : am_W2 d y p ls (aI (zI (X i.toNat)) :: st) q Q) : am_W2 d y pc ls (aI (zI i) :: aR 31 0 :: st) q Q := ar_iaload (j := i.toNat) hc rfl (by omega) (by rw [P.2.2.2.1.2.2]; omega) (by rw [P.2.2.2.1.2.2]; omega) (by rw [P.2.2.2.2]; exact k)
end SCR
theorem lw_setZone {d e : Nat} {q : am_A} {Q : am_O → am_A → Prop} {s s1 : am_Z} {J : am_Z → Prop} {L : Nat} {X : Nat → Int} {i : Int} {x6 x7 : Option am_V} (P : am_LP e q s s L X) (hL : L ≤ 4096) (hX : ∀ k, in32 (X k)) (hi : 0 ≤ i ∧ i + 8 ≤ L) {k : Int} {kd : Int → Nat} (bk : 0 ≤ k ∧ k ≤ 3) (x1 : kd 1 = 13) (x2 : kd 2 = 14) (x3 : kd 3 = 15) {v : Int} (hC : am_C2 20 m_X_setZone [aR 8 0, aI (zI (X (i + 1).toNat)), aI (zI (X (i + 2).toNat))] q (am_OQ e k kd (some (aI (zI v))) q s1)) (hM : ∀ q1, am_RV q1 q1 s → am_C2 20 m_M_setZone [aR 9 0, aI (zI (X (i + 1).toNat)), aI (zI (X (i + 2).toNat))] q1 (fun o q' => ∃ b s2, o = .inl (some (aI (zI b))) ∧ am_RV q1 q' s2 ∧ (k = 0 → b = v) ∧ am_SD J k s1 s2)) (K : ∀ q' s' x6 x7, am_LP (e + 1) q' s' s' L X → J s' → am_W2 (d + 22) m_L_law 2620 [some (aR 31 0), some (aR 8 0), some (aR 9 0), some (aR 26 0), some (aR 27 0), some (aI (zI i)), x6, x7] [] q' Q) : am_W2 (d + 22) m_L_law 212 [some (aR 31 0), some (aR 8 0), some (aR 9 0), some (aR 26 0), some (aR 27 0), some (aI (zI i)), x6, x7] [] q Q := by
  refine ar_aload_n rfl rfl ?_
  refine ar_aload_n rfl rfl ?_
  refine ar_iload rfl rfl ?_
  refine ar_iconst rfl ?_
  refine ar_iadd rfl ?_
  refine ar_scr P hL rfl (by omega) ?_
  refine ar_aload_n rfl rfl ?_
  refine ar_iload rfl rfl ?_
  refine ar_iconst rfl ?_
  refine ar_iadd rfl ?_
  refine ar_scr P hL rfl (by omega) ?_
  refine ar_aload_n rfl rfl ?_
  refine ar_cs4 rfl rfl (Nat.le_of_ble_eq_true rfl) (wl_setZone (d := d) P bk x1 x2 x3 hC) (by omega) (fun o q1 hq => ?_)
  obtain ⟨rfl, P1, hO⟩ := hq
  refine ar_stI6 rfl ?_
  refine ar_aload_n rfl rfl ?_
  refine ar_aload_n rfl rfl ?_
  refine ar_iload rfl rfl ?_
  refine ar_iconst rfl ?_
  refine ar_iadd rfl ?_
  refine ar_scr P1 hL rfl (by omega) ?_
  refine ar_aload_n rfl rfl ?_
  refine ar_iload rfl rfl ?_
  refine ar_iconst rfl ?_
  refine ar_iadd rfl ?_
  refine ar_scr P1 hL rfl (by omega) ?_
  refine ar_cv2 rfl rfl rfl (Nat.le_of_ble_eq_true rfl) (hM q1 P1.2.1) (by omega) (fun o q2 hq => ?_)
  obtain ⟨b, s2, rfl, R2, hbv, h74, hJ2, hm, hn⟩ := hq
  have P2 := LP_s (LP_RV P1 R2) hm hn R2.2.2.2.2.1
  refine ar_stI7 rfl ?_
  refine ar_aload_n rfl rfl ?_
  refine ar_cv0 rfl rfl rfl (Nat.le_of_ble_eq_true rfl) (sr_thrown (d := 0) q2 q2 P2.2.1) (by omega) (fun o q3 hq => ?_)
  obtain ⟨_, _, rfl, R3, rfl, rfl, _⟩ := hq
  have P3 := LP_RV P2 R3
  refine ar_iload rfl rfl ?_
  rw [h74]
  refine ar_icmp_eq rfl rfl (by omega) (by omega) (fun _ => ?_) (fun hf => absurd rfl hf)
  refine ar_iload rfl rfl ?_
  refine ar_if_ne rfl rfl (by omega) (fun hk => ?_) (fun hk => ?_)
  · refine ar_goto rfl rfl ?_
    exact K _ _ _ _ P3 hJ2
  · have eO : qAJ q3 (26, 0) 0 = (zI v).toInt64 := by { rw [(RV_J R3).1, (RV_J R2).1]; exact hO hk }
    refine ar_aload_n rfl rfl ?_
    refine ar_iconst rfl ?_
    refine ar_laload (j := 0) rfl rfl rfl (by rw [P3.2.2.2.1.1]; omega) (by rw [P3.2.2.2.1.1]; omega) ?_
    rw [eO]
    refine ar_iload rfl rfl ?_
    rw [hbv hk]
    refine ar_i2l rfl ?_
    refine ar_lcmp rfl ?_
    rw [lg_self]
    refine ar_if_eq rfl rfl (by omega) (fun _ => ?_) (fun hf => absurd rfl hf)
    refine ar_goto rfl rfl ?_
    exact K _ _ _ _ P3 hJ2
theorem lw_setTax {d e : Nat} {q : am_A} {Q : am_O → am_A → Prop} {s s1 : am_Z} {J : am_Z → Prop} {L : Nat} {X : Nat → Int} {i : Int} {x6 x7 : Option am_V} (P : am_LP e q s s L X) (hL : L ≤ 4096) (hX : ∀ k, in32 (X k)) (hi : 0 ≤ i ∧ i + 8 ≤ L) {k : Int} {kd : Int → Nat} (bk : 0 ≤ k ∧ k ≤ 2) (x1 : kd 1 = 13) (x2 : kd 2 = 14) {v : Int} (hC : am_C2 20 m_X_setTax [aR 8 0, aI (zI (X (i + 1).toNat)), aI (zI (X (i + 2).toNat))] q (am_OQ e k kd (some (aI (zI v))) q s1)) (hM : ∀ q1, am_RV q1 q1 s → am_C2 20 m_M_setTax [aR 9 0, aI (zI (X (i + 1).toNat)), aI (zI (X (i + 2).toNat))] q1 (fun o q' => ∃ b s2, o = .inl (some (aI (zI b))) ∧ am_RV q1 q' s2 ∧ (k = 0 → b = v) ∧ am_SD J k s1 s2)) (K : ∀ q' s' x6 x7, am_LP (e + 1) q' s' s' L X → J s' → am_W2 (d + 22) m_L_law 2620 [some (aR 31 0), some (aR 8 0), some (aR 9 0), some (aR 26 0), some (aR 27 0), some (aI (zI i)), x6, x7] [] q' Q) : am_W2 (d + 22) m_L_law 280 [some (aR 31 0), some (aR 8 0), some (aR 9 0), some (aR 26 0), some (aR 27 0), some (aI (zI i)), x6, x7] [] q Q := by
  refine ar_aload_n rfl rfl ?_
  refine ar_aload_n rfl rfl ?_
  refine ar_iload rfl rfl ?_
  refine ar_iconst rfl ?_
  refine ar_iadd rfl ?_
  refine ar_scr P hL rfl (by omega) ?_
  refine ar_aload_n rfl rfl ?_
  refine ar_iload rfl rfl ?_
  refine ar_iconst rfl ?_
  refine ar_iadd rfl ?_
  refine ar_scr P hL rfl (by omega) ?_
  refine ar_aload_n rfl rfl ?_
  refine ar_cs4 rfl rfl (Nat.le_of_ble_eq_true rfl) (wl_setTax (d := d) P bk x1 x2 hC) (by omega) (fun o q1 hq => ?_)
  obtain ⟨rfl, P1, hO⟩ := hq
  refine ar_stI6 rfl ?_
  refine ar_aload_n rfl rfl ?_
  refine ar_aload_n rfl rfl ?_
  refine ar_iload rfl rfl ?_
  refine ar_iconst rfl ?_
  refine ar_iadd rfl ?_
  refine ar_scr P1 hL rfl (by omega) ?_
  refine ar_aload_n rfl rfl ?_
  refine ar_iload rfl rfl ?_
  refine ar_iconst rfl ?_
  refine ar_iadd rfl ?_
  refine ar_scr P1 hL rfl (by omega) ?_
  refine ar_cv2 rfl rfl rfl (Nat.le_of_ble_eq_true rfl) (hM q1 P1.2.1) (by omega) (fun o q2 hq => ?_)
  obtain ⟨b, s2, rfl, R2, hbv, h74, hJ2, hm, hn⟩ := hq
  have P2 := LP_s (LP_RV P1 R2) hm hn R2.2.2.2.2.1
  refine ar_stI7 rfl ?_
  refine ar_aload_n rfl rfl ?_
  refine ar_cv0 rfl rfl rfl (Nat.le_of_ble_eq_true rfl) (sr_thrown (d := 0) q2 q2 P2.2.1) (by omega) (fun o q3 hq => ?_)
  obtain ⟨_, _, rfl, R3, rfl, rfl, _⟩ := hq
  have P3 := LP_RV P2 R3
  refine ar_iload rfl rfl ?_
  rw [h74]
  refine ar_icmp_eq rfl rfl (by omega) (by omega) (fun _ => ?_) (fun hf => absurd rfl hf)
  refine ar_iload rfl rfl ?_
  refine ar_if_ne rfl rfl (by omega) (fun hk => ?_) (fun hk => ?_)
  · refine ar_goto rfl rfl ?_
    exact K _ _ _ _ P3 hJ2
  · have eO : qAJ q3 (26, 0) 0 = (zI v).toInt64 := by { rw [(RV_J R3).1, (RV_J R2).1]; exact hO hk }
    refine ar_aload_n rfl rfl ?_
    refine ar_iconst rfl ?_
    refine ar_laload (j := 0) rfl rfl rfl (by rw [P3.2.2.2.1.1]; omega) (by rw [P3.2.2.2.1.1]; omega) ?_
    rw [eO]
    refine ar_iload rfl rfl ?_
    rw [hbv hk]
    refine ar_i2l rfl ?_
    refine ar_lcmp rfl ?_
    rw [lg_self]
    refine ar_if_eq rfl rfl (by omega) (fun _ => ?_) (fun hf => absurd rfl hf)
    refine ar_goto rfl rfl ?_
    exact K _ _ _ _ P3 hJ2
theorem lw_flight {d e : Nat} {q : am_A} {Q : am_O → am_A → Prop} {s s1 : am_Z} {J : am_Z → Prop} {L : Nat} {X : Nat → Int} {i : Int} {x6 x7 : Option am_V} (P : am_LP e q s s L X) (hL : L ≤ 4096) (hX : ∀ k, in32 (X k)) (hi : 0 ≤ i ∧ i + 8 ≤ L) {k : Int} {kd : Int → Nat} (bk : 0 ≤ k ∧ k ≤ 3) (x1 : kd 1 = 13) (x2 : kd 2 = 14) (x3 : kd 3 = 15) {v : Int} (hC : am_C2 20 m_X_flight [aR 8 0, aI (zI (X (i + 1).toNat)), aI (zI (X (i + 2).toNat)), aI (zI (X (i + 3).toNat)), aI (zI (X (i + 4).toNat)), aI (zI (X (i + 5).toNat)), aI (zI (X (i + 6).toNat))] q (am_OQ e k kd (some (aI (zI v))) q s1)) (hM : ∀ q1, am_RV q1 q1 s → am_C2 20 m_M_flight [aR 9 0, aI (zI (X (i + 1).toNat)), aI (zI (X (i + 2).toNat)), aI (zI (X (i + 3).toNat)), aI (zI (X (i + 4).toNat)), aI (zI (X (i + 5).toNat)), aI (zI (X (i + 6).toNat))] q1 (fun o q' => ∃ b s2, o = .inl (some (aI (zI b))) ∧ am_RV q1 q' s2 ∧ (k = 0 → b = v) ∧ am_SD J k s1 s2)) (K : ∀ q' s' x6 x7, am_LP (e + 1) q' s' s' L X → J s' → am_W2 (d + 22) m_L_law 2620 [some (aR 31 0), some (aR 8 0), some (aR 9 0), some (aR 26 0), some (aR 27 0), some (aI (zI i)), x6, x7] [] q' Q) : am_W2 (d + 22) m_L_law 348 [some (aR 31 0), some (aR 8 0), some (aR 9 0), some (aR 26 0), some (aR 27 0), some (aI (zI i)), x6, x7] [] q Q := by
  refine ar_aload_n rfl rfl ?_
  refine ar_aload_n rfl rfl ?_
  refine ar_iload rfl rfl ?_
  refine ar_iconst rfl ?_
  refine ar_iadd rfl ?_
  refine ar_scr P hL rfl (by omega) ?_
  refine ar_aload_n rfl rfl ?_
  refine ar_iload rfl rfl ?_
  refine ar_iconst rfl ?_
  refine ar_iadd rfl ?_
  refine ar_scr P hL rfl (by omega) ?_
  refine ar_aload_n rfl rfl ?_
  refine ar_iload rfl rfl ?_
  refine ar_iconst rfl ?_
  refine ar_iadd rfl ?_
  refine ar_scr P hL rfl (by omega) ?_
  refine ar_aload_n rfl rfl ?_
  refine ar_iload rfl rfl ?_
  refine ar_iconst rfl ?_
  refine ar_iadd rfl ?_
  refine ar_scr P hL rfl (by omega) ?_
  refine ar_aload_n rfl rfl ?_
  refine ar_iload rfl rfl ?_
  refine ar_iconst rfl ?_
  refine ar_iadd rfl ?_
  refine ar_scr P hL rfl (by omega) ?_
  refine ar_aload_n rfl rfl ?_
  refine ar_iload rfl rfl ?_
  refine ar_bipush (x := 6) rfl rfl ?_
  refine ar_iadd rfl ?_
  refine ar_scr P hL rfl (by omega) ?_
  refine ar_aload_n rfl rfl ?_
  refine ar_cs8 rfl rfl (Nat.le_of_ble_eq_true rfl) (wl_flight (d := d) P bk x1 x2 x3 hC) (by omega) (fun o q1 hq => ?_)
  obtain ⟨rfl, P1, hO⟩ := hq
  refine ar_stI6 rfl ?_
  refine ar_aload_n rfl rfl ?_
  refine ar_aload_n rfl rfl ?_
  refine ar_iload rfl rfl ?_
  refine ar_iconst rfl ?_
  refine ar_iadd rfl ?_
  refine ar_scr P1 hL rfl (by omega) ?_
  refine ar_aload_n rfl rfl ?_
  refine ar_iload rfl rfl ?_
  refine ar_iconst rfl ?_
  refine ar_iadd rfl ?_
  refine ar_scr P1 hL rfl (by omega) ?_
  refine ar_aload_n rfl rfl ?_
  refine ar_iload rfl rfl ?_
  refine ar_iconst rfl ?_
  refine ar_iadd rfl ?_
  refine ar_scr P1 hL rfl (by omega) ?_
  refine ar_aload_n rfl rfl ?_
  refine ar_iload rfl rfl ?_
  refine ar_iconst rfl ?_
  refine ar_iadd rfl ?_
  refine ar_scr P1 hL rfl (by omega) ?_
  refine ar_aload_n rfl rfl ?_
  refine ar_iload rfl rfl ?_
  refine ar_iconst rfl ?_
  refine ar_iadd rfl ?_
  refine ar_scr P1 hL rfl (by omega) ?_
  refine ar_aload_n rfl rfl ?_
  refine ar_iload rfl rfl ?_
  refine ar_bipush (x := 6) rfl rfl ?_
  refine ar_iadd rfl ?_
  refine ar_scr P1 hL rfl (by omega) ?_
  refine ar_cv6 rfl rfl rfl (Nat.le_of_ble_eq_true rfl) (hM q1 P1.2.1) (by omega) (fun o q2 hq => ?_)
  obtain ⟨b, s2, rfl, R2, hbv, h74, hJ2, hm, hn⟩ := hq
  have P2 := LP_s (LP_RV P1 R2) hm hn R2.2.2.2.2.1
  refine ar_stI7 rfl ?_
  refine ar_aload_n rfl rfl ?_
  refine ar_cv0 rfl rfl rfl (Nat.le_of_ble_eq_true rfl) (sr_thrown (d := 0) q2 q2 P2.2.1) (by omega) (fun o q3 hq => ?_)
  obtain ⟨_, _, rfl, R3, rfl, rfl, _⟩ := hq
  have P3 := LP_RV P2 R3
  refine ar_iload rfl rfl ?_
  rw [h74]
  refine ar_icmp_eq rfl rfl (by omega) (by omega) (fun _ => ?_) (fun hf => absurd rfl hf)
  refine ar_iload rfl rfl ?_
  refine ar_if_ne rfl rfl (by omega) (fun hk => ?_) (fun hk => ?_)
  · refine ar_goto rfl rfl ?_
    exact K _ _ _ _ P3 hJ2
  · have eO : qAJ q3 (26, 0) 0 = (zI v).toInt64 := by { rw [(RV_J R3).1, (RV_J R2).1]; exact hO hk }
    refine ar_aload_n rfl rfl ?_
    refine ar_iconst rfl ?_
    refine ar_laload (j := 0) rfl rfl rfl (by rw [P3.2.2.2.1.1]; omega) (by rw [P3.2.2.2.1.1]; omega) ?_
    rw [eO]
    refine ar_iload rfl rfl ?_
    rw [hbv hk]
    refine ar_i2l rfl ?_
    refine ar_lcmp rfl ?_
    rw [lg_self]
    refine ar_if_eq rfl rfl (by omega) (fun _ => ?_) (fun hf => absurd rfl hf)
    refine ar_goto rfl rfl ?_
    exact K _ _ _ _ P3 hJ2
theorem lw_days {d e : Nat} {q : am_A} {Q : am_O → am_A → Prop} {s s1 : am_Z} {J : am_Z → Prop} {L : Nat} {X : Nat → Int} {i : Int} {x6 x7 : Option am_V} (P : am_LP e q s s L X) (hL : L ≤ 4096) (hX : ∀ k, in32 (X k)) (hi : 0 ≤ i ∧ i + 8 ≤ L) {k : Int} {kd : Int → Nat} (bk : 0 ≤ k ∧ k ≤ 3) (x1 : kd 1 = 13) (x2 : kd 2 = 14) (x3 : kd 3 = 15) {v : Int} (hC : am_C2 20 m_X_days [aR 8 0, aI (zI (X (i + 1).toNat)), aI (zI (X (i + 2).toNat)), aI (zI (X (i + 3).toNat)), aI (zI (X (i + 4).toNat))] q (am_OQ e k kd (some (aI (zI v))) q s1)) (hM : ∀ q1, am_RV q1 q1 s → am_C2 20 m_M_days [aR 9 0, aI (zI (X (i + 1).toNat)), aI (zI (X (i + 2).toNat)), aI (zI (X (i + 3).toNat)), aI (zI (X (i + 4).toNat))] q1 (fun o q' => ∃ b s2, o = .inl (some (aI (zI b))) ∧ am_RV q1 q' s2 ∧ (k = 0 → b = v) ∧ am_SD J k s1 s2)) (K : ∀ q' s' x6 x7, am_LP (e + 1) q' s' s' L X → J s' → am_W2 (d + 22) m_L_law 2620 [some (aR 31 0), some (aR 8 0), some (aR 9 0), some (aR 26 0), some (aR 27 0), some (aI (zI i)), x6, x7] [] q' Q) : am_W2 (d + 22) m_L_law 466 [some (aR 31 0), some (aR 8 0), some (aR 9 0), some (aR 26 0), some (aR 27 0), some (aI (zI i)), x6, x7] [] q Q := by
  refine ar_aload_n rfl rfl ?_
  refine ar_aload_n rfl rfl ?_
  refine ar_iload rfl rfl ?_
  refine ar_iconst rfl ?_
  refine ar_iadd rfl ?_
  refine ar_scr P hL rfl (by omega) ?_
  refine ar_aload_n rfl rfl ?_
  refine ar_iload rfl rfl ?_
  refine ar_iconst rfl ?_
  refine ar_iadd rfl ?_
  refine ar_scr P hL rfl (by omega) ?_
  refine ar_aload_n rfl rfl ?_
  refine ar_iload rfl rfl ?_
  refine ar_iconst rfl ?_
  refine ar_iadd rfl ?_
  refine ar_scr P hL rfl (by omega) ?_
  refine ar_aload_n rfl rfl ?_
  refine ar_iload rfl rfl ?_
  refine ar_iconst rfl ?_
  refine ar_iadd rfl ?_
  refine ar_scr P hL rfl (by omega) ?_
  refine ar_aload_n rfl rfl ?_
  refine ar_cs6 rfl rfl (Nat.le_of_ble_eq_true rfl) (wl_days (d := d) P bk x1 x2 x3 hC) (by omega) (fun o q1 hq => ?_)
  obtain ⟨rfl, P1, hO⟩ := hq
  refine ar_stI6 rfl ?_
  refine ar_aload_n rfl rfl ?_
  refine ar_aload_n rfl rfl ?_
  refine ar_iload rfl rfl ?_
  refine ar_iconst rfl ?_
  refine ar_iadd rfl ?_
  refine ar_scr P1 hL rfl (by omega) ?_
  refine ar_aload_n rfl rfl ?_
  refine ar_iload rfl rfl ?_
  refine ar_iconst rfl ?_
  refine ar_iadd rfl ?_
  refine ar_scr P1 hL rfl (by omega) ?_
  refine ar_aload_n rfl rfl ?_
  refine ar_iload rfl rfl ?_
  refine ar_iconst rfl ?_
  refine ar_iadd rfl ?_
  refine ar_scr P1 hL rfl (by omega) ?_
  refine ar_aload_n rfl rfl ?_
  refine ar_iload rfl rfl ?_
  refine ar_iconst rfl ?_
  refine ar_iadd rfl ?_
  refine ar_scr P1 hL rfl (by omega) ?_
  refine ar_cv4 rfl rfl rfl (Nat.le_of_ble_eq_true rfl) (hM q1 P1.2.1) (by omega) (fun o q2 hq => ?_)
  obtain ⟨b, s2, rfl, R2, hbv, h74, hJ2, hm, hn⟩ := hq
  have P2 := LP_s (LP_RV P1 R2) hm hn R2.2.2.2.2.1
  refine ar_stI7 rfl ?_
  refine ar_aload_n rfl rfl ?_
  refine ar_cv0 rfl rfl rfl (Nat.le_of_ble_eq_true rfl) (sr_thrown (d := 0) q2 q2 P2.2.1) (by omega) (fun o q3 hq => ?_)
  obtain ⟨_, _, rfl, R3, rfl, rfl, _⟩ := hq
  have P3 := LP_RV P2 R3
  refine ar_iload rfl rfl ?_
  rw [h74]
  refine ar_icmp_eq rfl rfl (by omega) (by omega) (fun _ => ?_) (fun hf => absurd rfl hf)
  refine ar_iload rfl rfl ?_
  refine ar_if_ne rfl rfl (by omega) (fun hk => ?_) (fun hk => ?_)
  · refine ar_goto rfl rfl ?_
    exact K _ _ _ _ P3 hJ2
  · have eO : qAJ q3 (26, 0) 0 = (zI v).toInt64 := by { rw [(RV_J R3).1, (RV_J R2).1]; exact hO hk }
    refine ar_aload_n rfl rfl ?_
    refine ar_iconst rfl ?_
    refine ar_laload (j := 0) rfl rfl rfl (by rw [P3.2.2.2.1.1]; omega) (by rw [P3.2.2.2.1.1]; omega) ?_
    rw [eO]
    refine ar_iload rfl rfl ?_
    rw [hbv hk]
    refine ar_i2l rfl ?_
    refine ar_lcmp rfl ?_
    rw [lg_self]
    refine ar_if_eq rfl rfl (by omega) (fun _ => ?_) (fun hf => absurd rfl hf)
    refine ar_goto rfl rfl ?_
    exact K _ _ _ _ P3 hJ2
theorem lw_limit {d e : Nat} {q : am_A} {Q : am_O → am_A → Prop} {s s1 : am_Z} {J : am_Z → Prop} {L : Nat} {X : Nat → Int} {i : Int} {x6 x7 : Option am_V} (P : am_LP e q s s L X) (hL : L ≤ 4096) (hX : ∀ k, in32 (X k)) (hi : 0 ≤ i ∧ i + 8 ≤ L) {k : Int} {kd : Int → Nat} (bk : 0 ≤ k ∧ k ≤ 2) (x1 : kd 1 = 13) (x2 : kd 2 = 14) {v : Int} (hC : am_C2 20 m_X_limit [aR 8 0, aI (zI (X (i + 1).toNat)), aI (zI (X (i + 2).toNat)), aI (zI (X (i + 3).toNat))] q (am_OQ e k kd (some (aI (zI v))) q s1)) (hM : ∀ q1, am_RV q1 q1 s → am_C2 20 m_M_limit [aR 9 0, aI (zI (X (i + 1).toNat)), aI (zI (X (i + 2).toNat)), aI (zI (X (i + 3).toNat))] q1 (fun o q' => ∃ b s2, o = .inl (some (aI (zI b))) ∧ am_RV q1 q' s2 ∧ (k = 0 → b = v) ∧ am_SD J k s1 s2)) (K : ∀ q' s' x6 x7, am_LP (e + 1) q' s' s' L X → J s' → am_W2 (d + 22) m_L_law 2620 [some (aR 31 0), some (aR 8 0), some (aR 9 0), some (aR 26 0), some (aR 27 0), some (aI (zI i)), x6, x7] [] q' Q) : am_W2 (d + 22) m_L_law 558 [some (aR 31 0), some (aR 8 0), some (aR 9 0), some (aR 26 0), some (aR 27 0), some (aI (zI i)), x6, x7] [] q Q := by
  refine ar_aload_n rfl rfl ?_
  refine ar_aload_n rfl rfl ?_
  refine ar_iload rfl rfl ?_
  refine ar_iconst rfl ?_
  refine ar_iadd rfl ?_
  refine ar_scr P hL rfl (by omega) ?_
  refine ar_aload_n rfl rfl ?_
  refine ar_iload rfl rfl ?_
  refine ar_iconst rfl ?_
  refine ar_iadd rfl ?_
  refine ar_scr P hL rfl (by omega) ?_
  refine ar_aload_n rfl rfl ?_
  refine ar_iload rfl rfl ?_
  refine ar_iconst rfl ?_
  refine ar_iadd rfl ?_
  refine ar_scr P hL rfl (by omega) ?_
  refine ar_aload_n rfl rfl ?_
  refine ar_cs5 rfl rfl (Nat.le_of_ble_eq_true rfl) (wl_limit (d := d) P bk x1 x2 hC) (by omega) (fun o q1 hq => ?_)
  obtain ⟨rfl, P1, hO⟩ := hq
  refine ar_stI6 rfl ?_
  refine ar_aload_n rfl rfl ?_
  refine ar_aload_n rfl rfl ?_
  refine ar_iload rfl rfl ?_
  refine ar_iconst rfl ?_
  refine ar_iadd rfl ?_
  refine ar_scr P1 hL rfl (by omega) ?_
  refine ar_aload_n rfl rfl ?_
  refine ar_iload rfl rfl ?_
  refine ar_iconst rfl ?_
  refine ar_iadd rfl ?_
  refine ar_scr P1 hL rfl (by omega) ?_
  refine ar_aload_n rfl rfl ?_
  refine ar_iload rfl rfl ?_
  refine ar_iconst rfl ?_
  refine ar_iadd rfl ?_
  refine ar_scr P1 hL rfl (by omega) ?_
  refine ar_cv3 rfl rfl rfl (Nat.le_of_ble_eq_true rfl) (hM q1 P1.2.1) (by omega) (fun o q2 hq => ?_)
  obtain ⟨b, s2, rfl, R2, hbv, h74, hJ2, hm, hn⟩ := hq
  have P2 := LP_s (LP_RV P1 R2) hm hn R2.2.2.2.2.1
  refine ar_stI7 rfl ?_
  refine ar_aload_n rfl rfl ?_
  refine ar_cv0 rfl rfl rfl (Nat.le_of_ble_eq_true rfl) (sr_thrown (d := 0) q2 q2 P2.2.1) (by omega) (fun o q3 hq => ?_)
  obtain ⟨_, _, rfl, R3, rfl, rfl, _⟩ := hq
  have P3 := LP_RV P2 R3
  refine ar_iload rfl rfl ?_
  rw [h74]
  refine ar_icmp_eq rfl rfl (by omega) (by omega) (fun _ => ?_) (fun hf => absurd rfl hf)
  refine ar_iload rfl rfl ?_
  refine ar_if_ne rfl rfl (by omega) (fun hk => ?_) (fun hk => ?_)
  · refine ar_goto rfl rfl ?_
    exact K _ _ _ _ P3 hJ2
  · have eO : qAJ q3 (26, 0) 0 = (zI v).toInt64 := by { rw [(RV_J R3).1, (RV_J R2).1]; exact hO hk }
    refine ar_aload_n rfl rfl ?_
    refine ar_iconst rfl ?_
    refine ar_laload (j := 0) rfl rfl rfl (by rw [P3.2.2.2.1.1]; omega) (by rw [P3.2.2.2.1.1]; omega) ?_
    rw [eO]
    refine ar_iload rfl rfl ?_
    rw [hbv hk]
    refine ar_i2l rfl ?_
    refine ar_lcmp rfl ?_
    rw [lg_self]
    refine ar_if_eq rfl rfl (by omega) (fun _ => ?_) (fun hf => absurd rfl hf)
    refine ar_goto rfl rfl ?_
    exact K _ _ _ _ P3 hJ2
theorem lw_link {d e : Nat} {q : am_A} {Q : am_O → am_A → Prop} {s s1 : am_Z} {J : am_Z → Prop} {L : Nat} {X : Nat → Int} {i : Int} {x6 x7 : Option am_V} (P : am_LP e q s s L X) (hL : L ≤ 4096) (hX : ∀ k, in32 (X k)) (hi : 0 ≤ i ∧ i + 8 ≤ L) {k : Int} {kd : Int → Nat} (bk : 0 ≤ k ∧ k ≤ 2) (x1 : kd 1 = 13) (x2 : kd 2 = 14) {v : Int} (hC : am_C2 20 m_X_link [aR 8 0, aI (zI (X (i + 1).toNat)), aI (zI (X (i + 2).toNat)), aI (zI ((if X (i + 3).toNat = 0 then 0 else 1)))] q (am_OQ e k kd (some (aI (zI v))) q s1)) (hM : ∀ q1, am_RV q1 q1 s → am_C2 20 m_M_link [aR 9 0, aI (zI (X (i + 1).toNat)), aI (zI (X (i + 2).toNat)), aI (zI ((if X (i + 3).toNat = 0 then 0 else 1)))] q1 (fun o q' => ∃ b s2, o = .inl (some (aI (zI b))) ∧ am_RV q1 q' s2 ∧ (k = 0 → b = v) ∧ am_SD J k s1 s2)) (K : ∀ q' s' x6 x7, am_LP (e + 1) q' s' s' L X → J s' → am_W2 (d + 22) m_L_law 2620 [some (aR 31 0), some (aR 8 0), some (aR 9 0), some (aR 26 0), some (aR 27 0), some (aI (zI i)), x6, x7] [] q' Q) : am_W2 (d + 22) m_L_law 638 [some (aR 31 0), some (aR 8 0), some (aR 9 0), some (aR 26 0), some (aR 27 0), some (aI (zI i)), x6, x7] [] q Q := by
  refine ar_aload_n rfl rfl ?_
  refine ar_aload_n rfl rfl ?_
  refine ar_iload rfl rfl ?_
  refine ar_iconst rfl ?_
  refine ar_iadd rfl ?_
  refine ar_scr P hL rfl (by omega) ?_
  refine ar_aload_n rfl rfl ?_
  refine ar_iload rfl rfl ?_
  refine ar_iconst rfl ?_
  refine ar_iadd rfl ?_
  refine ar_scr P hL rfl (by omega) ?_
  refine cq_join (pc' := 665) (V := if X (i + 3).toNat = 0 then 0 else 1) ?_ (fun K665 => ?_)
  · refine ar_aload_n rfl rfl ?_
    refine ar_cs5 rfl rfl (Nat.le_of_ble_eq_true rfl) (wl_link (d := d) P bk x1 x2 hC) (by omega) (fun o q1 hq => ?_)
    obtain ⟨rfl, P1, hO⟩ := hq
    refine ar_stI6 rfl ?_
    refine ar_aload_n rfl rfl ?_
    refine ar_aload_n rfl rfl ?_
    refine ar_iload rfl rfl ?_
    refine ar_iconst rfl ?_
    refine ar_iadd rfl ?_
    refine ar_scr P1 hL rfl (by omega) ?_
    refine ar_aload_n rfl rfl ?_
    refine ar_iload rfl rfl ?_
    refine ar_iconst rfl ?_
    refine ar_iadd rfl ?_
    refine ar_scr P1 hL rfl (by omega) ?_
    refine cq_join (pc' := 698) (V := if X (i + 3).toNat = 0 then 0 else 1) ?_ (fun K698 => ?_)
    · refine ar_cv3 rfl rfl rfl (Nat.le_of_ble_eq_true rfl) (hM q1 P1.2.1) (by omega) (fun o q2 hq => ?_)
      obtain ⟨b, s2, rfl, R2, hbv, h74, hJ2, hm, hn⟩ := hq
      have P2 := LP_s (LP_RV P1 R2) hm hn R2.2.2.2.2.1
      refine ar_stI7 rfl ?_
      refine ar_aload_n rfl rfl ?_
      refine ar_cv0 rfl rfl rfl (Nat.le_of_ble_eq_true rfl) (sr_thrown (d := 0) q2 q2 P2.2.1) (by omega) (fun o q3 hq => ?_)
      obtain ⟨_, _, rfl, R3, rfl, rfl, _⟩ := hq
      have P3 := LP_RV P2 R3
      refine ar_iload rfl rfl ?_
      rw [h74]
      refine ar_icmp_eq rfl rfl (by omega) (by omega) (fun _ => ?_) (fun hf => absurd rfl hf)
      refine ar_iload rfl rfl ?_
      refine ar_if_ne rfl rfl (by omega) (fun hk => ?_) (fun hk => ?_)
      · refine ar_goto rfl rfl ?_
        exact K _ _ _ _ P3 hJ2
      · have eO : qAJ q3 (26, 0) 0 = (zI v).toInt64 := by { rw [(RV_J R3).1, (RV_J R2).1]; exact hO hk }
        refine ar_aload_n rfl rfl ?_
        refine ar_iconst rfl ?_
        refine ar_laload (j := 0) rfl rfl rfl (by rw [P3.2.2.2.1.1]; omega) (by rw [P3.2.2.2.1.1]; omega) ?_
        rw [eO]
        refine ar_iload rfl rfl ?_
        rw [hbv hk]
        refine ar_i2l rfl ?_
        refine ar_lcmp rfl ?_
        rw [lg_self]
        refine ar_if_eq rfl rfl (by omega) (fun _ => ?_) (fun hf => absurd rfl hf)
        refine ar_goto rfl rfl ?_
        exact K _ _ _ _ P3 hJ2
    · refine ar_aload_n rfl rfl ?_
      refine ar_iload rfl rfl ?_
      refine ar_iconst rfl ?_
      refine ar_iadd rfl ?_
      refine ar_scr P1 hL rfl (by omega) ?_
      refine ar_if_eq rfl rfl (hX _) (fun h690 => ?_) (fun h690 => ?_)
      · refine ar_iconst rfl ?_
        exact K698 _ (by rw [if_pos h690])
      · refine ar_iconst rfl ?_
        refine ar_goto rfl rfl ?_
        exact K698 _ (by rw [if_neg h690])
  · refine ar_aload_n rfl rfl ?_
    refine ar_iload rfl rfl ?_
    refine ar_iconst rfl ?_
    refine ar_iadd rfl ?_
    refine ar_scr P hL rfl (by omega) ?_
    refine ar_if_eq rfl rfl (hX _) (fun h657 => ?_) (fun h657 => ?_)
    · refine ar_iconst rfl ?_
      exact K665 _ (by rw [if_pos h657])
    · refine ar_iconst rfl ?_
      refine ar_goto rfl rfl ?_
      exact K665 _ (by rw [if_neg h657])
theorem lw_fare {d e : Nat} {q : am_A} {Q : am_O → am_A → Prop} {s s1 : am_Z} {J : am_Z → Prop} {L : Nat} {X : Nat → Int} {i : Int} {x6 x7 : Option am_V} (P : am_LP e q s s L X) (hL : L ≤ 4096) (hX : ∀ k, in32 (X k)) (hi : 0 ≤ i ∧ i + 8 ≤ L) {k : Int} {kd : Int → Nat} (bk : 0 ≤ k ∧ k ≤ 3) (x1 : kd 1 = 13) (x2 : kd 2 = 14) (x3 : kd 3 = 15) {v : Int} (hC : am_C2 20 m_X_fare [aR 8 0, aI (zI (X (i + 1).toNat)), aI (zI (X (i + 2).toNat)), aI (zI (X (i + 3).toNat)), aI (zI (X (i + 4).toNat)), aI (zI (X (i + 5).toNat))] q (am_OQ e k kd (some (aI (zI v))) q s1)) (hM : ∀ q1, am_RV q1 q1 s → am_C2 20 m_M_fare [aR 9 0, aI (zI (X (i + 1).toNat)), aI (zI (X (i + 2).toNat)), aI (zI (X (i + 3).toNat)), aI (zI (X (i + 4).toNat)), aI (zI (X (i + 5).toNat))] q1 (fun o q' => ∃ b s2, o = .inl (some (aI (zI b))) ∧ am_RV q1 q' s2 ∧ (k = 0 → b = v) ∧ am_SD J k s1 s2)) (K : ∀ q' s' x6 x7, am_LP (e + 1) q' s' s' L X → J s' → am_W2 (d + 22) m_L_law 2620 [some (aR 31 0), some (aR 8 0), some (aR 9 0), some (aR 26 0), some (aR 27 0), some (aI (zI i)), x6, x7] [] q' Q) : am_W2 (d + 22) m_L_law 734 [some (aR 31 0), some (aR 8 0), some (aR 9 0), some (aR 26 0), some (aR 27 0), some (aI (zI i)), x6, x7] [] q Q := by
  refine ar_aload_n rfl rfl ?_
  refine ar_aload_n rfl rfl ?_
  refine ar_iload rfl rfl ?_
  refine ar_iconst rfl ?_
  refine ar_iadd rfl ?_
  refine ar_scr P hL rfl (by omega) ?_
  refine ar_aload_n rfl rfl ?_
  refine ar_iload rfl rfl ?_
  refine ar_iconst rfl ?_
  refine ar_iadd rfl ?_
  refine ar_scr P hL rfl (by omega) ?_
  refine ar_aload_n rfl rfl ?_
  refine ar_iload rfl rfl ?_
  refine ar_iconst rfl ?_
  refine ar_iadd rfl ?_
  refine ar_scr P hL rfl (by omega) ?_
  refine ar_aload_n rfl rfl ?_
  refine ar_iload rfl rfl ?_
  refine ar_iconst rfl ?_
  refine ar_iadd rfl ?_
  refine ar_scr P hL rfl (by omega) ?_
  refine ar_aload_n rfl rfl ?_
  refine ar_iload rfl rfl ?_
  refine ar_iconst rfl ?_
  refine ar_iadd rfl ?_
  refine ar_scr P hL rfl (by omega) ?_
  refine ar_aload_n rfl rfl ?_
  refine ar_cs7 rfl rfl (Nat.le_of_ble_eq_true rfl) (wl_fare (d := d) P bk x1 x2 x3 hC) (by omega) (fun o q1 hq => ?_)
  obtain ⟨rfl, P1, hO⟩ := hq
  refine ar_stI6 rfl ?_
  refine ar_aload_n rfl rfl ?_
  refine ar_aload_n rfl rfl ?_
  refine ar_iload rfl rfl ?_
  refine ar_iconst rfl ?_
  refine ar_iadd rfl ?_
  refine ar_scr P1 hL rfl (by omega) ?_
  refine ar_aload_n rfl rfl ?_
  refine ar_iload rfl rfl ?_
  refine ar_iconst rfl ?_
  refine ar_iadd rfl ?_
  refine ar_scr P1 hL rfl (by omega) ?_
  refine ar_aload_n rfl rfl ?_
  refine ar_iload rfl rfl ?_
  refine ar_iconst rfl ?_
  refine ar_iadd rfl ?_
  refine ar_scr P1 hL rfl (by omega) ?_
  refine ar_aload_n rfl rfl ?_
  refine ar_iload rfl rfl ?_
  refine ar_iconst rfl ?_
  refine ar_iadd rfl ?_
  refine ar_scr P1 hL rfl (by omega) ?_
  refine ar_aload_n rfl rfl ?_
  refine ar_iload rfl rfl ?_
  refine ar_iconst rfl ?_
  refine ar_iadd rfl ?_
  refine ar_scr P1 hL rfl (by omega) ?_
  refine ar_cv5 rfl rfl rfl (Nat.le_of_ble_eq_true rfl) (hM q1 P1.2.1) (by omega) (fun o q2 hq => ?_)
  obtain ⟨b, s2, rfl, R2, hbv, h74, hJ2, hm, hn⟩ := hq
  have P2 := LP_s (LP_RV P1 R2) hm hn R2.2.2.2.2.1
  refine ar_stI7 rfl ?_
  refine ar_aload_n rfl rfl ?_
  refine ar_cv0 rfl rfl rfl (Nat.le_of_ble_eq_true rfl) (sr_thrown (d := 0) q2 q2 P2.2.1) (by omega) (fun o q3 hq => ?_)
  obtain ⟨_, _, rfl, R3, rfl, rfl, _⟩ := hq
  have P3 := LP_RV P2 R3
  refine ar_iload rfl rfl ?_
  rw [h74]
  refine ar_icmp_eq rfl rfl (by omega) (by omega) (fun _ => ?_) (fun hf => absurd rfl hf)
  refine ar_iload rfl rfl ?_
  refine ar_if_ne rfl rfl (by omega) (fun hk => ?_) (fun hk => ?_)
  · refine ar_goto rfl rfl ?_
    exact K _ _ _ _ P3 hJ2
  · have eO : qAJ q3 (26, 0) 0 = (zI v).toInt64 := by { rw [(RV_J R3).1, (RV_J R2).1]; exact hO hk }
    refine ar_aload_n rfl rfl ?_
    refine ar_iconst rfl ?_
    refine ar_laload (j := 0) rfl rfl rfl (by rw [P3.2.2.2.1.1]; omega) (by rw [P3.2.2.2.1.1]; omega) ?_
    rw [eO]
    refine ar_iload rfl rfl ?_
    rw [hbv hk]
    refine ar_i2l rfl ?_
    refine ar_lcmp rfl ?_
    rw [lg_self]
    refine ar_if_eq rfl rfl (by omega) (fun _ => ?_) (fun hf => absurd rfl hf)
    refine ar_goto rfl rfl ?_
    exact K _ _ _ _ P3 hJ2
theorem lw_rules {d e : Nat} {q : am_A} {Q : am_O → am_A → Prop} {s s1 : am_Z} {J : am_Z → Prop} {L : Nat} {X : Nat → Int} {i : Int} {x6 x7 : Option am_V} (P : am_LP e q s s L X) (hL : L ≤ 4096) (hX : ∀ k, in32 (X k)) (hi : 0 ≤ i ∧ i + 8 ≤ L) {k : Int} {kd : Int → Nat} (bk : 0 ≤ k ∧ k ≤ 2) (x1 : kd 1 = 13) (x2 : kd 2 = 14) (hC : am_C2 20 m_X_rules [aR 8 0, aI (zI (X (i + 1).toNat)), aI (zI (X (i + 2).toNat)), aI (zI (X (i + 3).toNat)), aI (zI (X (i + 4).toNat)), aI (zI ((if X (i + 5).toNat = 0 then 0 else 1))), aI (zI (X (i + 6).toNat)), aI (zI ((if X (i + 7).toNat = 0 then 0 else 1)))] q (am_OQ e k kd none q s1)) (hM : ∀ q1, am_RV q1 q1 s → am_C2 20 m_M_rules [aR 9 0, aI (zI (X (i + 1).toNat)), aI (zI (X (i + 2).toNat)), aI (zI (X (i + 3).toNat)), aI (zI (X (i + 4).toNat)), aI (zI ((if X (i + 5).toNat = 0 then 0 else 1))), aI (zI (X (i + 6).toNat)), aI (zI ((if X (i + 7).toNat = 0 then 0 else 1)))] q1 (fun o q' => ∃ s2, o = .inl none ∧ am_RV q1 q' s2 ∧ am_SD J k s1 s2)) (K : ∀ q' s' x6 x7, am_LP (e + 1) q' s' s' L X → J s' → am_W2 (d + 22) m_L_law 2620 [some (aR 31 0), some (aR 8 0), some (aR 9 0), some (aR 26 0), some (aR 27 0), some (aI (zI i)), x6, x7] [] q' Q) : am_W2 (d + 22) m_L_law 838 [some (aR 31 0), some (aR 8 0), some (aR 9 0), some (aR 26 0), some (aR 27 0), some (aI (zI i)), x6, x7] [] q Q := by
  refine ar_aload_n rfl rfl ?_
  refine ar_aload_n rfl rfl ?_
  refine ar_iload rfl rfl ?_
  refine ar_iconst rfl ?_
  refine ar_iadd rfl ?_
  refine ar_scr P hL rfl (by omega) ?_
  refine ar_aload_n rfl rfl ?_
  refine ar_iload rfl rfl ?_
  refine ar_iconst rfl ?_
  refine ar_iadd rfl ?_
  refine ar_scr P hL rfl (by omega) ?_
  refine ar_aload_n rfl rfl ?_
  refine ar_iload rfl rfl ?_
  refine ar_iconst rfl ?_
  refine ar_iadd rfl ?_
  refine ar_scr P hL rfl (by omega) ?_
  refine ar_aload_n rfl rfl ?_
  refine ar_iload rfl rfl ?_
  refine ar_iconst rfl ?_
  refine ar_iadd rfl ?_
  refine ar_scr P hL rfl (by omega) ?_
  refine cq_join (pc' := 877) (V := if X (i + 5).toNat = 0 then 0 else 1) ?_ (fun K877 => ?_)
  · refine ar_aload_n rfl rfl ?_
    refine ar_iload rfl rfl ?_
    refine ar_bipush (x := 6) rfl rfl ?_
    refine ar_iadd rfl ?_
    refine ar_scr P hL rfl (by omega) ?_
    refine cq_join (pc' := 899) (V := if X (i + 7).toNat = 0 then 0 else 1) ?_ (fun K899 => ?_)
    · refine ar_cs8 rfl rfl (Nat.le_of_ble_eq_true rfl) (wl_rules (d := d) P bk x1 x2 hC) (by omega) (fun o q1 hq => ?_)
      obtain ⟨rfl, P1⟩ := hq
      refine ar_stI6 rfl ?_
      refine ar_aload_n rfl rfl ?_
      refine ar_aload_n rfl rfl ?_
      refine ar_iload rfl rfl ?_
      refine ar_iconst rfl ?_
      refine ar_iadd rfl ?_
      refine ar_scr P1 hL rfl (by omega) ?_
      refine ar_aload_n rfl rfl ?_
      refine ar_iload rfl rfl ?_
      refine ar_iconst rfl ?_
      refine ar_iadd rfl ?_
      refine ar_scr P1 hL rfl (by omega) ?_
      refine ar_aload_n rfl rfl ?_
      refine ar_iload rfl rfl ?_
      refine ar_iconst rfl ?_
      refine ar_iadd rfl ?_
      refine ar_scr P1 hL rfl (by omega) ?_
      refine ar_aload_n rfl rfl ?_
      refine ar_iload rfl rfl ?_
      refine ar_iconst rfl ?_
      refine ar_iadd rfl ?_
      refine ar_scr P1 hL rfl (by omega) ?_
      refine cq_join (pc' := 943) (V := if X (i + 5).toNat = 0 then 0 else 1) ?_ (fun K943 => ?_)
      · refine ar_aload_n rfl rfl ?_
        refine ar_iload rfl rfl ?_
        refine ar_bipush (x := 6) rfl rfl ?_
        refine ar_iadd rfl ?_
        refine ar_scr P1 hL rfl (by omega) ?_
        refine cq_join (pc' := 965) (V := if X (i + 7).toNat = 0 then 0 else 1) ?_ (fun K965 => ?_)
        · refine ar_cv7 rfl rfl rfl (Nat.le_of_ble_eq_true rfl) (hM q1 P1.2.1) (by omega) (fun o q2 hq => ?_)
          obtain ⟨s2, rfl, R2, h74, hJ2, hm, hn⟩ := hq
          have P2 := LP_s (LP_RV P1 R2) hm hn R2.2.2.2.2.1
          refine ar_aload_n rfl rfl ?_
          refine ar_cv0 rfl rfl rfl (Nat.le_of_ble_eq_true rfl) (sr_thrown (d := 0) q2 q2 P2.2.1) (by omega) (fun o q3 hq => ?_)
          obtain ⟨_, _, rfl, R3, rfl, rfl, _⟩ := hq
          have P3 := LP_RV P2 R3
          refine ar_iload rfl rfl ?_
          rw [h74]
          refine ar_icmp_eq rfl rfl (by omega) (by omega) (fun _ => ?_) (fun hf => absurd rfl hf)
          refine ar_goto rfl rfl ?_
          exact K _ _ _ _ P3 hJ2
        · refine ar_aload_n rfl rfl ?_
          refine ar_iload rfl rfl ?_
          refine ar_bipush (x := 7) rfl rfl ?_
          refine ar_iadd rfl ?_
          refine ar_scr P1 hL rfl (by omega) ?_
          refine ar_if_eq rfl rfl (hX _) (fun h957 => ?_) (fun h957 => ?_)
          · refine ar_iconst rfl ?_
            exact K965 _ (by rw [if_pos h957])
          · refine ar_iconst rfl ?_
            refine ar_goto rfl rfl ?_
            exact K965 _ (by rw [if_neg h957])
      · refine ar_aload_n rfl rfl ?_
        refine ar_iload rfl rfl ?_
        refine ar_iconst rfl ?_
        refine ar_iadd rfl ?_
        refine ar_scr P1 hL rfl (by omega) ?_
        refine ar_if_eq rfl rfl (hX _) (fun h935 => ?_) (fun h935 => ?_)
        · refine ar_iconst rfl ?_
          exact K943 _ (by rw [if_pos h935])
        · refine ar_iconst rfl ?_
          refine ar_goto rfl rfl ?_
          exact K943 _ (by rw [if_neg h935])
    · refine ar_aload_n rfl rfl ?_
      refine ar_iload rfl rfl ?_
      refine ar_bipush (x := 7) rfl rfl ?_
      refine ar_iadd rfl ?_
      refine ar_scr P hL rfl (by omega) ?_
      refine ar_if_eq rfl rfl (hX _) (fun h891 => ?_) (fun h891 => ?_)
      · refine ar_iconst rfl ?_
        exact K899 _ (by rw [if_pos h891])
      · refine ar_iconst rfl ?_
        refine ar_goto rfl rfl ?_
        exact K899 _ (by rw [if_neg h891])
  · refine ar_aload_n rfl rfl ?_
    refine ar_iload rfl rfl ?_
    refine ar_iconst rfl ?_
    refine ar_iadd rfl ?_
    refine ar_scr P hL rfl (by omega) ?_
    refine ar_if_eq rfl rfl (hX _) (fun h869 => ?_) (fun h869 => ?_)
    · refine ar_iconst rfl ?_
      exact K877 _ (by rw [if_pos h869])
    · refine ar_iconst rfl ?_
      refine ar_goto rfl rfl ?_
      exact K877 _ (by rw [if_neg h869])
theorem lw_back {d e : Nat} {q : am_A} {Q : am_O → am_A → Prop} {s s1 : am_Z} {J : am_Z → Prop} {L : Nat} {X : Nat → Int} {i : Int} {x6 x7 : Option am_V} (P : am_LP e q s s L X) (hL : L ≤ 4096) (hX : ∀ k, in32 (X k)) (hi : 0 ≤ i ∧ i + 8 ≤ L) {k : Int} {kd : Int → Nat} (bk : 0 ≤ k ∧ k ≤ 2) (x1 : kd 1 = 13) (x2 : kd 2 = 14) {v : Int} (hC : am_C2 20 m_X_back [aR 8 0, aI (zI (X (i + 1).toNat)), aI (zI (X (i + 2).toNat))] q (am_OQ e k kd (some (aI (zI v))) q s1)) (hM : ∀ q1, am_RV q1 q1 s → am_C2 20 m_M_back [aR 9 0, aI (zI (X (i + 1).toNat)), aI (zI (X (i + 2).toNat))] q1 (fun o q' => ∃ b s2, o = .inl (some (aI (zI b))) ∧ am_RV q1 q' s2 ∧ (k = 0 → b = v) ∧ am_SD J k s1 s2)) (K : ∀ q' s' x6 x7, am_LP (e + 1) q' s' s' L X → J s' → am_W2 (d + 22) m_L_law 2620 [some (aR 31 0), some (aR 8 0), some (aR 9 0), some (aR 26 0), some (aR 27 0), some (aI (zI i)), x6, x7] [] q' Q) : am_W2 (d + 22) m_L_law 982 [some (aR 31 0), some (aR 8 0), some (aR 9 0), some (aR 26 0), some (aR 27 0), some (aI (zI i)), x6, x7] [] q Q := by
  refine ar_aload_n rfl rfl ?_
  refine ar_aload_n rfl rfl ?_
  refine ar_iload rfl rfl ?_
  refine ar_iconst rfl ?_
  refine ar_iadd rfl ?_
  refine ar_scr P hL rfl (by omega) ?_
  refine ar_aload_n rfl rfl ?_
  refine ar_iload rfl rfl ?_
  refine ar_iconst rfl ?_
  refine ar_iadd rfl ?_
  refine ar_scr P hL rfl (by omega) ?_
  refine ar_aload_n rfl rfl ?_
  refine ar_cs4 rfl rfl (Nat.le_of_ble_eq_true rfl) (wl_back (d := d) P bk x1 x2 hC) (by omega) (fun o q1 hq => ?_)
  obtain ⟨rfl, P1, hO⟩ := hq
  refine ar_stI6 rfl ?_
  refine ar_aload_n rfl rfl ?_
  refine ar_aload_n rfl rfl ?_
  refine ar_iload rfl rfl ?_
  refine ar_iconst rfl ?_
  refine ar_iadd rfl ?_
  refine ar_scr P1 hL rfl (by omega) ?_
  refine ar_aload_n rfl rfl ?_
  refine ar_iload rfl rfl ?_
  refine ar_iconst rfl ?_
  refine ar_iadd rfl ?_
  refine ar_scr P1 hL rfl (by omega) ?_
  refine ar_cv2 rfl rfl rfl (Nat.le_of_ble_eq_true rfl) (hM q1 P1.2.1) (by omega) (fun o q2 hq => ?_)
  obtain ⟨b, s2, rfl, R2, hbv, h74, hJ2, hm, hn⟩ := hq
  have P2 := LP_s (LP_RV P1 R2) hm hn R2.2.2.2.2.1
  refine ar_stI7 rfl ?_
  refine ar_aload_n rfl rfl ?_
  refine ar_cv0 rfl rfl rfl (Nat.le_of_ble_eq_true rfl) (sr_thrown (d := 0) q2 q2 P2.2.1) (by omega) (fun o q3 hq => ?_)
  obtain ⟨_, _, rfl, R3, rfl, rfl, _⟩ := hq
  have P3 := LP_RV P2 R3
  refine ar_iload rfl rfl ?_
  rw [h74]
  refine ar_icmp_eq rfl rfl (by omega) (by omega) (fun _ => ?_) (fun hf => absurd rfl hf)
  refine ar_iload rfl rfl ?_
  refine ar_if_ne rfl rfl (by omega) (fun hk => ?_) (fun hk => ?_)
  · refine ar_goto rfl rfl ?_
    exact K _ _ _ _ P3 hJ2
  · have eO : qAJ q3 (26, 0) 0 = (zI v).toInt64 := by { rw [(RV_J R3).1, (RV_J R2).1]; exact hO hk }
    refine ar_aload_n rfl rfl ?_
    refine ar_iconst rfl ?_
    refine ar_laload (j := 0) rfl rfl rfl (by rw [P3.2.2.2.1.1]; omega) (by rw [P3.2.2.2.1.1]; omega) ?_
    rw [eO]
    refine ar_iload rfl rfl ?_
    rw [hbv hk]
    refine ar_i2l rfl ?_
    refine ar_lcmp rfl ?_
    rw [lg_self]
    refine ar_if_eq rfl rfl (by omega) (fun _ => ?_) (fun hf => absurd rfl hf)
    refine ar_goto rfl rfl ?_
    exact K _ _ _ _ P3 hJ2
theorem lw_departure {d e : Nat} {q : am_A} {Q : am_O → am_A → Prop} {s s1 : am_Z} {J : am_Z → Prop} {L : Nat} {X : Nat → Int} {i : Int} {x6 x7 : Option am_V} (P : am_LP e q s s L X) (hL : L ≤ 4096) (hX : ∀ k, in32 (X k)) (hi : 0 ≤ i ∧ i + 8 ≤ L) {k : Int} {kd : Int → Nat} (bk : 0 ≤ k ∧ k ≤ 1) (x1 : kd 1 = 13) {v : Int} (hC : am_C2 20 m_X_departure [aR 8 0, aI (zI (X (i + 1).toNat))] q (am_OQ e k kd (some (aI (zI v))) q s1)) (hM : ∀ q1, am_RV q1 q1 s → am_C2 20 m_M_departure [aR 9 0, aI (zI (X (i + 1).toNat))] q1 (fun o q' => ∃ b s2, o = .inl (some (aI (zI b))) ∧ am_RV q1 q' s2 ∧ (k = 0 → b = v) ∧ am_SD J k s1 s2)) (K : ∀ q' s' x6 x7, am_LP (e + 1) q' s' s' L X → J s' → am_W2 (d + 22) m_L_law 2620 [some (aR 31 0), some (aR 8 0), some (aR 9 0), some (aR 26 0), some (aR 27 0), some (aI (zI i)), x6, x7] [] q' Q) : am_W2 (d + 22) m_L_law 1050 [some (aR 31 0), some (aR 8 0), some (aR 9 0), some (aR 26 0), some (aR 27 0), some (aI (zI i)), x6, x7] [] q Q := by
  refine ar_aload_n rfl rfl ?_
  refine ar_aload_n rfl rfl ?_
  refine ar_iload rfl rfl ?_
  refine ar_iconst rfl ?_
  refine ar_iadd rfl ?_
  refine ar_scr P hL rfl (by omega) ?_
  refine ar_aload_n rfl rfl ?_
  refine ar_cs3 rfl rfl (Nat.le_of_ble_eq_true rfl) (wl_departure (d := d) P bk x1 hC) (by omega) (fun o q1 hq => ?_)
  obtain ⟨rfl, P1, hO⟩ := hq
  refine ar_stI6 rfl ?_
  refine ar_aload_n rfl rfl ?_
  refine ar_aload_n rfl rfl ?_
  refine ar_iload rfl rfl ?_
  refine ar_iconst rfl ?_
  refine ar_iadd rfl ?_
  refine ar_scr P1 hL rfl (by omega) ?_
  refine ar_cv1 rfl rfl rfl (Nat.le_of_ble_eq_true rfl) (hM q1 P1.2.1) (by omega) (fun o q2 hq => ?_)
  obtain ⟨b, s2, rfl, R2, hbv, h74, hJ2, hm, hn⟩ := hq
  have P2 := LP_s (LP_RV P1 R2) hm hn R2.2.2.2.2.1
  refine ar_stI7 rfl ?_
  refine ar_aload_n rfl rfl ?_
  refine ar_cv0 rfl rfl rfl (Nat.le_of_ble_eq_true rfl) (sr_thrown (d := 0) q2 q2 P2.2.1) (by omega) (fun o q3 hq => ?_)
  obtain ⟨_, _, rfl, R3, rfl, rfl, _⟩ := hq
  have P3 := LP_RV P2 R3
  refine ar_iload rfl rfl ?_
  rw [h74]
  refine ar_icmp_eq rfl rfl (by omega) (by omega) (fun _ => ?_) (fun hf => absurd rfl hf)
  refine ar_iload rfl rfl ?_
  refine ar_if_ne rfl rfl (by omega) (fun hk => ?_) (fun hk => ?_)
  · refine ar_goto rfl rfl ?_
    exact K _ _ _ _ P3 hJ2
  · have eO : qAJ q3 (26, 0) 0 = (zI v).toInt64 := by { rw [(RV_J R3).1, (RV_J R2).1]; exact hO hk }
    refine ar_aload_n rfl rfl ?_
    refine ar_iconst rfl ?_
    refine ar_laload (j := 0) rfl rfl rfl (by rw [P3.2.2.2.1.1]; omega) (by rw [P3.2.2.2.1.1]; omega) ?_
    rw [eO]
    refine ar_iload rfl rfl ?_
    rw [hbv hk]
    refine ar_i2l rfl ?_
    refine ar_lcmp rfl ?_
    rw [lg_self]
    refine ar_if_eq rfl rfl (by omega) (fun _ => ?_) (fun hf => absurd rfl hf)
    refine ar_goto rfl rfl ?_
    exact K _ _ _ _ P3 hJ2
theorem lw_standing {d e : Nat} {q : am_A} {Q : am_O → am_A → Prop} {s s1 : am_Z} {J : am_Z → Prop} {L : Nat} {X : Nat → Int} {i : Int} {x6 x7 : Option am_V} (P : am_LP e q s s L X) (hL : L ≤ 4096) (hX : ∀ k, in32 (X k)) (hi : 0 ≤ i ∧ i + 8 ≤ L) {k : Int} {kd : Int → Nat} (bk : 0 ≤ k ∧ k ≤ 1) (x1 : kd 1 = 13) {v : Int} (hC : am_C2 20 m_X_standing [aR 8 0, aI (zI (X (i + 1).toNat))] q (am_OQ e k kd (some (aI (zI v))) q s1)) (hM : ∀ q1, am_RV q1 q1 s → am_C2 20 m_M_standing [aR 9 0, aI (zI (X (i + 1).toNat))] q1 (fun o q' => ∃ b s2, o = .inl (some (aI (zI b))) ∧ am_RV q1 q' s2 ∧ (k = 0 → b = v) ∧ am_SD J k s1 s2)) (K : ∀ q' s' x6 x7, am_LP (e + 1) q' s' s' L X → J s' → am_W2 (d + 22) m_L_law 2620 [some (aR 31 0), some (aR 8 0), some (aR 9 0), some (aR 26 0), some (aR 27 0), some (aI (zI i)), x6, x7] [] q' Q) : am_W2 (d + 22) m_L_law 1106 [some (aR 31 0), some (aR 8 0), some (aR 9 0), some (aR 26 0), some (aR 27 0), some (aI (zI i)), x6, x7] [] q Q := by
  refine ar_aload_n rfl rfl ?_
  refine ar_aload_n rfl rfl ?_
  refine ar_iload rfl rfl ?_
  refine ar_iconst rfl ?_
  refine ar_iadd rfl ?_
  refine ar_scr P hL rfl (by omega) ?_
  refine ar_aload_n rfl rfl ?_
  refine ar_cs3 rfl rfl (Nat.le_of_ble_eq_true rfl) (wl_standing (d := d) P bk x1 hC) (by omega) (fun o q1 hq => ?_)
  obtain ⟨rfl, P1, hO⟩ := hq
  refine ar_stI6 rfl ?_
  refine ar_aload_n rfl rfl ?_
  refine ar_aload_n rfl rfl ?_
  refine ar_iload rfl rfl ?_
  refine ar_iconst rfl ?_
  refine ar_iadd rfl ?_
  refine ar_scr P1 hL rfl (by omega) ?_
  refine ar_cv1 rfl rfl rfl (Nat.le_of_ble_eq_true rfl) (hM q1 P1.2.1) (by omega) (fun o q2 hq => ?_)
  obtain ⟨b, s2, rfl, R2, hbv, h74, hJ2, hm, hn⟩ := hq
  have P2 := LP_s (LP_RV P1 R2) hm hn R2.2.2.2.2.1
  refine ar_stI7 rfl ?_
  refine ar_aload_n rfl rfl ?_
  refine ar_cv0 rfl rfl rfl (Nat.le_of_ble_eq_true rfl) (sr_thrown (d := 0) q2 q2 P2.2.1) (by omega) (fun o q3 hq => ?_)
  obtain ⟨_, _, rfl, R3, rfl, rfl, _⟩ := hq
  have P3 := LP_RV P2 R3
  refine ar_iload rfl rfl ?_
  rw [h74]
  refine ar_icmp_eq rfl rfl (by omega) (by omega) (fun _ => ?_) (fun hf => absurd rfl hf)
  refine ar_iload rfl rfl ?_
  refine ar_if_ne rfl rfl (by omega) (fun hk => ?_) (fun hk => ?_)
  · refine ar_goto rfl rfl ?_
    exact K _ _ _ _ P3 hJ2
  · have eO : qAJ q3 (26, 0) 0 = (zI v).toInt64 := by { rw [(RV_J R3).1, (RV_J R2).1]; exact hO hk }
    refine ar_aload_n rfl rfl ?_
    refine ar_iconst rfl ?_
    refine ar_laload (j := 0) rfl rfl rfl (by rw [P3.2.2.2.1.1]; omega) (by rw [P3.2.2.2.1.1]; omega) ?_
    rw [eO]
    refine ar_iload rfl rfl ?_
    rw [hbv hk]
    refine ar_i2l rfl ?_
    refine ar_lcmp rfl ?_
    rw [lg_self]
    refine ar_if_eq rfl rfl (by omega) (fun _ => ?_) (fun hf => absurd rfl hf)
    refine ar_goto rfl rfl ?_
    exact K _ _ _ _ P3 hJ2
theorem lw_open {d e : Nat} {q : am_A} {Q : am_O → am_A → Prop} {s s1 : am_Z} {J : am_Z → Prop} {L : Nat} {X : Nat → Int} {i : Int} {x6 x7 : Option am_V} (P : am_LP e q s s L X) (hL : L ≤ 4096) (hX : ∀ k, in32 (X k)) (hi : 0 ≤ i ∧ i + 8 ≤ L) {k : Int} {kd : Int → Nat} (bk : 0 ≤ k ∧ k ≤ 1) (x1 : kd 1 = 13) {v : Int} (hC : am_C2 20 m_X_open [aR 8 0, aI (zI (X (i + 1).toNat)), aI (zI (X (i + 2).toNat))] q (am_OQ e k kd (some (aI (zI v))) q s1)) (hM : ∀ q1, am_RV q1 q1 s → am_C2 20 m_M_open [aR 9 0, aI (zI (X (i + 1).toNat)), aI (zI (X (i + 2).toNat))] q1 (fun o q' => ∃ b s2, o = .inl (some (aI (zI b))) ∧ am_RV q1 q' s2 ∧ (k = 0 → b = v) ∧ am_SD J k s1 s2)) (K : ∀ q' s' x6 x7, am_LP (e + 1) q' s' s' L X → J s' → am_W2 (d + 22) m_L_law 2620 [some (aR 31 0), some (aR 8 0), some (aR 9 0), some (aR 26 0), some (aR 27 0), some (aI (zI i)), x6, x7] [] q' Q) : am_W2 (d + 22) m_L_law 1162 [some (aR 31 0), some (aR 8 0), some (aR 9 0), some (aR 26 0), some (aR 27 0), some (aI (zI i)), x6, x7] [] q Q := by
  refine ar_aload_n rfl rfl ?_
  refine ar_aload_n rfl rfl ?_
  refine ar_iload rfl rfl ?_
  refine ar_iconst rfl ?_
  refine ar_iadd rfl ?_
  refine ar_scr P hL rfl (by omega) ?_
  refine ar_aload_n rfl rfl ?_
  refine ar_iload rfl rfl ?_
  refine ar_iconst rfl ?_
  refine ar_iadd rfl ?_
  refine ar_scr P hL rfl (by omega) ?_
  refine ar_aload_n rfl rfl ?_
  refine ar_cs4 rfl rfl (Nat.le_of_ble_eq_true rfl) (wl_open (d := d) P bk x1 hC) (by omega) (fun o q1 hq => ?_)
  obtain ⟨rfl, P1, hO⟩ := hq
  refine ar_stI6 rfl ?_
  refine ar_aload_n rfl rfl ?_
  refine ar_aload_n rfl rfl ?_
  refine ar_iload rfl rfl ?_
  refine ar_iconst rfl ?_
  refine ar_iadd rfl ?_
  refine ar_scr P1 hL rfl (by omega) ?_
  refine ar_aload_n rfl rfl ?_
  refine ar_iload rfl rfl ?_
  refine ar_iconst rfl ?_
  refine ar_iadd rfl ?_
  refine ar_scr P1 hL rfl (by omega) ?_
  refine ar_cv2 rfl rfl rfl (Nat.le_of_ble_eq_true rfl) (hM q1 P1.2.1) (by omega) (fun o q2 hq => ?_)
  obtain ⟨b, s2, rfl, R2, hbv, h74, hJ2, hm, hn⟩ := hq
  have P2 := LP_s (LP_RV P1 R2) hm hn R2.2.2.2.2.1
  refine ar_stI7 rfl ?_
  refine ar_aload_n rfl rfl ?_
  refine ar_cv0 rfl rfl rfl (Nat.le_of_ble_eq_true rfl) (sr_thrown (d := 0) q2 q2 P2.2.1) (by omega) (fun o q3 hq => ?_)
  obtain ⟨_, _, rfl, R3, rfl, rfl, _⟩ := hq
  have P3 := LP_RV P2 R3
  refine ar_iload rfl rfl ?_
  rw [h74]
  refine ar_icmp_eq rfl rfl (by omega) (by omega) (fun _ => ?_) (fun hf => absurd rfl hf)
  refine ar_iload rfl rfl ?_
  refine ar_if_ne rfl rfl (by omega) (fun hk => ?_) (fun hk => ?_)
  · refine ar_goto rfl rfl ?_
    exact K _ _ _ _ P3 hJ2
  · have eO : qAJ q3 (26, 0) 0 = (zI v).toInt64 := by { rw [(RV_J R3).1, (RV_J R2).1]; exact hO hk }
    refine ar_aload_n rfl rfl ?_
    refine ar_iconst rfl ?_
    refine ar_laload (j := 0) rfl rfl rfl (by rw [P3.2.2.2.1.1]; omega) (by rw [P3.2.2.2.1.1]; omega) ?_
    rw [eO]
    refine ar_iload rfl rfl ?_
    rw [hbv hk]
    refine ar_i2l rfl ?_
    refine ar_lcmp rfl ?_
    rw [lg_self]
    refine ar_if_eq rfl rfl (by omega) (fun _ => ?_) (fun hf => absurd rfl hf)
    refine ar_goto rfl rfl ?_
    exact K _ _ _ _ P3 hJ2
theorem lw_load {d e : Nat} {q : am_A} {Q : am_O → am_A → Prop} {s s1 : am_Z} {J : am_Z → Prop} {L : Nat} {X : Nat → Int} {i : Int} {x6 x7 : Option am_V} (P : am_LP e q s s L X) (hL : L ≤ 4096) (hX : ∀ k, in32 (X k)) (hi : 0 ≤ i ∧ i + 8 ≤ L) {k : Int} {kd : Int → Nat} (bk : 0 ≤ k ∧ k ≤ 1) (x1 : kd 1 = 13) {v : UInt32} (hv : FP.Core.decode FP.Core.b32 v.toNat ≠ .nan) (hC : am_C2 20 m_X_load [aR 8 0, aI (zI (X (i + 1).toNat))] q (am_OQ e k kd (some (aF v)) q s1)) (hM : ∀ q1, am_RV q1 q1 s → am_C2 20 m_M_load [aR 9 0, aI (zI (X (i + 1).toNat))] q1 (fun o q' => ∃ b s2, o = .inl (some (aF b)) ∧ am_RV q1 q' s2 ∧ (k = 0 → b = v) ∧ am_SD J k s1 s2)) (K : ∀ q' s' x6 x7, am_LP (e + 1) q' s' s' L X → J s' → am_W2 (d + 22) m_L_law 2620 [some (aR 31 0), some (aR 8 0), some (aR 9 0), some (aR 26 0), some (aR 27 0), some (aI (zI i)), x6, x7] [] q' Q) : am_W2 (d + 22) m_L_law 1230 [some (aR 31 0), some (aR 8 0), some (aR 9 0), some (aR 26 0), some (aR 27 0), some (aI (zI i)), x6, x7] [] q Q := by
  refine ar_aload_n rfl rfl ?_
  refine ar_aload_n rfl rfl ?_
  refine ar_iload rfl rfl ?_
  refine ar_iconst rfl ?_
  refine ar_iadd rfl ?_
  refine ar_scr P hL rfl (by omega) ?_
  refine ar_aload rfl rfl ?_
  refine ar_cs3 rfl rfl (Nat.le_of_ble_eq_true rfl) (wl_load (d := d) P hv bk x1 hC) (by omega) (fun o q1 hq => ?_)
  obtain ⟨rfl, P1, hO⟩ := hq
  refine ar_stI6 rfl ?_
  refine ar_aload_n rfl rfl ?_
  refine ar_aload_n rfl rfl ?_
  refine ar_iload rfl rfl ?_
  refine ar_iconst rfl ?_
  refine ar_iadd rfl ?_
  refine ar_scr P1 hL rfl (by omega) ?_
  refine ar_cv1 rfl rfl rfl (Nat.le_of_ble_eq_true rfl) (hM q1 P1.2.1) (by omega) (fun o q2 hq => ?_)
  obtain ⟨b, s2, rfl, R2, hbv, h74, hJ2, hm, hn⟩ := hq
  have P2 := LP_s (LP_RV P1 R2) hm hn R2.2.2.2.2.1
  refine ar_stF7 rfl ?_
  refine ar_aload_n rfl rfl ?_
  refine ar_cv0 rfl rfl rfl (Nat.le_of_ble_eq_true rfl) (sr_thrown (d := 0) q2 q2 P2.2.1) (by omega) (fun o q3 hq => ?_)
  obtain ⟨_, _, rfl, R3, rfl, rfl, _⟩ := hq
  have P3 := LP_RV P2 R3
  refine ar_iload rfl rfl ?_
  rw [h74]
  refine ar_icmp_eq rfl rfl (by omega) (by omega) (fun _ => ?_) (fun hf => absurd rfl hf)
  refine ar_iload rfl rfl ?_
  refine ar_if_ne rfl rfl (by omega) (fun hk => ?_) (fun hk => ?_)
  · refine ar_goto rfl rfl ?_
    exact K _ _ _ _ P3 hJ2
  · have eO : qAD q3 (27, 0) 0 = FP.f2d v := by { rw [(RV_J R3).2, (RV_J R2).2]; exact hO hk }
    refine ar_aload rfl rfl ?_
    refine ar_iconst rfl ?_
    refine ar_daload (j := 0) rfl rfl rfl (by rw [P3.2.2.2.1.2.1]; omega) (by rw [P3.2.2.2.1.2.1]; omega) ?_
    rw [eO]
    refine ar_fload rfl rfl ?_
    rw [hbv hk]
    refine ar_f2d rfl (fq_guard hv) ?_
    refine ar_dcmp rfl ?_
    rw [fq_cmp hv, show Op.cmpValue (some .eq) CmpOp.l = zI 0 from rfl]
    refine ar_if_eq rfl rfl (by omega) (fun _ => ?_) (fun hf => absurd rfl hf)
    refine ar_goto rfl rfl ?_
    exact K _ _ _ _ P3 hJ2
theorem lw_cancelLeg {d e : Nat} {q : am_A} {Q : am_O → am_A → Prop} {s s1 : am_Z} {J : am_Z → Prop} {L : Nat} {X : Nat → Int} {i : Int} {x6 x7 : Option am_V} (P : am_LP e q s s L X) (hL : L ≤ 4096) (hX : ∀ k, in32 (X k)) (hi : 0 ≤ i ∧ i + 8 ≤ L) {k : Int} {kd : Int → Nat} (bk : 0 ≤ k ∧ k ≤ 2) (x1 : kd 1 = 13) (x2 : kd 2 = 15) {v : Int} (hC : am_C2 20 m_X_cancelLeg [aR 8 0, aI (zI (X (i + 1).toNat))] q (am_OQ e k kd (some (aI (zI v))) q s1)) (hM : ∀ q1, am_RV q1 q1 s → am_C2 20 m_M_cancelLeg [aR 9 0, aI (zI (X (i + 1).toNat))] q1 (fun o q' => ∃ b s2, o = .inl (some (aI (zI b))) ∧ am_RV q1 q' s2 ∧ (k = 0 → b = v) ∧ am_SD J k s1 s2)) (K : ∀ q' s' x6 x7, am_LP (e + 1) q' s' s' L X → J s' → am_W2 (d + 22) m_L_law 2620 [some (aR 31 0), some (aR 8 0), some (aR 9 0), some (aR 26 0), some (aR 27 0), some (aI (zI i)), x6, x7] [] q' Q) : am_W2 (d + 22) m_L_law 1308 [some (aR 31 0), some (aR 8 0), some (aR 9 0), some (aR 26 0), some (aR 27 0), some (aI (zI i)), x6, x7] [] q Q := by
  refine ar_aload_n rfl rfl ?_
  refine ar_aload_n rfl rfl ?_
  refine ar_iload rfl rfl ?_
  refine ar_iconst rfl ?_
  refine ar_iadd rfl ?_
  refine ar_scr P hL rfl (by omega) ?_
  refine ar_aload_n rfl rfl ?_
  refine ar_cs3 rfl rfl (Nat.le_of_ble_eq_true rfl) (wl_cancelLeg (d := d) P bk x1 x2 hC) (by omega) (fun o q1 hq => ?_)
  obtain ⟨rfl, P1, hO⟩ := hq
  refine ar_stI6 rfl ?_
  refine ar_aload_n rfl rfl ?_
  refine ar_aload_n rfl rfl ?_
  refine ar_iload rfl rfl ?_
  refine ar_iconst rfl ?_
  refine ar_iadd rfl ?_
  refine ar_scr P1 hL rfl (by omega) ?_
  refine ar_cv1 rfl rfl rfl (Nat.le_of_ble_eq_true rfl) (hM q1 P1.2.1) (by omega) (fun o q2 hq => ?_)
  obtain ⟨b, s2, rfl, R2, hbv, h74, hJ2, hm, hn⟩ := hq
  have P2 := LP_s (LP_RV P1 R2) hm hn R2.2.2.2.2.1
  refine ar_stI7 rfl ?_
  refine ar_aload_n rfl rfl ?_
  refine ar_cv0 rfl rfl rfl (Nat.le_of_ble_eq_true rfl) (sr_thrown (d := 0) q2 q2 P2.2.1) (by omega) (fun o q3 hq => ?_)
  obtain ⟨_, _, rfl, R3, rfl, rfl, _⟩ := hq
  have P3 := LP_RV P2 R3
  refine ar_iload rfl rfl ?_
  rw [h74]
  refine ar_icmp_eq rfl rfl (by omega) (by omega) (fun _ => ?_) (fun hf => absurd rfl hf)
  refine ar_iload rfl rfl ?_
  refine ar_if_ne rfl rfl (by omega) (fun hk => ?_) (fun hk => ?_)
  · refine ar_goto rfl rfl ?_
    exact K _ _ _ _ P3 hJ2
  · have eO : qAJ q3 (26, 0) 0 = (zI v).toInt64 := by { rw [(RV_J R3).1, (RV_J R2).1]; exact hO hk }
    refine ar_aload_n rfl rfl ?_
    refine ar_iconst rfl ?_
    refine ar_laload (j := 0) rfl rfl rfl (by rw [P3.2.2.2.1.1]; omega) (by rw [P3.2.2.2.1.1]; omega) ?_
    rw [eO]
    refine ar_iload rfl rfl ?_
    rw [hbv hk]
    refine ar_i2l rfl ?_
    refine ar_lcmp rfl ?_
    rw [lg_self]
    refine ar_if_eq rfl rfl (by omega) (fun _ => ?_) (fun hf => absurd rfl hf)
    refine ar_goto rfl rfl ?_
    exact K _ _ _ _ P3 hJ2
theorem lw_delay {d e : Nat} {q : am_A} {Q : am_O → am_A → Prop} {s s1 : am_Z} {J : am_Z → Prop} {L : Nat} {X : Nat → Int} {i : Int} {x6 x7 : Option am_V} (P : am_LP e q s s L X) (hL : L ≤ 4096) (hX : ∀ k, in32 (X k)) (hi : 0 ≤ i ∧ i + 8 ≤ L) {k : Int} {kd : Int → Nat} (bk : 0 ≤ k ∧ k ≤ 3) (x1 : kd 1 = 13) (x2 : kd 2 = 14) (x3 : kd 3 = 15) {v : Int} (hC : am_C2 20 m_X_delay [aR 8 0, aI (zI (X (i + 1).toNat)), aI (zI (X (i + 2).toNat))] q (am_OQ e k kd (some (aI (zI v))) q s1)) (hM : ∀ q1, am_RV q1 q1 s → am_C2 20 m_M_delay [aR 9 0, aI (zI (X (i + 1).toNat)), aI (zI (X (i + 2).toNat))] q1 (fun o q' => ∃ b s2, o = .inl (some (aI (zI b))) ∧ am_RV q1 q' s2 ∧ (k = 0 → b = v) ∧ am_SD J k s1 s2)) (K : ∀ q' s' x6 x7, am_LP (e + 1) q' s' s' L X → J s' → am_W2 (d + 22) m_L_law 2620 [some (aR 31 0), some (aR 8 0), some (aR 9 0), some (aR 26 0), some (aR 27 0), some (aI (zI i)), x6, x7] [] q' Q) : am_W2 (d + 22) m_L_law 1364 [some (aR 31 0), some (aR 8 0), some (aR 9 0), some (aR 26 0), some (aR 27 0), some (aI (zI i)), x6, x7] [] q Q := by
  refine ar_aload_n rfl rfl ?_
  refine ar_aload_n rfl rfl ?_
  refine ar_iload rfl rfl ?_
  refine ar_iconst rfl ?_
  refine ar_iadd rfl ?_
  refine ar_scr P hL rfl (by omega) ?_
  refine ar_aload_n rfl rfl ?_
  refine ar_iload rfl rfl ?_
  refine ar_iconst rfl ?_
  refine ar_iadd rfl ?_
  refine ar_scr P hL rfl (by omega) ?_
  refine ar_aload_n rfl rfl ?_
  refine ar_cs4 rfl rfl (Nat.le_of_ble_eq_true rfl) (wl_delay (d := d) P bk x1 x2 x3 hC) (by omega) (fun o q1 hq => ?_)
  obtain ⟨rfl, P1, hO⟩ := hq
  refine ar_stI6 rfl ?_
  refine ar_aload_n rfl rfl ?_
  refine ar_aload_n rfl rfl ?_
  refine ar_iload rfl rfl ?_
  refine ar_iconst rfl ?_
  refine ar_iadd rfl ?_
  refine ar_scr P1 hL rfl (by omega) ?_
  refine ar_aload_n rfl rfl ?_
  refine ar_iload rfl rfl ?_
  refine ar_iconst rfl ?_
  refine ar_iadd rfl ?_
  refine ar_scr P1 hL rfl (by omega) ?_
  refine ar_cv2 rfl rfl rfl (Nat.le_of_ble_eq_true rfl) (hM q1 P1.2.1) (by omega) (fun o q2 hq => ?_)
  obtain ⟨b, s2, rfl, R2, hbv, h74, hJ2, hm, hn⟩ := hq
  have P2 := LP_s (LP_RV P1 R2) hm hn R2.2.2.2.2.1
  refine ar_stI7 rfl ?_
  refine ar_aload_n rfl rfl ?_
  refine ar_cv0 rfl rfl rfl (Nat.le_of_ble_eq_true rfl) (sr_thrown (d := 0) q2 q2 P2.2.1) (by omega) (fun o q3 hq => ?_)
  obtain ⟨_, _, rfl, R3, rfl, rfl, _⟩ := hq
  have P3 := LP_RV P2 R3
  refine ar_iload rfl rfl ?_
  rw [h74]
  refine ar_icmp_eq rfl rfl (by omega) (by omega) (fun _ => ?_) (fun hf => absurd rfl hf)
  refine ar_iload rfl rfl ?_
  refine ar_if_ne rfl rfl (by omega) (fun hk => ?_) (fun hk => ?_)
  · refine ar_goto rfl rfl ?_
    exact K _ _ _ _ P3 hJ2
  · have eO : qAJ q3 (26, 0) 0 = (zI v).toInt64 := by { rw [(RV_J R3).1, (RV_J R2).1]; exact hO hk }
    refine ar_aload_n rfl rfl ?_
    refine ar_iconst rfl ?_
    refine ar_laload (j := 0) rfl rfl rfl (by rw [P3.2.2.2.1.1]; omega) (by rw [P3.2.2.2.1.1]; omega) ?_
    rw [eO]
    refine ar_iload rfl rfl ?_
    rw [hbv hk]
    refine ar_i2l rfl ?_
    refine ar_lcmp rfl ?_
    rw [lg_self]
    refine ar_if_eq rfl rfl (by omega) (fun _ => ?_) (fun hf => absurd rfl hf)
    refine ar_goto rfl rfl ?_
    exact K _ _ _ _ P3 hJ2
theorem lw_repair {d e : Nat} {q : am_A} {Q : am_O → am_A → Prop} {s s1 : am_Z} {J : am_Z → Prop} {L : Nat} {X : Nat → Int} {i : Int} {x6 x7 : Option am_V} (P : am_LP e q s s L X) (hL : L ≤ 4096) (hX : ∀ k, in32 (X k)) (hi : 0 ≤ i ∧ i + 8 ≤ L) {kd : Int → Nat} {v : Int} (hv : in32 v) (hC : am_C2 20 m_X_repair [aR 8 0] q (am_OQ e 0 kd (some (aI (zI v))) q s1)) (hM : ∀ q1, am_RV q1 q1 s → am_C2 20 m_M_repair [aR 9 0] q1 (fun o q' => ∃ b s2, o = .inl (some (aI (zI b))) ∧ am_RV q1 q' s2 ∧ b = v ∧ am_SD J 0 s1 s2)) (K : ∀ q' s' x6 x7, am_LP (e + 1) q' s' s' L X → J s' → am_W2 (d + 22) m_L_law 2620 [some (aR 31 0), some (aR 8 0), some (aR 9 0), some (aR 26 0), some (aR 27 0), some (aI (zI i)), x6, x7] [] q' Q) : am_W2 (d + 22) m_L_law 1432 [some (aR 31 0), some (aR 8 0), some (aR 9 0), some (aR 26 0), some (aR 27 0), some (aI (zI i)), x6, x7] [] q Q := by
  refine ar_aload_n rfl rfl ?_
  refine ar_cv0 rfl rfl rfl (Nat.le_of_ble_eq_true rfl) hC (by omega) (fun o q1 hq => ?_)
  have ho := hq.1 rfl
  subst ho
  have P1 := LP_CY P hq.2.2.1 hq.2.2.2.1 hq.2.2.2.2
  refine ar_aload_n rfl rfl ?_
  refine ar_cv0 rfl rfl rfl (Nat.le_of_ble_eq_true rfl) (hM q1 P1.2.1) (by omega) (fun o q2 hq => ?_)
  obtain ⟨b, s2, rfl, R2, hbv, h74, hJ2, hm, hn⟩ := hq
  have P2 := LP_s (LP_RV P1 R2) hm hn R2.2.2.2.2.1
  rw [hbv]
  refine ar_icmp_eq rfl rfl hv hv (fun _ => ?_) (fun hf => absurd rfl hf)
  exact K _ _ _ _ P2 hJ2
theorem lw_leg {d e : Nat} {q : am_A} {Q : am_O → am_A → Prop} {s s1 : am_Z} {J : am_Z → Prop} {L : Nat} {X : Nat → Int} {i : Int} {x6 x7 : Option am_V} (P : am_LP e q s s L X) (hL : L ≤ 4096) (hX : ∀ k, in32 (X k)) (hi : 0 ≤ i ∧ i + 8 ≤ L) {k : Int} {kd : Int → Nat} (bk : 0 ≤ k ∧ k ≤ 2) (x1 : kd 1 = 13) (x2 : kd 2 = 15) {v : Int} (hC : am_C2 20 m_X_leg [aR 8 0, aI (zI (X (i + 1).toNat))] q (am_OQ e k kd (some (aI (zI v))) q s1)) (hM : ∀ q1, am_RV q1 q1 s → am_C2 20 m_M_leg [aR 9 0, aI (zI (X (i + 1).toNat))] q1 (fun o q' => ∃ b s2, o = .inl (some (aI (zI b))) ∧ am_RV q1 q' s2 ∧ (k = 0 → b = v) ∧ am_SD J k s1 s2)) (K : ∀ q' s' x6 x7, am_LP (e + 1) q' s' s' L X → J s' → am_W2 (d + 22) m_L_law 2620 [some (aR 31 0), some (aR 8 0), some (aR 9 0), some (aR 26 0), some (aR 27 0), some (aI (zI i)), x6, x7] [] q' Q) : am_W2 (d + 22) m_L_law 1445 [some (aR 31 0), some (aR 8 0), some (aR 9 0), some (aR 26 0), some (aR 27 0), some (aI (zI i)), x6, x7] [] q Q := by
  refine ar_aload_n rfl rfl ?_
  refine ar_aload_n rfl rfl ?_
  refine ar_iload rfl rfl ?_
  refine ar_iconst rfl ?_
  refine ar_iadd rfl ?_
  refine ar_scr P hL rfl (by omega) ?_
  refine ar_aload_n rfl rfl ?_
  refine ar_cs3 rfl rfl (Nat.le_of_ble_eq_true rfl) (wl_leg (d := d) P bk x1 x2 hC) (by omega) (fun o q1 hq => ?_)
  obtain ⟨rfl, P1, hO⟩ := hq
  refine ar_stI6 rfl ?_
  refine ar_aload_n rfl rfl ?_
  refine ar_aload_n rfl rfl ?_
  refine ar_iload rfl rfl ?_
  refine ar_iconst rfl ?_
  refine ar_iadd rfl ?_
  refine ar_scr P1 hL rfl (by omega) ?_
  refine ar_cv1 rfl rfl rfl (Nat.le_of_ble_eq_true rfl) (hM q1 P1.2.1) (by omega) (fun o q2 hq => ?_)
  obtain ⟨b, s2, rfl, R2, hbv, h74, hJ2, hm, hn⟩ := hq
  have P2 := LP_s (LP_RV P1 R2) hm hn R2.2.2.2.2.1
  refine ar_stI7 rfl ?_
  refine ar_aload_n rfl rfl ?_
  refine ar_cv0 rfl rfl rfl (Nat.le_of_ble_eq_true rfl) (sr_thrown (d := 0) q2 q2 P2.2.1) (by omega) (fun o q3 hq => ?_)
  obtain ⟨_, _, rfl, R3, rfl, rfl, _⟩ := hq
  have P3 := LP_RV P2 R3
  refine ar_iload rfl rfl ?_
  rw [h74]
  refine ar_icmp_eq rfl rfl (by omega) (by omega) (fun _ => ?_) (fun hf => absurd rfl hf)
  refine ar_iload rfl rfl ?_
  refine ar_if_ne rfl rfl (by omega) (fun hk => ?_) (fun hk => ?_)
  · refine ar_goto rfl rfl ?_
    exact K _ _ _ _ P3 hJ2
  · have eO : qAJ q3 (26, 0) 0 = (zI v).toInt64 := by { rw [(RV_J R3).1, (RV_J R2).1]; exact hO hk }
    refine ar_aload_n rfl rfl ?_
    refine ar_iconst rfl ?_
    refine ar_laload (j := 0) rfl rfl rfl (by rw [P3.2.2.2.1.1]; omega) (by rw [P3.2.2.2.1.1]; omega) ?_
    rw [eO]
    refine ar_iload rfl rfl ?_
    rw [hbv hk]
    refine ar_i2l rfl ?_
    refine ar_lcmp rfl ?_
    rw [lg_self]
    refine ar_if_eq rfl rfl (by omega) (fun _ => ?_) (fun hf => absurd rfl hf)
    refine ar_goto rfl rfl ?_
    exact K _ _ _ _ P3 hJ2
theorem lw_dropLegs {d e : Nat} {q : am_A} {Q : am_O → am_A → Prop} {s s1 : am_Z} {J : am_Z → Prop} {L : Nat} {X : Nat → Int} {i : Int} {x6 x7 : Option am_V} (P : am_LP e q s s L X) (hL : L ≤ 4096) (hX : ∀ k, in32 (X k)) (hi : 0 ≤ i ∧ i + 8 ≤ L) {kd : Int → Nat} {v : Int} (hv : in32 v) (hC : am_C2 20 m_X_dropLegs [aR 8 0] q (am_OQ e 0 kd (some (aI (zI v))) q s1)) (hM : ∀ q1, am_RV q1 q1 s → am_C2 20 m_M_dropLegs [aR 9 0] q1 (fun o q' => ∃ b s2, o = .inl (some (aI (zI b))) ∧ am_RV q1 q' s2 ∧ b = v ∧ am_SD J 0 s1 s2)) (K : ∀ q' s' x6 x7, am_LP (e + 1) q' s' s' L X → J s' → am_W2 (d + 22) m_L_law 2620 [some (aR 31 0), some (aR 8 0), some (aR 9 0), some (aR 26 0), some (aR 27 0), some (aI (zI i)), x6, x7] [] q' Q) : am_W2 (d + 22) m_L_law 1501 [some (aR 31 0), some (aR 8 0), some (aR 9 0), some (aR 26 0), some (aR 27 0), some (aI (zI i)), x6, x7] [] q Q := by
  refine ar_aload_n rfl rfl ?_
  refine ar_cv0 rfl rfl rfl (Nat.le_of_ble_eq_true rfl) hC (by omega) (fun o q1 hq => ?_)
  have ho := hq.1 rfl
  subst ho
  have P1 := LP_CY P hq.2.2.1 hq.2.2.2.1 hq.2.2.2.2
  refine ar_aload_n rfl rfl ?_
  refine ar_cv0 rfl rfl rfl (Nat.le_of_ble_eq_true rfl) (hM q1 P1.2.1) (by omega) (fun o q2 hq => ?_)
  obtain ⟨b, s2, rfl, R2, hbv, h74, hJ2, hm, hn⟩ := hq
  have P2 := LP_s (LP_RV P1 R2) hm hn R2.2.2.2.2.1
  rw [hbv]
  refine ar_icmp_eq rfl rfl hv hv (fun _ => ?_) (fun hf => absurd rfl hf)
  exact K _ _ _ _ P2 hJ2
theorem lw_price {d e : Nat} {q : am_A} {Q : am_O → am_A → Prop} {s s1 : am_Z} {J : am_Z → Prop} {L : Nat} {X : Nat → Int} {i : Int} {x6 x7 : Option am_V} (P : am_LP e q s s L X) (hL : L ≤ 4096) (hX : ∀ k, in32 (X k)) (hi : 0 ≤ i ∧ i + 8 ≤ L) {k : Int} {kd : Int → Nat} (bk : 0 ≤ k ∧ k ≤ 1) (x1 : kd 1 = 14) {v : Int} (hC : am_C2 20 m_X_price [aR 8 0, aI (zI (X (i + 1).toNat))] q (am_OQ e k kd (some (aI (zI v))) q s1)) (hM : ∀ q1, am_RV q1 q1 s → am_C2 20 m_M_price [aR 9 0, aI (zI (X (i + 1).toNat))] q1 (fun o q' => ∃ b s2, o = .inl (some (aI (zI b))) ∧ am_RV q1 q' s2 ∧ (k = 0 → b = v) ∧ am_SD J k s1 s2)) (K : ∀ q' s' x6 x7, am_LP (e + 1) q' s' s' L X → J s' → am_W2 (d + 22) m_L_law 2620 [some (aR 31 0), some (aR 8 0), some (aR 9 0), some (aR 26 0), some (aR 27 0), some (aI (zI i)), x6, x7] [] q' Q) : am_W2 (d + 22) m_L_law 1514 [some (aR 31 0), some (aR 8 0), some (aR 9 0), some (aR 26 0), some (aR 27 0), some (aI (zI i)), x6, x7] [] q Q := by
  refine ar_aload_n rfl rfl ?_
  refine ar_aload_n rfl rfl ?_
  refine ar_iload rfl rfl ?_
  refine ar_iconst rfl ?_
  refine ar_iadd rfl ?_
  refine ar_scr P hL rfl (by omega) ?_
  refine ar_aload_n rfl rfl ?_
  refine ar_cs3 rfl rfl (Nat.le_of_ble_eq_true rfl) (wl_price (d := d) P bk x1 hC) (by omega) (fun o q1 hq => ?_)
  obtain ⟨rfl, P1, hO⟩ := hq
  refine ar_stI6 rfl ?_
  refine ar_aload_n rfl rfl ?_
  refine ar_aload_n rfl rfl ?_
  refine ar_iload rfl rfl ?_
  refine ar_iconst rfl ?_
  refine ar_iadd rfl ?_
  refine ar_scr P1 hL rfl (by omega) ?_
  refine ar_cv1 rfl rfl rfl (Nat.le_of_ble_eq_true rfl) (hM q1 P1.2.1) (by omega) (fun o q2 hq => ?_)
  obtain ⟨b, s2, rfl, R2, hbv, h74, hJ2, hm, hn⟩ := hq
  have P2 := LP_s (LP_RV P1 R2) hm hn R2.2.2.2.2.1
  refine ar_stI7 rfl ?_
  refine ar_aload_n rfl rfl ?_
  refine ar_cv0 rfl rfl rfl (Nat.le_of_ble_eq_true rfl) (sr_thrown (d := 0) q2 q2 P2.2.1) (by omega) (fun o q3 hq => ?_)
  obtain ⟨_, _, rfl, R3, rfl, rfl, _⟩ := hq
  have P3 := LP_RV P2 R3
  refine ar_iload rfl rfl ?_
  rw [h74]
  refine ar_icmp_eq rfl rfl (by omega) (by omega) (fun _ => ?_) (fun hf => absurd rfl hf)
  refine ar_iload rfl rfl ?_
  refine ar_if_ne rfl rfl (by omega) (fun hk => ?_) (fun hk => ?_)
  · refine ar_goto rfl rfl ?_
    exact K _ _ _ _ P3 hJ2
  · have eO : qAJ q3 (26, 0) 0 = (zI v).toInt64 := by { rw [(RV_J R3).1, (RV_J R2).1]; exact hO hk }
    refine ar_aload_n rfl rfl ?_
    refine ar_iconst rfl ?_
    refine ar_laload (j := 0) rfl rfl rfl (by rw [P3.2.2.2.1.1]; omega) (by rw [P3.2.2.2.1.1]; omega) ?_
    rw [eO]
    refine ar_iload rfl rfl ?_
    rw [hbv hk]
    refine ar_i2l rfl ?_
    refine ar_lcmp rfl ?_
    rw [lg_self]
    refine ar_if_eq rfl rfl (by omega) (fun _ => ?_) (fun hf => absurd rfl hf)
    refine ar_goto rfl rfl ?_
    exact K _ _ _ _ P3 hJ2
theorem lw_priceAnew {d e : Nat} {q : am_A} {Q : am_O → am_A → Prop} {s s1 : am_Z} {J : am_Z → Prop} {L : Nat} {X : Nat → Int} {i : Int} {x6 x7 : Option am_V} (P : am_LP e q s s L X) (hL : L ≤ 4096) (hX : ∀ k, in32 (X k)) (hi : 0 ≤ i ∧ i + 8 ≤ L) {k : Int} {kd : Int → Nat} (bk : 0 ≤ k ∧ k ≤ 1) (x1 : kd 1 = 14) {v : Int} (hC : am_C2 20 m_X_priceAnew [aR 8 0, aI (zI (X (i + 1).toNat))] q (am_OQ e k kd (some (aI (zI v))) q s1)) (hM : ∀ q1, am_RV q1 q1 s → am_C2 20 m_M_priceAnew [aR 9 0, aI (zI (X (i + 1).toNat))] q1 (fun o q' => ∃ b s2, o = .inl (some (aI (zI b))) ∧ am_RV q1 q' s2 ∧ (k = 0 → b = v) ∧ am_SD J k s1 s2)) (K : ∀ q' s' x6 x7, am_LP (e + 1) q' s' s' L X → J s' → am_W2 (d + 22) m_L_law 2620 [some (aR 31 0), some (aR 8 0), some (aR 9 0), some (aR 26 0), some (aR 27 0), some (aI (zI i)), x6, x7] [] q' Q) : am_W2 (d + 22) m_L_law 1570 [some (aR 31 0), some (aR 8 0), some (aR 9 0), some (aR 26 0), some (aR 27 0), some (aI (zI i)), x6, x7] [] q Q := by
  refine ar_aload_n rfl rfl ?_
  refine ar_aload_n rfl rfl ?_
  refine ar_iload rfl rfl ?_
  refine ar_iconst rfl ?_
  refine ar_iadd rfl ?_
  refine ar_scr P hL rfl (by omega) ?_
  refine ar_aload_n rfl rfl ?_
  refine ar_cs3 rfl rfl (Nat.le_of_ble_eq_true rfl) (wl_priceAnew (d := d) P bk x1 hC) (by omega) (fun o q1 hq => ?_)
  obtain ⟨rfl, P1, hO⟩ := hq
  refine ar_stI6 rfl ?_
  refine ar_aload_n rfl rfl ?_
  refine ar_aload_n rfl rfl ?_
  refine ar_iload rfl rfl ?_
  refine ar_iconst rfl ?_
  refine ar_iadd rfl ?_
  refine ar_scr P1 hL rfl (by omega) ?_
  refine ar_cv1 rfl rfl rfl (Nat.le_of_ble_eq_true rfl) (hM q1 P1.2.1) (by omega) (fun o q2 hq => ?_)
  obtain ⟨b, s2, rfl, R2, hbv, h74, hJ2, hm, hn⟩ := hq
  have P2 := LP_s (LP_RV P1 R2) hm hn R2.2.2.2.2.1
  refine ar_stI7 rfl ?_
  refine ar_aload_n rfl rfl ?_
  refine ar_cv0 rfl rfl rfl (Nat.le_of_ble_eq_true rfl) (sr_thrown (d := 0) q2 q2 P2.2.1) (by omega) (fun o q3 hq => ?_)
  obtain ⟨_, _, rfl, R3, rfl, rfl, _⟩ := hq
  have P3 := LP_RV P2 R3
  refine ar_iload rfl rfl ?_
  rw [h74]
  refine ar_icmp_eq rfl rfl (by omega) (by omega) (fun _ => ?_) (fun hf => absurd rfl hf)
  refine ar_iload rfl rfl ?_
  refine ar_if_ne rfl rfl (by omega) (fun hk => ?_) (fun hk => ?_)
  · refine ar_goto rfl rfl ?_
    exact K _ _ _ _ P3 hJ2
  · have eO : qAJ q3 (26, 0) 0 = (zI v).toInt64 := by { rw [(RV_J R3).1, (RV_J R2).1]; exact hO hk }
    refine ar_aload_n rfl rfl ?_
    refine ar_iconst rfl ?_
    refine ar_laload (j := 0) rfl rfl rfl (by rw [P3.2.2.2.1.1]; omega) (by rw [P3.2.2.2.1.1]; omega) ?_
    rw [eO]
    refine ar_iload rfl rfl ?_
    rw [hbv hk]
    refine ar_i2l rfl ?_
    refine ar_lcmp rfl ?_
    rw [lg_self]
    refine ar_if_eq rfl rfl (by omega) (fun _ => ?_) (fun hf => absurd rfl hf)
    refine ar_goto rfl rfl ?_
    exact K _ _ _ _ P3 hJ2
theorem lw_stretch {d e : Nat} {q : am_A} {Q : am_O → am_A → Prop} {s s1 : am_Z} {J : am_Z → Prop} {L : Nat} {X : Nat → Int} {i : Int} {x6 x7 : Option am_V} (P : am_LP e q s s L X) (hL : L ≤ 4096) (hX : ∀ k, in32 (X k)) (hi : 0 ≤ i ∧ i + 8 ≤ L) {k : Int} {kd : Int → Nat} (bk : 0 ≤ k ∧ k ≤ 2) (x1 : kd 1 = 13) (x2 : kd 2 = 14) {v : Int} (hC : am_C2 20 m_X_stretch [aR 8 0, aI (zI (X (i + 1).toNat)), aI (zI (X (i + 2).toNat))] q (am_OQ e k kd (some (aI (zI v))) q s1)) (hM : ∀ q1, am_RV q1 q1 s → am_C2 20 m_M_stretch [aR 9 0, aI (zI (X (i + 1).toNat)), aI (zI (X (i + 2).toNat))] q1 (fun o q' => ∃ b s2, o = .inl (some (aI (zI b))) ∧ am_RV q1 q' s2 ∧ (k = 0 → b = v) ∧ am_SD J k s1 s2)) (K : ∀ q' s' x6 x7, am_LP (e + 1) q' s' s' L X → J s' → am_W2 (d + 22) m_L_law 2620 [some (aR 31 0), some (aR 8 0), some (aR 9 0), some (aR 26 0), some (aR 27 0), some (aI (zI i)), x6, x7] [] q' Q) : am_W2 (d + 22) m_L_law 1626 [some (aR 31 0), some (aR 8 0), some (aR 9 0), some (aR 26 0), some (aR 27 0), some (aI (zI i)), x6, x7] [] q Q := by
  refine ar_aload_n rfl rfl ?_
  refine ar_aload_n rfl rfl ?_
  refine ar_iload rfl rfl ?_
  refine ar_iconst rfl ?_
  refine ar_iadd rfl ?_
  refine ar_scr P hL rfl (by omega) ?_
  refine ar_aload_n rfl rfl ?_
  refine ar_iload rfl rfl ?_
  refine ar_iconst rfl ?_
  refine ar_iadd rfl ?_
  refine ar_scr P hL rfl (by omega) ?_
  refine ar_aload_n rfl rfl ?_
  refine ar_cs4 rfl rfl (Nat.le_of_ble_eq_true rfl) (wl_stretch (d := d) P bk x1 x2 hC) (by omega) (fun o q1 hq => ?_)
  obtain ⟨rfl, P1, hO⟩ := hq
  refine ar_stI6 rfl ?_
  refine ar_aload_n rfl rfl ?_
  refine ar_aload_n rfl rfl ?_
  refine ar_iload rfl rfl ?_
  refine ar_iconst rfl ?_
  refine ar_iadd rfl ?_
  refine ar_scr P1 hL rfl (by omega) ?_
  refine ar_aload_n rfl rfl ?_
  refine ar_iload rfl rfl ?_
  refine ar_iconst rfl ?_
  refine ar_iadd rfl ?_
  refine ar_scr P1 hL rfl (by omega) ?_
  refine ar_cv2 rfl rfl rfl (Nat.le_of_ble_eq_true rfl) (hM q1 P1.2.1) (by omega) (fun o q2 hq => ?_)
  obtain ⟨b, s2, rfl, R2, hbv, h74, hJ2, hm, hn⟩ := hq
  have P2 := LP_s (LP_RV P1 R2) hm hn R2.2.2.2.2.1
  refine ar_stI7 rfl ?_
  refine ar_aload_n rfl rfl ?_
  refine ar_cv0 rfl rfl rfl (Nat.le_of_ble_eq_true rfl) (sr_thrown (d := 0) q2 q2 P2.2.1) (by omega) (fun o q3 hq => ?_)
  obtain ⟨_, _, rfl, R3, rfl, rfl, _⟩ := hq
  have P3 := LP_RV P2 R3
  refine ar_iload rfl rfl ?_
  rw [h74]
  refine ar_icmp_eq rfl rfl (by omega) (by omega) (fun _ => ?_) (fun hf => absurd rfl hf)
  refine ar_iload rfl rfl ?_
  refine ar_if_ne rfl rfl (by omega) (fun hk => ?_) (fun hk => ?_)
  · refine ar_goto rfl rfl ?_
    exact K _ _ _ _ P3 hJ2
  · have eO : qAJ q3 (26, 0) 0 = (zI v).toInt64 := by { rw [(RV_J R3).1, (RV_J R2).1]; exact hO hk }
    refine ar_aload_n rfl rfl ?_
    refine ar_iconst rfl ?_
    refine ar_laload (j := 0) rfl rfl rfl (by rw [P3.2.2.2.1.1]; omega) (by rw [P3.2.2.2.1.1]; omega) ?_
    rw [eO]
    refine ar_iload rfl rfl ?_
    rw [hbv hk]
    refine ar_i2l rfl ?_
    refine ar_lcmp rfl ?_
    rw [lg_self]
    refine ar_if_eq rfl rfl (by omega) (fun _ => ?_) (fun hf => absurd rfl hf)
    refine ar_goto rfl rfl ?_
    exact K _ _ _ _ P3 hJ2
theorem lw_taxes {d e : Nat} {q : am_A} {Q : am_O → am_A → Prop} {s s1 : am_Z} {J : am_Z → Prop} {L : Nat} {X : Nat → Int} {i : Int} {x6 x7 : Option am_V} (P : am_LP e q s s L X) (hL : L ≤ 4096) (hX : ∀ k, in32 (X k)) (hi : 0 ≤ i ∧ i + 8 ≤ L) {kd : Int → Nat} {v : Int} (hv : in32 v) (hC : am_C2 20 m_X_taxes [aR 8 0] q (am_OQ e 0 kd (some (aI (zI v))) q s1)) (hM : ∀ q1, am_RV q1 q1 s → am_C2 20 m_M_taxes [aR 9 0] q1 (fun o q' => ∃ b s2, o = .inl (some (aI (zI b))) ∧ am_RV q1 q' s2 ∧ b = v ∧ am_SD J 0 s1 s2)) (K : ∀ q' s' x6 x7, am_LP (e + 1) q' s' s' L X → J s' → am_W2 (d + 22) m_L_law 2620 [some (aR 31 0), some (aR 8 0), some (aR 9 0), some (aR 26 0), some (aR 27 0), some (aI (zI i)), x6, x7] [] q' Q) : am_W2 (d + 22) m_L_law 1694 [some (aR 31 0), some (aR 8 0), some (aR 9 0), some (aR 26 0), some (aR 27 0), some (aI (zI i)), x6, x7] [] q Q := by
  refine ar_aload_n rfl rfl ?_
  refine ar_cv0 rfl rfl rfl (Nat.le_of_ble_eq_true rfl) hC (by omega) (fun o q1 hq => ?_)
  have ho := hq.1 rfl
  subst ho
  have P1 := LP_CY P hq.2.2.1 hq.2.2.2.1 hq.2.2.2.2
  refine ar_aload_n rfl rfl ?_
  refine ar_cv0 rfl rfl rfl (Nat.le_of_ble_eq_true rfl) (hM q1 P1.2.1) (by omega) (fun o q2 hq => ?_)
  obtain ⟨b, s2, rfl, R2, hbv, h74, hJ2, hm, hn⟩ := hq
  have P2 := LP_s (LP_RV P1 R2) hm hn R2.2.2.2.2.1
  rw [hbv]
  refine ar_icmp_eq rfl rfl hv hv (fun _ => ?_) (fun hf => absurd rfl hf)
  exact K _ _ _ _ P2 hJ2
theorem lw_hold {d e : Nat} {q : am_A} {Q : am_O → am_A → Prop} {s s1 : am_Z} {J : am_Z → Prop} {L : Nat} {X : Nat → Int} {i : Int} {x6 x7 : Option am_V} (P : am_LP e q s s L X) (hL : L ≤ 4096) (hX : ∀ k, in32 (X k)) (hi : 0 ≤ i ∧ i + 8 ≤ L) {k : Int} {kd : Int → Nat} (bk : 0 ≤ k ∧ k ≤ 3) (x1 : kd 1 = 13) (x2 : kd 2 = 14) (x3 : kd 3 = 15) {v : Int} (hC : am_C2 20 m_X_hold [aR 8 0, aI (zI (X (i + 1).toNat)), aI (zI (X (i + 2).toNat)), aI (zI (X (i + 3).toNat))] q (am_OQ e k kd (some (aI (zI v))) q s1)) (hM : ∀ q1, am_RV q1 q1 s → am_C2 20 m_M_hold [aR 9 0, aI (zI (X (i + 1).toNat)), aI (zI (X (i + 2).toNat)), aI (zI (X (i + 3).toNat))] q1 (fun o q' => ∃ b s2, o = .inl (some (aI (zI b))) ∧ am_RV q1 q' s2 ∧ (k = 0 → b = v) ∧ am_SD J k s1 s2)) (K : ∀ q' s' x6 x7, am_LP (e + 1) q' s' s' L X → J s' → am_W2 (d + 22) m_L_law 2620 [some (aR 31 0), some (aR 8 0), some (aR 9 0), some (aR 26 0), some (aR 27 0), some (aI (zI i)), x6, x7] [] q' Q) : am_W2 (d + 22) m_L_law 1707 [some (aR 31 0), some (aR 8 0), some (aR 9 0), some (aR 26 0), some (aR 27 0), some (aI (zI i)), x6, x7] [] q Q := by
  refine ar_aload_n rfl rfl ?_
  refine ar_aload_n rfl rfl ?_
  refine ar_iload rfl rfl ?_
  refine ar_iconst rfl ?_
  refine ar_iadd rfl ?_
  refine ar_scr P hL rfl (by omega) ?_
  refine ar_aload_n rfl rfl ?_
  refine ar_iload rfl rfl ?_
  refine ar_iconst rfl ?_
  refine ar_iadd rfl ?_
  refine ar_scr P hL rfl (by omega) ?_
  refine ar_aload_n rfl rfl ?_
  refine ar_iload rfl rfl ?_
  refine ar_iconst rfl ?_
  refine ar_iadd rfl ?_
  refine ar_scr P hL rfl (by omega) ?_
  refine ar_aload_n rfl rfl ?_
  refine ar_cs5 rfl rfl (Nat.le_of_ble_eq_true rfl) (wl_hold (d := d) P bk x1 x2 x3 hC) (by omega) (fun o q1 hq => ?_)
  obtain ⟨rfl, P1, hO⟩ := hq
  refine ar_stI6 rfl ?_
  refine ar_aload_n rfl rfl ?_
  refine ar_aload_n rfl rfl ?_
  refine ar_iload rfl rfl ?_
  refine ar_iconst rfl ?_
  refine ar_iadd rfl ?_
  refine ar_scr P1 hL rfl (by omega) ?_
  refine ar_aload_n rfl rfl ?_
  refine ar_iload rfl rfl ?_
  refine ar_iconst rfl ?_
  refine ar_iadd rfl ?_
  refine ar_scr P1 hL rfl (by omega) ?_
  refine ar_aload_n rfl rfl ?_
  refine ar_iload rfl rfl ?_
  refine ar_iconst rfl ?_
  refine ar_iadd rfl ?_
  refine ar_scr P1 hL rfl (by omega) ?_
  refine ar_cv3 rfl rfl rfl (Nat.le_of_ble_eq_true rfl) (hM q1 P1.2.1) (by omega) (fun o q2 hq => ?_)
  obtain ⟨b, s2, rfl, R2, hbv, h74, hJ2, hm, hn⟩ := hq
  have P2 := LP_s (LP_RV P1 R2) hm hn R2.2.2.2.2.1
  refine ar_stI7 rfl ?_
  refine ar_aload_n rfl rfl ?_
  refine ar_cv0 rfl rfl rfl (Nat.le_of_ble_eq_true rfl) (sr_thrown (d := 0) q2 q2 P2.2.1) (by omega) (fun o q3 hq => ?_)
  obtain ⟨_, _, rfl, R3, rfl, rfl, _⟩ := hq
  have P3 := LP_RV P2 R3
  refine ar_iload rfl rfl ?_
  rw [h74]
  refine ar_icmp_eq rfl rfl (by omega) (by omega) (fun _ => ?_) (fun hf => absurd rfl hf)
  refine ar_iload rfl rfl ?_
  refine ar_if_ne rfl rfl (by omega) (fun hk => ?_) (fun hk => ?_)
  · refine ar_goto rfl rfl ?_
    exact K _ _ _ _ P3 hJ2
  · have eO : qAJ q3 (26, 0) 0 = (zI v).toInt64 := by { rw [(RV_J R3).1, (RV_J R2).1]; exact hO hk }
    refine ar_aload_n rfl rfl ?_
    refine ar_iconst rfl ?_
    refine ar_laload (j := 0) rfl rfl rfl (by rw [P3.2.2.2.1.1]; omega) (by rw [P3.2.2.2.1.1]; omega) ?_
    rw [eO]
    refine ar_iload rfl rfl ?_
    rw [hbv hk]
    refine ar_i2l rfl ?_
    refine ar_lcmp rfl ?_
    rw [lg_self]
    refine ar_if_eq rfl rfl (by omega) (fun _ => ?_) (fun hf => absurd rfl hf)
    refine ar_goto rfl rfl ?_
    exact K _ _ _ _ P3 hJ2
theorem lw_wish {d e : Nat} {q : am_A} {Q : am_O → am_A → Prop} {s s1 : am_Z} {J : am_Z → Prop} {L : Nat} {X : Nat → Int} {i : Int} {x6 x7 : Option am_V} (P : am_LP e q s s L X) (hL : L ≤ 4096) (hX : ∀ k, in32 (X k)) (hi : 0 ≤ i ∧ i + 8 ≤ L) {k : Int} {kd : Int → Nat} (bk : 0 ≤ k ∧ k ≤ 3) (x1 : kd 1 = 13) (x2 : kd 2 = 14) (x3 : kd 3 = 15) {v : Int} (hC : am_C2 20 m_X_wish [aR 8 0, aI (zI (X (i + 1).toNat)), aI (zI (X (i + 2).toNat))] q (am_OQ e k kd (some (aI (zI v))) q s1)) (hM : ∀ q1, am_RV q1 q1 s → am_C2 20 m_M_wish [aR 9 0, aI (zI (X (i + 1).toNat)), aI (zI (X (i + 2).toNat))] q1 (fun o q' => ∃ b s2, o = .inl (some (aI (zI b))) ∧ am_RV q1 q' s2 ∧ (k = 0 → b = v) ∧ am_SD J k s1 s2)) (K : ∀ q' s' x6 x7, am_LP (e + 1) q' s' s' L X → J s' → am_W2 (d + 22) m_L_law 2620 [some (aR 31 0), some (aR 8 0), some (aR 9 0), some (aR 26 0), some (aR 27 0), some (aI (zI i)), x6, x7] [] q' Q) : am_W2 (d + 22) m_L_law 1787 [some (aR 31 0), some (aR 8 0), some (aR 9 0), some (aR 26 0), some (aR 27 0), some (aI (zI i)), x6, x7] [] q Q := by
  refine ar_aload_n rfl rfl ?_
  refine ar_aload_n rfl rfl ?_
  refine ar_iload rfl rfl ?_
  refine ar_iconst rfl ?_
  refine ar_iadd rfl ?_
  refine ar_scr P hL rfl (by omega) ?_
  refine ar_aload_n rfl rfl ?_
  refine ar_iload rfl rfl ?_
  refine ar_iconst rfl ?_
  refine ar_iadd rfl ?_
  refine ar_scr P hL rfl (by omega) ?_
  refine ar_aload_n rfl rfl ?_
  refine ar_cs4 rfl rfl (Nat.le_of_ble_eq_true rfl) (wl_wish (d := d) P bk x1 x2 x3 hC) (by omega) (fun o q1 hq => ?_)
  obtain ⟨rfl, P1, hO⟩ := hq
  refine ar_stI6 rfl ?_
  refine ar_aload_n rfl rfl ?_
  refine ar_aload_n rfl rfl ?_
  refine ar_iload rfl rfl ?_
  refine ar_iconst rfl ?_
  refine ar_iadd rfl ?_
  refine ar_scr P1 hL rfl (by omega) ?_
  refine ar_aload_n rfl rfl ?_
  refine ar_iload rfl rfl ?_
  refine ar_iconst rfl ?_
  refine ar_iadd rfl ?_
  refine ar_scr P1 hL rfl (by omega) ?_
  refine ar_cv2 rfl rfl rfl (Nat.le_of_ble_eq_true rfl) (hM q1 P1.2.1) (by omega) (fun o q2 hq => ?_)
  obtain ⟨b, s2, rfl, R2, hbv, h74, hJ2, hm, hn⟩ := hq
  have P2 := LP_s (LP_RV P1 R2) hm hn R2.2.2.2.2.1
  refine ar_stI7 rfl ?_
  refine ar_aload_n rfl rfl ?_
  refine ar_cv0 rfl rfl rfl (Nat.le_of_ble_eq_true rfl) (sr_thrown (d := 0) q2 q2 P2.2.1) (by omega) (fun o q3 hq => ?_)
  obtain ⟨_, _, rfl, R3, rfl, rfl, _⟩ := hq
  have P3 := LP_RV P2 R3
  refine ar_iload rfl rfl ?_
  rw [h74]
  refine ar_icmp_eq rfl rfl (by omega) (by omega) (fun _ => ?_) (fun hf => absurd rfl hf)
  refine ar_iload rfl rfl ?_
  refine ar_if_ne rfl rfl (by omega) (fun hk => ?_) (fun hk => ?_)
  · refine ar_goto rfl rfl ?_
    exact K _ _ _ _ P3 hJ2
  · have eO : qAJ q3 (26, 0) 0 = (zI v).toInt64 := by { rw [(RV_J R3).1, (RV_J R2).1]; exact hO hk }
    refine ar_aload_n rfl rfl ?_
    refine ar_iconst rfl ?_
    refine ar_laload (j := 0) rfl rfl rfl (by rw [P3.2.2.2.1.1]; omega) (by rw [P3.2.2.2.1.1]; omega) ?_
    rw [eO]
    refine ar_iload rfl rfl ?_
    rw [hbv hk]
    refine ar_i2l rfl ?_
    refine ar_lcmp rfl ?_
    rw [lg_self]
    refine ar_if_eq rfl rfl (by omega) (fun _ => ?_) (fun hf => absurd rfl hf)
    refine ar_goto rfl rfl ?_
    exact K _ _ _ _ P3 hJ2
theorem lw_clear {d e : Nat} {q : am_A} {Q : am_O → am_A → Prop} {s s1 : am_Z} {J : am_Z → Prop} {L : Nat} {X : Nat → Int} {i : Int} {x6 x7 : Option am_V} (P : am_LP e q s s L X) (hL : L ≤ 4096) (hX : ∀ k, in32 (X k)) (hi : 0 ≤ i ∧ i + 8 ≤ L) {kd : Int → Nat} {v : Int} (hv : in32 v) (hC : am_C2 20 m_X_clear [aR 8 0] q (am_OQ e 0 kd (some (aI (zI v))) q s1)) (hM : ∀ q1, am_RV q1 q1 s → am_C2 20 m_M_clear [aR 9 0] q1 (fun o q' => ∃ b s2, o = .inl (some (aI (zI b))) ∧ am_RV q1 q' s2 ∧ b = v ∧ am_SD J 0 s1 s2)) (K : ∀ q' s' x6 x7, am_LP (e + 1) q' s' s' L X → J s' → am_W2 (d + 22) m_L_law 2620 [some (aR 31 0), some (aR 8 0), some (aR 9 0), some (aR 26 0), some (aR 27 0), some (aI (zI i)), x6, x7] [] q' Q) : am_W2 (d + 22) m_L_law 1855 [some (aR 31 0), some (aR 8 0), some (aR 9 0), some (aR 26 0), some (aR 27 0), some (aI (zI i)), x6, x7] [] q Q := by
  refine ar_aload_n rfl rfl ?_
  refine ar_cv0 rfl rfl rfl (Nat.le_of_ble_eq_true rfl) hC (by omega) (fun o q1 hq => ?_)
  have ho := hq.1 rfl
  subst ho
  have P1 := LP_CY P hq.2.2.1 hq.2.2.2.1 hq.2.2.2.2
  refine ar_aload_n rfl rfl ?_
  refine ar_cv0 rfl rfl rfl (Nat.le_of_ble_eq_true rfl) (hM q1 P1.2.1) (by omega) (fun o q2 hq => ?_)
  obtain ⟨b, s2, rfl, R2, hbv, h74, hJ2, hm, hn⟩ := hq
  have P2 := LP_s (LP_RV P1 R2) hm hn R2.2.2.2.2.1
  rw [hbv]
  refine ar_icmp_eq rfl rfl hv hv (fun _ => ?_) (fun hf => absurd rfl hf)
  exact K _ _ _ _ P2 hJ2
theorem lw_wished {d e : Nat} {q : am_A} {Q : am_O → am_A → Prop} {s s1 : am_Z} {J : am_Z → Prop} {L : Nat} {X : Nat → Int} {i : Int} {x6 x7 : Option am_V} (P : am_LP e q s s L X) (hL : L ≤ 4096) (hX : ∀ k, in32 (X k)) (hi : 0 ≤ i ∧ i + 8 ≤ L) {k : Int} {kd : Int → Nat} (bk : 0 ≤ k ∧ k ≤ 1) (x1 : kd 1 = 13) {v : Int} (hC : am_C2 20 m_X_wished [aR 8 0, aI (zI (X (i + 1).toNat))] q (am_OQ e k kd (some (aI (zI v))) q s1)) (hM : ∀ q1, am_RV q1 q1 s → am_C2 20 m_M_wished [aR 9 0, aI (zI (X (i + 1).toNat))] q1 (fun o q' => ∃ b s2, o = .inl (some (aI (zI b))) ∧ am_RV q1 q' s2 ∧ (k = 0 → b = v) ∧ am_SD J k s1 s2)) (K : ∀ q' s' x6 x7, am_LP (e + 1) q' s' s' L X → J s' → am_W2 (d + 22) m_L_law 2620 [some (aR 31 0), some (aR 8 0), some (aR 9 0), some (aR 26 0), some (aR 27 0), some (aI (zI i)), x6, x7] [] q' Q) : am_W2 (d + 22) m_L_law 1868 [some (aR 31 0), some (aR 8 0), some (aR 9 0), some (aR 26 0), some (aR 27 0), some (aI (zI i)), x6, x7] [] q Q := by
  refine ar_aload_n rfl rfl ?_
  refine ar_aload_n rfl rfl ?_
  refine ar_iload rfl rfl ?_
  refine ar_iconst rfl ?_
  refine ar_iadd rfl ?_
  refine ar_scr P hL rfl (by omega) ?_
  refine ar_aload_n rfl rfl ?_
  refine ar_cs3 rfl rfl (Nat.le_of_ble_eq_true rfl) (wl_wished (d := d) P bk x1 hC) (by omega) (fun o q1 hq => ?_)
  obtain ⟨rfl, P1, hO⟩ := hq
  refine ar_stI6 rfl ?_
  refine ar_aload_n rfl rfl ?_
  refine ar_aload_n rfl rfl ?_
  refine ar_iload rfl rfl ?_
  refine ar_iconst rfl ?_
  refine ar_iadd rfl ?_
  refine ar_scr P1 hL rfl (by omega) ?_
  refine ar_cv1 rfl rfl rfl (Nat.le_of_ble_eq_true rfl) (hM q1 P1.2.1) (by omega) (fun o q2 hq => ?_)
  obtain ⟨b, s2, rfl, R2, hbv, h74, hJ2, hm, hn⟩ := hq
  have P2 := LP_s (LP_RV P1 R2) hm hn R2.2.2.2.2.1
  refine ar_stI7 rfl ?_
  refine ar_aload_n rfl rfl ?_
  refine ar_cv0 rfl rfl rfl (Nat.le_of_ble_eq_true rfl) (sr_thrown (d := 0) q2 q2 P2.2.1) (by omega) (fun o q3 hq => ?_)
  obtain ⟨_, _, rfl, R3, rfl, rfl, _⟩ := hq
  have P3 := LP_RV P2 R3
  refine ar_iload rfl rfl ?_
  rw [h74]
  refine ar_icmp_eq rfl rfl (by omega) (by omega) (fun _ => ?_) (fun hf => absurd rfl hf)
  refine ar_iload rfl rfl ?_
  refine ar_if_ne rfl rfl (by omega) (fun hk => ?_) (fun hk => ?_)
  · refine ar_goto rfl rfl ?_
    exact K _ _ _ _ P3 hJ2
  · have eO : qAJ q3 (26, 0) 0 = (zI v).toInt64 := by { rw [(RV_J R3).1, (RV_J R2).1]; exact hO hk }
    refine ar_aload_n rfl rfl ?_
    refine ar_iconst rfl ?_
    refine ar_laload (j := 0) rfl rfl rfl (by rw [P3.2.2.2.1.1]; omega) (by rw [P3.2.2.2.1.1]; omega) ?_
    rw [eO]
    refine ar_iload rfl rfl ?_
    rw [hbv hk]
    refine ar_i2l rfl ?_
    refine ar_lcmp rfl ?_
    rw [lg_self]
    refine ar_if_eq rfl rfl (by omega) (fun _ => ?_) (fun hf => absurd rfl hf)
    refine ar_goto rfl rfl ?_
    exact K _ _ _ _ P3 hJ2
theorem lw_ticket {d e : Nat} {q : am_A} {Q : am_O → am_A → Prop} {s s1 : am_Z} {J : am_Z → Prop} {L : Nat} {X : Nat → Int} {i : Int} {x6 x7 : Option am_V} (P : am_LP e q s s L X) (hL : L ≤ 4096) (hX : ∀ k, in32 (X k)) (hi : 0 ≤ i ∧ i + 8 ≤ L) {k : Int} {kd : Int → Nat} (bk : 0 ≤ k ∧ k ≤ 2) (x1 : kd 1 = 13) (x2 : kd 2 = 15) {v : Int} (hC : am_C2 20 m_X_ticket [aR 8 0, aI (zI (X (i + 1).toNat))] q (am_OQ e k kd (some (aI (zI v))) q s1)) (hM : ∀ q1, am_RV q1 q1 s → am_C2 20 m_M_ticket [aR 9 0, aI (zI (X (i + 1).toNat))] q1 (fun o q' => ∃ b s2, o = .inl (some (aI (zI b))) ∧ am_RV q1 q' s2 ∧ (k = 0 → b = v) ∧ am_SD J k s1 s2)) (K : ∀ q' s' x6 x7, am_LP (e + 1) q' s' s' L X → J s' → am_W2 (d + 22) m_L_law 2620 [some (aR 31 0), some (aR 8 0), some (aR 9 0), some (aR 26 0), some (aR 27 0), some (aI (zI i)), x6, x7] [] q' Q) : am_W2 (d + 22) m_L_law 1924 [some (aR 31 0), some (aR 8 0), some (aR 9 0), some (aR 26 0), some (aR 27 0), some (aI (zI i)), x6, x7] [] q Q := by
  refine ar_aload_n rfl rfl ?_
  refine ar_aload_n rfl rfl ?_
  refine ar_iload rfl rfl ?_
  refine ar_iconst rfl ?_
  refine ar_iadd rfl ?_
  refine ar_scr P hL rfl (by omega) ?_
  refine ar_aload_n rfl rfl ?_
  refine ar_cs3 rfl rfl (Nat.le_of_ble_eq_true rfl) (wl_ticket (d := d) P bk x1 x2 hC) (by omega) (fun o q1 hq => ?_)
  obtain ⟨rfl, P1, hO⟩ := hq
  refine ar_stI6 rfl ?_
  refine ar_aload_n rfl rfl ?_
  refine ar_aload_n rfl rfl ?_
  refine ar_iload rfl rfl ?_
  refine ar_iconst rfl ?_
  refine ar_iadd rfl ?_
  refine ar_scr P1 hL rfl (by omega) ?_
  refine ar_cv1 rfl rfl rfl (Nat.le_of_ble_eq_true rfl) (hM q1 P1.2.1) (by omega) (fun o q2 hq => ?_)
  obtain ⟨b, s2, rfl, R2, hbv, h74, hJ2, hm, hn⟩ := hq
  have P2 := LP_s (LP_RV P1 R2) hm hn R2.2.2.2.2.1
  refine ar_stI7 rfl ?_
  refine ar_aload_n rfl rfl ?_
  refine ar_cv0 rfl rfl rfl (Nat.le_of_ble_eq_true rfl) (sr_thrown (d := 0) q2 q2 P2.2.1) (by omega) (fun o q3 hq => ?_)
  obtain ⟨_, _, rfl, R3, rfl, rfl, _⟩ := hq
  have P3 := LP_RV P2 R3
  refine ar_iload rfl rfl ?_
  rw [h74]
  refine ar_icmp_eq rfl rfl (by omega) (by omega) (fun _ => ?_) (fun hf => absurd rfl hf)
  refine ar_iload rfl rfl ?_
  refine ar_if_ne rfl rfl (by omega) (fun hk => ?_) (fun hk => ?_)
  · refine ar_goto rfl rfl ?_
    exact K _ _ _ _ P3 hJ2
  · have eO : qAJ q3 (26, 0) 0 = (zI v).toInt64 := by { rw [(RV_J R3).1, (RV_J R2).1]; exact hO hk }
    refine ar_aload_n rfl rfl ?_
    refine ar_iconst rfl ?_
    refine ar_laload (j := 0) rfl rfl rfl (by rw [P3.2.2.2.1.1]; omega) (by rw [P3.2.2.2.1.1]; omega) ?_
    rw [eO]
    refine ar_iload rfl rfl ?_
    rw [hbv hk]
    refine ar_i2l rfl ?_
    refine ar_lcmp rfl ?_
    rw [lg_self]
    refine ar_if_eq rfl rfl (by omega) (fun _ => ?_) (fun hf => absurd rfl hf)
    refine ar_goto rfl rfl ?_
    exact K _ _ _ _ P3 hJ2
theorem lw_part {d e : Nat} {q : am_A} {Q : am_O → am_A → Prop} {s s1 : am_Z} {J : am_Z → Prop} {L : Nat} {X : Nat → Int} {i : Int} {x6 x7 : Option am_V} (P : am_LP e q s s L X) (hL : L ≤ 4096) (hX : ∀ k, in32 (X k)) (hi : 0 ≤ i ∧ i + 8 ≤ L) {k : Int} {kd : Int → Nat} (bk : 0 ≤ k ∧ k ≤ 3) (x1 : kd 1 = 13) (x2 : kd 2 = 14) (x3 : kd 3 = 15) {v : Int} (hC : am_C2 20 m_X_part [aR 8 0, aI (zI (X (i + 1).toNat)), aI (zI (X (i + 2).toNat))] q (am_OQ e k kd (some (aI (zI v))) q s1)) (hM : ∀ q1, am_RV q1 q1 s → am_C2 20 m_M_part [aR 9 0, aI (zI (X (i + 1).toNat)), aI (zI (X (i + 2).toNat))] q1 (fun o q' => ∃ b s2, o = .inl (some (aI (zI b))) ∧ am_RV q1 q' s2 ∧ (k = 0 → b = v) ∧ am_SD J k s1 s2)) (K : ∀ q' s' x6 x7, am_LP (e + 1) q' s' s' L X → J s' → am_W2 (d + 22) m_L_law 2620 [some (aR 31 0), some (aR 8 0), some (aR 9 0), some (aR 26 0), some (aR 27 0), some (aI (zI i)), x6, x7] [] q' Q) : am_W2 (d + 22) m_L_law 1980 [some (aR 31 0), some (aR 8 0), some (aR 9 0), some (aR 26 0), some (aR 27 0), some (aI (zI i)), x6, x7] [] q Q := by
  refine ar_aload_n rfl rfl ?_
  refine ar_aload_n rfl rfl ?_
  refine ar_iload rfl rfl ?_
  refine ar_iconst rfl ?_
  refine ar_iadd rfl ?_
  refine ar_scr P hL rfl (by omega) ?_
  refine ar_aload_n rfl rfl ?_
  refine ar_iload rfl rfl ?_
  refine ar_iconst rfl ?_
  refine ar_iadd rfl ?_
  refine ar_scr P hL rfl (by omega) ?_
  refine ar_aload_n rfl rfl ?_
  refine ar_cs4 rfl rfl (Nat.le_of_ble_eq_true rfl) (wl_part (d := d) P bk x1 x2 x3 hC) (by omega) (fun o q1 hq => ?_)
  obtain ⟨rfl, P1, hO⟩ := hq
  refine ar_stI6 rfl ?_
  refine ar_aload_n rfl rfl ?_
  refine ar_aload_n rfl rfl ?_
  refine ar_iload rfl rfl ?_
  refine ar_iconst rfl ?_
  refine ar_iadd rfl ?_
  refine ar_scr P1 hL rfl (by omega) ?_
  refine ar_aload_n rfl rfl ?_
  refine ar_iload rfl rfl ?_
  refine ar_iconst rfl ?_
  refine ar_iadd rfl ?_
  refine ar_scr P1 hL rfl (by omega) ?_
  refine ar_cv2 rfl rfl rfl (Nat.le_of_ble_eq_true rfl) (hM q1 P1.2.1) (by omega) (fun o q2 hq => ?_)
  obtain ⟨b, s2, rfl, R2, hbv, h74, hJ2, hm, hn⟩ := hq
  have P2 := LP_s (LP_RV P1 R2) hm hn R2.2.2.2.2.1
  refine ar_stI7 rfl ?_
  refine ar_aload_n rfl rfl ?_
  refine ar_cv0 rfl rfl rfl (Nat.le_of_ble_eq_true rfl) (sr_thrown (d := 0) q2 q2 P2.2.1) (by omega) (fun o q3 hq => ?_)
  obtain ⟨_, _, rfl, R3, rfl, rfl, _⟩ := hq
  have P3 := LP_RV P2 R3
  refine ar_iload rfl rfl ?_
  rw [h74]
  refine ar_icmp_eq rfl rfl (by omega) (by omega) (fun _ => ?_) (fun hf => absurd rfl hf)
  refine ar_iload rfl rfl ?_
  refine ar_if_ne rfl rfl (by omega) (fun hk => ?_) (fun hk => ?_)
  · refine ar_goto rfl rfl ?_
    exact K _ _ _ _ P3 hJ2
  · have eO : qAJ q3 (26, 0) 0 = (zI v).toInt64 := by { rw [(RV_J R3).1, (RV_J R2).1]; exact hO hk }
    refine ar_aload_n rfl rfl ?_
    refine ar_iconst rfl ?_
    refine ar_laload (j := 0) rfl rfl rfl (by rw [P3.2.2.2.1.1]; omega) (by rw [P3.2.2.2.1.1]; omega) ?_
    rw [eO]
    refine ar_iload rfl rfl ?_
    rw [hbv hk]
    refine ar_i2l rfl ?_
    refine ar_lcmp rfl ?_
    rw [lg_self]
    refine ar_if_eq rfl rfl (by omega) (fun _ => ?_) (fun hf => absurd rfl hf)
    refine ar_goto rfl rfl ?_
    exact K _ _ _ _ P3 hJ2
theorem lw_cancel {d e : Nat} {q : am_A} {Q : am_O → am_A → Prop} {s s1 : am_Z} {J : am_Z → Prop} {L : Nat} {X : Nat → Int} {i : Int} {x6 x7 : Option am_V} (P : am_LP e q s s L X) (hL : L ≤ 4096) (hX : ∀ k, in32 (X k)) (hi : 0 ≤ i ∧ i + 8 ≤ L) {k : Int} {kd : Int → Nat} (bk : 0 ≤ k ∧ k ≤ 2) (x1 : kd 1 = 13) (x2 : kd 2 = 15) {v : Int} (hC : am_C2 20 m_X_cancel [aR 8 0, aI (zI (X (i + 1).toNat))] q (am_OQ e k kd (some (aI (zI v))) q s1)) (hM : ∀ q1, am_RV q1 q1 s → am_C2 20 m_M_cancel [aR 9 0, aI (zI (X (i + 1).toNat))] q1 (fun o q' => ∃ b s2, o = .inl (some (aI (zI b))) ∧ am_RV q1 q' s2 ∧ (k = 0 → b = v) ∧ am_SD J k s1 s2)) (K : ∀ q' s' x6 x7, am_LP (e + 1) q' s' s' L X → J s' → am_W2 (d + 22) m_L_law 2620 [some (aR 31 0), some (aR 8 0), some (aR 9 0), some (aR 26 0), some (aR 27 0), some (aI (zI i)), x6, x7] [] q' Q) : am_W2 (d + 22) m_L_law 2048 [some (aR 31 0), some (aR 8 0), some (aR 9 0), some (aR 26 0), some (aR 27 0), some (aI (zI i)), x6, x7] [] q Q := by
  refine ar_aload_n rfl rfl ?_
  refine ar_aload_n rfl rfl ?_
  refine ar_iload rfl rfl ?_
  refine ar_iconst rfl ?_
  refine ar_iadd rfl ?_
  refine ar_scr P hL rfl (by omega) ?_
  refine ar_aload_n rfl rfl ?_
  refine ar_cs3 rfl rfl (Nat.le_of_ble_eq_true rfl) (wl_cancel (d := d) P bk x1 x2 hC) (by omega) (fun o q1 hq => ?_)
  obtain ⟨rfl, P1, hO⟩ := hq
  refine ar_stI6 rfl ?_
  refine ar_aload_n rfl rfl ?_
  refine ar_aload_n rfl rfl ?_
  refine ar_iload rfl rfl ?_
  refine ar_iconst rfl ?_
  refine ar_iadd rfl ?_
  refine ar_scr P1 hL rfl (by omega) ?_
  refine ar_cv1 rfl rfl rfl (Nat.le_of_ble_eq_true rfl) (hM q1 P1.2.1) (by omega) (fun o q2 hq => ?_)
  obtain ⟨b, s2, rfl, R2, hbv, h74, hJ2, hm, hn⟩ := hq
  have P2 := LP_s (LP_RV P1 R2) hm hn R2.2.2.2.2.1
  refine ar_stI7 rfl ?_
  refine ar_aload_n rfl rfl ?_
  refine ar_cv0 rfl rfl rfl (Nat.le_of_ble_eq_true rfl) (sr_thrown (d := 0) q2 q2 P2.2.1) (by omega) (fun o q3 hq => ?_)
  obtain ⟨_, _, rfl, R3, rfl, rfl, _⟩ := hq
  have P3 := LP_RV P2 R3
  refine ar_iload rfl rfl ?_
  rw [h74]
  refine ar_icmp_eq rfl rfl (by omega) (by omega) (fun _ => ?_) (fun hf => absurd rfl hf)
  refine ar_iload rfl rfl ?_
  refine ar_if_ne rfl rfl (by omega) (fun hk => ?_) (fun hk => ?_)
  · refine ar_goto rfl rfl ?_
    exact K _ _ _ _ P3 hJ2
  · have eO : qAJ q3 (26, 0) 0 = (zI v).toInt64 := by { rw [(RV_J R3).1, (RV_J R2).1]; exact hO hk }
    refine ar_aload_n rfl rfl ?_
    refine ar_iconst rfl ?_
    refine ar_laload (j := 0) rfl rfl rfl (by rw [P3.2.2.2.1.1]; omega) (by rw [P3.2.2.2.1.1]; omega) ?_
    rw [eO]
    refine ar_iload rfl rfl ?_
    rw [hbv hk]
    refine ar_i2l rfl ?_
    refine ar_lcmp rfl ?_
    rw [lg_self]
    refine ar_if_eq rfl rfl (by omega) (fun _ => ?_) (fun hf => absurd rfl hf)
    refine ar_goto rfl rfl ?_
    exact K _ _ _ _ P3 hJ2
theorem lw_booking {d e : Nat} {q : am_A} {Q : am_O → am_A → Prop} {s s1 : am_Z} {J : am_Z → Prop} {L : Nat} {X : Nat → Int} {i : Int} {x6 x7 : Option am_V} (P : am_LP e q s s L X) (hL : L ≤ 4096) (hX : ∀ k, in32 (X k)) (hi : 0 ≤ i ∧ i + 8 ≤ L) {k : Int} {kd : Int → Nat} (bk : 0 ≤ k ∧ k ≤ 1) (x1 : kd 1 = 13) {v : Int} (hC : am_C2 20 m_X_booking [aR 8 0, aI (zI (X (i + 1).toNat))] q (am_OQ e k kd (some (aI (zI v))) q s1)) (hM : ∀ q1, am_RV q1 q1 s → am_C2 20 m_M_booking [aR 9 0, aI (zI (X (i + 1).toNat))] q1 (fun o q' => ∃ b s2, o = .inl (some (aI (zI b))) ∧ am_RV q1 q' s2 ∧ (k = 0 → b = v) ∧ am_SD J k s1 s2)) (K : ∀ q' s' x6 x7, am_LP (e + 1) q' s' s' L X → J s' → am_W2 (d + 22) m_L_law 2620 [some (aR 31 0), some (aR 8 0), some (aR 9 0), some (aR 26 0), some (aR 27 0), some (aI (zI i)), x6, x7] [] q' Q) : am_W2 (d + 22) m_L_law 2104 [some (aR 31 0), some (aR 8 0), some (aR 9 0), some (aR 26 0), some (aR 27 0), some (aI (zI i)), x6, x7] [] q Q := by
  refine ar_aload_n rfl rfl ?_
  refine ar_aload_n rfl rfl ?_
  refine ar_iload rfl rfl ?_
  refine ar_iconst rfl ?_
  refine ar_iadd rfl ?_
  refine ar_scr P hL rfl (by omega) ?_
  refine ar_aload_n rfl rfl ?_
  refine ar_cs3 rfl rfl (Nat.le_of_ble_eq_true rfl) (wl_booking (d := d) P bk x1 hC) (by omega) (fun o q1 hq => ?_)
  obtain ⟨rfl, P1, hO⟩ := hq
  refine ar_stI6 rfl ?_
  refine ar_aload_n rfl rfl ?_
  refine ar_aload_n rfl rfl ?_
  refine ar_iload rfl rfl ?_
  refine ar_iconst rfl ?_
  refine ar_iadd rfl ?_
  refine ar_scr P1 hL rfl (by omega) ?_
  refine ar_cv1 rfl rfl rfl (Nat.le_of_ble_eq_true rfl) (hM q1 P1.2.1) (by omega) (fun o q2 hq => ?_)
  obtain ⟨b, s2, rfl, R2, hbv, h74, hJ2, hm, hn⟩ := hq
  have P2 := LP_s (LP_RV P1 R2) hm hn R2.2.2.2.2.1
  refine ar_stI7 rfl ?_
  refine ar_aload_n rfl rfl ?_
  refine ar_cv0 rfl rfl rfl (Nat.le_of_ble_eq_true rfl) (sr_thrown (d := 0) q2 q2 P2.2.1) (by omega) (fun o q3 hq => ?_)
  obtain ⟨_, _, rfl, R3, rfl, rfl, _⟩ := hq
  have P3 := LP_RV P2 R3
  refine ar_iload rfl rfl ?_
  rw [h74]
  refine ar_icmp_eq rfl rfl (by omega) (by omega) (fun _ => ?_) (fun hf => absurd rfl hf)
  refine ar_iload rfl rfl ?_
  refine ar_if_ne rfl rfl (by omega) (fun hk => ?_) (fun hk => ?_)
  · refine ar_goto rfl rfl ?_
    exact K _ _ _ _ P3 hJ2
  · have eO : qAJ q3 (26, 0) 0 = (zI v).toInt64 := by { rw [(RV_J R3).1, (RV_J R2).1]; exact hO hk }
    refine ar_aload_n rfl rfl ?_
    refine ar_iconst rfl ?_
    refine ar_laload (j := 0) rfl rfl rfl (by rw [P3.2.2.2.1.1]; omega) (by rw [P3.2.2.2.1.1]; omega) ?_
    rw [eO]
    refine ar_iload rfl rfl ?_
    rw [hbv hk]
    refine ar_i2l rfl ?_
    refine ar_lcmp rfl ?_
    rw [lg_self]
    refine ar_if_eq rfl rfl (by omega) (fun _ => ?_) (fun hf => absurd rfl hf)
    refine ar_goto rfl rfl ?_
    exact K _ _ _ _ P3 hJ2
theorem lw_coupon {d e : Nat} {q : am_A} {Q : am_O → am_A → Prop} {s s1 : am_Z} {J : am_Z → Prop} {L : Nat} {X : Nat → Int} {i : Int} {x6 x7 : Option am_V} (P : am_LP e q s s L X) (hL : L ≤ 4096) (hX : ∀ k, in32 (X k)) (hi : 0 ≤ i ∧ i + 8 ≤ L) {k : Int} {kd : Int → Nat} (bk : 0 ≤ k ∧ k ≤ 1) (x1 : kd 1 = 13) {v : Int} (hC : am_C2 20 m_X_coupon [aR 8 0, aI (zI (X (i + 1).toNat)), aI (zI (X (i + 2).toNat))] q (am_OQ e k kd (some (aI (zI v))) q s1)) (hM : ∀ q1, am_RV q1 q1 s → am_C2 20 m_M_coupon [aR 9 0, aI (zI (X (i + 1).toNat)), aI (zI (X (i + 2).toNat))] q1 (fun o q' => ∃ b s2, o = .inl (some (aI (zI b))) ∧ am_RV q1 q' s2 ∧ (k = 0 → b = v) ∧ am_SD J k s1 s2)) (K : ∀ q' s' x6 x7, am_LP (e + 1) q' s' s' L X → J s' → am_W2 (d + 22) m_L_law 2620 [some (aR 31 0), some (aR 8 0), some (aR 9 0), some (aR 26 0), some (aR 27 0), some (aI (zI i)), x6, x7] [] q' Q) : am_W2 (d + 22) m_L_law 2160 [some (aR 31 0), some (aR 8 0), some (aR 9 0), some (aR 26 0), some (aR 27 0), some (aI (zI i)), x6, x7] [] q Q := by
  refine ar_aload_n rfl rfl ?_
  refine ar_aload_n rfl rfl ?_
  refine ar_iload rfl rfl ?_
  refine ar_iconst rfl ?_
  refine ar_iadd rfl ?_
  refine ar_scr P hL rfl (by omega) ?_
  refine ar_aload_n rfl rfl ?_
  refine ar_iload rfl rfl ?_
  refine ar_iconst rfl ?_
  refine ar_iadd rfl ?_
  refine ar_scr P hL rfl (by omega) ?_
  refine ar_aload_n rfl rfl ?_
  refine ar_cs4 rfl rfl (Nat.le_of_ble_eq_true rfl) (wl_coupon (d := d) P bk x1 hC) (by omega) (fun o q1 hq => ?_)
  obtain ⟨rfl, P1, hO⟩ := hq
  refine ar_stI6 rfl ?_
  refine ar_aload_n rfl rfl ?_
  refine ar_aload_n rfl rfl ?_
  refine ar_iload rfl rfl ?_
  refine ar_iconst rfl ?_
  refine ar_iadd rfl ?_
  refine ar_scr P1 hL rfl (by omega) ?_
  refine ar_aload_n rfl rfl ?_
  refine ar_iload rfl rfl ?_
  refine ar_iconst rfl ?_
  refine ar_iadd rfl ?_
  refine ar_scr P1 hL rfl (by omega) ?_
  refine ar_cv2 rfl rfl rfl (Nat.le_of_ble_eq_true rfl) (hM q1 P1.2.1) (by omega) (fun o q2 hq => ?_)
  obtain ⟨b, s2, rfl, R2, hbv, h74, hJ2, hm, hn⟩ := hq
  have P2 := LP_s (LP_RV P1 R2) hm hn R2.2.2.2.2.1
  refine ar_stI7 rfl ?_
  refine ar_aload_n rfl rfl ?_
  refine ar_cv0 rfl rfl rfl (Nat.le_of_ble_eq_true rfl) (sr_thrown (d := 0) q2 q2 P2.2.1) (by omega) (fun o q3 hq => ?_)
  obtain ⟨_, _, rfl, R3, rfl, rfl, _⟩ := hq
  have P3 := LP_RV P2 R3
  refine ar_iload rfl rfl ?_
  rw [h74]
  refine ar_icmp_eq rfl rfl (by omega) (by omega) (fun _ => ?_) (fun hf => absurd rfl hf)
  refine ar_iload rfl rfl ?_
  refine ar_if_ne rfl rfl (by omega) (fun hk => ?_) (fun hk => ?_)
  · refine ar_goto rfl rfl ?_
    exact K _ _ _ _ P3 hJ2
  · have eO : qAJ q3 (26, 0) 0 = (zI v).toInt64 := by { rw [(RV_J R3).1, (RV_J R2).1]; exact hO hk }
    refine ar_aload_n rfl rfl ?_
    refine ar_iconst rfl ?_
    refine ar_laload (j := 0) rfl rfl rfl (by rw [P3.2.2.2.1.1]; omega) (by rw [P3.2.2.2.1.1]; omega) ?_
    rw [eO]
    refine ar_iload rfl rfl ?_
    rw [hbv hk]
    refine ar_i2l rfl ?_
    refine ar_lcmp rfl ?_
    rw [lg_self]
    refine ar_if_eq rfl rfl (by omega) (fun _ => ?_) (fun hf => absurd rfl hf)
    refine ar_goto rfl rfl ?_
    exact K _ _ _ _ P3 hJ2
theorem lw_share {d e : Nat} {q : am_A} {Q : am_O → am_A → Prop} {s s1 : am_Z} {J : am_Z → Prop} {L : Nat} {X : Nat → Int} {i : Int} {x6 x7 : Option am_V} (P : am_LP e q s s L X) (hL : L ≤ 4096) (hX : ∀ k, in32 (X k)) (hi : 0 ≤ i ∧ i + 8 ≤ L) {k : Int} {kd : Int → Nat} (bk : 0 ≤ k ∧ k ≤ 1) (x1 : kd 1 = 13) {v : Int} (hC : am_C2 20 m_X_share [aR 8 0, aI (zI (X (i + 1).toNat)), aI (zI (X (i + 2).toNat))] q (am_OQ e k kd (some (aI (zI v))) q s1)) (hM : ∀ q1, am_RV q1 q1 s → am_C2 20 m_M_share [aR 9 0, aI (zI (X (i + 1).toNat)), aI (zI (X (i + 2).toNat))] q1 (fun o q' => ∃ b s2, o = .inl (some (aI (zI b))) ∧ am_RV q1 q' s2 ∧ (k = 0 → b = v) ∧ am_SD J k s1 s2)) (K : ∀ q' s' x6 x7, am_LP (e + 1) q' s' s' L X → J s' → am_W2 (d + 22) m_L_law 2620 [some (aR 31 0), some (aR 8 0), some (aR 9 0), some (aR 26 0), some (aR 27 0), some (aI (zI i)), x6, x7] [] q' Q) : am_W2 (d + 22) m_L_law 2228 [some (aR 31 0), some (aR 8 0), some (aR 9 0), some (aR 26 0), some (aR 27 0), some (aI (zI i)), x6, x7] [] q Q := by
  refine ar_aload_n rfl rfl ?_
  refine ar_aload_n rfl rfl ?_
  refine ar_iload rfl rfl ?_
  refine ar_iconst rfl ?_
  refine ar_iadd rfl ?_
  refine ar_scr P hL rfl (by omega) ?_
  refine ar_aload_n rfl rfl ?_
  refine ar_iload rfl rfl ?_
  refine ar_iconst rfl ?_
  refine ar_iadd rfl ?_
  refine ar_scr P hL rfl (by omega) ?_
  refine ar_aload_n rfl rfl ?_
  refine ar_cs4 rfl rfl (Nat.le_of_ble_eq_true rfl) (wl_share (d := d) P bk x1 hC) (by omega) (fun o q1 hq => ?_)
  obtain ⟨rfl, P1, hO⟩ := hq
  refine ar_stI6 rfl ?_
  refine ar_aload_n rfl rfl ?_
  refine ar_aload_n rfl rfl ?_
  refine ar_iload rfl rfl ?_
  refine ar_iconst rfl ?_
  refine ar_iadd rfl ?_
  refine ar_scr P1 hL rfl (by omega) ?_
  refine ar_aload_n rfl rfl ?_
  refine ar_iload rfl rfl ?_
  refine ar_iconst rfl ?_
  refine ar_iadd rfl ?_
  refine ar_scr P1 hL rfl (by omega) ?_
  refine ar_cv2 rfl rfl rfl (Nat.le_of_ble_eq_true rfl) (hM q1 P1.2.1) (by omega) (fun o q2 hq => ?_)
  obtain ⟨b, s2, rfl, R2, hbv, h74, hJ2, hm, hn⟩ := hq
  have P2 := LP_s (LP_RV P1 R2) hm hn R2.2.2.2.2.1
  refine ar_stI7 rfl ?_
  refine ar_aload_n rfl rfl ?_
  refine ar_cv0 rfl rfl rfl (Nat.le_of_ble_eq_true rfl) (sr_thrown (d := 0) q2 q2 P2.2.1) (by omega) (fun o q3 hq => ?_)
  obtain ⟨_, _, rfl, R3, rfl, rfl, _⟩ := hq
  have P3 := LP_RV P2 R3
  refine ar_iload rfl rfl ?_
  rw [h74]
  refine ar_icmp_eq rfl rfl (by omega) (by omega) (fun _ => ?_) (fun hf => absurd rfl hf)
  refine ar_iload rfl rfl ?_
  refine ar_if_ne rfl rfl (by omega) (fun hk => ?_) (fun hk => ?_)
  · refine ar_goto rfl rfl ?_
    exact K _ _ _ _ P3 hJ2
  · have eO : qAJ q3 (26, 0) 0 = (zI v).toInt64 := by { rw [(RV_J R3).1, (RV_J R2).1]; exact hO hk }
    refine ar_aload_n rfl rfl ?_
    refine ar_iconst rfl ?_
    refine ar_laload (j := 0) rfl rfl rfl (by rw [P3.2.2.2.1.1]; omega) (by rw [P3.2.2.2.1.1]; omega) ?_
    rw [eO]
    refine ar_iload rfl rfl ?_
    rw [hbv hk]
    refine ar_i2l rfl ?_
    refine ar_lcmp rfl ?_
    rw [lg_self]
    refine ar_if_eq rfl rfl (by omega) (fun _ => ?_) (fun hf => absurd rfl hf)
    refine ar_goto rfl rfl ?_
    exact K _ _ _ _ P3 hJ2
theorem lw_check {d e : Nat} {q : am_A} {Q : am_O → am_A → Prop} {s s1 : am_Z} {J : am_Z → Prop} {L : Nat} {X : Nat → Int} {i : Int} {x6 x7 : Option am_V} (P : am_LP e q s s L X) (hL : L ≤ 4096) (hX : ∀ k, in32 (X k)) (hi : 0 ≤ i ∧ i + 8 ≤ L) {k : Int} {kd : Int → Nat} (bk : 0 ≤ k ∧ k ≤ 2) (x1 : kd 1 = 13) (x2 : kd 2 = 15) {v : Int} (hC : am_C2 20 m_X_check [aR 8 0, aI (zI (X (i + 1).toNat)), aI (zI (X (i + 2).toNat))] q (am_OQ e k kd (some (aI (zI v))) q s1)) (hM : ∀ q1, am_RV q1 q1 s → am_C2 20 m_M_check [aR 9 0, aI (zI (X (i + 1).toNat)), aI (zI (X (i + 2).toNat))] q1 (fun o q' => ∃ b s2, o = .inl (some (aI (zI b))) ∧ am_RV q1 q' s2 ∧ (k = 0 → b = v) ∧ am_SD J k s1 s2)) (K : ∀ q' s' x6 x7, am_LP (e + 1) q' s' s' L X → J s' → am_W2 (d + 22) m_L_law 2620 [some (aR 31 0), some (aR 8 0), some (aR 9 0), some (aR 26 0), some (aR 27 0), some (aI (zI i)), x6, x7] [] q' Q) : am_W2 (d + 22) m_L_law 2296 [some (aR 31 0), some (aR 8 0), some (aR 9 0), some (aR 26 0), some (aR 27 0), some (aI (zI i)), x6, x7] [] q Q := by
  refine ar_aload_n rfl rfl ?_
  refine ar_aload_n rfl rfl ?_
  refine ar_iload rfl rfl ?_
  refine ar_iconst rfl ?_
  refine ar_iadd rfl ?_
  refine ar_scr P hL rfl (by omega) ?_
  refine ar_aload_n rfl rfl ?_
  refine ar_iload rfl rfl ?_
  refine ar_iconst rfl ?_
  refine ar_iadd rfl ?_
  refine ar_scr P hL rfl (by omega) ?_
  refine ar_aload_n rfl rfl ?_
  refine ar_cs4 rfl rfl (Nat.le_of_ble_eq_true rfl) (wl_check (d := d) P bk x1 x2 hC) (by omega) (fun o q1 hq => ?_)
  obtain ⟨rfl, P1, hO⟩ := hq
  refine ar_stI6 rfl ?_
  refine ar_aload_n rfl rfl ?_
  refine ar_aload_n rfl rfl ?_
  refine ar_iload rfl rfl ?_
  refine ar_iconst rfl ?_
  refine ar_iadd rfl ?_
  refine ar_scr P1 hL rfl (by omega) ?_
  refine ar_aload_n rfl rfl ?_
  refine ar_iload rfl rfl ?_
  refine ar_iconst rfl ?_
  refine ar_iadd rfl ?_
  refine ar_scr P1 hL rfl (by omega) ?_
  refine ar_cv2 rfl rfl rfl (Nat.le_of_ble_eq_true rfl) (hM q1 P1.2.1) (by omega) (fun o q2 hq => ?_)
  obtain ⟨b, s2, rfl, R2, hbv, h74, hJ2, hm, hn⟩ := hq
  have P2 := LP_s (LP_RV P1 R2) hm hn R2.2.2.2.2.1
  refine ar_stI7 rfl ?_
  refine ar_aload_n rfl rfl ?_
  refine ar_cv0 rfl rfl rfl (Nat.le_of_ble_eq_true rfl) (sr_thrown (d := 0) q2 q2 P2.2.1) (by omega) (fun o q3 hq => ?_)
  obtain ⟨_, _, rfl, R3, rfl, rfl, _⟩ := hq
  have P3 := LP_RV P2 R3
  refine ar_iload rfl rfl ?_
  rw [h74]
  refine ar_icmp_eq rfl rfl (by omega) (by omega) (fun _ => ?_) (fun hf => absurd rfl hf)
  refine ar_iload rfl rfl ?_
  refine ar_if_ne rfl rfl (by omega) (fun hk => ?_) (fun hk => ?_)
  · refine ar_goto rfl rfl ?_
    exact K _ _ _ _ P3 hJ2
  · have eO : qAJ q3 (26, 0) 0 = (zI v).toInt64 := by { rw [(RV_J R3).1, (RV_J R2).1]; exact hO hk }
    refine ar_aload_n rfl rfl ?_
    refine ar_iconst rfl ?_
    refine ar_laload (j := 0) rfl rfl rfl (by rw [P3.2.2.2.1.1]; omega) (by rw [P3.2.2.2.1.1]; omega) ?_
    rw [eO]
    refine ar_iload rfl rfl ?_
    rw [hbv hk]
    refine ar_i2l rfl ?_
    refine ar_lcmp rfl ?_
    rw [lg_self]
    refine ar_if_eq rfl rfl (by omega) (fun _ => ?_) (fun hf => absurd rfl hf)
    refine ar_goto rfl rfl ?_
    exact K _ _ _ _ P3 hJ2
theorem lw_volunteer {d e : Nat} {q : am_A} {Q : am_O → am_A → Prop} {s s1 : am_Z} {J : am_Z → Prop} {L : Nat} {X : Nat → Int} {i : Int} {x6 x7 : Option am_V} (P : am_LP e q s s L X) (hL : L ≤ 4096) (hX : ∀ k, in32 (X k)) (hi : 0 ≤ i ∧ i + 8 ≤ L) {k : Int} {kd : Int → Nat} (bk : 0 ≤ k ∧ k ≤ 1) (x1 : kd 1 = 13) {v : Int} (hv : v = 0 ∨ v = 1) (hC : am_C2 20 m_X_volunteer [aR 8 0, aI (zI (X (i + 1).toNat))] q (am_OQ e k kd (some (aI (zI v))) q s1)) (hM : ∀ q1, am_RV q1 q1 s → am_C2 20 m_M_volunteer [aR 9 0, aI (zI (X (i + 1).toNat))] q1 (fun o q' => ∃ b s2, o = .inl (some (aI (zI b))) ∧ am_RV q1 q' s2 ∧ (k = 0 → b = v) ∧ am_SD J k s1 s2)) (K : ∀ q' s' x6 x7, am_LP (e + 1) q' s' s' L X → J s' → am_W2 (d + 22) m_L_law 2620 [some (aR 31 0), some (aR 8 0), some (aR 9 0), some (aR 26 0), some (aR 27 0), some (aI (zI i)), x6, x7] [] q' Q) : am_W2 (d + 22) m_L_law 2364 [some (aR 31 0), some (aR 8 0), some (aR 9 0), some (aR 26 0), some (aR 27 0), some (aI (zI i)), x6, x7] [] q Q := by
  refine ar_aload_n rfl rfl ?_
  refine ar_aload_n rfl rfl ?_
  refine ar_iload rfl rfl ?_
  refine ar_iconst rfl ?_
  refine ar_iadd rfl ?_
  refine ar_scr P hL rfl (by omega) ?_
  refine ar_aload_n rfl rfl ?_
  refine ar_cs3 rfl rfl (Nat.le_of_ble_eq_true rfl) (wl_volunteer (d := d) P hv bk x1 hC) (by omega) (fun o q1 hq => ?_)
  obtain ⟨rfl, P1, hO⟩ := hq
  refine ar_stI6 rfl ?_
  refine ar_aload_n rfl rfl ?_
  refine ar_aload_n rfl rfl ?_
  refine ar_iload rfl rfl ?_
  refine ar_iconst rfl ?_
  refine ar_iadd rfl ?_
  refine ar_scr P1 hL rfl (by omega) ?_
  refine ar_cv1 rfl rfl rfl (Nat.le_of_ble_eq_true rfl) (hM q1 P1.2.1) (by omega) (fun o q2 hq => ?_)
  obtain ⟨b, s2, rfl, R2, hbv, h74, hJ2, hm, hn⟩ := hq
  have P2 := LP_s (LP_RV P1 R2) hm hn R2.2.2.2.2.1
  refine ar_stI7 rfl ?_
  refine ar_aload_n rfl rfl ?_
  refine ar_cv0 rfl rfl rfl (Nat.le_of_ble_eq_true rfl) (sr_thrown (d := 0) q2 q2 P2.2.1) (by omega) (fun o q3 hq => ?_)
  obtain ⟨_, _, rfl, R3, rfl, rfl, _⟩ := hq
  have P3 := LP_RV P2 R3
  refine ar_iload rfl rfl ?_
  rw [h74]
  refine ar_icmp_eq rfl rfl (by omega) (by omega) (fun _ => ?_) (fun hf => absurd rfl hf)
  refine ar_iload rfl rfl ?_
  refine ar_if_ne rfl rfl (by omega) (fun hk => ?_) (fun hk => ?_)
  · refine ar_goto rfl rfl ?_
    exact K _ _ _ _ P3 hJ2
  · have eO : qAJ q3 (26, 0) 0 = (zI v).toInt64 := by { rw [(RV_J R3).1, (RV_J R2).1]; exact hO hk }
    refine ar_aload_n rfl rfl ?_
    refine ar_iconst rfl ?_
    refine ar_laload (j := 0) rfl rfl rfl (by rw [P3.2.2.2.1.1]; omega) (by rw [P3.2.2.2.1.1]; omega) ?_
    rw [eO]
    refine ar_iload rfl rfl ?_
    rw [hbv hk]
    refine ar_if_eq rfl rfl (by omega) (fun h0 => ?_) (fun h0 => ?_)
    · refine ar_lconst (x := 0) rfl rfl ?_
      rw [show v = 0 by omega]
      refine ar_lcmp rfl ?_
      rw [show lg_cmp (zI 0).toInt64 0 = zI 0 from lg_self _]
      refine ar_if_eq rfl rfl (by omega) (fun _ => ?_) (fun hf => absurd rfl hf)
      refine ar_goto rfl rfl ?_
      exact K _ _ _ _ P3 hJ2
    · refine ar_lconst (x := 1) rfl rfl ?_
      refine ar_goto rfl rfl ?_
      rw [show v = 1 by omega]
      refine ar_lcmp rfl ?_
      rw [show lg_cmp (zI 1).toInt64 1 = zI 0 from lg_self _]
      refine ar_if_eq rfl rfl (by omega) (fun _ => ?_) (fun hf => absurd rfl hf)
      refine ar_goto rfl rfl ?_
      exact K _ _ _ _ P3 hJ2
theorem lw_pass {d e : Nat} {q : am_A} {Q : am_O → am_A → Prop} {s s1 : am_Z} {J : am_Z → Prop} {L : Nat} {X : Nat → Int} {i : Int} {x6 x7 : Option am_V} (P : am_LP e q s s L X) (hL : L ≤ 4096) (hX : ∀ k, in32 (X k)) (hi : 0 ≤ i ∧ i + 8 ≤ L) {k : Int} {kd : Int → Nat} (bk : 0 ≤ k ∧ k ≤ 1) (x1 : kd 1 = 14) {v : Int} (hC : am_C2 20 m_X_pass [aR 8 0, aI (zI (X (i + 1).toNat))] q (am_OQ e k kd (some (aI (zI v))) q s1)) (hM : ∀ q1, am_RV q1 q1 s → am_C2 20 m_M_pass [aR 9 0, aI (zI (X (i + 1).toNat))] q1 (fun o q' => ∃ b s2, o = .inl (some (aI (zI b))) ∧ am_RV q1 q' s2 ∧ (k = 0 → b = v) ∧ am_SD J k s1 s2)) (K : ∀ q' s' x6 x7, am_LP (e + 1) q' s' s' L X → J s' → am_W2 (d + 22) m_L_law 2620 [some (aR 31 0), some (aR 8 0), some (aR 9 0), some (aR 26 0), some (aR 27 0), some (aI (zI i)), x6, x7] [] q' Q) : am_W2 (d + 22) m_L_law 2427 [some (aR 31 0), some (aR 8 0), some (aR 9 0), some (aR 26 0), some (aR 27 0), some (aI (zI i)), x6, x7] [] q Q := by
  refine ar_aload_n rfl rfl ?_
  refine ar_aload_n rfl rfl ?_
  refine ar_iload rfl rfl ?_
  refine ar_iconst rfl ?_
  refine ar_iadd rfl ?_
  refine ar_scr P hL rfl (by omega) ?_
  refine ar_aload_n rfl rfl ?_
  refine ar_cs3 rfl rfl (Nat.le_of_ble_eq_true rfl) (wl_pass (d := d) P bk x1 hC) (by omega) (fun o q1 hq => ?_)
  obtain ⟨rfl, P1, hO⟩ := hq
  refine ar_stI6 rfl ?_
  refine ar_aload_n rfl rfl ?_
  refine ar_aload_n rfl rfl ?_
  refine ar_iload rfl rfl ?_
  refine ar_iconst rfl ?_
  refine ar_iadd rfl ?_
  refine ar_scr P1 hL rfl (by omega) ?_
  refine ar_cv1 rfl rfl rfl (Nat.le_of_ble_eq_true rfl) (hM q1 P1.2.1) (by omega) (fun o q2 hq => ?_)
  obtain ⟨b, s2, rfl, R2, hbv, h74, hJ2, hm, hn⟩ := hq
  have P2 := LP_s (LP_RV P1 R2) hm hn R2.2.2.2.2.1
  refine ar_stI7 rfl ?_
  refine ar_aload_n rfl rfl ?_
  refine ar_cv0 rfl rfl rfl (Nat.le_of_ble_eq_true rfl) (sr_thrown (d := 0) q2 q2 P2.2.1) (by omega) (fun o q3 hq => ?_)
  obtain ⟨_, _, rfl, R3, rfl, rfl, _⟩ := hq
  have P3 := LP_RV P2 R3
  refine ar_iload rfl rfl ?_
  rw [h74]
  refine ar_icmp_eq rfl rfl (by omega) (by omega) (fun _ => ?_) (fun hf => absurd rfl hf)
  refine ar_iload rfl rfl ?_
  refine ar_if_ne rfl rfl (by omega) (fun hk => ?_) (fun hk => ?_)
  · refine ar_goto rfl rfl ?_
    exact K _ _ _ _ P3 hJ2
  · have eO : qAJ q3 (26, 0) 0 = (zI v).toInt64 := by { rw [(RV_J R3).1, (RV_J R2).1]; exact hO hk }
    refine ar_aload_n rfl rfl ?_
    refine ar_iconst rfl ?_
    refine ar_laload (j := 0) rfl rfl rfl (by rw [P3.2.2.2.1.1]; omega) (by rw [P3.2.2.2.1.1]; omega) ?_
    rw [eO]
    refine ar_iload rfl rfl ?_
    rw [hbv hk]
    refine ar_i2l rfl ?_
    refine ar_lcmp rfl ?_
    rw [lg_self]
    refine ar_if_eq rfl rfl (by omega) (fun _ => ?_) (fun hf => absurd rfl hf)
    refine ar_goto rfl rfl ?_
    exact K _ _ _ _ P3 hJ2
theorem lw_denied {d e : Nat} {q : am_A} {Q : am_O → am_A → Prop} {s s1 : am_Z} {J : am_Z → Prop} {L : Nat} {X : Nat → Int} {i : Int} {x6 x7 : Option am_V} (P : am_LP e q s s L X) (hL : L ≤ 4096) (hX : ∀ k, in32 (X k)) (hi : 0 ≤ i ∧ i + 8 ≤ L) {kd : Int → Nat} {v : Int} (hv : in32 v) (hC : am_C2 20 m_X_denied [aR 8 0] q (am_OQ e 0 kd (some (aI (zI v))) q s1)) (hM : ∀ q1, am_RV q1 q1 s → am_C2 20 m_M_denied [aR 9 0] q1 (fun o q' => ∃ b s2, o = .inl (some (aI (zI b))) ∧ am_RV q1 q' s2 ∧ b = v ∧ am_SD J 0 s1 s2)) (K : ∀ q' s' x6 x7, am_LP (e + 1) q' s' s' L X → J s' → am_W2 (d + 22) m_L_law 2620 [some (aR 31 0), some (aR 8 0), some (aR 9 0), some (aR 26 0), some (aR 27 0), some (aI (zI i)), x6, x7] [] q' Q) : am_W2 (d + 22) m_L_law 2483 [some (aR 31 0), some (aR 8 0), some (aR 9 0), some (aR 26 0), some (aR 27 0), some (aI (zI i)), x6, x7] [] q Q := by
  refine ar_aload_n rfl rfl ?_
  refine ar_cv0 rfl rfl rfl (Nat.le_of_ble_eq_true rfl) hC (by omega) (fun o q1 hq => ?_)
  have ho := hq.1 rfl
  subst ho
  have P1 := LP_CY P hq.2.2.1 hq.2.2.2.1 hq.2.2.2.2
  refine ar_aload_n rfl rfl ?_
  refine ar_cv0 rfl rfl rfl (Nat.le_of_ble_eq_true rfl) (hM q1 P1.2.1) (by omega) (fun o q2 hq => ?_)
  obtain ⟨b, s2, rfl, R2, hbv, h74, hJ2, hm, hn⟩ := hq
  have P2 := LP_s (LP_RV P1 R2) hm hn R2.2.2.2.2.1
  rw [hbv]
  refine ar_icmp_eq rfl rfl hv hv (fun _ => ?_) (fun hf => absurd rfl hf)
  exact K _ _ _ _ P2 hJ2
theorem lw_points {d e : Nat} {q : am_A} {Q : am_O → am_A → Prop} {s s1 : am_Z} {J : am_Z → Prop} {L : Nat} {X : Nat → Int} {i : Int} {x6 x7 : Option am_V} (P : am_LP e q s s L X) (hL : L ≤ 4096) (hX : ∀ k, in32 (X k)) (hi : 0 ≤ i ∧ i + 8 ≤ L) {k : Int} {kd : Int → Nat} (bk : 0 ≤ k ∧ k ≤ 1) (x1 : kd 1 = 13) {v : Int} (hC : am_C2 20 m_X_points [aR 8 0, aI (zI (X (i + 1).toNat))] q (am_OQ e k kd (some (aI (zI v))) q s1)) (hM : ∀ q1, am_RV q1 q1 s → am_C2 20 m_M_points [aR 9 0, aI (zI (X (i + 1).toNat))] q1 (fun o q' => ∃ b s2, o = .inl (some (aI (zI b))) ∧ am_RV q1 q' s2 ∧ (k = 0 → b = v) ∧ am_SD J k s1 s2)) (K : ∀ q' s' x6 x7, am_LP (e + 1) q' s' s' L X → J s' → am_W2 (d + 22) m_L_law 2620 [some (aR 31 0), some (aR 8 0), some (aR 9 0), some (aR 26 0), some (aR 27 0), some (aI (zI i)), x6, x7] [] q' Q) : am_W2 (d + 22) m_L_law 2496 [some (aR 31 0), some (aR 8 0), some (aR 9 0), some (aR 26 0), some (aR 27 0), some (aI (zI i)), x6, x7] [] q Q := by
  refine ar_aload_n rfl rfl ?_
  refine ar_aload_n rfl rfl ?_
  refine ar_iload rfl rfl ?_
  refine ar_iconst rfl ?_
  refine ar_iadd rfl ?_
  refine ar_scr P hL rfl (by omega) ?_
  refine ar_aload_n rfl rfl ?_
  refine ar_cs3 rfl rfl (Nat.le_of_ble_eq_true rfl) (wl_points (d := d) P bk x1 hC) (by omega) (fun o q1 hq => ?_)
  obtain ⟨rfl, P1, hO⟩ := hq
  refine ar_stI6 rfl ?_
  refine ar_aload_n rfl rfl ?_
  refine ar_aload_n rfl rfl ?_
  refine ar_iload rfl rfl ?_
  refine ar_iconst rfl ?_
  refine ar_iadd rfl ?_
  refine ar_scr P1 hL rfl (by omega) ?_
  refine ar_cv1 rfl rfl rfl (Nat.le_of_ble_eq_true rfl) (hM q1 P1.2.1) (by omega) (fun o q2 hq => ?_)
  obtain ⟨b, s2, rfl, R2, hbv, h74, hJ2, hm, hn⟩ := hq
  have P2 := LP_s (LP_RV P1 R2) hm hn R2.2.2.2.2.1
  refine ar_stI7 rfl ?_
  refine ar_aload_n rfl rfl ?_
  refine ar_cv0 rfl rfl rfl (Nat.le_of_ble_eq_true rfl) (sr_thrown (d := 0) q2 q2 P2.2.1) (by omega) (fun o q3 hq => ?_)
  obtain ⟨_, _, rfl, R3, rfl, rfl, _⟩ := hq
  have P3 := LP_RV P2 R3
  refine ar_iload rfl rfl ?_
  rw [h74]
  refine ar_icmp_eq rfl rfl (by omega) (by omega) (fun _ => ?_) (fun hf => absurd rfl hf)
  refine ar_iload rfl rfl ?_
  refine ar_if_ne rfl rfl (by omega) (fun hk => ?_) (fun hk => ?_)
  · refine ar_goto rfl rfl ?_
    exact K _ _ _ _ P3 hJ2
  · have eO : qAJ q3 (26, 0) 0 = (zI v).toInt64 := by { rw [(RV_J R3).1, (RV_J R2).1]; exact hO hk }
    refine ar_aload_n rfl rfl ?_
    refine ar_iconst rfl ?_
    refine ar_laload (j := 0) rfl rfl rfl (by rw [P3.2.2.2.1.1]; omega) (by rw [P3.2.2.2.1.1]; omega) ?_
    rw [eO]
    refine ar_iload rfl rfl ?_
    rw [hbv hk]
    refine ar_i2l rfl ?_
    refine ar_lcmp rfl ?_
    rw [lg_self]
    refine ar_if_eq rfl rfl (by omega) (fun _ => ?_) (fun hf => absurd rfl hf)
    refine ar_goto rfl rfl ?_
    exact K _ _ _ _ P3 hJ2
theorem lw_owed {d e : Nat} {q : am_A} {Q : am_O → am_A → Prop} {s s1 : am_Z} {J : am_Z → Prop} {L : Nat} {X : Nat → Int} {i : Int} {x6 x7 : Option am_V} (P : am_LP e q s s L X) (hL : L ≤ 4096) (hX : ∀ k, in32 (X k)) (hi : 0 ≤ i ∧ i + 8 ≤ L) {k : Int} {kd : Int → Nat} (bk : 0 ≤ k ∧ k ≤ 1) (x1 : kd 1 = 13) {v : Int} (hC : am_C2 20 m_X_owed [aR 8 0, aI (zI (X (i + 1).toNat)), aI (zI (X (i + 2).toNat))] q (am_OQ e k kd (some (aI (zI v))) q s1)) (hM : ∀ q1, am_RV q1 q1 s → am_C2 20 m_M_owed [aR 9 0, aI (zI (X (i + 1).toNat)), aI (zI (X (i + 2).toNat))] q1 (fun o q' => ∃ b s2, o = .inl (some (aI (zI b))) ∧ am_RV q1 q' s2 ∧ (k = 0 → b = v) ∧ am_SD J k s1 s2)) (K : ∀ q' s' x6 x7, am_LP (e + 1) q' s' s' L X → J s' → am_W2 (d + 22) m_L_law 2620 [some (aR 31 0), some (aR 8 0), some (aR 9 0), some (aR 26 0), some (aR 27 0), some (aI (zI i)), x6, x7] [] q' Q) : am_W2 (d + 22) m_L_law 2552 [some (aR 31 0), some (aR 8 0), some (aR 9 0), some (aR 26 0), some (aR 27 0), some (aI (zI i)), x6, x7] [] q Q := by
  refine ar_aload_n rfl rfl ?_
  refine ar_aload_n rfl rfl ?_
  refine ar_iload rfl rfl ?_
  refine ar_iconst rfl ?_
  refine ar_iadd rfl ?_
  refine ar_scr P hL rfl (by omega) ?_
  refine ar_aload_n rfl rfl ?_
  refine ar_iload rfl rfl ?_
  refine ar_iconst rfl ?_
  refine ar_iadd rfl ?_
  refine ar_scr P hL rfl (by omega) ?_
  refine ar_aload_n rfl rfl ?_
  refine ar_cs4 rfl rfl (Nat.le_of_ble_eq_true rfl) (wl_owed (d := d) P bk x1 hC) (by omega) (fun o q1 hq => ?_)
  obtain ⟨rfl, P1, hO⟩ := hq
  refine ar_stI6 rfl ?_
  refine ar_aload_n rfl rfl ?_
  refine ar_aload_n rfl rfl ?_
  refine ar_iload rfl rfl ?_
  refine ar_iconst rfl ?_
  refine ar_iadd rfl ?_
  refine ar_scr P1 hL rfl (by omega) ?_
  refine ar_aload_n rfl rfl ?_
  refine ar_iload rfl rfl ?_
  refine ar_iconst rfl ?_
  refine ar_iadd rfl ?_
  refine ar_scr P1 hL rfl (by omega) ?_
  refine ar_cv2 rfl rfl rfl (Nat.le_of_ble_eq_true rfl) (hM q1 P1.2.1) (by omega) (fun o q2 hq => ?_)
  obtain ⟨b, s2, rfl, R2, hbv, h74, hJ2, hm, hn⟩ := hq
  have P2 := LP_s (LP_RV P1 R2) hm hn R2.2.2.2.2.1
  refine ar_stI7 rfl ?_
  refine ar_aload_n rfl rfl ?_
  refine ar_cv0 rfl rfl rfl (Nat.le_of_ble_eq_true rfl) (sr_thrown (d := 0) q2 q2 P2.2.1) (by omega) (fun o q3 hq => ?_)
  obtain ⟨_, _, rfl, R3, rfl, rfl, _⟩ := hq
  have P3 := LP_RV P2 R3
  refine ar_iload rfl rfl ?_
  rw [h74]
  refine ar_icmp_eq rfl rfl (by omega) (by omega) (fun _ => ?_) (fun hf => absurd rfl hf)
  refine ar_iload rfl rfl ?_
  refine ar_if_ne rfl rfl (by omega) (fun hk => ?_) (fun hk => ?_)
  · refine ar_goto rfl rfl ?_
    exact K _ _ _ _ P3 hJ2
  · have eO : qAJ q3 (26, 0) 0 = (zI v).toInt64 := by { rw [(RV_J R3).1, (RV_J R2).1]; exact hO hk }
    refine ar_aload_n rfl rfl ?_
    refine ar_iconst rfl ?_
    refine ar_laload (j := 0) rfl rfl rfl (by rw [P3.2.2.2.1.1]; omega) (by rw [P3.2.2.2.1.1]; omega) ?_
    rw [eO]
    refine ar_iload rfl rfl ?_
    rw [hbv hk]
    refine ar_i2l rfl ?_
    refine ar_lcmp rfl ?_
    rw [lg_self]
    refine ar_if_eq rfl rfl (by omega) (fun _ => ?_) (fun hf => absurd rfl hf)
    refine ar_goto rfl rfl ?_
    exact K _ _ _ _ P3 hJ2
end

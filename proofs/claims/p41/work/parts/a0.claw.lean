noncomputable section
/-! The law of the property: its arrays n, m, f, b, w, g, e, x are (24, 0) .. (24, 7). -/
theorem iAnd_n (a : Int) : 0 ≤ iAnd a 2147483647 := by
  unfold iAnd
  have h : ((zI a &&& zI 2147483647).toBitVec).msb = false := by
    rw [Int32.toBitVec_and, BitVec.msb_and, show (zI 2147483647).toBitVec.msb = false from by decide, Bool.and_false]
  show 0 ≤ (zI a &&& zI 2147483647).toBitVec.toInt
  rw [BitVec.toInt_eq_msb_cond, h]
  simp
/-- what the law's arrays hold -/
abbrev am_LT : Type := Nat → Int → Int
def lLen : Nat → Nat := fun j => match j with | 0 => 60 | 1 => 48 | 2 => 16 | 3 => 40 | 4 => 40 | 5 => 7 | 6 => 14 | 7 => 20 | _ => 0
def uT (T : am_LT) (j : Nat) (i v : Int) : am_LT := fun j' i' => if j' = j ∧ i' = i then v else T j' i'
theorem uT_e {T : am_LT} {j : Nat} {i v : Int} : uT T j i v j i = v := if_pos ⟨rfl, rfl⟩
theorem uT_n {T : am_LT} {j j' : Nat} {i i' v : Int} (h : j' ≠ j ∨ i' ≠ i) : uT T j i v j' i' = T j' i' := if_neg (fun z => h.elim (fun y => y z.1) (fun y => y z.2))
def am_LA (q : am_A) (T : am_LT) : Prop := ∀ j : Nat, j < 8 → qAL q (24, j) = lLen j ∧ ∀ i : Int, 0 ≤ i → i < lLen j → qAI q (24, j) i.toNat = T j i
def am_SC (q : am_A) (L : Nat) (X : Nat → Int) : Prop := qAL q (31, 0) = L ∧ ∀ i, qAI q (31, 0) i = X i
theorem LA_CY {q q' : am_A} {T : am_LT} (h : am_LA q T) (Y : am_CY q q') : am_LA q' T := fun j hj => by
  have y := Y.1 (24, j) (by show ¬ cK 24; omega)
  have z := h j hj
  exact ⟨y.2.2.2.2.2.2.1.trans z.1, fun i h1 h2 => (y.2.2.1 _).trans (z.2 i h1 h2)⟩
theorem SC_CY {q q' : am_A} {L : Nat} {X : Nat → Int} (h : am_SC q L X) (Y : am_CY q q') : am_SC q' L X := by
  have y := Y.1 (31, 0) (by show ¬ cK 31; omega)
  exact ⟨y.2.2.2.2.2.2.1.trans h.1, fun i => (y.2.2.1 _).trans (h.2 i)⟩
theorem LA_w {q : am_A} {T : am_LT} (h : am_LA q T) {j : Nat} {i v : Int} (hi : 0 ≤ i) : am_LA (uAI q (24, j) i.toNat v) (uT T j i v) := fun j' hj => by
  have z := h j' hj
  refine ⟨z.1, fun i' h1 h2 => ?_⟩
  show (if ((24, j') : am_R) = (24, j) ∧ i'.toNat = i.toNat then v else qAI q (24, j') i'.toNat) = _
  by_cases e : j' = j ∧ i' = i
  · obtain ⟨rfl, rfl⟩ := e
    rw [if_pos ⟨rfl, rfl⟩, uT_e]
  · rw [if_neg (fun z => e ⟨congrArg Prod.snd z.1, by have := z.2; omega⟩), z.2 i' h1 h2, uT_n (by by_cases y : j' = j; exact Or.inr (fun z => e ⟨y, z⟩); exact Or.inl y)]
theorem CY_24 {q q' : am_A} {j k : Nat} {v : Int} (Y : am_CY q q') (h : q' = q') : am_CY q' q' := CY_r
/-- the class's objects don't feel what the law writes -/
theorem CI_24 {e : Nat} {q : am_A} {s : am_Z} {j k : Nat} {v : Int} (I : am_CI e q s) : am_CI e (uAI q (24, j) k v) s := ⟨CV_EQ I.1 (EQ_AI (fun z => by unfold vA at z; simp only at z; omega)), I.2.1, I.2.2⟩
/-- the law's answer code for an operation -/
def am_rc (k : Int) (kd : Int → Nat) (v : Int) : Int := if k = 0 then v else if kd k = 13 then -3000000 else if kd k = 14 then -2000000 else -1000000
theorem rc_0 {k : Int} {kd : Int → Nat} {v : Int} (h : k = 0) : am_rc k kd v = v := if_pos h
theorem rc_13 {k : Int} {kd : Int → Nat} {v : Int} (h : k ≠ 0) (h2 : kd k = 13) : am_rc k kd v = -3000000 := (if_neg h).trans (if_pos h2)
theorem rc_14 {k : Int} {kd : Int → Nat} {v : Int} (h : k ≠ 0) (h2 : kd k = 14) : am_rc k kd v = -2000000 := (if_neg h).trans ((if_neg (by omega)).trans (if_pos h2))
theorem rc_15 {k : Int} {kd : Int → Nat} {v : Int} (h : k ≠ 0) (h2 : kd k = 15) : am_rc k kd v = -1000000 := (if_neg h).trans ((if_neg (by omega)).trans (if_neg (by omega)))
def am_OX (e : Nat) (q : am_A) (s1 : am_Z) (r : Int) : am_O → am_A → Prop := fun o q' => o = .inl (some (aI (zI r))) ∧ am_CI (e + 1) q' s1 ∧ am_CY q q' ∧ am_DFh q'
theorem cs_lpart {d : Nat} {q : am_A} {L : Nat} {X : Nat → Int} (S : am_SC q L X) (hL : L ≤ 260) {k n : Int} (hk : 0 ≤ k ∧ k ≤ 300) (hn : 1 ≤ n ∧ n ≤ 100000) : am_C2 d m_L_part [aR 31 0, aI (zI k), aI (zI n)] q (fun o q' => q' = q ∧ ∃ v : Int, 0 ≤ v ∧ v < n ∧ o = .inl (some (aI (zI v)))) := by
  refine am_C2_i (ls := [some (aR 31 0), some (aI (zI k)), some (aI (zI n)), none]) rfl ?_
  have hS := S.1
  refine ar_iload_n rfl rfl ?_
  refine ar_aload_n rfl rfl ?_
  refine ar_alen rfl rfl (by omega) ?_
  refine ar_icmp_ge rfl rfl (by omega) (by omega) (fun h3 => ?_) (fun h3 => ?_)
  · refine ar_sipush (x := 653) rfl rfl ?_
    refine ar_iload_n rfl rfl ?_
    refine ar_imul rfl ?_
    refine ar_sipush (x := 521) rfl rfl ?_
    refine ar_iload_n rfl rfl ?_
    refine ar_imul rfl ?_
    refine ar_iload_n rfl rfl ?_
    refine ar_imul rfl ?_
    refine ar_iadd rfl ?_
    generalize 653 * k + 521 * k * k = x
    refine ar_stI3 rfl ?_
    refine ar_iload_n rfl rfl ?_
    refine ar_ldc (x := 2147483647) rfl rfl ?_
    refine ar_iand rfl ?_
    have h1 := iAnd_n x
    have h2 := in32_iAnd x 2147483647
    refine ar_iload_n rfl rfl ?_
    refine ar_irem rfl (by omega) (by omega) ?_
    exact ar_iret rfl (Or.inl rfl) ⟨rfl, _, Int.emod_nonneg _ (by omega), Int.emod_lt_of_pos _ (by omega), rfl⟩
  · refine ar_aload_n rfl rfl ?_
    refine ar_iload_n rfl rfl ?_
    refine ar_iaload (j := k.toNat) rfl rfl (by omega) (by omega) (by omega) ?_
    refine ar_goto rfl rfl ?_
    generalize qAI q (31, 0) k.toNat = x
    refine ar_stI3 rfl ?_
    refine ar_iload_n rfl rfl ?_
    refine ar_ldc (x := 2147483647) rfl rfl ?_
    refine ar_iand rfl ?_
    have h1 := iAnd_n x
    have h2 := in32_iAnd x 2147483647
    refine ar_iload_n rfl rfl ?_
    refine ar_irem rfl (by omega) (by omega) ?_
    exact ar_iret rfl (Or.inl rfl) ⟨rfl, _, Int.emod_nonneg _ (by omega), Int.emod_lt_of_pos _ (by omega), rfl⟩
theorem ds_setZone {d e : Nat} {q : am_A} {s1 : am_Z} {a b c p r t k v : Int} {kd : Int → Nat} (hx : k ≠ 0 → kd k = 13 ∨ kd k = 14 ∨ kd k = 15) (hC : am_C2 20 m_X_setZone [aR 8 0, aI (zI a), aI (zI b)] q (am_OQ e k kd (some (aI (zI v))) q s1)) : am_C2 (d + 21) m_L_does [aR 8 0, aI (zI 0), aI (zI a), aI (zI b), aI (zI c), aI (zI p), aI (zI r), aI (zI t)] q (am_OX e q s1 (am_rc k kd v)) := by
  refine am_C2_i (ls := [some (aR 8 0), some (aI (zI 0)), some (aI (zI a)), some (aI (zI b)), some (aI (zI c)), some (aI (zI p)), some (aI (zI r)), some (aI (zI t)), none]) rfl ?_
  refine ar_iload_n rfl rfl ?_
  refine ar_if_ne rfl rfl (by omega) (fun ht => by omega) (fun h1 => ?_)
  refine ar_aload_n rfl rfl ?_
  refine ar_iload_n rfl rfl ?_
  refine ar_iload_n rfl rfl ?_
  refine ar_cv2 rfl rfl rfl (Nat.le_of_ble_eq_true rfl) hC (by omega) (fun o q1 hq => B2_OQ hq (fun hk I1 Y1 F1 => ?_) (fun hk I1 Y1 F1 => ?_))
  · refine ar_goto rfl rfl ?_
    exact ar_iret rfl (Or.inl rfl) ⟨by rw [rc_0 hk], I1, Y1, F1⟩
  · rcases hx hk with e | e | e
    · rw [e]
      refine B2_H rfl rfl (Nat.le_of_ble_eq_true rfl) ?_
      refine ar_ldc (x := -3000000) rfl rfl ?_
      exact ar_iret rfl (Or.inl rfl) ⟨by rw [rc_13 hk e], I1, Y1, F1⟩
    · rw [e]
      refine B2_H rfl rfl (Nat.le_of_ble_eq_true rfl) ?_
      refine ar_ldc (x := -2000000) rfl rfl ?_
      exact ar_iret rfl (Or.inl rfl) ⟨by rw [rc_14 hk e], I1, Y1, F1⟩
    · rw [e]
      refine B2_H rfl rfl (Nat.le_of_ble_eq_true rfl) ?_
      refine ar_ldc (x := -1000000) rfl rfl ?_
      exact ar_iret rfl (Or.inl rfl) ⟨by rw [rc_15 hk e], I1, Y1, F1⟩
theorem ds_setTax {d e : Nat} {q : am_A} {s1 : am_Z} {a b c p r t k v : Int} {kd : Int → Nat} (hx : k ≠ 0 → kd k = 13 ∨ kd k = 14 ∨ kd k = 15) (hC : am_C2 20 m_X_setTax [aR 8 0, aI (zI a), aI (zI b)] q (am_OQ e k kd (some (aI (zI v))) q s1)) : am_C2 (d + 21) m_L_does [aR 8 0, aI (zI 1), aI (zI a), aI (zI b), aI (zI c), aI (zI p), aI (zI r), aI (zI t)] q (am_OX e q s1 (am_rc k kd v)) := by
  refine am_C2_i (ls := [some (aR 8 0), some (aI (zI 1)), some (aI (zI a)), some (aI (zI b)), some (aI (zI c)), some (aI (zI p)), some (aI (zI r)), some (aI (zI t)), none]) rfl ?_
  refine ar_iload_n rfl rfl ?_
  refine ar_if_ne rfl rfl (by omega) (fun h1 => ?_) (fun hf => by omega)
  refine ar_iload_n rfl rfl ?_
  refine ar_iconst rfl ?_
  refine ar_icmp_ne rfl rfl (by omega) (by omega) (fun ht => by omega) (fun h15 => ?_)
  refine ar_aload_n rfl rfl ?_
  refine ar_iload_n rfl rfl ?_
  refine ar_iload_n rfl rfl ?_
  refine ar_cv2 rfl rfl rfl (Nat.le_of_ble_eq_true rfl) hC (by omega) (fun o q1 hq => B2_OQ hq (fun hk I1 Y1 F1 => ?_) (fun hk I1 Y1 F1 => ?_))
  · refine ar_goto rfl rfl ?_
    exact ar_iret rfl (Or.inl rfl) ⟨by rw [rc_0 hk], I1, Y1, F1⟩
  · rcases hx hk with e | e | e
    · rw [e]
      refine B2_H rfl rfl (Nat.le_of_ble_eq_true rfl) ?_
      refine ar_ldc (x := -3000000) rfl rfl ?_
      exact ar_iret rfl (Or.inl rfl) ⟨by rw [rc_13 hk e], I1, Y1, F1⟩
    · rw [e]
      refine B2_H rfl rfl (Nat.le_of_ble_eq_true rfl) ?_
      refine ar_ldc (x := -2000000) rfl rfl ?_
      exact ar_iret rfl (Or.inl rfl) ⟨by rw [rc_14 hk e], I1, Y1, F1⟩
    · rw [e]
      refine B2_H rfl rfl (Nat.le_of_ble_eq_true rfl) ?_
      refine ar_ldc (x := -1000000) rfl rfl ?_
      exact ar_iret rfl (Or.inl rfl) ⟨by rw [rc_15 hk e], I1, Y1, F1⟩
theorem ds_flight {d e : Nat} {q : am_A} {s1 : am_Z} {a b c p r t k v : Int} {kd : Int → Nat} (hx : k ≠ 0 → kd k = 13 ∨ kd k = 14 ∨ kd k = 15) (hC : am_C2 20 m_X_flight [aR 8 0, aI (zI a), aI (zI b), aI (zI c), aI (zI p), aI (zI r), aI (zI t)] q (am_OQ e k kd (some (aI (zI v))) q s1)) : am_C2 (d + 21) m_L_does [aR 8 0, aI (zI 2), aI (zI a), aI (zI b), aI (zI c), aI (zI p), aI (zI r), aI (zI t)] q (am_OX e q s1 (am_rc k kd v)) := by
  refine am_C2_i (ls := [some (aR 8 0), some (aI (zI 2)), some (aI (zI a)), some (aI (zI b)), some (aI (zI c)), some (aI (zI p)), some (aI (zI r)), some (aI (zI t)), none]) rfl ?_
  refine ar_iload_n rfl rfl ?_
  refine ar_if_ne rfl rfl (by omega) (fun h1 => ?_) (fun hf => by omega)
  refine ar_iload_n rfl rfl ?_
  refine ar_iconst rfl ?_
  refine ar_icmp_ne rfl rfl (by omega) (by omega) (fun h15 => ?_) (fun hf => by omega)
  refine ar_iload_n rfl rfl ?_
  refine ar_iconst rfl ?_
  refine ar_icmp_ne rfl rfl (by omega) (by omega) (fun ht => by omega) (fun h29 => ?_)
  refine ar_aload_n rfl rfl ?_
  refine ar_iload_n rfl rfl ?_
  refine ar_iload_n rfl rfl ?_
  refine ar_iload rfl rfl ?_
  refine ar_iload rfl rfl ?_
  refine ar_iload rfl rfl ?_
  refine ar_iload rfl rfl ?_
  refine ar_cv6 rfl rfl rfl (Nat.le_of_ble_eq_true rfl) hC (by omega) (fun o q1 hq => B2_OQ hq (fun hk I1 Y1 F1 => ?_) (fun hk I1 Y1 F1 => ?_))
  · refine ar_goto rfl rfl ?_
    exact ar_iret rfl (Or.inl rfl) ⟨by rw [rc_0 hk], I1, Y1, F1⟩
  · rcases hx hk with e | e | e
    · rw [e]
      refine B2_H rfl rfl (Nat.le_of_ble_eq_true rfl) ?_
      refine ar_ldc (x := -3000000) rfl rfl ?_
      exact ar_iret rfl (Or.inl rfl) ⟨by rw [rc_13 hk e], I1, Y1, F1⟩
    · rw [e]
      refine B2_H rfl rfl (Nat.le_of_ble_eq_true rfl) ?_
      refine ar_ldc (x := -2000000) rfl rfl ?_
      exact ar_iret rfl (Or.inl rfl) ⟨by rw [rc_14 hk e], I1, Y1, F1⟩
    · rw [e]
      refine B2_H rfl rfl (Nat.le_of_ble_eq_true rfl) ?_
      refine ar_ldc (x := -1000000) rfl rfl ?_
      exact ar_iret rfl (Or.inl rfl) ⟨by rw [rc_15 hk e], I1, Y1, F1⟩
theorem ds_days {d e : Nat} {q : am_A} {s1 : am_Z} {a b c p r t k v : Int} {kd : Int → Nat} (hx : k ≠ 0 → kd k = 13 ∨ kd k = 14 ∨ kd k = 15) (hC : am_C2 20 m_X_days [aR 8 0, aI (zI a), aI (zI b), aI (zI c), aI (zI p)] q (am_OQ e k kd (some (aI (zI v))) q s1)) : am_C2 (d + 21) m_L_does [aR 8 0, aI (zI 3), aI (zI a), aI (zI b), aI (zI c), aI (zI p), aI (zI r), aI (zI t)] q (am_OX e q s1 (am_rc k kd v)) := by
  refine am_C2_i (ls := [some (aR 8 0), some (aI (zI 3)), some (aI (zI a)), some (aI (zI b)), some (aI (zI c)), some (aI (zI p)), some (aI (zI r)), some (aI (zI t)), none]) rfl ?_
  refine ar_iload_n rfl rfl ?_
  refine ar_if_ne rfl rfl (by omega) (fun h1 => ?_) (fun hf => by omega)
  refine ar_iload_n rfl rfl ?_
  refine ar_iconst rfl ?_
  refine ar_icmp_ne rfl rfl (by omega) (by omega) (fun h15 => ?_) (fun hf => by omega)
  refine ar_iload_n rfl rfl ?_
  refine ar_iconst rfl ?_
  refine ar_icmp_ne rfl rfl (by omega) (by omega) (fun h29 => ?_) (fun hf => by omega)
  refine ar_iload_n rfl rfl ?_
  refine ar_iconst rfl ?_
  refine ar_icmp_ne rfl rfl (by omega) (by omega) (fun ht => by omega) (fun h51 => ?_)
  refine ar_aload_n rfl rfl ?_
  refine ar_iload_n rfl rfl ?_
  refine ar_iload_n rfl rfl ?_
  refine ar_iload rfl rfl ?_
  refine ar_iload rfl rfl ?_
  refine ar_cv4 rfl rfl rfl (Nat.le_of_ble_eq_true rfl) hC (by omega) (fun o q1 hq => B2_OQ hq (fun hk I1 Y1 F1 => ?_) (fun hk I1 Y1 F1 => ?_))
  · refine ar_goto rfl rfl ?_
    exact ar_iret rfl (Or.inl rfl) ⟨by rw [rc_0 hk], I1, Y1, F1⟩
  · rcases hx hk with e | e | e
    · rw [e]
      refine B2_H rfl rfl (Nat.le_of_ble_eq_true rfl) ?_
      refine ar_ldc (x := -3000000) rfl rfl ?_
      exact ar_iret rfl (Or.inl rfl) ⟨by rw [rc_13 hk e], I1, Y1, F1⟩
    · rw [e]
      refine B2_H rfl rfl (Nat.le_of_ble_eq_true rfl) ?_
      refine ar_ldc (x := -2000000) rfl rfl ?_
      exact ar_iret rfl (Or.inl rfl) ⟨by rw [rc_14 hk e], I1, Y1, F1⟩
    · rw [e]
      refine B2_H rfl rfl (Nat.le_of_ble_eq_true rfl) ?_
      refine ar_ldc (x := -1000000) rfl rfl ?_
      exact ar_iret rfl (Or.inl rfl) ⟨by rw [rc_15 hk e], I1, Y1, F1⟩
theorem ds_limit {d e : Nat} {q : am_A} {s1 : am_Z} {a b c p r t k v : Int} {kd : Int → Nat} (hx : k ≠ 0 → kd k = 13 ∨ kd k = 14 ∨ kd k = 15) (hC : am_C2 20 m_X_limit [aR 8 0, aI (zI a), aI (zI b), aI (zI c)] q (am_OQ e k kd (some (aI (zI v))) q s1)) : am_C2 (d + 21) m_L_does [aR 8 0, aI (zI 4), aI (zI a), aI (zI b), aI (zI c), aI (zI p), aI (zI r), aI (zI t)] q (am_OX e q s1 (am_rc k kd v)) := by
  refine am_C2_i (ls := [some (aR 8 0), some (aI (zI 4)), some (aI (zI a)), some (aI (zI b)), some (aI (zI c)), some (aI (zI p)), some (aI (zI r)), some (aI (zI t)), none]) rfl ?_
  refine ar_iload_n rfl rfl ?_
  refine ar_if_ne rfl rfl (by omega) (fun h1 => ?_) (fun hf => by omega)
  refine ar_iload_n rfl rfl ?_
  refine ar_iconst rfl ?_
  refine ar_icmp_ne rfl rfl (by omega) (by omega) (fun h15 => ?_) (fun hf => by omega)
  refine ar_iload_n rfl rfl ?_
  refine ar_iconst rfl ?_
  refine ar_icmp_ne rfl rfl (by omega) (by omega) (fun h29 => ?_) (fun hf => by omega)
  refine ar_iload_n rfl rfl ?_
  refine ar_iconst rfl ?_
  refine ar_icmp_ne rfl rfl (by omega) (by omega) (fun h51 => ?_) (fun hf => by omega)
  refine ar_iload_n rfl rfl ?_
  refine ar_iconst rfl ?_
  refine ar_icmp_ne rfl rfl (by omega) (by omega) (fun ht => by omega) (fun h69 => ?_)
  refine ar_aload_n rfl rfl ?_
  refine ar_iload_n rfl rfl ?_
  refine ar_iload_n rfl rfl ?_
  refine ar_iload rfl rfl ?_
  refine ar_cv3 rfl rfl rfl (Nat.le_of_ble_eq_true rfl) hC (by omega) (fun o q1 hq => B2_OQ hq (fun hk I1 Y1 F1 => ?_) (fun hk I1 Y1 F1 => ?_))
  · refine ar_goto rfl rfl ?_
    exact ar_iret rfl (Or.inl rfl) ⟨by rw [rc_0 hk], I1, Y1, F1⟩
  · rcases hx hk with e | e | e
    · rw [e]
      refine B2_H rfl rfl (Nat.le_of_ble_eq_true rfl) ?_
      refine ar_ldc (x := -3000000) rfl rfl ?_
      exact ar_iret rfl (Or.inl rfl) ⟨by rw [rc_13 hk e], I1, Y1, F1⟩
    · rw [e]
      refine B2_H rfl rfl (Nat.le_of_ble_eq_true rfl) ?_
      refine ar_ldc (x := -2000000) rfl rfl ?_
      exact ar_iret rfl (Or.inl rfl) ⟨by rw [rc_14 hk e], I1, Y1, F1⟩
    · rw [e]
      refine B2_H rfl rfl (Nat.le_of_ble_eq_true rfl) ?_
      refine ar_ldc (x := -1000000) rfl rfl ?_
      exact ar_iret rfl (Or.inl rfl) ⟨by rw [rc_15 hk e], I1, Y1, F1⟩
theorem ds_link {d e : Nat} {q : am_A} {s1 : am_Z} {a b c p r t k v : Int} {kd : Int → Nat} (hc : in32 c) (hx : k ≠ 0 → kd k = 13 ∨ kd k = 14 ∨ kd k = 15) (hC : am_C2 20 m_X_link [aR 8 0, aI (zI a), aI (zI b), aI (zI (if c = 1 then 1 else 0))] q (am_OQ e k kd (some (aI (zI v))) q s1)) : am_C2 (d + 21) m_L_does [aR 8 0, aI (zI 5), aI (zI a), aI (zI b), aI (zI c), aI (zI p), aI (zI r), aI (zI t)] q (am_OX e q s1 (am_rc k kd v)) := by
  refine am_C2_i (ls := [some (aR 8 0), some (aI (zI 5)), some (aI (zI a)), some (aI (zI b)), some (aI (zI c)), some (aI (zI p)), some (aI (zI r)), some (aI (zI t)), none]) rfl ?_
  refine ar_iload_n rfl rfl ?_
  refine ar_if_ne rfl rfl (by omega) (fun h1 => ?_) (fun hf => by omega)
  refine ar_iload_n rfl rfl ?_
  refine ar_iconst rfl ?_
  refine ar_icmp_ne rfl rfl (by omega) (by omega) (fun h15 => ?_) (fun hf => by omega)
  refine ar_iload_n rfl rfl ?_
  refine ar_iconst rfl ?_
  refine ar_icmp_ne rfl rfl (by omega) (by omega) (fun h29 => ?_) (fun hf => by omega)
  refine ar_iload_n rfl rfl ?_
  refine ar_iconst rfl ?_
  refine ar_icmp_ne rfl rfl (by omega) (by omega) (fun h51 => ?_) (fun hf => by omega)
  refine ar_iload_n rfl rfl ?_
  refine ar_iconst rfl ?_
  refine ar_icmp_ne rfl rfl (by omega) (by omega) (fun h69 => ?_) (fun hf => by omega)
  refine ar_iload_n rfl rfl ?_
  refine ar_iconst rfl ?_
  refine ar_icmp_ne rfl rfl (by omega) (by omega) (fun ht => by omega) (fun h85 => ?_)
  refine ar_aload_n rfl rfl ?_
  refine ar_iload_n rfl rfl ?_
  refine ar_iload_n rfl rfl ?_
  refine cq_join (pc' := 102) (V := if c = 1 then 1 else 0) ?_ (fun K102 => ?_)
  · refine ar_cv3 rfl rfl rfl (Nat.le_of_ble_eq_true rfl) hC (by omega) (fun o q1 hq => B2_OQ hq (fun hk I1 Y1 F1 => ?_) (fun hk I1 Y1 F1 => ?_))
    · refine ar_goto rfl rfl ?_
      exact ar_iret rfl (Or.inl rfl) ⟨by rw [rc_0 hk], I1, Y1, F1⟩
    · rcases hx hk with e | e | e
      · rw [e]
        refine B2_H rfl rfl (Nat.le_of_ble_eq_true rfl) ?_
        refine ar_ldc (x := -3000000) rfl rfl ?_
        exact ar_iret rfl (Or.inl rfl) ⟨by rw [rc_13 hk e], I1, Y1, F1⟩
      · rw [e]
        refine B2_H rfl rfl (Nat.le_of_ble_eq_true rfl) ?_
        refine ar_ldc (x := -2000000) rfl rfl ?_
        exact ar_iret rfl (Or.inl rfl) ⟨by rw [rc_14 hk e], I1, Y1, F1⟩
      · rw [e]
        refine B2_H rfl rfl (Nat.le_of_ble_eq_true rfl) ?_
        refine ar_ldc (x := -1000000) rfl rfl ?_
        exact ar_iret rfl (Or.inl rfl) ⟨by rw [rc_15 hk e], I1, Y1, F1⟩
  · refine ar_iload rfl rfl ?_
    refine ar_iconst rfl ?_
    refine ar_icmp_ne rfl rfl (by omega) (by omega) (fun h94 => ?_) (fun h94 => ?_)
    · refine ar_iconst rfl ?_
      exact K102 _ (by first | omega | (simp_all) | (split <;> omega))
    · refine ar_iconst rfl ?_
      refine ar_goto rfl rfl ?_
      exact K102 _ (by first | omega | (simp_all) | (split <;> omega))
theorem ds_fare {d e : Nat} {q : am_A} {s1 : am_Z} {a b c p r t k v : Int} {kd : Int → Nat} (hx : k ≠ 0 → kd k = 13 ∨ kd k = 14 ∨ kd k = 15) (hC : am_C2 20 m_X_fare [aR 8 0, aI (zI a), aI (zI b), aI (zI c), aI (zI p), aI (zI r)] q (am_OQ e k kd (some (aI (zI v))) q s1)) : am_C2 (d + 21) m_L_does [aR 8 0, aI (zI 6), aI (zI a), aI (zI b), aI (zI c), aI (zI p), aI (zI r), aI (zI t)] q (am_OX e q s1 (am_rc k kd v)) := by
  refine am_C2_i (ls := [some (aR 8 0), some (aI (zI 6)), some (aI (zI a)), some (aI (zI b)), some (aI (zI c)), some (aI (zI p)), some (aI (zI r)), some (aI (zI t)), none]) rfl ?_
  refine ar_iload_n rfl rfl ?_
  refine ar_if_ne rfl rfl (by omega) (fun h1 => ?_) (fun hf => by omega)
  refine ar_iload_n rfl rfl ?_
  refine ar_iconst rfl ?_
  refine ar_icmp_ne rfl rfl (by omega) (by omega) (fun h15 => ?_) (fun hf => by omega)
  refine ar_iload_n rfl rfl ?_
  refine ar_iconst rfl ?_
  refine ar_icmp_ne rfl rfl (by omega) (by omega) (fun h29 => ?_) (fun hf => by omega)
  refine ar_iload_n rfl rfl ?_
  refine ar_iconst rfl ?_
  refine ar_icmp_ne rfl rfl (by omega) (by omega) (fun h51 => ?_) (fun hf => by omega)
  refine ar_iload_n rfl rfl ?_
  refine ar_iconst rfl ?_
  refine ar_icmp_ne rfl rfl (by omega) (by omega) (fun h69 => ?_) (fun hf => by omega)
  refine ar_iload_n rfl rfl ?_
  refine ar_iconst rfl ?_
  refine ar_icmp_ne rfl rfl (by omega) (by omega) (fun h85 => ?_) (fun hf => by omega)
  refine ar_iload_n rfl rfl ?_
  refine ar_bipush (x := 6) rfl rfl ?_
  refine ar_icmp_ne rfl rfl (by omega) (by omega) (fun ht => by omega) (fun h111 => ?_)
  refine ar_aload_n rfl rfl ?_
  refine ar_iload_n rfl rfl ?_
  refine ar_iload_n rfl rfl ?_
  refine ar_iload rfl rfl ?_
  refine ar_iload rfl rfl ?_
  refine ar_iload rfl rfl ?_
  refine ar_cv5 rfl rfl rfl (Nat.le_of_ble_eq_true rfl) hC (by omega) (fun o q1 hq => B2_OQ hq (fun hk I1 Y1 F1 => ?_) (fun hk I1 Y1 F1 => ?_))
  · refine ar_goto rfl rfl ?_
    exact ar_iret rfl (Or.inl rfl) ⟨by rw [rc_0 hk], I1, Y1, F1⟩
  · rcases hx hk with e | e | e
    · rw [e]
      refine B2_H rfl rfl (Nat.le_of_ble_eq_true rfl) ?_
      refine ar_ldc (x := -3000000) rfl rfl ?_
      exact ar_iret rfl (Or.inl rfl) ⟨by rw [rc_13 hk e], I1, Y1, F1⟩
    · rw [e]
      refine B2_H rfl rfl (Nat.le_of_ble_eq_true rfl) ?_
      refine ar_ldc (x := -2000000) rfl rfl ?_
      exact ar_iret rfl (Or.inl rfl) ⟨by rw [rc_14 hk e], I1, Y1, F1⟩
    · rw [e]
      refine B2_H rfl rfl (Nat.le_of_ble_eq_true rfl) ?_
      refine ar_ldc (x := -1000000) rfl rfl ?_
      exact ar_iret rfl (Or.inl rfl) ⟨by rw [rc_15 hk e], I1, Y1, F1⟩
theorem ds_back {d e : Nat} {q : am_A} {s1 : am_Z} {a b c p r t k v : Int} {kd : Int → Nat} (hx : k ≠ 0 → kd k = 13 ∨ kd k = 14 ∨ kd k = 15) (hC : am_C2 20 m_X_back [aR 8 0, aI (zI a), aI (zI b)] q (am_OQ e k kd (some (aI (zI v))) q s1)) : am_C2 (d + 21) m_L_does [aR 8 0, aI (zI 7), aI (zI a), aI (zI b), aI (zI c), aI (zI p), aI (zI r), aI (zI t)] q (am_OX e q s1 (am_rc k kd v)) := by
  refine am_C2_i (ls := [some (aR 8 0), some (aI (zI 7)), some (aI (zI a)), some (aI (zI b)), some (aI (zI c)), some (aI (zI p)), some (aI (zI r)), some (aI (zI t)), none]) rfl ?_
  refine ar_iload_n rfl rfl ?_
  refine ar_if_ne rfl rfl (by omega) (fun h1 => ?_) (fun hf => by omega)
  refine ar_iload_n rfl rfl ?_
  refine ar_iconst rfl ?_
  refine ar_icmp_ne rfl rfl (by omega) (by omega) (fun h15 => ?_) (fun hf => by omega)
  refine ar_iload_n rfl rfl ?_
  refine ar_iconst rfl ?_
  refine ar_icmp_ne rfl rfl (by omega) (by omega) (fun h29 => ?_) (fun hf => by omega)
  refine ar_iload_n rfl rfl ?_
  refine ar_iconst rfl ?_
  refine ar_icmp_ne rfl rfl (by omega) (by omega) (fun h51 => ?_) (fun hf => by omega)
  refine ar_iload_n rfl rfl ?_
  refine ar_iconst rfl ?_
  refine ar_icmp_ne rfl rfl (by omega) (by omega) (fun h69 => ?_) (fun hf => by omega)
  refine ar_iload_n rfl rfl ?_
  refine ar_iconst rfl ?_
  refine ar_icmp_ne rfl rfl (by omega) (by omega) (fun h85 => ?_) (fun hf => by omega)
  refine ar_iload_n rfl rfl ?_
  refine ar_bipush (x := 6) rfl rfl ?_
  refine ar_icmp_ne rfl rfl (by omega) (by omega) (fun h111 => ?_) (fun hf => by omega)
  refine ar_iload_n rfl rfl ?_
  refine ar_bipush (x := 7) rfl rfl ?_
  refine ar_icmp_ne rfl rfl (by omega) (by omega) (fun ht => by omega) (fun h132 => ?_)
  refine ar_aload_n rfl rfl ?_
  refine ar_iload_n rfl rfl ?_
  refine ar_iload_n rfl rfl ?_
  refine ar_cv2 rfl rfl rfl (Nat.le_of_ble_eq_true rfl) hC (by omega) (fun o q1 hq => B2_OQ hq (fun hk I1 Y1 F1 => ?_) (fun hk I1 Y1 F1 => ?_))
  · refine ar_goto rfl rfl ?_
    exact ar_iret rfl (Or.inl rfl) ⟨by rw [rc_0 hk], I1, Y1, F1⟩
  · rcases hx hk with e | e | e
    · rw [e]
      refine B2_H rfl rfl (Nat.le_of_ble_eq_true rfl) ?_
      refine ar_ldc (x := -3000000) rfl rfl ?_
      exact ar_iret rfl (Or.inl rfl) ⟨by rw [rc_13 hk e], I1, Y1, F1⟩
    · rw [e]
      refine B2_H rfl rfl (Nat.le_of_ble_eq_true rfl) ?_
      refine ar_ldc (x := -2000000) rfl rfl ?_
      exact ar_iret rfl (Or.inl rfl) ⟨by rw [rc_14 hk e], I1, Y1, F1⟩
    · rw [e]
      refine B2_H rfl rfl (Nat.le_of_ble_eq_true rfl) ?_
      refine ar_ldc (x := -1000000) rfl rfl ?_
      exact ar_iret rfl (Or.inl rfl) ⟨by rw [rc_15 hk e], I1, Y1, F1⟩
theorem ds_cancelLeg {d e : Nat} {q : am_A} {s1 : am_Z} {a b c p r t k v : Int} {kd : Int → Nat} (hx : k ≠ 0 → kd k = 13 ∨ kd k = 14 ∨ kd k = 15) (hC : am_C2 20 m_X_cancelLeg [aR 8 0, aI (zI a)] q (am_OQ e k kd (some (aI (zI v))) q s1)) : am_C2 (d + 21) m_L_does [aR 8 0, aI (zI 8), aI (zI a), aI (zI b), aI (zI c), aI (zI p), aI (zI r), aI (zI t)] q (am_OX e q s1 (am_rc k kd v)) := by
  refine am_C2_i (ls := [some (aR 8 0), some (aI (zI 8)), some (aI (zI a)), some (aI (zI b)), some (aI (zI c)), some (aI (zI p)), some (aI (zI r)), some (aI (zI t)), none]) rfl ?_
  refine ar_iload_n rfl rfl ?_
  refine ar_if_ne rfl rfl (by omega) (fun h1 => ?_) (fun hf => by omega)
  refine ar_iload_n rfl rfl ?_
  refine ar_iconst rfl ?_
  refine ar_icmp_ne rfl rfl (by omega) (by omega) (fun h15 => ?_) (fun hf => by omega)
  refine ar_iload_n rfl rfl ?_
  refine ar_iconst rfl ?_
  refine ar_icmp_ne rfl rfl (by omega) (by omega) (fun h29 => ?_) (fun hf => by omega)
  refine ar_iload_n rfl rfl ?_
  refine ar_iconst rfl ?_
  refine ar_icmp_ne rfl rfl (by omega) (by omega) (fun h51 => ?_) (fun hf => by omega)
  refine ar_iload_n rfl rfl ?_
  refine ar_iconst rfl ?_
  refine ar_icmp_ne rfl rfl (by omega) (by omega) (fun h69 => ?_) (fun hf => by omega)
  refine ar_iload_n rfl rfl ?_
  refine ar_iconst rfl ?_
  refine ar_icmp_ne rfl rfl (by omega) (by omega) (fun h85 => ?_) (fun hf => by omega)
  refine ar_iload_n rfl rfl ?_
  refine ar_bipush (x := 6) rfl rfl ?_
  refine ar_icmp_ne rfl rfl (by omega) (by omega) (fun h111 => ?_) (fun hf => by omega)
  refine ar_iload_n rfl rfl ?_
  refine ar_bipush (x := 7) rfl rfl ?_
  refine ar_icmp_ne rfl rfl (by omega) (by omega) (fun h132 => ?_) (fun hf => by omega)
  refine ar_iload_n rfl rfl ?_
  refine ar_bipush (x := 8) rfl rfl ?_
  refine ar_icmp_ne rfl rfl (by omega) (by omega) (fun ht => by omega) (fun h147 => ?_)
  refine ar_aload_n rfl rfl ?_
  refine ar_iload_n rfl rfl ?_
  refine ar_cv1 rfl rfl rfl (Nat.le_of_ble_eq_true rfl) hC (by omega) (fun o q1 hq => B2_OQ hq (fun hk I1 Y1 F1 => ?_) (fun hk I1 Y1 F1 => ?_))
  · refine ar_goto rfl rfl ?_
    exact ar_iret rfl (Or.inl rfl) ⟨by rw [rc_0 hk], I1, Y1, F1⟩
  · rcases hx hk with e | e | e
    · rw [e]
      refine B2_H rfl rfl (Nat.le_of_ble_eq_true rfl) ?_
      refine ar_ldc (x := -3000000) rfl rfl ?_
      exact ar_iret rfl (Or.inl rfl) ⟨by rw [rc_13 hk e], I1, Y1, F1⟩
    · rw [e]
      refine B2_H rfl rfl (Nat.le_of_ble_eq_true rfl) ?_
      refine ar_ldc (x := -2000000) rfl rfl ?_
      exact ar_iret rfl (Or.inl rfl) ⟨by rw [rc_14 hk e], I1, Y1, F1⟩
    · rw [e]
      refine B2_H rfl rfl (Nat.le_of_ble_eq_true rfl) ?_
      refine ar_ldc (x := -1000000) rfl rfl ?_
      exact ar_iret rfl (Or.inl rfl) ⟨by rw [rc_15 hk e], I1, Y1, F1⟩
theorem ds_delay {d e : Nat} {q : am_A} {s1 : am_Z} {a b c p r t k v : Int} {kd : Int → Nat} (hx : k ≠ 0 → kd k = 13 ∨ kd k = 14 ∨ kd k = 15) (hC : am_C2 20 m_X_delay [aR 8 0, aI (zI a), aI (zI b)] q (am_OQ e k kd (some (aI (zI v))) q s1)) : am_C2 (d + 21) m_L_does [aR 8 0, aI (zI 9), aI (zI a), aI (zI b), aI (zI c), aI (zI p), aI (zI r), aI (zI t)] q (am_OX e q s1 (am_rc k kd v)) := by
  refine am_C2_i (ls := [some (aR 8 0), some (aI (zI 9)), some (aI (zI a)), some (aI (zI b)), some (aI (zI c)), some (aI (zI p)), some (aI (zI r)), some (aI (zI t)), none]) rfl ?_
  refine ar_iload_n rfl rfl ?_
  refine ar_if_ne rfl rfl (by omega) (fun h1 => ?_) (fun hf => by omega)
  refine ar_iload_n rfl rfl ?_
  refine ar_iconst rfl ?_
  refine ar_icmp_ne rfl rfl (by omega) (by omega) (fun h15 => ?_) (fun hf => by omega)
  refine ar_iload_n rfl rfl ?_
  refine ar_iconst rfl ?_
  refine ar_icmp_ne rfl rfl (by omega) (by omega) (fun h29 => ?_) (fun hf => by omega)
  refine ar_iload_n rfl rfl ?_
  refine ar_iconst rfl ?_
  refine ar_icmp_ne rfl rfl (by omega) (by omega) (fun h51 => ?_) (fun hf => by omega)
  refine ar_iload_n rfl rfl ?_
  refine ar_iconst rfl ?_
  refine ar_icmp_ne rfl rfl (by omega) (by omega) (fun h69 => ?_) (fun hf => by omega)
  refine ar_iload_n rfl rfl ?_
  refine ar_iconst rfl ?_
  refine ar_icmp_ne rfl rfl (by omega) (by omega) (fun h85 => ?_) (fun hf => by omega)
  refine ar_iload_n rfl rfl ?_
  refine ar_bipush (x := 6) rfl rfl ?_
  refine ar_icmp_ne rfl rfl (by omega) (by omega) (fun h111 => ?_) (fun hf => by omega)
  refine ar_iload_n rfl rfl ?_
  refine ar_bipush (x := 7) rfl rfl ?_
  refine ar_icmp_ne rfl rfl (by omega) (by omega) (fun h132 => ?_) (fun hf => by omega)
  refine ar_iload_n rfl rfl ?_
  refine ar_bipush (x := 8) rfl rfl ?_
  refine ar_icmp_ne rfl rfl (by omega) (by omega) (fun h147 => ?_) (fun hf => by omega)
  refine ar_iload_n rfl rfl ?_
  refine ar_bipush (x := 9) rfl rfl ?_
  refine ar_icmp_ne rfl rfl (by omega) (by omega) (fun ht => by omega) (fun h161 => ?_)
  refine ar_aload_n rfl rfl ?_
  refine ar_iload_n rfl rfl ?_
  refine ar_iload_n rfl rfl ?_
  refine ar_cv2 rfl rfl rfl (Nat.le_of_ble_eq_true rfl) hC (by omega) (fun o q1 hq => B2_OQ hq (fun hk I1 Y1 F1 => ?_) (fun hk I1 Y1 F1 => ?_))
  · refine ar_goto rfl rfl ?_
    exact ar_iret rfl (Or.inl rfl) ⟨by rw [rc_0 hk], I1, Y1, F1⟩
  · rcases hx hk with e | e | e
    · rw [e]
      refine B2_H rfl rfl (Nat.le_of_ble_eq_true rfl) ?_
      refine ar_ldc (x := -3000000) rfl rfl ?_
      exact ar_iret rfl (Or.inl rfl) ⟨by rw [rc_13 hk e], I1, Y1, F1⟩
    · rw [e]
      refine B2_H rfl rfl (Nat.le_of_ble_eq_true rfl) ?_
      refine ar_ldc (x := -2000000) rfl rfl ?_
      exact ar_iret rfl (Or.inl rfl) ⟨by rw [rc_14 hk e], I1, Y1, F1⟩
    · rw [e]
      refine B2_H rfl rfl (Nat.le_of_ble_eq_true rfl) ?_
      refine ar_ldc (x := -1000000) rfl rfl ?_
      exact ar_iret rfl (Or.inl rfl) ⟨by rw [rc_15 hk e], I1, Y1, F1⟩
theorem ds_leg {d e : Nat} {q : am_A} {s1 : am_Z} {a b c p r t k v : Int} {kd : Int → Nat} (hx : k ≠ 0 → kd k = 13 ∨ kd k = 14 ∨ kd k = 15) (hC : am_C2 20 m_X_leg [aR 8 0, aI (zI a)] q (am_OQ e k kd (some (aI (zI v))) q s1)) : am_C2 (d + 21) m_L_does [aR 8 0, aI (zI 10), aI (zI a), aI (zI b), aI (zI c), aI (zI p), aI (zI r), aI (zI t)] q (am_OX e q s1 (am_rc k kd v)) := by
  refine am_C2_i (ls := [some (aR 8 0), some (aI (zI 10)), some (aI (zI a)), some (aI (zI b)), some (aI (zI c)), some (aI (zI p)), some (aI (zI r)), some (aI (zI t)), none]) rfl ?_
  refine ar_iload_n rfl rfl ?_
  refine ar_if_ne rfl rfl (by omega) (fun h1 => ?_) (fun hf => by omega)
  refine ar_iload_n rfl rfl ?_
  refine ar_iconst rfl ?_
  refine ar_icmp_ne rfl rfl (by omega) (by omega) (fun h15 => ?_) (fun hf => by omega)
  refine ar_iload_n rfl rfl ?_
  refine ar_iconst rfl ?_
  refine ar_icmp_ne rfl rfl (by omega) (by omega) (fun h29 => ?_) (fun hf => by omega)
  refine ar_iload_n rfl rfl ?_
  refine ar_iconst rfl ?_
  refine ar_icmp_ne rfl rfl (by omega) (by omega) (fun h51 => ?_) (fun hf => by omega)
  refine ar_iload_n rfl rfl ?_
  refine ar_iconst rfl ?_
  refine ar_icmp_ne rfl rfl (by omega) (by omega) (fun h69 => ?_) (fun hf => by omega)
  refine ar_iload_n rfl rfl ?_
  refine ar_iconst rfl ?_
  refine ar_icmp_ne rfl rfl (by omega) (by omega) (fun h85 => ?_) (fun hf => by omega)
  refine ar_iload_n rfl rfl ?_
  refine ar_bipush (x := 6) rfl rfl ?_
  refine ar_icmp_ne rfl rfl (by omega) (by omega) (fun h111 => ?_) (fun hf => by omega)
  refine ar_iload_n rfl rfl ?_
  refine ar_bipush (x := 7) rfl rfl ?_
  refine ar_icmp_ne rfl rfl (by omega) (by omega) (fun h132 => ?_) (fun hf => by omega)
  refine ar_iload_n rfl rfl ?_
  refine ar_bipush (x := 8) rfl rfl ?_
  refine ar_icmp_ne rfl rfl (by omega) (by omega) (fun h147 => ?_) (fun hf => by omega)
  refine ar_iload_n rfl rfl ?_
  refine ar_bipush (x := 9) rfl rfl ?_
  refine ar_icmp_ne rfl rfl (by omega) (by omega) (fun h161 => ?_) (fun hf => by omega)
  refine ar_iload_n rfl rfl ?_
  refine ar_bipush (x := 10) rfl rfl ?_
  refine ar_icmp_ne rfl rfl (by omega) (by omega) (fun ht => by omega) (fun h176 => ?_)
  refine ar_aload_n rfl rfl ?_
  refine ar_iload_n rfl rfl ?_
  refine ar_cv1 rfl rfl rfl (Nat.le_of_ble_eq_true rfl) hC (by omega) (fun o q1 hq => B2_OQ hq (fun hk I1 Y1 F1 => ?_) (fun hk I1 Y1 F1 => ?_))
  · refine ar_goto rfl rfl ?_
    exact ar_iret rfl (Or.inl rfl) ⟨by rw [rc_0 hk], I1, Y1, F1⟩
  · rcases hx hk with e | e | e
    · rw [e]
      refine B2_H rfl rfl (Nat.le_of_ble_eq_true rfl) ?_
      refine ar_ldc (x := -3000000) rfl rfl ?_
      exact ar_iret rfl (Or.inl rfl) ⟨by rw [rc_13 hk e], I1, Y1, F1⟩
    · rw [e]
      refine B2_H rfl rfl (Nat.le_of_ble_eq_true rfl) ?_
      refine ar_ldc (x := -2000000) rfl rfl ?_
      exact ar_iret rfl (Or.inl rfl) ⟨by rw [rc_14 hk e], I1, Y1, F1⟩
    · rw [e]
      refine B2_H rfl rfl (Nat.le_of_ble_eq_true rfl) ?_
      refine ar_ldc (x := -1000000) rfl rfl ?_
      exact ar_iret rfl (Or.inl rfl) ⟨by rw [rc_15 hk e], I1, Y1, F1⟩
theorem ds_price {d e : Nat} {q : am_A} {s1 : am_Z} {a b c p r t k v : Int} {kd : Int → Nat} (hx : k ≠ 0 → kd k = 13 ∨ kd k = 14 ∨ kd k = 15) (hC : am_C2 20 m_X_price [aR 8 0, aI (zI a)] q (am_OQ e k kd (some (aI (zI v))) q s1)) : am_C2 (d + 21) m_L_does [aR 8 0, aI (zI 11), aI (zI a), aI (zI b), aI (zI c), aI (zI p), aI (zI r), aI (zI t)] q (am_OX e q s1 (am_rc k kd v)) := by
  refine am_C2_i (ls := [some (aR 8 0), some (aI (zI 11)), some (aI (zI a)), some (aI (zI b)), some (aI (zI c)), some (aI (zI p)), some (aI (zI r)), some (aI (zI t)), none]) rfl ?_
  refine ar_iload_n rfl rfl ?_
  refine ar_if_ne rfl rfl (by omega) (fun h1 => ?_) (fun hf => by omega)
  refine ar_iload_n rfl rfl ?_
  refine ar_iconst rfl ?_
  refine ar_icmp_ne rfl rfl (by omega) (by omega) (fun h15 => ?_) (fun hf => by omega)
  refine ar_iload_n rfl rfl ?_
  refine ar_iconst rfl ?_
  refine ar_icmp_ne rfl rfl (by omega) (by omega) (fun h29 => ?_) (fun hf => by omega)
  refine ar_iload_n rfl rfl ?_
  refine ar_iconst rfl ?_
  refine ar_icmp_ne rfl rfl (by omega) (by omega) (fun h51 => ?_) (fun hf => by omega)
  refine ar_iload_n rfl rfl ?_
  refine ar_iconst rfl ?_
  refine ar_icmp_ne rfl rfl (by omega) (by omega) (fun h69 => ?_) (fun hf => by omega)
  refine ar_iload_n rfl rfl ?_
  refine ar_iconst rfl ?_
  refine ar_icmp_ne rfl rfl (by omega) (by omega) (fun h85 => ?_) (fun hf => by omega)
  refine ar_iload_n rfl rfl ?_
  refine ar_bipush (x := 6) rfl rfl ?_
  refine ar_icmp_ne rfl rfl (by omega) (by omega) (fun h111 => ?_) (fun hf => by omega)
  refine ar_iload_n rfl rfl ?_
  refine ar_bipush (x := 7) rfl rfl ?_
  refine ar_icmp_ne rfl rfl (by omega) (by omega) (fun h132 => ?_) (fun hf => by omega)
  refine ar_iload_n rfl rfl ?_
  refine ar_bipush (x := 8) rfl rfl ?_
  refine ar_icmp_ne rfl rfl (by omega) (by omega) (fun h147 => ?_) (fun hf => by omega)
  refine ar_iload_n rfl rfl ?_
  refine ar_bipush (x := 9) rfl rfl ?_
  refine ar_icmp_ne rfl rfl (by omega) (by omega) (fun h161 => ?_) (fun hf => by omega)
  refine ar_iload_n rfl rfl ?_
  refine ar_bipush (x := 10) rfl rfl ?_
  refine ar_icmp_ne rfl rfl (by omega) (by omega) (fun h176 => ?_) (fun hf => by omega)
  refine ar_iload_n rfl rfl ?_
  refine ar_bipush (x := 11) rfl rfl ?_
  refine ar_icmp_ne rfl rfl (by omega) (by omega) (fun ht => by omega) (fun h190 => ?_)
  refine ar_aload_n rfl rfl ?_
  refine ar_iload_n rfl rfl ?_
  refine ar_cv1 rfl rfl rfl (Nat.le_of_ble_eq_true rfl) hC (by omega) (fun o q1 hq => B2_OQ hq (fun hk I1 Y1 F1 => ?_) (fun hk I1 Y1 F1 => ?_))
  · refine ar_goto rfl rfl ?_
    exact ar_iret rfl (Or.inl rfl) ⟨by rw [rc_0 hk], I1, Y1, F1⟩
  · rcases hx hk with e | e | e
    · rw [e]
      refine B2_H rfl rfl (Nat.le_of_ble_eq_true rfl) ?_
      refine ar_ldc (x := -3000000) rfl rfl ?_
      exact ar_iret rfl (Or.inl rfl) ⟨by rw [rc_13 hk e], I1, Y1, F1⟩
    · rw [e]
      refine B2_H rfl rfl (Nat.le_of_ble_eq_true rfl) ?_
      refine ar_ldc (x := -2000000) rfl rfl ?_
      exact ar_iret rfl (Or.inl rfl) ⟨by rw [rc_14 hk e], I1, Y1, F1⟩
    · rw [e]
      refine B2_H rfl rfl (Nat.le_of_ble_eq_true rfl) ?_
      refine ar_ldc (x := -1000000) rfl rfl ?_
      exact ar_iret rfl (Or.inl rfl) ⟨by rw [rc_15 hk e], I1, Y1, F1⟩
theorem ds_priceAnew {d e : Nat} {q : am_A} {s1 : am_Z} {a b c p r t k v : Int} {kd : Int → Nat} (hx : k ≠ 0 → kd k = 13 ∨ kd k = 14 ∨ kd k = 15) (hC : am_C2 20 m_X_priceAnew [aR 8 0, aI (zI a)] q (am_OQ e k kd (some (aI (zI v))) q s1)) : am_C2 (d + 21) m_L_does [aR 8 0, aI (zI 12), aI (zI a), aI (zI b), aI (zI c), aI (zI p), aI (zI r), aI (zI t)] q (am_OX e q s1 (am_rc k kd v)) := by
  refine am_C2_i (ls := [some (aR 8 0), some (aI (zI 12)), some (aI (zI a)), some (aI (zI b)), some (aI (zI c)), some (aI (zI p)), some (aI (zI r)), some (aI (zI t)), none]) rfl ?_
  refine ar_iload_n rfl rfl ?_
  refine ar_if_ne rfl rfl (by omega) (fun h1 => ?_) (fun hf => by omega)
  refine ar_iload_n rfl rfl ?_
  refine ar_iconst rfl ?_
  refine ar_icmp_ne rfl rfl (by omega) (by omega) (fun h15 => ?_) (fun hf => by omega)
  refine ar_iload_n rfl rfl ?_
  refine ar_iconst rfl ?_
  refine ar_icmp_ne rfl rfl (by omega) (by omega) (fun h29 => ?_) (fun hf => by omega)
  refine ar_iload_n rfl rfl ?_
  refine ar_iconst rfl ?_
  refine ar_icmp_ne rfl rfl (by omega) (by omega) (fun h51 => ?_) (fun hf => by omega)
  refine ar_iload_n rfl rfl ?_
  refine ar_iconst rfl ?_
  refine ar_icmp_ne rfl rfl (by omega) (by omega) (fun h69 => ?_) (fun hf => by omega)
  refine ar_iload_n rfl rfl ?_
  refine ar_iconst rfl ?_
  refine ar_icmp_ne rfl rfl (by omega) (by omega) (fun h85 => ?_) (fun hf => by omega)
  refine ar_iload_n rfl rfl ?_
  refine ar_bipush (x := 6) rfl rfl ?_
  refine ar_icmp_ne rfl rfl (by omega) (by omega) (fun h111 => ?_) (fun hf => by omega)
  refine ar_iload_n rfl rfl ?_
  refine ar_bipush (x := 7) rfl rfl ?_
  refine ar_icmp_ne rfl rfl (by omega) (by omega) (fun h132 => ?_) (fun hf => by omega)
  refine ar_iload_n rfl rfl ?_
  refine ar_bipush (x := 8) rfl rfl ?_
  refine ar_icmp_ne rfl rfl (by omega) (by omega) (fun h147 => ?_) (fun hf => by omega)
  refine ar_iload_n rfl rfl ?_
  refine ar_bipush (x := 9) rfl rfl ?_
  refine ar_icmp_ne rfl rfl (by omega) (by omega) (fun h161 => ?_) (fun hf => by omega)
  refine ar_iload_n rfl rfl ?_
  refine ar_bipush (x := 10) rfl rfl ?_
  refine ar_icmp_ne rfl rfl (by omega) (by omega) (fun h176 => ?_) (fun hf => by omega)
  refine ar_iload_n rfl rfl ?_
  refine ar_bipush (x := 11) rfl rfl ?_
  refine ar_icmp_ne rfl rfl (by omega) (by omega) (fun h190 => ?_) (fun hf => by omega)
  refine ar_iload_n rfl rfl ?_
  refine ar_bipush (x := 12) rfl rfl ?_
  refine ar_icmp_ne rfl rfl (by omega) (by omega) (fun ht => by omega) (fun h204 => ?_)
  refine ar_aload_n rfl rfl ?_
  refine ar_iload_n rfl rfl ?_
  refine ar_cv1 rfl rfl rfl (Nat.le_of_ble_eq_true rfl) hC (by omega) (fun o q1 hq => B2_OQ hq (fun hk I1 Y1 F1 => ?_) (fun hk I1 Y1 F1 => ?_))
  · refine ar_goto rfl rfl ?_
    exact ar_iret rfl (Or.inl rfl) ⟨by rw [rc_0 hk], I1, Y1, F1⟩
  · rcases hx hk with e | e | e
    · rw [e]
      refine B2_H rfl rfl (Nat.le_of_ble_eq_true rfl) ?_
      refine ar_ldc (x := -3000000) rfl rfl ?_
      exact ar_iret rfl (Or.inl rfl) ⟨by rw [rc_13 hk e], I1, Y1, F1⟩
    · rw [e]
      refine B2_H rfl rfl (Nat.le_of_ble_eq_true rfl) ?_
      refine ar_ldc (x := -2000000) rfl rfl ?_
      exact ar_iret rfl (Or.inl rfl) ⟨by rw [rc_14 hk e], I1, Y1, F1⟩
    · rw [e]
      refine B2_H rfl rfl (Nat.le_of_ble_eq_true rfl) ?_
      refine ar_ldc (x := -1000000) rfl rfl ?_
      exact ar_iret rfl (Or.inl rfl) ⟨by rw [rc_15 hk e], I1, Y1, F1⟩
theorem ds_stretch {d e : Nat} {q : am_A} {s1 : am_Z} {a b c p r t k v : Int} {kd : Int → Nat} (hx : k ≠ 0 → kd k = 13 ∨ kd k = 14 ∨ kd k = 15) (hC : am_C2 20 m_X_stretch [aR 8 0, aI (zI a), aI (zI b)] q (am_OQ e k kd (some (aI (zI v))) q s1)) : am_C2 (d + 21) m_L_does [aR 8 0, aI (zI 13), aI (zI a), aI (zI b), aI (zI c), aI (zI p), aI (zI r), aI (zI t)] q (am_OX e q s1 (am_rc k kd v)) := by
  refine am_C2_i (ls := [some (aR 8 0), some (aI (zI 13)), some (aI (zI a)), some (aI (zI b)), some (aI (zI c)), some (aI (zI p)), some (aI (zI r)), some (aI (zI t)), none]) rfl ?_
  refine ar_iload_n rfl rfl ?_
  refine ar_if_ne rfl rfl (by omega) (fun h1 => ?_) (fun hf => by omega)
  refine ar_iload_n rfl rfl ?_
  refine ar_iconst rfl ?_
  refine ar_icmp_ne rfl rfl (by omega) (by omega) (fun h15 => ?_) (fun hf => by omega)
  refine ar_iload_n rfl rfl ?_
  refine ar_iconst rfl ?_
  refine ar_icmp_ne rfl rfl (by omega) (by omega) (fun h29 => ?_) (fun hf => by omega)
  refine ar_iload_n rfl rfl ?_
  refine ar_iconst rfl ?_
  refine ar_icmp_ne rfl rfl (by omega) (by omega) (fun h51 => ?_) (fun hf => by omega)
  refine ar_iload_n rfl rfl ?_
  refine ar_iconst rfl ?_
  refine ar_icmp_ne rfl rfl (by omega) (by omega) (fun h69 => ?_) (fun hf => by omega)
  refine ar_iload_n rfl rfl ?_
  refine ar_iconst rfl ?_
  refine ar_icmp_ne rfl rfl (by omega) (by omega) (fun h85 => ?_) (fun hf => by omega)
  refine ar_iload_n rfl rfl ?_
  refine ar_bipush (x := 6) rfl rfl ?_
  refine ar_icmp_ne rfl rfl (by omega) (by omega) (fun h111 => ?_) (fun hf => by omega)
  refine ar_iload_n rfl rfl ?_
  refine ar_bipush (x := 7) rfl rfl ?_
  refine ar_icmp_ne rfl rfl (by omega) (by omega) (fun h132 => ?_) (fun hf => by omega)
  refine ar_iload_n rfl rfl ?_
  refine ar_bipush (x := 8) rfl rfl ?_
  refine ar_icmp_ne rfl rfl (by omega) (by omega) (fun h147 => ?_) (fun hf => by omega)
  refine ar_iload_n rfl rfl ?_
  refine ar_bipush (x := 9) rfl rfl ?_
  refine ar_icmp_ne rfl rfl (by omega) (by omega) (fun h161 => ?_) (fun hf => by omega)
  refine ar_iload_n rfl rfl ?_
  refine ar_bipush (x := 10) rfl rfl ?_
  refine ar_icmp_ne rfl rfl (by omega) (by omega) (fun h176 => ?_) (fun hf => by omega)
  refine ar_iload_n rfl rfl ?_
  refine ar_bipush (x := 11) rfl rfl ?_
  refine ar_icmp_ne rfl rfl (by omega) (by omega) (fun h190 => ?_) (fun hf => by omega)
  refine ar_iload_n rfl rfl ?_
  refine ar_bipush (x := 12) rfl rfl ?_
  refine ar_icmp_ne rfl rfl (by omega) (by omega) (fun h204 => ?_) (fun hf => by omega)
  refine ar_iload_n rfl rfl ?_
  refine ar_bipush (x := 13) rfl rfl ?_
  refine ar_icmp_ne rfl rfl (by omega) (by omega) (fun ht => by omega) (fun h218 => ?_)
  refine ar_aload_n rfl rfl ?_
  refine ar_iload_n rfl rfl ?_
  refine ar_iload_n rfl rfl ?_
  refine ar_cv2 rfl rfl rfl (Nat.le_of_ble_eq_true rfl) hC (by omega) (fun o q1 hq => B2_OQ hq (fun hk I1 Y1 F1 => ?_) (fun hk I1 Y1 F1 => ?_))
  · refine ar_goto rfl rfl ?_
    exact ar_iret rfl (Or.inl rfl) ⟨by rw [rc_0 hk], I1, Y1, F1⟩
  · rcases hx hk with e | e | e
    · rw [e]
      refine B2_H rfl rfl (Nat.le_of_ble_eq_true rfl) ?_
      refine ar_ldc (x := -3000000) rfl rfl ?_
      exact ar_iret rfl (Or.inl rfl) ⟨by rw [rc_13 hk e], I1, Y1, F1⟩
    · rw [e]
      refine B2_H rfl rfl (Nat.le_of_ble_eq_true rfl) ?_
      refine ar_ldc (x := -2000000) rfl rfl ?_
      exact ar_iret rfl (Or.inl rfl) ⟨by rw [rc_14 hk e], I1, Y1, F1⟩
    · rw [e]
      refine B2_H rfl rfl (Nat.le_of_ble_eq_true rfl) ?_
      refine ar_ldc (x := -1000000) rfl rfl ?_
      exact ar_iret rfl (Or.inl rfl) ⟨by rw [rc_15 hk e], I1, Y1, F1⟩
theorem ds_hold {d e : Nat} {q : am_A} {s1 : am_Z} {a b c p r t k v : Int} {kd : Int → Nat} (hx : k ≠ 0 → kd k = 13 ∨ kd k = 14 ∨ kd k = 15) (hC : am_C2 20 m_X_hold [aR 8 0, aI (zI a), aI (zI b), aI (zI c)] q (am_OQ e k kd (some (aI (zI v))) q s1)) : am_C2 (d + 21) m_L_does [aR 8 0, aI (zI 14), aI (zI a), aI (zI b), aI (zI c), aI (zI p), aI (zI r), aI (zI t)] q (am_OX e q s1 (am_rc k kd v)) := by
  refine am_C2_i (ls := [some (aR 8 0), some (aI (zI 14)), some (aI (zI a)), some (aI (zI b)), some (aI (zI c)), some (aI (zI p)), some (aI (zI r)), some (aI (zI t)), none]) rfl ?_
  refine ar_iload_n rfl rfl ?_
  refine ar_if_ne rfl rfl (by omega) (fun h1 => ?_) (fun hf => by omega)
  refine ar_iload_n rfl rfl ?_
  refine ar_iconst rfl ?_
  refine ar_icmp_ne rfl rfl (by omega) (by omega) (fun h15 => ?_) (fun hf => by omega)
  refine ar_iload_n rfl rfl ?_
  refine ar_iconst rfl ?_
  refine ar_icmp_ne rfl rfl (by omega) (by omega) (fun h29 => ?_) (fun hf => by omega)
  refine ar_iload_n rfl rfl ?_
  refine ar_iconst rfl ?_
  refine ar_icmp_ne rfl rfl (by omega) (by omega) (fun h51 => ?_) (fun hf => by omega)
  refine ar_iload_n rfl rfl ?_
  refine ar_iconst rfl ?_
  refine ar_icmp_ne rfl rfl (by omega) (by omega) (fun h69 => ?_) (fun hf => by omega)
  refine ar_iload_n rfl rfl ?_
  refine ar_iconst rfl ?_
  refine ar_icmp_ne rfl rfl (by omega) (by omega) (fun h85 => ?_) (fun hf => by omega)
  refine ar_iload_n rfl rfl ?_
  refine ar_bipush (x := 6) rfl rfl ?_
  refine ar_icmp_ne rfl rfl (by omega) (by omega) (fun h111 => ?_) (fun hf => by omega)
  refine ar_iload_n rfl rfl ?_
  refine ar_bipush (x := 7) rfl rfl ?_
  refine ar_icmp_ne rfl rfl (by omega) (by omega) (fun h132 => ?_) (fun hf => by omega)
  refine ar_iload_n rfl rfl ?_
  refine ar_bipush (x := 8) rfl rfl ?_
  refine ar_icmp_ne rfl rfl (by omega) (by omega) (fun h147 => ?_) (fun hf => by omega)
  refine ar_iload_n rfl rfl ?_
  refine ar_bipush (x := 9) rfl rfl ?_
  refine ar_icmp_ne rfl rfl (by omega) (by omega) (fun h161 => ?_) (fun hf => by omega)
  refine ar_iload_n rfl rfl ?_
  refine ar_bipush (x := 10) rfl rfl ?_
  refine ar_icmp_ne rfl rfl (by omega) (by omega) (fun h176 => ?_) (fun hf => by omega)
  refine ar_iload_n rfl rfl ?_
  refine ar_bipush (x := 11) rfl rfl ?_
  refine ar_icmp_ne rfl rfl (by omega) (by omega) (fun h190 => ?_) (fun hf => by omega)
  refine ar_iload_n rfl rfl ?_
  refine ar_bipush (x := 12) rfl rfl ?_
  refine ar_icmp_ne rfl rfl (by omega) (by omega) (fun h204 => ?_) (fun hf => by omega)
  refine ar_iload_n rfl rfl ?_
  refine ar_bipush (x := 13) rfl rfl ?_
  refine ar_icmp_ne rfl rfl (by omega) (by omega) (fun h218 => ?_) (fun hf => by omega)
  refine ar_iload_n rfl rfl ?_
  refine ar_bipush (x := 14) rfl rfl ?_
  refine ar_icmp_ne rfl rfl (by omega) (by omega) (fun ht => by omega) (fun h233 => ?_)
  refine ar_aload_n rfl rfl ?_
  refine ar_iload_n rfl rfl ?_
  refine ar_iload_n rfl rfl ?_
  refine ar_iload rfl rfl ?_
  refine ar_cv3 rfl rfl rfl (Nat.le_of_ble_eq_true rfl) hC (by omega) (fun o q1 hq => B2_OQ hq (fun hk I1 Y1 F1 => ?_) (fun hk I1 Y1 F1 => ?_))
  · refine ar_goto rfl rfl ?_
    exact ar_iret rfl (Or.inl rfl) ⟨by rw [rc_0 hk], I1, Y1, F1⟩
  · rcases hx hk with e | e | e
    · rw [e]
      refine B2_H rfl rfl (Nat.le_of_ble_eq_true rfl) ?_
      refine ar_ldc (x := -3000000) rfl rfl ?_
      exact ar_iret rfl (Or.inl rfl) ⟨by rw [rc_13 hk e], I1, Y1, F1⟩
    · rw [e]
      refine B2_H rfl rfl (Nat.le_of_ble_eq_true rfl) ?_
      refine ar_ldc (x := -2000000) rfl rfl ?_
      exact ar_iret rfl (Or.inl rfl) ⟨by rw [rc_14 hk e], I1, Y1, F1⟩
    · rw [e]
      refine B2_H rfl rfl (Nat.le_of_ble_eq_true rfl) ?_
      refine ar_ldc (x := -1000000) rfl rfl ?_
      exact ar_iret rfl (Or.inl rfl) ⟨by rw [rc_15 hk e], I1, Y1, F1⟩
theorem ds_wish {d e : Nat} {q : am_A} {s1 : am_Z} {a b c p r t k v : Int} {kd : Int → Nat} (hx : k ≠ 0 → kd k = 13 ∨ kd k = 14 ∨ kd k = 15) (hC : am_C2 20 m_X_wish [aR 8 0, aI (zI a), aI (zI b)] q (am_OQ e k kd (some (aI (zI v))) q s1)) : am_C2 (d + 21) m_L_does [aR 8 0, aI (zI 15), aI (zI a), aI (zI b), aI (zI c), aI (zI p), aI (zI r), aI (zI t)] q (am_OX e q s1 (am_rc k kd v)) := by
  refine am_C2_i (ls := [some (aR 8 0), some (aI (zI 15)), some (aI (zI a)), some (aI (zI b)), some (aI (zI c)), some (aI (zI p)), some (aI (zI r)), some (aI (zI t)), none]) rfl ?_
  refine ar_iload_n rfl rfl ?_
  refine ar_if_ne rfl rfl (by omega) (fun h1 => ?_) (fun hf => by omega)
  refine ar_iload_n rfl rfl ?_
  refine ar_iconst rfl ?_
  refine ar_icmp_ne rfl rfl (by omega) (by omega) (fun h15 => ?_) (fun hf => by omega)
  refine ar_iload_n rfl rfl ?_
  refine ar_iconst rfl ?_
  refine ar_icmp_ne rfl rfl (by omega) (by omega) (fun h29 => ?_) (fun hf => by omega)
  refine ar_iload_n rfl rfl ?_
  refine ar_iconst rfl ?_
  refine ar_icmp_ne rfl rfl (by omega) (by omega) (fun h51 => ?_) (fun hf => by omega)
  refine ar_iload_n rfl rfl ?_
  refine ar_iconst rfl ?_
  refine ar_icmp_ne rfl rfl (by omega) (by omega) (fun h69 => ?_) (fun hf => by omega)
  refine ar_iload_n rfl rfl ?_
  refine ar_iconst rfl ?_
  refine ar_icmp_ne rfl rfl (by omega) (by omega) (fun h85 => ?_) (fun hf => by omega)
  refine ar_iload_n rfl rfl ?_
  refine ar_bipush (x := 6) rfl rfl ?_
  refine ar_icmp_ne rfl rfl (by omega) (by omega) (fun h111 => ?_) (fun hf => by omega)
  refine ar_iload_n rfl rfl ?_
  refine ar_bipush (x := 7) rfl rfl ?_
  refine ar_icmp_ne rfl rfl (by omega) (by omega) (fun h132 => ?_) (fun hf => by omega)
  refine ar_iload_n rfl rfl ?_
  refine ar_bipush (x := 8) rfl rfl ?_
  refine ar_icmp_ne rfl rfl (by omega) (by omega) (fun h147 => ?_) (fun hf => by omega)
  refine ar_iload_n rfl rfl ?_
  refine ar_bipush (x := 9) rfl rfl ?_
  refine ar_icmp_ne rfl rfl (by omega) (by omega) (fun h161 => ?_) (fun hf => by omega)
  refine ar_iload_n rfl rfl ?_
  refine ar_bipush (x := 10) rfl rfl ?_
  refine ar_icmp_ne rfl rfl (by omega) (by omega) (fun h176 => ?_) (fun hf => by omega)
  refine ar_iload_n rfl rfl ?_
  refine ar_bipush (x := 11) rfl rfl ?_
  refine ar_icmp_ne rfl rfl (by omega) (by omega) (fun h190 => ?_) (fun hf => by omega)
  refine ar_iload_n rfl rfl ?_
  refine ar_bipush (x := 12) rfl rfl ?_
  refine ar_icmp_ne rfl rfl (by omega) (by omega) (fun h204 => ?_) (fun hf => by omega)
  refine ar_iload_n rfl rfl ?_
  refine ar_bipush (x := 13) rfl rfl ?_
  refine ar_icmp_ne rfl rfl (by omega) (by omega) (fun h218 => ?_) (fun hf => by omega)
  refine ar_iload_n rfl rfl ?_
  refine ar_bipush (x := 14) rfl rfl ?_
  refine ar_icmp_ne rfl rfl (by omega) (by omega) (fun h233 => ?_) (fun hf => by omega)
  refine ar_iload_n rfl rfl ?_
  refine ar_bipush (x := 15) rfl rfl ?_
  refine ar_icmp_ne rfl rfl (by omega) (by omega) (fun ht => by omega) (fun h250 => ?_)
  refine ar_aload_n rfl rfl ?_
  refine ar_iload_n rfl rfl ?_
  refine ar_iload_n rfl rfl ?_
  refine ar_cv2 rfl rfl rfl (Nat.le_of_ble_eq_true rfl) hC (by omega) (fun o q1 hq => B2_OQ hq (fun hk I1 Y1 F1 => ?_) (fun hk I1 Y1 F1 => ?_))
  · refine ar_goto rfl rfl ?_
    exact ar_iret rfl (Or.inl rfl) ⟨by rw [rc_0 hk], I1, Y1, F1⟩
  · rcases hx hk with e | e | e
    · rw [e]
      refine B2_H rfl rfl (Nat.le_of_ble_eq_true rfl) ?_
      refine ar_ldc (x := -3000000) rfl rfl ?_
      exact ar_iret rfl (Or.inl rfl) ⟨by rw [rc_13 hk e], I1, Y1, F1⟩
    · rw [e]
      refine B2_H rfl rfl (Nat.le_of_ble_eq_true rfl) ?_
      refine ar_ldc (x := -2000000) rfl rfl ?_
      exact ar_iret rfl (Or.inl rfl) ⟨by rw [rc_14 hk e], I1, Y1, F1⟩
    · rw [e]
      refine B2_H rfl rfl (Nat.le_of_ble_eq_true rfl) ?_
      refine ar_ldc (x := -1000000) rfl rfl ?_
      exact ar_iret rfl (Or.inl rfl) ⟨by rw [rc_15 hk e], I1, Y1, F1⟩
theorem ds_wished {d e : Nat} {q : am_A} {s1 : am_Z} {a b c p r t k v : Int} {kd : Int → Nat} (hx : k ≠ 0 → kd k = 13 ∨ kd k = 14 ∨ kd k = 15) (hC : am_C2 20 m_X_wished [aR 8 0, aI (zI a)] q (am_OQ e k kd (some (aI (zI v))) q s1)) : am_C2 (d + 21) m_L_does [aR 8 0, aI (zI 16), aI (zI a), aI (zI b), aI (zI c), aI (zI p), aI (zI r), aI (zI t)] q (am_OX e q s1 (am_rc k kd v)) := by
  refine am_C2_i (ls := [some (aR 8 0), some (aI (zI 16)), some (aI (zI a)), some (aI (zI b)), some (aI (zI c)), some (aI (zI p)), some (aI (zI r)), some (aI (zI t)), none]) rfl ?_
  refine ar_iload_n rfl rfl ?_
  refine ar_if_ne rfl rfl (by omega) (fun h1 => ?_) (fun hf => by omega)
  refine ar_iload_n rfl rfl ?_
  refine ar_iconst rfl ?_
  refine ar_icmp_ne rfl rfl (by omega) (by omega) (fun h15 => ?_) (fun hf => by omega)
  refine ar_iload_n rfl rfl ?_
  refine ar_iconst rfl ?_
  refine ar_icmp_ne rfl rfl (by omega) (by omega) (fun h29 => ?_) (fun hf => by omega)
  refine ar_iload_n rfl rfl ?_
  refine ar_iconst rfl ?_
  refine ar_icmp_ne rfl rfl (by omega) (by omega) (fun h51 => ?_) (fun hf => by omega)
  refine ar_iload_n rfl rfl ?_
  refine ar_iconst rfl ?_
  refine ar_icmp_ne rfl rfl (by omega) (by omega) (fun h69 => ?_) (fun hf => by omega)
  refine ar_iload_n rfl rfl ?_
  refine ar_iconst rfl ?_
  refine ar_icmp_ne rfl rfl (by omega) (by omega) (fun h85 => ?_) (fun hf => by omega)
  refine ar_iload_n rfl rfl ?_
  refine ar_bipush (x := 6) rfl rfl ?_
  refine ar_icmp_ne rfl rfl (by omega) (by omega) (fun h111 => ?_) (fun hf => by omega)
  refine ar_iload_n rfl rfl ?_
  refine ar_bipush (x := 7) rfl rfl ?_
  refine ar_icmp_ne rfl rfl (by omega) (by omega) (fun h132 => ?_) (fun hf => by omega)
  refine ar_iload_n rfl rfl ?_
  refine ar_bipush (x := 8) rfl rfl ?_
  refine ar_icmp_ne rfl rfl (by omega) (by omega) (fun h147 => ?_) (fun hf => by omega)
  refine ar_iload_n rfl rfl ?_
  refine ar_bipush (x := 9) rfl rfl ?_
  refine ar_icmp_ne rfl rfl (by omega) (by omega) (fun h161 => ?_) (fun hf => by omega)
  refine ar_iload_n rfl rfl ?_
  refine ar_bipush (x := 10) rfl rfl ?_
  refine ar_icmp_ne rfl rfl (by omega) (by omega) (fun h176 => ?_) (fun hf => by omega)
  refine ar_iload_n rfl rfl ?_
  refine ar_bipush (x := 11) rfl rfl ?_
  refine ar_icmp_ne rfl rfl (by omega) (by omega) (fun h190 => ?_) (fun hf => by omega)
  refine ar_iload_n rfl rfl ?_
  refine ar_bipush (x := 12) rfl rfl ?_
  refine ar_icmp_ne rfl rfl (by omega) (by omega) (fun h204 => ?_) (fun hf => by omega)
  refine ar_iload_n rfl rfl ?_
  refine ar_bipush (x := 13) rfl rfl ?_
  refine ar_icmp_ne rfl rfl (by omega) (by omega) (fun h218 => ?_) (fun hf => by omega)
  refine ar_iload_n rfl rfl ?_
  refine ar_bipush (x := 14) rfl rfl ?_
  refine ar_icmp_ne rfl rfl (by omega) (by omega) (fun h233 => ?_) (fun hf => by omega)
  refine ar_iload_n rfl rfl ?_
  refine ar_bipush (x := 15) rfl rfl ?_
  refine ar_icmp_ne rfl rfl (by omega) (by omega) (fun h250 => ?_) (fun hf => by omega)
  refine ar_iload_n rfl rfl ?_
  refine ar_bipush (x := 16) rfl rfl ?_
  refine ar_icmp_ne rfl rfl (by omega) (by omega) (fun ht => by omega) (fun h265 => ?_)
  refine ar_aload_n rfl rfl ?_
  refine ar_iload_n rfl rfl ?_
  refine ar_cv1 rfl rfl rfl (Nat.le_of_ble_eq_true rfl) hC (by omega) (fun o q1 hq => B2_OQ hq (fun hk I1 Y1 F1 => ?_) (fun hk I1 Y1 F1 => ?_))
  · refine ar_goto rfl rfl ?_
    exact ar_iret rfl (Or.inl rfl) ⟨by rw [rc_0 hk], I1, Y1, F1⟩
  · rcases hx hk with e | e | e
    · rw [e]
      refine B2_H rfl rfl (Nat.le_of_ble_eq_true rfl) ?_
      refine ar_ldc (x := -3000000) rfl rfl ?_
      exact ar_iret rfl (Or.inl rfl) ⟨by rw [rc_13 hk e], I1, Y1, F1⟩
    · rw [e]
      refine B2_H rfl rfl (Nat.le_of_ble_eq_true rfl) ?_
      refine ar_ldc (x := -2000000) rfl rfl ?_
      exact ar_iret rfl (Or.inl rfl) ⟨by rw [rc_14 hk e], I1, Y1, F1⟩
    · rw [e]
      refine B2_H rfl rfl (Nat.le_of_ble_eq_true rfl) ?_
      refine ar_ldc (x := -1000000) rfl rfl ?_
      exact ar_iret rfl (Or.inl rfl) ⟨by rw [rc_15 hk e], I1, Y1, F1⟩
theorem ds_ticket {d e : Nat} {q : am_A} {s1 : am_Z} {a b c p r t k v : Int} {kd : Int → Nat} (hx : k ≠ 0 → kd k = 13 ∨ kd k = 14 ∨ kd k = 15) (hC : am_C2 20 m_X_ticket [aR 8 0, aI (zI a)] q (am_OQ e k kd (some (aI (zI v))) q s1)) : am_C2 (d + 21) m_L_does [aR 8 0, aI (zI 17), aI (zI a), aI (zI b), aI (zI c), aI (zI p), aI (zI r), aI (zI t)] q (am_OX e q s1 (am_rc k kd v)) := by
  refine am_C2_i (ls := [some (aR 8 0), some (aI (zI 17)), some (aI (zI a)), some (aI (zI b)), some (aI (zI c)), some (aI (zI p)), some (aI (zI r)), some (aI (zI t)), none]) rfl ?_
  refine ar_iload_n rfl rfl ?_
  refine ar_if_ne rfl rfl (by omega) (fun h1 => ?_) (fun hf => by omega)
  refine ar_iload_n rfl rfl ?_
  refine ar_iconst rfl ?_
  refine ar_icmp_ne rfl rfl (by omega) (by omega) (fun h15 => ?_) (fun hf => by omega)
  refine ar_iload_n rfl rfl ?_
  refine ar_iconst rfl ?_
  refine ar_icmp_ne rfl rfl (by omega) (by omega) (fun h29 => ?_) (fun hf => by omega)
  refine ar_iload_n rfl rfl ?_
  refine ar_iconst rfl ?_
  refine ar_icmp_ne rfl rfl (by omega) (by omega) (fun h51 => ?_) (fun hf => by omega)
  refine ar_iload_n rfl rfl ?_
  refine ar_iconst rfl ?_
  refine ar_icmp_ne rfl rfl (by omega) (by omega) (fun h69 => ?_) (fun hf => by omega)
  refine ar_iload_n rfl rfl ?_
  refine ar_iconst rfl ?_
  refine ar_icmp_ne rfl rfl (by omega) (by omega) (fun h85 => ?_) (fun hf => by omega)
  refine ar_iload_n rfl rfl ?_
  refine ar_bipush (x := 6) rfl rfl ?_
  refine ar_icmp_ne rfl rfl (by omega) (by omega) (fun h111 => ?_) (fun hf => by omega)
  refine ar_iload_n rfl rfl ?_
  refine ar_bipush (x := 7) rfl rfl ?_
  refine ar_icmp_ne rfl rfl (by omega) (by omega) (fun h132 => ?_) (fun hf => by omega)
  refine ar_iload_n rfl rfl ?_
  refine ar_bipush (x := 8) rfl rfl ?_
  refine ar_icmp_ne rfl rfl (by omega) (by omega) (fun h147 => ?_) (fun hf => by omega)
  refine ar_iload_n rfl rfl ?_
  refine ar_bipush (x := 9) rfl rfl ?_
  refine ar_icmp_ne rfl rfl (by omega) (by omega) (fun h161 => ?_) (fun hf => by omega)
  refine ar_iload_n rfl rfl ?_
  refine ar_bipush (x := 10) rfl rfl ?_
  refine ar_icmp_ne rfl rfl (by omega) (by omega) (fun h176 => ?_) (fun hf => by omega)
  refine ar_iload_n rfl rfl ?_
  refine ar_bipush (x := 11) rfl rfl ?_
  refine ar_icmp_ne rfl rfl (by omega) (by omega) (fun h190 => ?_) (fun hf => by omega)
  refine ar_iload_n rfl rfl ?_
  refine ar_bipush (x := 12) rfl rfl ?_
  refine ar_icmp_ne rfl rfl (by omega) (by omega) (fun h204 => ?_) (fun hf => by omega)
  refine ar_iload_n rfl rfl ?_
  refine ar_bipush (x := 13) rfl rfl ?_
  refine ar_icmp_ne rfl rfl (by omega) (by omega) (fun h218 => ?_) (fun hf => by omega)
  refine ar_iload_n rfl rfl ?_
  refine ar_bipush (x := 14) rfl rfl ?_
  refine ar_icmp_ne rfl rfl (by omega) (by omega) (fun h233 => ?_) (fun hf => by omega)
  refine ar_iload_n rfl rfl ?_
  refine ar_bipush (x := 15) rfl rfl ?_
  refine ar_icmp_ne rfl rfl (by omega) (by omega) (fun h250 => ?_) (fun hf => by omega)
  refine ar_iload_n rfl rfl ?_
  refine ar_bipush (x := 16) rfl rfl ?_
  refine ar_icmp_ne rfl rfl (by omega) (by omega) (fun h265 => ?_) (fun hf => by omega)
  refine ar_iload_n rfl rfl ?_
  refine ar_bipush (x := 17) rfl rfl ?_
  refine ar_icmp_ne rfl rfl (by omega) (by omega) (fun ht => by omega) (fun h279 => ?_)
  refine ar_aload_n rfl rfl ?_
  refine ar_iload_n rfl rfl ?_
  refine ar_cv1 rfl rfl rfl (Nat.le_of_ble_eq_true rfl) hC (by omega) (fun o q1 hq => B2_OQ hq (fun hk I1 Y1 F1 => ?_) (fun hk I1 Y1 F1 => ?_))
  · refine ar_goto rfl rfl ?_
    exact ar_iret rfl (Or.inl rfl) ⟨by rw [rc_0 hk], I1, Y1, F1⟩
  · rcases hx hk with e | e | e
    · rw [e]
      refine B2_H rfl rfl (Nat.le_of_ble_eq_true rfl) ?_
      refine ar_ldc (x := -3000000) rfl rfl ?_
      exact ar_iret rfl (Or.inl rfl) ⟨by rw [rc_13 hk e], I1, Y1, F1⟩
    · rw [e]
      refine B2_H rfl rfl (Nat.le_of_ble_eq_true rfl) ?_
      refine ar_ldc (x := -2000000) rfl rfl ?_
      exact ar_iret rfl (Or.inl rfl) ⟨by rw [rc_14 hk e], I1, Y1, F1⟩
    · rw [e]
      refine B2_H rfl rfl (Nat.le_of_ble_eq_true rfl) ?_
      refine ar_ldc (x := -1000000) rfl rfl ?_
      exact ar_iret rfl (Or.inl rfl) ⟨by rw [rc_15 hk e], I1, Y1, F1⟩
theorem ds_part {d e : Nat} {q : am_A} {s1 : am_Z} {a b c p r t k v : Int} {kd : Int → Nat} (hx : k ≠ 0 → kd k = 13 ∨ kd k = 14 ∨ kd k = 15) (hC : am_C2 20 m_X_part [aR 8 0, aI (zI a), aI (zI b)] q (am_OQ e k kd (some (aI (zI v))) q s1)) : am_C2 (d + 21) m_L_does [aR 8 0, aI (zI 18), aI (zI a), aI (zI b), aI (zI c), aI (zI p), aI (zI r), aI (zI t)] q (am_OX e q s1 (am_rc k kd v)) := by
  refine am_C2_i (ls := [some (aR 8 0), some (aI (zI 18)), some (aI (zI a)), some (aI (zI b)), some (aI (zI c)), some (aI (zI p)), some (aI (zI r)), some (aI (zI t)), none]) rfl ?_
  refine ar_iload_n rfl rfl ?_
  refine ar_if_ne rfl rfl (by omega) (fun h1 => ?_) (fun hf => by omega)
  refine ar_iload_n rfl rfl ?_
  refine ar_iconst rfl ?_
  refine ar_icmp_ne rfl rfl (by omega) (by omega) (fun h15 => ?_) (fun hf => by omega)
  refine ar_iload_n rfl rfl ?_
  refine ar_iconst rfl ?_
  refine ar_icmp_ne rfl rfl (by omega) (by omega) (fun h29 => ?_) (fun hf => by omega)
  refine ar_iload_n rfl rfl ?_
  refine ar_iconst rfl ?_
  refine ar_icmp_ne rfl rfl (by omega) (by omega) (fun h51 => ?_) (fun hf => by omega)
  refine ar_iload_n rfl rfl ?_
  refine ar_iconst rfl ?_
  refine ar_icmp_ne rfl rfl (by omega) (by omega) (fun h69 => ?_) (fun hf => by omega)
  refine ar_iload_n rfl rfl ?_
  refine ar_iconst rfl ?_
  refine ar_icmp_ne rfl rfl (by omega) (by omega) (fun h85 => ?_) (fun hf => by omega)
  refine ar_iload_n rfl rfl ?_
  refine ar_bipush (x := 6) rfl rfl ?_
  refine ar_icmp_ne rfl rfl (by omega) (by omega) (fun h111 => ?_) (fun hf => by omega)
  refine ar_iload_n rfl rfl ?_
  refine ar_bipush (x := 7) rfl rfl ?_
  refine ar_icmp_ne rfl rfl (by omega) (by omega) (fun h132 => ?_) (fun hf => by omega)
  refine ar_iload_n rfl rfl ?_
  refine ar_bipush (x := 8) rfl rfl ?_
  refine ar_icmp_ne rfl rfl (by omega) (by omega) (fun h147 => ?_) (fun hf => by omega)
  refine ar_iload_n rfl rfl ?_
  refine ar_bipush (x := 9) rfl rfl ?_
  refine ar_icmp_ne rfl rfl (by omega) (by omega) (fun h161 => ?_) (fun hf => by omega)
  refine ar_iload_n rfl rfl ?_
  refine ar_bipush (x := 10) rfl rfl ?_
  refine ar_icmp_ne rfl rfl (by omega) (by omega) (fun h176 => ?_) (fun hf => by omega)
  refine ar_iload_n rfl rfl ?_
  refine ar_bipush (x := 11) rfl rfl ?_
  refine ar_icmp_ne rfl rfl (by omega) (by omega) (fun h190 => ?_) (fun hf => by omega)
  refine ar_iload_n rfl rfl ?_
  refine ar_bipush (x := 12) rfl rfl ?_
  refine ar_icmp_ne rfl rfl (by omega) (by omega) (fun h204 => ?_) (fun hf => by omega)
  refine ar_iload_n rfl rfl ?_
  refine ar_bipush (x := 13) rfl rfl ?_
  refine ar_icmp_ne rfl rfl (by omega) (by omega) (fun h218 => ?_) (fun hf => by omega)
  refine ar_iload_n rfl rfl ?_
  refine ar_bipush (x := 14) rfl rfl ?_
  refine ar_icmp_ne rfl rfl (by omega) (by omega) (fun h233 => ?_) (fun hf => by omega)
  refine ar_iload_n rfl rfl ?_
  refine ar_bipush (x := 15) rfl rfl ?_
  refine ar_icmp_ne rfl rfl (by omega) (by omega) (fun h250 => ?_) (fun hf => by omega)
  refine ar_iload_n rfl rfl ?_
  refine ar_bipush (x := 16) rfl rfl ?_
  refine ar_icmp_ne rfl rfl (by omega) (by omega) (fun h265 => ?_) (fun hf => by omega)
  refine ar_iload_n rfl rfl ?_
  refine ar_bipush (x := 17) rfl rfl ?_
  refine ar_icmp_ne rfl rfl (by omega) (by omega) (fun h279 => ?_) (fun hf => by omega)
  refine ar_iload_n rfl rfl ?_
  refine ar_bipush (x := 18) rfl rfl ?_
  refine ar_icmp_ne rfl rfl (by omega) (by omega) (fun ht => by omega) (fun h293 => ?_)
  refine ar_aload_n rfl rfl ?_
  refine ar_iload_n rfl rfl ?_
  refine ar_iload_n rfl rfl ?_
  refine ar_cv2 rfl rfl rfl (Nat.le_of_ble_eq_true rfl) hC (by omega) (fun o q1 hq => B2_OQ hq (fun hk I1 Y1 F1 => ?_) (fun hk I1 Y1 F1 => ?_))
  · refine ar_goto rfl rfl ?_
    exact ar_iret rfl (Or.inl rfl) ⟨by rw [rc_0 hk], I1, Y1, F1⟩
  · rcases hx hk with e | e | e
    · rw [e]
      refine B2_H rfl rfl (Nat.le_of_ble_eq_true rfl) ?_
      refine ar_ldc (x := -3000000) rfl rfl ?_
      exact ar_iret rfl (Or.inl rfl) ⟨by rw [rc_13 hk e], I1, Y1, F1⟩
    · rw [e]
      refine B2_H rfl rfl (Nat.le_of_ble_eq_true rfl) ?_
      refine ar_ldc (x := -2000000) rfl rfl ?_
      exact ar_iret rfl (Or.inl rfl) ⟨by rw [rc_14 hk e], I1, Y1, F1⟩
    · rw [e]
      refine B2_H rfl rfl (Nat.le_of_ble_eq_true rfl) ?_
      refine ar_ldc (x := -1000000) rfl rfl ?_
      exact ar_iret rfl (Or.inl rfl) ⟨by rw [rc_15 hk e], I1, Y1, F1⟩
theorem ds_cancel {d e : Nat} {q : am_A} {s1 : am_Z} {a b c p r t k v : Int} {kd : Int → Nat} (hx : k ≠ 0 → kd k = 13 ∨ kd k = 14 ∨ kd k = 15) (hC : am_C2 20 m_X_cancel [aR 8 0, aI (zI a)] q (am_OQ e k kd (some (aI (zI v))) q s1)) : am_C2 (d + 21) m_L_does [aR 8 0, aI (zI 19), aI (zI a), aI (zI b), aI (zI c), aI (zI p), aI (zI r), aI (zI t)] q (am_OX e q s1 (am_rc k kd v)) := by
  refine am_C2_i (ls := [some (aR 8 0), some (aI (zI 19)), some (aI (zI a)), some (aI (zI b)), some (aI (zI c)), some (aI (zI p)), some (aI (zI r)), some (aI (zI t)), none]) rfl ?_
  refine ar_iload_n rfl rfl ?_
  refine ar_if_ne rfl rfl (by omega) (fun h1 => ?_) (fun hf => by omega)
  refine ar_iload_n rfl rfl ?_
  refine ar_iconst rfl ?_
  refine ar_icmp_ne rfl rfl (by omega) (by omega) (fun h15 => ?_) (fun hf => by omega)
  refine ar_iload_n rfl rfl ?_
  refine ar_iconst rfl ?_
  refine ar_icmp_ne rfl rfl (by omega) (by omega) (fun h29 => ?_) (fun hf => by omega)
  refine ar_iload_n rfl rfl ?_
  refine ar_iconst rfl ?_
  refine ar_icmp_ne rfl rfl (by omega) (by omega) (fun h51 => ?_) (fun hf => by omega)
  refine ar_iload_n rfl rfl ?_
  refine ar_iconst rfl ?_
  refine ar_icmp_ne rfl rfl (by omega) (by omega) (fun h69 => ?_) (fun hf => by omega)
  refine ar_iload_n rfl rfl ?_
  refine ar_iconst rfl ?_
  refine ar_icmp_ne rfl rfl (by omega) (by omega) (fun h85 => ?_) (fun hf => by omega)
  refine ar_iload_n rfl rfl ?_
  refine ar_bipush (x := 6) rfl rfl ?_
  refine ar_icmp_ne rfl rfl (by omega) (by omega) (fun h111 => ?_) (fun hf => by omega)
  refine ar_iload_n rfl rfl ?_
  refine ar_bipush (x := 7) rfl rfl ?_
  refine ar_icmp_ne rfl rfl (by omega) (by omega) (fun h132 => ?_) (fun hf => by omega)
  refine ar_iload_n rfl rfl ?_
  refine ar_bipush (x := 8) rfl rfl ?_
  refine ar_icmp_ne rfl rfl (by omega) (by omega) (fun h147 => ?_) (fun hf => by omega)
  refine ar_iload_n rfl rfl ?_
  refine ar_bipush (x := 9) rfl rfl ?_
  refine ar_icmp_ne rfl rfl (by omega) (by omega) (fun h161 => ?_) (fun hf => by omega)
  refine ar_iload_n rfl rfl ?_
  refine ar_bipush (x := 10) rfl rfl ?_
  refine ar_icmp_ne rfl rfl (by omega) (by omega) (fun h176 => ?_) (fun hf => by omega)
  refine ar_iload_n rfl rfl ?_
  refine ar_bipush (x := 11) rfl rfl ?_
  refine ar_icmp_ne rfl rfl (by omega) (by omega) (fun h190 => ?_) (fun hf => by omega)
  refine ar_iload_n rfl rfl ?_
  refine ar_bipush (x := 12) rfl rfl ?_
  refine ar_icmp_ne rfl rfl (by omega) (by omega) (fun h204 => ?_) (fun hf => by omega)
  refine ar_iload_n rfl rfl ?_
  refine ar_bipush (x := 13) rfl rfl ?_
  refine ar_icmp_ne rfl rfl (by omega) (by omega) (fun h218 => ?_) (fun hf => by omega)
  refine ar_iload_n rfl rfl ?_
  refine ar_bipush (x := 14) rfl rfl ?_
  refine ar_icmp_ne rfl rfl (by omega) (by omega) (fun h233 => ?_) (fun hf => by omega)
  refine ar_iload_n rfl rfl ?_
  refine ar_bipush (x := 15) rfl rfl ?_
  refine ar_icmp_ne rfl rfl (by omega) (by omega) (fun h250 => ?_) (fun hf => by omega)
  refine ar_iload_n rfl rfl ?_
  refine ar_bipush (x := 16) rfl rfl ?_
  refine ar_icmp_ne rfl rfl (by omega) (by omega) (fun h265 => ?_) (fun hf => by omega)
  refine ar_iload_n rfl rfl ?_
  refine ar_bipush (x := 17) rfl rfl ?_
  refine ar_icmp_ne rfl rfl (by omega) (by omega) (fun h279 => ?_) (fun hf => by omega)
  refine ar_iload_n rfl rfl ?_
  refine ar_bipush (x := 18) rfl rfl ?_
  refine ar_icmp_ne rfl rfl (by omega) (by omega) (fun h293 => ?_) (fun hf => by omega)
  refine ar_iload_n rfl rfl ?_
  refine ar_bipush (x := 19) rfl rfl ?_
  refine ar_icmp_ne rfl rfl (by omega) (by omega) (fun ht => by omega) (fun h308 => ?_)
  refine ar_aload_n rfl rfl ?_
  refine ar_iload_n rfl rfl ?_
  refine ar_cv1 rfl rfl rfl (Nat.le_of_ble_eq_true rfl) hC (by omega) (fun o q1 hq => B2_OQ hq (fun hk I1 Y1 F1 => ?_) (fun hk I1 Y1 F1 => ?_))
  · refine ar_goto rfl rfl ?_
    exact ar_iret rfl (Or.inl rfl) ⟨by rw [rc_0 hk], I1, Y1, F1⟩
  · rcases hx hk with e | e | e
    · rw [e]
      refine B2_H rfl rfl (Nat.le_of_ble_eq_true rfl) ?_
      refine ar_ldc (x := -3000000) rfl rfl ?_
      exact ar_iret rfl (Or.inl rfl) ⟨by rw [rc_13 hk e], I1, Y1, F1⟩
    · rw [e]
      refine B2_H rfl rfl (Nat.le_of_ble_eq_true rfl) ?_
      refine ar_ldc (x := -2000000) rfl rfl ?_
      exact ar_iret rfl (Or.inl rfl) ⟨by rw [rc_14 hk e], I1, Y1, F1⟩
    · rw [e]
      refine B2_H rfl rfl (Nat.le_of_ble_eq_true rfl) ?_
      refine ar_ldc (x := -1000000) rfl rfl ?_
      exact ar_iret rfl (Or.inl rfl) ⟨by rw [rc_15 hk e], I1, Y1, F1⟩
theorem ds_booking {d e : Nat} {q : am_A} {s1 : am_Z} {a b c p r t k v : Int} {kd : Int → Nat} (hx : k ≠ 0 → kd k = 13 ∨ kd k = 14 ∨ kd k = 15) (hC : am_C2 20 m_X_booking [aR 8 0, aI (zI a)] q (am_OQ e k kd (some (aI (zI v))) q s1)) : am_C2 (d + 21) m_L_does [aR 8 0, aI (zI 20), aI (zI a), aI (zI b), aI (zI c), aI (zI p), aI (zI r), aI (zI t)] q (am_OX e q s1 (am_rc k kd v)) := by
  refine am_C2_i (ls := [some (aR 8 0), some (aI (zI 20)), some (aI (zI a)), some (aI (zI b)), some (aI (zI c)), some (aI (zI p)), some (aI (zI r)), some (aI (zI t)), none]) rfl ?_
  refine ar_iload_n rfl rfl ?_
  refine ar_if_ne rfl rfl (by omega) (fun h1 => ?_) (fun hf => by omega)
  refine ar_iload_n rfl rfl ?_
  refine ar_iconst rfl ?_
  refine ar_icmp_ne rfl rfl (by omega) (by omega) (fun h15 => ?_) (fun hf => by omega)
  refine ar_iload_n rfl rfl ?_
  refine ar_iconst rfl ?_
  refine ar_icmp_ne rfl rfl (by omega) (by omega) (fun h29 => ?_) (fun hf => by omega)
  refine ar_iload_n rfl rfl ?_
  refine ar_iconst rfl ?_
  refine ar_icmp_ne rfl rfl (by omega) (by omega) (fun h51 => ?_) (fun hf => by omega)
  refine ar_iload_n rfl rfl ?_
  refine ar_iconst rfl ?_
  refine ar_icmp_ne rfl rfl (by omega) (by omega) (fun h69 => ?_) (fun hf => by omega)
  refine ar_iload_n rfl rfl ?_
  refine ar_iconst rfl ?_
  refine ar_icmp_ne rfl rfl (by omega) (by omega) (fun h85 => ?_) (fun hf => by omega)
  refine ar_iload_n rfl rfl ?_
  refine ar_bipush (x := 6) rfl rfl ?_
  refine ar_icmp_ne rfl rfl (by omega) (by omega) (fun h111 => ?_) (fun hf => by omega)
  refine ar_iload_n rfl rfl ?_
  refine ar_bipush (x := 7) rfl rfl ?_
  refine ar_icmp_ne rfl rfl (by omega) (by omega) (fun h132 => ?_) (fun hf => by omega)
  refine ar_iload_n rfl rfl ?_
  refine ar_bipush (x := 8) rfl rfl ?_
  refine ar_icmp_ne rfl rfl (by omega) (by omega) (fun h147 => ?_) (fun hf => by omega)
  refine ar_iload_n rfl rfl ?_
  refine ar_bipush (x := 9) rfl rfl ?_
  refine ar_icmp_ne rfl rfl (by omega) (by omega) (fun h161 => ?_) (fun hf => by omega)
  refine ar_iload_n rfl rfl ?_
  refine ar_bipush (x := 10) rfl rfl ?_
  refine ar_icmp_ne rfl rfl (by omega) (by omega) (fun h176 => ?_) (fun hf => by omega)
  refine ar_iload_n rfl rfl ?_
  refine ar_bipush (x := 11) rfl rfl ?_
  refine ar_icmp_ne rfl rfl (by omega) (by omega) (fun h190 => ?_) (fun hf => by omega)
  refine ar_iload_n rfl rfl ?_
  refine ar_bipush (x := 12) rfl rfl ?_
  refine ar_icmp_ne rfl rfl (by omega) (by omega) (fun h204 => ?_) (fun hf => by omega)
  refine ar_iload_n rfl rfl ?_
  refine ar_bipush (x := 13) rfl rfl ?_
  refine ar_icmp_ne rfl rfl (by omega) (by omega) (fun h218 => ?_) (fun hf => by omega)
  refine ar_iload_n rfl rfl ?_
  refine ar_bipush (x := 14) rfl rfl ?_
  refine ar_icmp_ne rfl rfl (by omega) (by omega) (fun h233 => ?_) (fun hf => by omega)
  refine ar_iload_n rfl rfl ?_
  refine ar_bipush (x := 15) rfl rfl ?_
  refine ar_icmp_ne rfl rfl (by omega) (by omega) (fun h250 => ?_) (fun hf => by omega)
  refine ar_iload_n rfl rfl ?_
  refine ar_bipush (x := 16) rfl rfl ?_
  refine ar_icmp_ne rfl rfl (by omega) (by omega) (fun h265 => ?_) (fun hf => by omega)
  refine ar_iload_n rfl rfl ?_
  refine ar_bipush (x := 17) rfl rfl ?_
  refine ar_icmp_ne rfl rfl (by omega) (by omega) (fun h279 => ?_) (fun hf => by omega)
  refine ar_iload_n rfl rfl ?_
  refine ar_bipush (x := 18) rfl rfl ?_
  refine ar_icmp_ne rfl rfl (by omega) (by omega) (fun h293 => ?_) (fun hf => by omega)
  refine ar_iload_n rfl rfl ?_
  refine ar_bipush (x := 19) rfl rfl ?_
  refine ar_icmp_ne rfl rfl (by omega) (by omega) (fun h308 => ?_) (fun hf => by omega)
  refine ar_iload_n rfl rfl ?_
  refine ar_bipush (x := 20) rfl rfl ?_
  refine ar_icmp_ne rfl rfl (by omega) (by omega) (fun ht => by omega) (fun h322 => ?_)
  refine ar_aload_n rfl rfl ?_
  refine ar_iload_n rfl rfl ?_
  refine ar_cv1 rfl rfl rfl (Nat.le_of_ble_eq_true rfl) hC (by omega) (fun o q1 hq => B2_OQ hq (fun hk I1 Y1 F1 => ?_) (fun hk I1 Y1 F1 => ?_))
  · refine ar_goto rfl rfl ?_
    exact ar_iret rfl (Or.inl rfl) ⟨by rw [rc_0 hk], I1, Y1, F1⟩
  · rcases hx hk with e | e | e
    · rw [e]
      refine B2_H rfl rfl (Nat.le_of_ble_eq_true rfl) ?_
      refine ar_ldc (x := -3000000) rfl rfl ?_
      exact ar_iret rfl (Or.inl rfl) ⟨by rw [rc_13 hk e], I1, Y1, F1⟩
    · rw [e]
      refine B2_H rfl rfl (Nat.le_of_ble_eq_true rfl) ?_
      refine ar_ldc (x := -2000000) rfl rfl ?_
      exact ar_iret rfl (Or.inl rfl) ⟨by rw [rc_14 hk e], I1, Y1, F1⟩
    · rw [e]
      refine B2_H rfl rfl (Nat.le_of_ble_eq_true rfl) ?_
      refine ar_ldc (x := -1000000) rfl rfl ?_
      exact ar_iret rfl (Or.inl rfl) ⟨by rw [rc_15 hk e], I1, Y1, F1⟩
theorem ds_coupon {d e : Nat} {q : am_A} {s1 : am_Z} {a b c p r t k v : Int} {kd : Int → Nat} (hx : k ≠ 0 → kd k = 13 ∨ kd k = 14 ∨ kd k = 15) (hC : am_C2 20 m_X_coupon [aR 8 0, aI (zI a), aI (zI b)] q (am_OQ e k kd (some (aI (zI v))) q s1)) : am_C2 (d + 21) m_L_does [aR 8 0, aI (zI 21), aI (zI a), aI (zI b), aI (zI c), aI (zI p), aI (zI r), aI (zI t)] q (am_OX e q s1 (am_rc k kd v)) := by
  refine am_C2_i (ls := [some (aR 8 0), some (aI (zI 21)), some (aI (zI a)), some (aI (zI b)), some (aI (zI c)), some (aI (zI p)), some (aI (zI r)), some (aI (zI t)), none]) rfl ?_
  refine ar_iload_n rfl rfl ?_
  refine ar_if_ne rfl rfl (by omega) (fun h1 => ?_) (fun hf => by omega)
  refine ar_iload_n rfl rfl ?_
  refine ar_iconst rfl ?_
  refine ar_icmp_ne rfl rfl (by omega) (by omega) (fun h15 => ?_) (fun hf => by omega)
  refine ar_iload_n rfl rfl ?_
  refine ar_iconst rfl ?_
  refine ar_icmp_ne rfl rfl (by omega) (by omega) (fun h29 => ?_) (fun hf => by omega)
  refine ar_iload_n rfl rfl ?_
  refine ar_iconst rfl ?_
  refine ar_icmp_ne rfl rfl (by omega) (by omega) (fun h51 => ?_) (fun hf => by omega)
  refine ar_iload_n rfl rfl ?_
  refine ar_iconst rfl ?_
  refine ar_icmp_ne rfl rfl (by omega) (by omega) (fun h69 => ?_) (fun hf => by omega)
  refine ar_iload_n rfl rfl ?_
  refine ar_iconst rfl ?_
  refine ar_icmp_ne rfl rfl (by omega) (by omega) (fun h85 => ?_) (fun hf => by omega)
  refine ar_iload_n rfl rfl ?_
  refine ar_bipush (x := 6) rfl rfl ?_
  refine ar_icmp_ne rfl rfl (by omega) (by omega) (fun h111 => ?_) (fun hf => by omega)
  refine ar_iload_n rfl rfl ?_
  refine ar_bipush (x := 7) rfl rfl ?_
  refine ar_icmp_ne rfl rfl (by omega) (by omega) (fun h132 => ?_) (fun hf => by omega)
  refine ar_iload_n rfl rfl ?_
  refine ar_bipush (x := 8) rfl rfl ?_
  refine ar_icmp_ne rfl rfl (by omega) (by omega) (fun h147 => ?_) (fun hf => by omega)
  refine ar_iload_n rfl rfl ?_
  refine ar_bipush (x := 9) rfl rfl ?_
  refine ar_icmp_ne rfl rfl (by omega) (by omega) (fun h161 => ?_) (fun hf => by omega)
  refine ar_iload_n rfl rfl ?_
  refine ar_bipush (x := 10) rfl rfl ?_
  refine ar_icmp_ne rfl rfl (by omega) (by omega) (fun h176 => ?_) (fun hf => by omega)
  refine ar_iload_n rfl rfl ?_
  refine ar_bipush (x := 11) rfl rfl ?_
  refine ar_icmp_ne rfl rfl (by omega) (by omega) (fun h190 => ?_) (fun hf => by omega)
  refine ar_iload_n rfl rfl ?_
  refine ar_bipush (x := 12) rfl rfl ?_
  refine ar_icmp_ne rfl rfl (by omega) (by omega) (fun h204 => ?_) (fun hf => by omega)
  refine ar_iload_n rfl rfl ?_
  refine ar_bipush (x := 13) rfl rfl ?_
  refine ar_icmp_ne rfl rfl (by omega) (by omega) (fun h218 => ?_) (fun hf => by omega)
  refine ar_iload_n rfl rfl ?_
  refine ar_bipush (x := 14) rfl rfl ?_
  refine ar_icmp_ne rfl rfl (by omega) (by omega) (fun h233 => ?_) (fun hf => by omega)
  refine ar_iload_n rfl rfl ?_
  refine ar_bipush (x := 15) rfl rfl ?_
  refine ar_icmp_ne rfl rfl (by omega) (by omega) (fun h250 => ?_) (fun hf => by omega)
  refine ar_iload_n rfl rfl ?_
  refine ar_bipush (x := 16) rfl rfl ?_
  refine ar_icmp_ne rfl rfl (by omega) (by omega) (fun h265 => ?_) (fun hf => by omega)
  refine ar_iload_n rfl rfl ?_
  refine ar_bipush (x := 17) rfl rfl ?_
  refine ar_icmp_ne rfl rfl (by omega) (by omega) (fun h279 => ?_) (fun hf => by omega)
  refine ar_iload_n rfl rfl ?_
  refine ar_bipush (x := 18) rfl rfl ?_
  refine ar_icmp_ne rfl rfl (by omega) (by omega) (fun h293 => ?_) (fun hf => by omega)
  refine ar_iload_n rfl rfl ?_
  refine ar_bipush (x := 19) rfl rfl ?_
  refine ar_icmp_ne rfl rfl (by omega) (by omega) (fun h308 => ?_) (fun hf => by omega)
  refine ar_iload_n rfl rfl ?_
  refine ar_bipush (x := 20) rfl rfl ?_
  refine ar_icmp_ne rfl rfl (by omega) (by omega) (fun h322 => ?_) (fun hf => by omega)
  refine ar_iload_n rfl rfl ?_
  refine ar_bipush (x := 21) rfl rfl ?_
  refine ar_icmp_ne rfl rfl (by omega) (by omega) (fun ht => by omega) (fun h336 => ?_)
  refine ar_aload_n rfl rfl ?_
  refine ar_iload_n rfl rfl ?_
  refine ar_iload_n rfl rfl ?_
  refine ar_cv2 rfl rfl rfl (Nat.le_of_ble_eq_true rfl) hC (by omega) (fun o q1 hq => B2_OQ hq (fun hk I1 Y1 F1 => ?_) (fun hk I1 Y1 F1 => ?_))
  · refine ar_goto rfl rfl ?_
    exact ar_iret rfl (Or.inl rfl) ⟨by rw [rc_0 hk], I1, Y1, F1⟩
  · rcases hx hk with e | e | e
    · rw [e]
      refine B2_H rfl rfl (Nat.le_of_ble_eq_true rfl) ?_
      refine ar_ldc (x := -3000000) rfl rfl ?_
      exact ar_iret rfl (Or.inl rfl) ⟨by rw [rc_13 hk e], I1, Y1, F1⟩
    · rw [e]
      refine B2_H rfl rfl (Nat.le_of_ble_eq_true rfl) ?_
      refine ar_ldc (x := -2000000) rfl rfl ?_
      exact ar_iret rfl (Or.inl rfl) ⟨by rw [rc_14 hk e], I1, Y1, F1⟩
    · rw [e]
      refine B2_H rfl rfl (Nat.le_of_ble_eq_true rfl) ?_
      refine ar_ldc (x := -1000000) rfl rfl ?_
      exact ar_iret rfl (Or.inl rfl) ⟨by rw [rc_15 hk e], I1, Y1, F1⟩
theorem ds_share {d e : Nat} {q : am_A} {s1 : am_Z} {a b c p r t k v : Int} {kd : Int → Nat} (hx : k ≠ 0 → kd k = 13 ∨ kd k = 14 ∨ kd k = 15) (hC : am_C2 20 m_X_share [aR 8 0, aI (zI a), aI (zI b)] q (am_OQ e k kd (some (aI (zI v))) q s1)) : am_C2 (d + 21) m_L_does [aR 8 0, aI (zI 22), aI (zI a), aI (zI b), aI (zI c), aI (zI p), aI (zI r), aI (zI t)] q (am_OX e q s1 (am_rc k kd v)) := by
  refine am_C2_i (ls := [some (aR 8 0), some (aI (zI 22)), some (aI (zI a)), some (aI (zI b)), some (aI (zI c)), some (aI (zI p)), some (aI (zI r)), some (aI (zI t)), none]) rfl ?_
  refine ar_iload_n rfl rfl ?_
  refine ar_if_ne rfl rfl (by omega) (fun h1 => ?_) (fun hf => by omega)
  refine ar_iload_n rfl rfl ?_
  refine ar_iconst rfl ?_
  refine ar_icmp_ne rfl rfl (by omega) (by omega) (fun h15 => ?_) (fun hf => by omega)
  refine ar_iload_n rfl rfl ?_
  refine ar_iconst rfl ?_
  refine ar_icmp_ne rfl rfl (by omega) (by omega) (fun h29 => ?_) (fun hf => by omega)
  refine ar_iload_n rfl rfl ?_
  refine ar_iconst rfl ?_
  refine ar_icmp_ne rfl rfl (by omega) (by omega) (fun h51 => ?_) (fun hf => by omega)
  refine ar_iload_n rfl rfl ?_
  refine ar_iconst rfl ?_
  refine ar_icmp_ne rfl rfl (by omega) (by omega) (fun h69 => ?_) (fun hf => by omega)
  refine ar_iload_n rfl rfl ?_
  refine ar_iconst rfl ?_
  refine ar_icmp_ne rfl rfl (by omega) (by omega) (fun h85 => ?_) (fun hf => by omega)
  refine ar_iload_n rfl rfl ?_
  refine ar_bipush (x := 6) rfl rfl ?_
  refine ar_icmp_ne rfl rfl (by omega) (by omega) (fun h111 => ?_) (fun hf => by omega)
  refine ar_iload_n rfl rfl ?_
  refine ar_bipush (x := 7) rfl rfl ?_
  refine ar_icmp_ne rfl rfl (by omega) (by omega) (fun h132 => ?_) (fun hf => by omega)
  refine ar_iload_n rfl rfl ?_
  refine ar_bipush (x := 8) rfl rfl ?_
  refine ar_icmp_ne rfl rfl (by omega) (by omega) (fun h147 => ?_) (fun hf => by omega)
  refine ar_iload_n rfl rfl ?_
  refine ar_bipush (x := 9) rfl rfl ?_
  refine ar_icmp_ne rfl rfl (by omega) (by omega) (fun h161 => ?_) (fun hf => by omega)
  refine ar_iload_n rfl rfl ?_
  refine ar_bipush (x := 10) rfl rfl ?_
  refine ar_icmp_ne rfl rfl (by omega) (by omega) (fun h176 => ?_) (fun hf => by omega)
  refine ar_iload_n rfl rfl ?_
  refine ar_bipush (x := 11) rfl rfl ?_
  refine ar_icmp_ne rfl rfl (by omega) (by omega) (fun h190 => ?_) (fun hf => by omega)
  refine ar_iload_n rfl rfl ?_
  refine ar_bipush (x := 12) rfl rfl ?_
  refine ar_icmp_ne rfl rfl (by omega) (by omega) (fun h204 => ?_) (fun hf => by omega)
  refine ar_iload_n rfl rfl ?_
  refine ar_bipush (x := 13) rfl rfl ?_
  refine ar_icmp_ne rfl rfl (by omega) (by omega) (fun h218 => ?_) (fun hf => by omega)
  refine ar_iload_n rfl rfl ?_
  refine ar_bipush (x := 14) rfl rfl ?_
  refine ar_icmp_ne rfl rfl (by omega) (by omega) (fun h233 => ?_) (fun hf => by omega)
  refine ar_iload_n rfl rfl ?_
  refine ar_bipush (x := 15) rfl rfl ?_
  refine ar_icmp_ne rfl rfl (by omega) (by omega) (fun h250 => ?_) (fun hf => by omega)
  refine ar_iload_n rfl rfl ?_
  refine ar_bipush (x := 16) rfl rfl ?_
  refine ar_icmp_ne rfl rfl (by omega) (by omega) (fun h265 => ?_) (fun hf => by omega)
  refine ar_iload_n rfl rfl ?_
  refine ar_bipush (x := 17) rfl rfl ?_
  refine ar_icmp_ne rfl rfl (by omega) (by omega) (fun h279 => ?_) (fun hf => by omega)
  refine ar_iload_n rfl rfl ?_
  refine ar_bipush (x := 18) rfl rfl ?_
  refine ar_icmp_ne rfl rfl (by omega) (by omega) (fun h293 => ?_) (fun hf => by omega)
  refine ar_iload_n rfl rfl ?_
  refine ar_bipush (x := 19) rfl rfl ?_
  refine ar_icmp_ne rfl rfl (by omega) (by omega) (fun h308 => ?_) (fun hf => by omega)
  refine ar_iload_n rfl rfl ?_
  refine ar_bipush (x := 20) rfl rfl ?_
  refine ar_icmp_ne rfl rfl (by omega) (by omega) (fun h322 => ?_) (fun hf => by omega)
  refine ar_iload_n rfl rfl ?_
  refine ar_bipush (x := 21) rfl rfl ?_
  refine ar_icmp_ne rfl rfl (by omega) (by omega) (fun h336 => ?_) (fun hf => by omega)
  refine ar_iload_n rfl rfl ?_
  refine ar_bipush (x := 22) rfl rfl ?_
  refine ar_icmp_ne rfl rfl (by omega) (by omega) (fun ht => by omega) (fun h351 => ?_)
  refine ar_aload_n rfl rfl ?_
  refine ar_iload_n rfl rfl ?_
  refine ar_iload_n rfl rfl ?_
  refine ar_cv2 rfl rfl rfl (Nat.le_of_ble_eq_true rfl) hC (by omega) (fun o q1 hq => B2_OQ hq (fun hk I1 Y1 F1 => ?_) (fun hk I1 Y1 F1 => ?_))
  · refine ar_goto rfl rfl ?_
    exact ar_iret rfl (Or.inl rfl) ⟨by rw [rc_0 hk], I1, Y1, F1⟩
  · rcases hx hk with e | e | e
    · rw [e]
      refine B2_H rfl rfl (Nat.le_of_ble_eq_true rfl) ?_
      refine ar_ldc (x := -3000000) rfl rfl ?_
      exact ar_iret rfl (Or.inl rfl) ⟨by rw [rc_13 hk e], I1, Y1, F1⟩
    · rw [e]
      refine B2_H rfl rfl (Nat.le_of_ble_eq_true rfl) ?_
      refine ar_ldc (x := -2000000) rfl rfl ?_
      exact ar_iret rfl (Or.inl rfl) ⟨by rw [rc_14 hk e], I1, Y1, F1⟩
    · rw [e]
      refine B2_H rfl rfl (Nat.le_of_ble_eq_true rfl) ?_
      refine ar_ldc (x := -1000000) rfl rfl ?_
      exact ar_iret rfl (Or.inl rfl) ⟨by rw [rc_15 hk e], I1, Y1, F1⟩
theorem ds_check {d e : Nat} {q : am_A} {s1 : am_Z} {a b c p r t k v : Int} {kd : Int → Nat} (hx : k ≠ 0 → kd k = 13 ∨ kd k = 14 ∨ kd k = 15) (hC : am_C2 20 m_X_check [aR 8 0, aI (zI a), aI (zI b)] q (am_OQ e k kd (some (aI (zI v))) q s1)) : am_C2 (d + 21) m_L_does [aR 8 0, aI (zI 23), aI (zI a), aI (zI b), aI (zI c), aI (zI p), aI (zI r), aI (zI t)] q (am_OX e q s1 (am_rc k kd v)) := by
  refine am_C2_i (ls := [some (aR 8 0), some (aI (zI 23)), some (aI (zI a)), some (aI (zI b)), some (aI (zI c)), some (aI (zI p)), some (aI (zI r)), some (aI (zI t)), none]) rfl ?_
  refine ar_iload_n rfl rfl ?_
  refine ar_if_ne rfl rfl (by omega) (fun h1 => ?_) (fun hf => by omega)
  refine ar_iload_n rfl rfl ?_
  refine ar_iconst rfl ?_
  refine ar_icmp_ne rfl rfl (by omega) (by omega) (fun h15 => ?_) (fun hf => by omega)
  refine ar_iload_n rfl rfl ?_
  refine ar_iconst rfl ?_
  refine ar_icmp_ne rfl rfl (by omega) (by omega) (fun h29 => ?_) (fun hf => by omega)
  refine ar_iload_n rfl rfl ?_
  refine ar_iconst rfl ?_
  refine ar_icmp_ne rfl rfl (by omega) (by omega) (fun h51 => ?_) (fun hf => by omega)
  refine ar_iload_n rfl rfl ?_
  refine ar_iconst rfl ?_
  refine ar_icmp_ne rfl rfl (by omega) (by omega) (fun h69 => ?_) (fun hf => by omega)
  refine ar_iload_n rfl rfl ?_
  refine ar_iconst rfl ?_
  refine ar_icmp_ne rfl rfl (by omega) (by omega) (fun h85 => ?_) (fun hf => by omega)
  refine ar_iload_n rfl rfl ?_
  refine ar_bipush (x := 6) rfl rfl ?_
  refine ar_icmp_ne rfl rfl (by omega) (by omega) (fun h111 => ?_) (fun hf => by omega)
  refine ar_iload_n rfl rfl ?_
  refine ar_bipush (x := 7) rfl rfl ?_
  refine ar_icmp_ne rfl rfl (by omega) (by omega) (fun h132 => ?_) (fun hf => by omega)
  refine ar_iload_n rfl rfl ?_
  refine ar_bipush (x := 8) rfl rfl ?_
  refine ar_icmp_ne rfl rfl (by omega) (by omega) (fun h147 => ?_) (fun hf => by omega)
  refine ar_iload_n rfl rfl ?_
  refine ar_bipush (x := 9) rfl rfl ?_
  refine ar_icmp_ne rfl rfl (by omega) (by omega) (fun h161 => ?_) (fun hf => by omega)
  refine ar_iload_n rfl rfl ?_
  refine ar_bipush (x := 10) rfl rfl ?_
  refine ar_icmp_ne rfl rfl (by omega) (by omega) (fun h176 => ?_) (fun hf => by omega)
  refine ar_iload_n rfl rfl ?_
  refine ar_bipush (x := 11) rfl rfl ?_
  refine ar_icmp_ne rfl rfl (by omega) (by omega) (fun h190 => ?_) (fun hf => by omega)
  refine ar_iload_n rfl rfl ?_
  refine ar_bipush (x := 12) rfl rfl ?_
  refine ar_icmp_ne rfl rfl (by omega) (by omega) (fun h204 => ?_) (fun hf => by omega)
  refine ar_iload_n rfl rfl ?_
  refine ar_bipush (x := 13) rfl rfl ?_
  refine ar_icmp_ne rfl rfl (by omega) (by omega) (fun h218 => ?_) (fun hf => by omega)
  refine ar_iload_n rfl rfl ?_
  refine ar_bipush (x := 14) rfl rfl ?_
  refine ar_icmp_ne rfl rfl (by omega) (by omega) (fun h233 => ?_) (fun hf => by omega)
  refine ar_iload_n rfl rfl ?_
  refine ar_bipush (x := 15) rfl rfl ?_
  refine ar_icmp_ne rfl rfl (by omega) (by omega) (fun h250 => ?_) (fun hf => by omega)
  refine ar_iload_n rfl rfl ?_
  refine ar_bipush (x := 16) rfl rfl ?_
  refine ar_icmp_ne rfl rfl (by omega) (by omega) (fun h265 => ?_) (fun hf => by omega)
  refine ar_iload_n rfl rfl ?_
  refine ar_bipush (x := 17) rfl rfl ?_
  refine ar_icmp_ne rfl rfl (by omega) (by omega) (fun h279 => ?_) (fun hf => by omega)
  refine ar_iload_n rfl rfl ?_
  refine ar_bipush (x := 18) rfl rfl ?_
  refine ar_icmp_ne rfl rfl (by omega) (by omega) (fun h293 => ?_) (fun hf => by omega)
  refine ar_iload_n rfl rfl ?_
  refine ar_bipush (x := 19) rfl rfl ?_
  refine ar_icmp_ne rfl rfl (by omega) (by omega) (fun h308 => ?_) (fun hf => by omega)
  refine ar_iload_n rfl rfl ?_
  refine ar_bipush (x := 20) rfl rfl ?_
  refine ar_icmp_ne rfl rfl (by omega) (by omega) (fun h322 => ?_) (fun hf => by omega)
  refine ar_iload_n rfl rfl ?_
  refine ar_bipush (x := 21) rfl rfl ?_
  refine ar_icmp_ne rfl rfl (by omega) (by omega) (fun h336 => ?_) (fun hf => by omega)
  refine ar_iload_n rfl rfl ?_
  refine ar_bipush (x := 22) rfl rfl ?_
  refine ar_icmp_ne rfl rfl (by omega) (by omega) (fun h351 => ?_) (fun hf => by omega)
  refine ar_iload_n rfl rfl ?_
  refine ar_bipush (x := 23) rfl rfl ?_
  refine ar_icmp_ne rfl rfl (by omega) (by omega) (fun ht => by omega) (fun h366 => ?_)
  refine ar_aload_n rfl rfl ?_
  refine ar_iload_n rfl rfl ?_
  refine ar_iload_n rfl rfl ?_
  refine ar_cv2 rfl rfl rfl (Nat.le_of_ble_eq_true rfl) hC (by omega) (fun o q1 hq => B2_OQ hq (fun hk I1 Y1 F1 => ?_) (fun hk I1 Y1 F1 => ?_))
  · refine ar_goto rfl rfl ?_
    exact ar_iret rfl (Or.inl rfl) ⟨by rw [rc_0 hk], I1, Y1, F1⟩
  · rcases hx hk with e | e | e
    · rw [e]
      refine B2_H rfl rfl (Nat.le_of_ble_eq_true rfl) ?_
      refine ar_ldc (x := -3000000) rfl rfl ?_
      exact ar_iret rfl (Or.inl rfl) ⟨by rw [rc_13 hk e], I1, Y1, F1⟩
    · rw [e]
      refine B2_H rfl rfl (Nat.le_of_ble_eq_true rfl) ?_
      refine ar_ldc (x := -2000000) rfl rfl ?_
      exact ar_iret rfl (Or.inl rfl) ⟨by rw [rc_14 hk e], I1, Y1, F1⟩
    · rw [e]
      refine B2_H rfl rfl (Nat.le_of_ble_eq_true rfl) ?_
      refine ar_ldc (x := -1000000) rfl rfl ?_
      exact ar_iret rfl (Or.inl rfl) ⟨by rw [rc_15 hk e], I1, Y1, F1⟩
theorem ds_volunteer {d e : Nat} {q : am_A} {s1 : am_Z} {a b c p r t k v : Int} {kd : Int → Nat} (hv : v = 0 ∨ v = 1) (hx : k ≠ 0 → kd k = 13 ∨ kd k = 14 ∨ kd k = 15) (hC : am_C2 20 m_X_volunteer [aR 8 0, aI (zI a)] q (am_OQ e k kd (some (aI (zI v))) q s1)) : am_C2 (d + 21) m_L_does [aR 8 0, aI (zI 24), aI (zI a), aI (zI b), aI (zI c), aI (zI p), aI (zI r), aI (zI t)] q (am_OX e q s1 (am_rc k kd v)) := by
  refine am_C2_i (ls := [some (aR 8 0), some (aI (zI 24)), some (aI (zI a)), some (aI (zI b)), some (aI (zI c)), some (aI (zI p)), some (aI (zI r)), some (aI (zI t)), none]) rfl ?_
  refine ar_iload_n rfl rfl ?_
  refine ar_if_ne rfl rfl (by omega) (fun h1 => ?_) (fun hf => by omega)
  refine ar_iload_n rfl rfl ?_
  refine ar_iconst rfl ?_
  refine ar_icmp_ne rfl rfl (by omega) (by omega) (fun h15 => ?_) (fun hf => by omega)
  refine ar_iload_n rfl rfl ?_
  refine ar_iconst rfl ?_
  refine ar_icmp_ne rfl rfl (by omega) (by omega) (fun h29 => ?_) (fun hf => by omega)
  refine ar_iload_n rfl rfl ?_
  refine ar_iconst rfl ?_
  refine ar_icmp_ne rfl rfl (by omega) (by omega) (fun h51 => ?_) (fun hf => by omega)
  refine ar_iload_n rfl rfl ?_
  refine ar_iconst rfl ?_
  refine ar_icmp_ne rfl rfl (by omega) (by omega) (fun h69 => ?_) (fun hf => by omega)
  refine ar_iload_n rfl rfl ?_
  refine ar_iconst rfl ?_
  refine ar_icmp_ne rfl rfl (by omega) (by omega) (fun h85 => ?_) (fun hf => by omega)
  refine ar_iload_n rfl rfl ?_
  refine ar_bipush (x := 6) rfl rfl ?_
  refine ar_icmp_ne rfl rfl (by omega) (by omega) (fun h111 => ?_) (fun hf => by omega)
  refine ar_iload_n rfl rfl ?_
  refine ar_bipush (x := 7) rfl rfl ?_
  refine ar_icmp_ne rfl rfl (by omega) (by omega) (fun h132 => ?_) (fun hf => by omega)
  refine ar_iload_n rfl rfl ?_
  refine ar_bipush (x := 8) rfl rfl ?_
  refine ar_icmp_ne rfl rfl (by omega) (by omega) (fun h147 => ?_) (fun hf => by omega)
  refine ar_iload_n rfl rfl ?_
  refine ar_bipush (x := 9) rfl rfl ?_
  refine ar_icmp_ne rfl rfl (by omega) (by omega) (fun h161 => ?_) (fun hf => by omega)
  refine ar_iload_n rfl rfl ?_
  refine ar_bipush (x := 10) rfl rfl ?_
  refine ar_icmp_ne rfl rfl (by omega) (by omega) (fun h176 => ?_) (fun hf => by omega)
  refine ar_iload_n rfl rfl ?_
  refine ar_bipush (x := 11) rfl rfl ?_
  refine ar_icmp_ne rfl rfl (by omega) (by omega) (fun h190 => ?_) (fun hf => by omega)
  refine ar_iload_n rfl rfl ?_
  refine ar_bipush (x := 12) rfl rfl ?_
  refine ar_icmp_ne rfl rfl (by omega) (by omega) (fun h204 => ?_) (fun hf => by omega)
  refine ar_iload_n rfl rfl ?_
  refine ar_bipush (x := 13) rfl rfl ?_
  refine ar_icmp_ne rfl rfl (by omega) (by omega) (fun h218 => ?_) (fun hf => by omega)
  refine ar_iload_n rfl rfl ?_
  refine ar_bipush (x := 14) rfl rfl ?_
  refine ar_icmp_ne rfl rfl (by omega) (by omega) (fun h233 => ?_) (fun hf => by omega)
  refine ar_iload_n rfl rfl ?_
  refine ar_bipush (x := 15) rfl rfl ?_
  refine ar_icmp_ne rfl rfl (by omega) (by omega) (fun h250 => ?_) (fun hf => by omega)
  refine ar_iload_n rfl rfl ?_
  refine ar_bipush (x := 16) rfl rfl ?_
  refine ar_icmp_ne rfl rfl (by omega) (by omega) (fun h265 => ?_) (fun hf => by omega)
  refine ar_iload_n rfl rfl ?_
  refine ar_bipush (x := 17) rfl rfl ?_
  refine ar_icmp_ne rfl rfl (by omega) (by omega) (fun h279 => ?_) (fun hf => by omega)
  refine ar_iload_n rfl rfl ?_
  refine ar_bipush (x := 18) rfl rfl ?_
  refine ar_icmp_ne rfl rfl (by omega) (by omega) (fun h293 => ?_) (fun hf => by omega)
  refine ar_iload_n rfl rfl ?_
  refine ar_bipush (x := 19) rfl rfl ?_
  refine ar_icmp_ne rfl rfl (by omega) (by omega) (fun h308 => ?_) (fun hf => by omega)
  refine ar_iload_n rfl rfl ?_
  refine ar_bipush (x := 20) rfl rfl ?_
  refine ar_icmp_ne rfl rfl (by omega) (by omega) (fun h322 => ?_) (fun hf => by omega)
  refine ar_iload_n rfl rfl ?_
  refine ar_bipush (x := 21) rfl rfl ?_
  refine ar_icmp_ne rfl rfl (by omega) (by omega) (fun h336 => ?_) (fun hf => by omega)
  refine ar_iload_n rfl rfl ?_
  refine ar_bipush (x := 22) rfl rfl ?_
  refine ar_icmp_ne rfl rfl (by omega) (by omega) (fun h351 => ?_) (fun hf => by omega)
  refine ar_iload_n rfl rfl ?_
  refine ar_bipush (x := 23) rfl rfl ?_
  refine ar_icmp_ne rfl rfl (by omega) (by omega) (fun h366 => ?_) (fun hf => by omega)
  refine ar_iload_n rfl rfl ?_
  refine ar_bipush (x := 24) rfl rfl ?_
  refine ar_icmp_ne rfl rfl (by omega) (by omega) (fun ht => by omega) (fun h381 => ?_)
  refine ar_aload_n rfl rfl ?_
  refine ar_iload_n rfl rfl ?_
  refine ar_cv1 rfl rfl rfl (Nat.le_of_ble_eq_true rfl) hC (by omega) (fun o q1 hq => B2_OQ hq (fun hk I1 Y1 F1 => ?_) (fun hk I1 Y1 F1 => ?_))
  · refine ar_if_eq rfl rfl (by omega) (fun h0 => ?_) (fun h0 => ?_)
    · refine ar_iconst rfl ?_
      refine ar_goto rfl rfl ?_
      exact ar_iret rfl (Or.inl rfl) ⟨by rw [rc_0 hk, h0], I1, Y1, F1⟩
    · refine ar_iconst rfl ?_
      refine ar_goto rfl rfl ?_
      exact ar_iret rfl (Or.inl rfl) ⟨by rw [rc_0 hk, show v = 1 by omega], I1, Y1, F1⟩
  · rcases hx hk with e | e | e
    · rw [e]
      refine B2_H rfl rfl (Nat.le_of_ble_eq_true rfl) ?_
      refine ar_ldc (x := -3000000) rfl rfl ?_
      exact ar_iret rfl (Or.inl rfl) ⟨by rw [rc_13 hk e], I1, Y1, F1⟩
    · rw [e]
      refine B2_H rfl rfl (Nat.le_of_ble_eq_true rfl) ?_
      refine ar_ldc (x := -2000000) rfl rfl ?_
      exact ar_iret rfl (Or.inl rfl) ⟨by rw [rc_14 hk e], I1, Y1, F1⟩
    · rw [e]
      refine B2_H rfl rfl (Nat.le_of_ble_eq_true rfl) ?_
      refine ar_ldc (x := -1000000) rfl rfl ?_
      exact ar_iret rfl (Or.inl rfl) ⟨by rw [rc_15 hk e], I1, Y1, F1⟩
theorem ds_pass {d e : Nat} {q : am_A} {s1 : am_Z} {a b c p r t k v : Int} {kd : Int → Nat} (hx : k ≠ 0 → kd k = 13 ∨ kd k = 14 ∨ kd k = 15) (hC : am_C2 20 m_X_pass [aR 8 0, aI (zI a)] q (am_OQ e k kd (some (aI (zI v))) q s1)) : am_C2 (d + 21) m_L_does [aR 8 0, aI (zI 25), aI (zI a), aI (zI b), aI (zI c), aI (zI p), aI (zI r), aI (zI t)] q (am_OX e q s1 (am_rc k kd v)) := by
  refine am_C2_i (ls := [some (aR 8 0), some (aI (zI 25)), some (aI (zI a)), some (aI (zI b)), some (aI (zI c)), some (aI (zI p)), some (aI (zI r)), some (aI (zI t)), none]) rfl ?_
  refine ar_iload_n rfl rfl ?_
  refine ar_if_ne rfl rfl (by omega) (fun h1 => ?_) (fun hf => by omega)
  refine ar_iload_n rfl rfl ?_
  refine ar_iconst rfl ?_
  refine ar_icmp_ne rfl rfl (by omega) (by omega) (fun h15 => ?_) (fun hf => by omega)
  refine ar_iload_n rfl rfl ?_
  refine ar_iconst rfl ?_
  refine ar_icmp_ne rfl rfl (by omega) (by omega) (fun h29 => ?_) (fun hf => by omega)
  refine ar_iload_n rfl rfl ?_
  refine ar_iconst rfl ?_
  refine ar_icmp_ne rfl rfl (by omega) (by omega) (fun h51 => ?_) (fun hf => by omega)
  refine ar_iload_n rfl rfl ?_
  refine ar_iconst rfl ?_
  refine ar_icmp_ne rfl rfl (by omega) (by omega) (fun h69 => ?_) (fun hf => by omega)
  refine ar_iload_n rfl rfl ?_
  refine ar_iconst rfl ?_
  refine ar_icmp_ne rfl rfl (by omega) (by omega) (fun h85 => ?_) (fun hf => by omega)
  refine ar_iload_n rfl rfl ?_
  refine ar_bipush (x := 6) rfl rfl ?_
  refine ar_icmp_ne rfl rfl (by omega) (by omega) (fun h111 => ?_) (fun hf => by omega)
  refine ar_iload_n rfl rfl ?_
  refine ar_bipush (x := 7) rfl rfl ?_
  refine ar_icmp_ne rfl rfl (by omega) (by omega) (fun h132 => ?_) (fun hf => by omega)
  refine ar_iload_n rfl rfl ?_
  refine ar_bipush (x := 8) rfl rfl ?_
  refine ar_icmp_ne rfl rfl (by omega) (by omega) (fun h147 => ?_) (fun hf => by omega)
  refine ar_iload_n rfl rfl ?_
  refine ar_bipush (x := 9) rfl rfl ?_
  refine ar_icmp_ne rfl rfl (by omega) (by omega) (fun h161 => ?_) (fun hf => by omega)
  refine ar_iload_n rfl rfl ?_
  refine ar_bipush (x := 10) rfl rfl ?_
  refine ar_icmp_ne rfl rfl (by omega) (by omega) (fun h176 => ?_) (fun hf => by omega)
  refine ar_iload_n rfl rfl ?_
  refine ar_bipush (x := 11) rfl rfl ?_
  refine ar_icmp_ne rfl rfl (by omega) (by omega) (fun h190 => ?_) (fun hf => by omega)
  refine ar_iload_n rfl rfl ?_
  refine ar_bipush (x := 12) rfl rfl ?_
  refine ar_icmp_ne rfl rfl (by omega) (by omega) (fun h204 => ?_) (fun hf => by omega)
  refine ar_iload_n rfl rfl ?_
  refine ar_bipush (x := 13) rfl rfl ?_
  refine ar_icmp_ne rfl rfl (by omega) (by omega) (fun h218 => ?_) (fun hf => by omega)
  refine ar_iload_n rfl rfl ?_
  refine ar_bipush (x := 14) rfl rfl ?_
  refine ar_icmp_ne rfl rfl (by omega) (by omega) (fun h233 => ?_) (fun hf => by omega)
  refine ar_iload_n rfl rfl ?_
  refine ar_bipush (x := 15) rfl rfl ?_
  refine ar_icmp_ne rfl rfl (by omega) (by omega) (fun h250 => ?_) (fun hf => by omega)
  refine ar_iload_n rfl rfl ?_
  refine ar_bipush (x := 16) rfl rfl ?_
  refine ar_icmp_ne rfl rfl (by omega) (by omega) (fun h265 => ?_) (fun hf => by omega)
  refine ar_iload_n rfl rfl ?_
  refine ar_bipush (x := 17) rfl rfl ?_
  refine ar_icmp_ne rfl rfl (by omega) (by omega) (fun h279 => ?_) (fun hf => by omega)
  refine ar_iload_n rfl rfl ?_
  refine ar_bipush (x := 18) rfl rfl ?_
  refine ar_icmp_ne rfl rfl (by omega) (by omega) (fun h293 => ?_) (fun hf => by omega)
  refine ar_iload_n rfl rfl ?_
  refine ar_bipush (x := 19) rfl rfl ?_
  refine ar_icmp_ne rfl rfl (by omega) (by omega) (fun h308 => ?_) (fun hf => by omega)
  refine ar_iload_n rfl rfl ?_
  refine ar_bipush (x := 20) rfl rfl ?_
  refine ar_icmp_ne rfl rfl (by omega) (by omega) (fun h322 => ?_) (fun hf => by omega)
  refine ar_iload_n rfl rfl ?_
  refine ar_bipush (x := 21) rfl rfl ?_
  refine ar_icmp_ne rfl rfl (by omega) (by omega) (fun h336 => ?_) (fun hf => by omega)
  refine ar_iload_n rfl rfl ?_
  refine ar_bipush (x := 22) rfl rfl ?_
  refine ar_icmp_ne rfl rfl (by omega) (by omega) (fun h351 => ?_) (fun hf => by omega)
  refine ar_iload_n rfl rfl ?_
  refine ar_bipush (x := 23) rfl rfl ?_
  refine ar_icmp_ne rfl rfl (by omega) (by omega) (fun h366 => ?_) (fun hf => by omega)
  refine ar_iload_n rfl rfl ?_
  refine ar_bipush (x := 24) rfl rfl ?_
  refine ar_icmp_ne rfl rfl (by omega) (by omega) (fun h381 => ?_) (fun hf => by omega)
  refine ar_iload_n rfl rfl ?_
  refine ar_bipush (x := 25) rfl rfl ?_
  refine ar_icmp_ne rfl rfl (by omega) (by omega) (fun ht => by omega) (fun h403 => ?_)
  refine ar_aload_n rfl rfl ?_
  refine ar_iload_n rfl rfl ?_
  refine ar_cv1 rfl rfl rfl (Nat.le_of_ble_eq_true rfl) hC (by omega) (fun o q1 hq => B2_OQ hq (fun hk I1 Y1 F1 => ?_) (fun hk I1 Y1 F1 => ?_))
  · refine ar_goto rfl rfl ?_
    exact ar_iret rfl (Or.inl rfl) ⟨by rw [rc_0 hk], I1, Y1, F1⟩
  · rcases hx hk with e | e | e
    · rw [e]
      refine B2_H rfl rfl (Nat.le_of_ble_eq_true rfl) ?_
      refine ar_ldc (x := -3000000) rfl rfl ?_
      exact ar_iret rfl (Or.inl rfl) ⟨by rw [rc_13 hk e], I1, Y1, F1⟩
    · rw [e]
      refine B2_H rfl rfl (Nat.le_of_ble_eq_true rfl) ?_
      refine ar_ldc (x := -2000000) rfl rfl ?_
      exact ar_iret rfl (Or.inl rfl) ⟨by rw [rc_14 hk e], I1, Y1, F1⟩
    · rw [e]
      refine B2_H rfl rfl (Nat.le_of_ble_eq_true rfl) ?_
      refine ar_ldc (x := -1000000) rfl rfl ?_
      exact ar_iret rfl (Or.inl rfl) ⟨by rw [rc_15 hk e], I1, Y1, F1⟩
theorem ds_departure {d e : Nat} {q : am_A} {s1 : am_Z} {a b c p r t k v : Int} {kd : Int → Nat} (hx : k ≠ 0 → kd k = 13 ∨ kd k = 14 ∨ kd k = 15) (hC : am_C2 20 m_X_departure [aR 8 0, aI (zI a)] q (am_OQ e k kd (some (aI (zI v))) q s1)) : am_C2 (d + 21) m_L_does [aR 8 0, aI (zI 26), aI (zI a), aI (zI b), aI (zI c), aI (zI p), aI (zI r), aI (zI t)] q (am_OX e q s1 (am_rc k kd v)) := by
  refine am_C2_i (ls := [some (aR 8 0), some (aI (zI 26)), some (aI (zI a)), some (aI (zI b)), some (aI (zI c)), some (aI (zI p)), some (aI (zI r)), some (aI (zI t)), none]) rfl ?_
  refine ar_iload_n rfl rfl ?_
  refine ar_if_ne rfl rfl (by omega) (fun h1 => ?_) (fun hf => by omega)
  refine ar_iload_n rfl rfl ?_
  refine ar_iconst rfl ?_
  refine ar_icmp_ne rfl rfl (by omega) (by omega) (fun h15 => ?_) (fun hf => by omega)
  refine ar_iload_n rfl rfl ?_
  refine ar_iconst rfl ?_
  refine ar_icmp_ne rfl rfl (by omega) (by omega) (fun h29 => ?_) (fun hf => by omega)
  refine ar_iload_n rfl rfl ?_
  refine ar_iconst rfl ?_
  refine ar_icmp_ne rfl rfl (by omega) (by omega) (fun h51 => ?_) (fun hf => by omega)
  refine ar_iload_n rfl rfl ?_
  refine ar_iconst rfl ?_
  refine ar_icmp_ne rfl rfl (by omega) (by omega) (fun h69 => ?_) (fun hf => by omega)
  refine ar_iload_n rfl rfl ?_
  refine ar_iconst rfl ?_
  refine ar_icmp_ne rfl rfl (by omega) (by omega) (fun h85 => ?_) (fun hf => by omega)
  refine ar_iload_n rfl rfl ?_
  refine ar_bipush (x := 6) rfl rfl ?_
  refine ar_icmp_ne rfl rfl (by omega) (by omega) (fun h111 => ?_) (fun hf => by omega)
  refine ar_iload_n rfl rfl ?_
  refine ar_bipush (x := 7) rfl rfl ?_
  refine ar_icmp_ne rfl rfl (by omega) (by omega) (fun h132 => ?_) (fun hf => by omega)
  refine ar_iload_n rfl rfl ?_
  refine ar_bipush (x := 8) rfl rfl ?_
  refine ar_icmp_ne rfl rfl (by omega) (by omega) (fun h147 => ?_) (fun hf => by omega)
  refine ar_iload_n rfl rfl ?_
  refine ar_bipush (x := 9) rfl rfl ?_
  refine ar_icmp_ne rfl rfl (by omega) (by omega) (fun h161 => ?_) (fun hf => by omega)
  refine ar_iload_n rfl rfl ?_
  refine ar_bipush (x := 10) rfl rfl ?_
  refine ar_icmp_ne rfl rfl (by omega) (by omega) (fun h176 => ?_) (fun hf => by omega)
  refine ar_iload_n rfl rfl ?_
  refine ar_bipush (x := 11) rfl rfl ?_
  refine ar_icmp_ne rfl rfl (by omega) (by omega) (fun h190 => ?_) (fun hf => by omega)
  refine ar_iload_n rfl rfl ?_
  refine ar_bipush (x := 12) rfl rfl ?_
  refine ar_icmp_ne rfl rfl (by omega) (by omega) (fun h204 => ?_) (fun hf => by omega)
  refine ar_iload_n rfl rfl ?_
  refine ar_bipush (x := 13) rfl rfl ?_
  refine ar_icmp_ne rfl rfl (by omega) (by omega) (fun h218 => ?_) (fun hf => by omega)
  refine ar_iload_n rfl rfl ?_
  refine ar_bipush (x := 14) rfl rfl ?_
  refine ar_icmp_ne rfl rfl (by omega) (by omega) (fun h233 => ?_) (fun hf => by omega)
  refine ar_iload_n rfl rfl ?_
  refine ar_bipush (x := 15) rfl rfl ?_
  refine ar_icmp_ne rfl rfl (by omega) (by omega) (fun h250 => ?_) (fun hf => by omega)
  refine ar_iload_n rfl rfl ?_
  refine ar_bipush (x := 16) rfl rfl ?_
  refine ar_icmp_ne rfl rfl (by omega) (by omega) (fun h265 => ?_) (fun hf => by omega)
  refine ar_iload_n rfl rfl ?_
  refine ar_bipush (x := 17) rfl rfl ?_
  refine ar_icmp_ne rfl rfl (by omega) (by omega) (fun h279 => ?_) (fun hf => by omega)
  refine ar_iload_n rfl rfl ?_
  refine ar_bipush (x := 18) rfl rfl ?_
  refine ar_icmp_ne rfl rfl (by omega) (by omega) (fun h293 => ?_) (fun hf => by omega)
  refine ar_iload_n rfl rfl ?_
  refine ar_bipush (x := 19) rfl rfl ?_
  refine ar_icmp_ne rfl rfl (by omega) (by omega) (fun h308 => ?_) (fun hf => by omega)
  refine ar_iload_n rfl rfl ?_
  refine ar_bipush (x := 20) rfl rfl ?_
  refine ar_icmp_ne rfl rfl (by omega) (by omega) (fun h322 => ?_) (fun hf => by omega)
  refine ar_iload_n rfl rfl ?_
  refine ar_bipush (x := 21) rfl rfl ?_
  refine ar_icmp_ne rfl rfl (by omega) (by omega) (fun h336 => ?_) (fun hf => by omega)
  refine ar_iload_n rfl rfl ?_
  refine ar_bipush (x := 22) rfl rfl ?_
  refine ar_icmp_ne rfl rfl (by omega) (by omega) (fun h351 => ?_) (fun hf => by omega)
  refine ar_iload_n rfl rfl ?_
  refine ar_bipush (x := 23) rfl rfl ?_
  refine ar_icmp_ne rfl rfl (by omega) (by omega) (fun h366 => ?_) (fun hf => by omega)
  refine ar_iload_n rfl rfl ?_
  refine ar_bipush (x := 24) rfl rfl ?_
  refine ar_icmp_ne rfl rfl (by omega) (by omega) (fun h381 => ?_) (fun hf => by omega)
  refine ar_iload_n rfl rfl ?_
  refine ar_bipush (x := 25) rfl rfl ?_
  refine ar_icmp_ne rfl rfl (by omega) (by omega) (fun h403 => ?_) (fun hf => by omega)
  refine ar_iload_n rfl rfl ?_
  refine ar_bipush (x := 26) rfl rfl ?_
  refine ar_icmp_ne rfl rfl (by omega) (by omega) (fun ht => by omega) (fun h417 => ?_)
  refine ar_aload_n rfl rfl ?_
  refine ar_iload_n rfl rfl ?_
  refine ar_cv1 rfl rfl rfl (Nat.le_of_ble_eq_true rfl) hC (by omega) (fun o q1 hq => B2_OQ hq (fun hk I1 Y1 F1 => ?_) (fun hk I1 Y1 F1 => ?_))
  · refine ar_goto rfl rfl ?_
    exact ar_iret rfl (Or.inl rfl) ⟨by rw [rc_0 hk], I1, Y1, F1⟩
  · rcases hx hk with e | e | e
    · rw [e]
      refine B2_H rfl rfl (Nat.le_of_ble_eq_true rfl) ?_
      refine ar_ldc (x := -3000000) rfl rfl ?_
      exact ar_iret rfl (Or.inl rfl) ⟨by rw [rc_13 hk e], I1, Y1, F1⟩
    · rw [e]
      refine B2_H rfl rfl (Nat.le_of_ble_eq_true rfl) ?_
      refine ar_ldc (x := -2000000) rfl rfl ?_
      exact ar_iret rfl (Or.inl rfl) ⟨by rw [rc_14 hk e], I1, Y1, F1⟩
    · rw [e]
      refine B2_H rfl rfl (Nat.le_of_ble_eq_true rfl) ?_
      refine ar_ldc (x := -1000000) rfl rfl ?_
      exact ar_iret rfl (Or.inl rfl) ⟨by rw [rc_15 hk e], I1, Y1, F1⟩
theorem ds_standing {d e : Nat} {q : am_A} {s1 : am_Z} {a b c p r t k v : Int} {kd : Int → Nat} (hx : k ≠ 0 → kd k = 13 ∨ kd k = 14 ∨ kd k = 15) (hC : am_C2 20 m_X_standing [aR 8 0, aI (zI a)] q (am_OQ e k kd (some (aI (zI v))) q s1)) : am_C2 (d + 21) m_L_does [aR 8 0, aI (zI 27), aI (zI a), aI (zI b), aI (zI c), aI (zI p), aI (zI r), aI (zI t)] q (am_OX e q s1 (am_rc k kd v)) := by
  refine am_C2_i (ls := [some (aR 8 0), some (aI (zI 27)), some (aI (zI a)), some (aI (zI b)), some (aI (zI c)), some (aI (zI p)), some (aI (zI r)), some (aI (zI t)), none]) rfl ?_
  refine ar_iload_n rfl rfl ?_
  refine ar_if_ne rfl rfl (by omega) (fun h1 => ?_) (fun hf => by omega)
  refine ar_iload_n rfl rfl ?_
  refine ar_iconst rfl ?_
  refine ar_icmp_ne rfl rfl (by omega) (by omega) (fun h15 => ?_) (fun hf => by omega)
  refine ar_iload_n rfl rfl ?_
  refine ar_iconst rfl ?_
  refine ar_icmp_ne rfl rfl (by omega) (by omega) (fun h29 => ?_) (fun hf => by omega)
  refine ar_iload_n rfl rfl ?_
  refine ar_iconst rfl ?_
  refine ar_icmp_ne rfl rfl (by omega) (by omega) (fun h51 => ?_) (fun hf => by omega)
  refine ar_iload_n rfl rfl ?_
  refine ar_iconst rfl ?_
  refine ar_icmp_ne rfl rfl (by omega) (by omega) (fun h69 => ?_) (fun hf => by omega)
  refine ar_iload_n rfl rfl ?_
  refine ar_iconst rfl ?_
  refine ar_icmp_ne rfl rfl (by omega) (by omega) (fun h85 => ?_) (fun hf => by omega)
  refine ar_iload_n rfl rfl ?_
  refine ar_bipush (x := 6) rfl rfl ?_
  refine ar_icmp_ne rfl rfl (by omega) (by omega) (fun h111 => ?_) (fun hf => by omega)
  refine ar_iload_n rfl rfl ?_
  refine ar_bipush (x := 7) rfl rfl ?_
  refine ar_icmp_ne rfl rfl (by omega) (by omega) (fun h132 => ?_) (fun hf => by omega)
  refine ar_iload_n rfl rfl ?_
  refine ar_bipush (x := 8) rfl rfl ?_
  refine ar_icmp_ne rfl rfl (by omega) (by omega) (fun h147 => ?_) (fun hf => by omega)
  refine ar_iload_n rfl rfl ?_
  refine ar_bipush (x := 9) rfl rfl ?_
  refine ar_icmp_ne rfl rfl (by omega) (by omega) (fun h161 => ?_) (fun hf => by omega)
  refine ar_iload_n rfl rfl ?_
  refine ar_bipush (x := 10) rfl rfl ?_
  refine ar_icmp_ne rfl rfl (by omega) (by omega) (fun h176 => ?_) (fun hf => by omega)
  refine ar_iload_n rfl rfl ?_
  refine ar_bipush (x := 11) rfl rfl ?_
  refine ar_icmp_ne rfl rfl (by omega) (by omega) (fun h190 => ?_) (fun hf => by omega)
  refine ar_iload_n rfl rfl ?_
  refine ar_bipush (x := 12) rfl rfl ?_
  refine ar_icmp_ne rfl rfl (by omega) (by omega) (fun h204 => ?_) (fun hf => by omega)
  refine ar_iload_n rfl rfl ?_
  refine ar_bipush (x := 13) rfl rfl ?_
  refine ar_icmp_ne rfl rfl (by omega) (by omega) (fun h218 => ?_) (fun hf => by omega)
  refine ar_iload_n rfl rfl ?_
  refine ar_bipush (x := 14) rfl rfl ?_
  refine ar_icmp_ne rfl rfl (by omega) (by omega) (fun h233 => ?_) (fun hf => by omega)
  refine ar_iload_n rfl rfl ?_
  refine ar_bipush (x := 15) rfl rfl ?_
  refine ar_icmp_ne rfl rfl (by omega) (by omega) (fun h250 => ?_) (fun hf => by omega)
  refine ar_iload_n rfl rfl ?_
  refine ar_bipush (x := 16) rfl rfl ?_
  refine ar_icmp_ne rfl rfl (by omega) (by omega) (fun h265 => ?_) (fun hf => by omega)
  refine ar_iload_n rfl rfl ?_
  refine ar_bipush (x := 17) rfl rfl ?_
  refine ar_icmp_ne rfl rfl (by omega) (by omega) (fun h279 => ?_) (fun hf => by omega)
  refine ar_iload_n rfl rfl ?_
  refine ar_bipush (x := 18) rfl rfl ?_
  refine ar_icmp_ne rfl rfl (by omega) (by omega) (fun h293 => ?_) (fun hf => by omega)
  refine ar_iload_n rfl rfl ?_
  refine ar_bipush (x := 19) rfl rfl ?_
  refine ar_icmp_ne rfl rfl (by omega) (by omega) (fun h308 => ?_) (fun hf => by omega)
  refine ar_iload_n rfl rfl ?_
  refine ar_bipush (x := 20) rfl rfl ?_
  refine ar_icmp_ne rfl rfl (by omega) (by omega) (fun h322 => ?_) (fun hf => by omega)
  refine ar_iload_n rfl rfl ?_
  refine ar_bipush (x := 21) rfl rfl ?_
  refine ar_icmp_ne rfl rfl (by omega) (by omega) (fun h336 => ?_) (fun hf => by omega)
  refine ar_iload_n rfl rfl ?_
  refine ar_bipush (x := 22) rfl rfl ?_
  refine ar_icmp_ne rfl rfl (by omega) (by omega) (fun h351 => ?_) (fun hf => by omega)
  refine ar_iload_n rfl rfl ?_
  refine ar_bipush (x := 23) rfl rfl ?_
  refine ar_icmp_ne rfl rfl (by omega) (by omega) (fun h366 => ?_) (fun hf => by omega)
  refine ar_iload_n rfl rfl ?_
  refine ar_bipush (x := 24) rfl rfl ?_
  refine ar_icmp_ne rfl rfl (by omega) (by omega) (fun h381 => ?_) (fun hf => by omega)
  refine ar_iload_n rfl rfl ?_
  refine ar_bipush (x := 25) rfl rfl ?_
  refine ar_icmp_ne rfl rfl (by omega) (by omega) (fun h403 => ?_) (fun hf => by omega)
  refine ar_iload_n rfl rfl ?_
  refine ar_bipush (x := 26) rfl rfl ?_
  refine ar_icmp_ne rfl rfl (by omega) (by omega) (fun h417 => ?_) (fun hf => by omega)
  refine ar_iload_n rfl rfl ?_
  refine ar_bipush (x := 27) rfl rfl ?_
  refine ar_icmp_ne rfl rfl (by omega) (by omega) (fun ht => by omega) (fun h431 => ?_)
  refine ar_aload_n rfl rfl ?_
  refine ar_iload_n rfl rfl ?_
  refine ar_cv1 rfl rfl rfl (Nat.le_of_ble_eq_true rfl) hC (by omega) (fun o q1 hq => B2_OQ hq (fun hk I1 Y1 F1 => ?_) (fun hk I1 Y1 F1 => ?_))
  · refine ar_goto rfl rfl ?_
    exact ar_iret rfl (Or.inl rfl) ⟨by rw [rc_0 hk], I1, Y1, F1⟩
  · rcases hx hk with e | e | e
    · rw [e]
      refine B2_H rfl rfl (Nat.le_of_ble_eq_true rfl) ?_
      refine ar_ldc (x := -3000000) rfl rfl ?_
      exact ar_iret rfl (Or.inl rfl) ⟨by rw [rc_13 hk e], I1, Y1, F1⟩
    · rw [e]
      refine B2_H rfl rfl (Nat.le_of_ble_eq_true rfl) ?_
      refine ar_ldc (x := -2000000) rfl rfl ?_
      exact ar_iret rfl (Or.inl rfl) ⟨by rw [rc_14 hk e], I1, Y1, F1⟩
    · rw [e]
      refine B2_H rfl rfl (Nat.le_of_ble_eq_true rfl) ?_
      refine ar_ldc (x := -1000000) rfl rfl ?_
      exact ar_iret rfl (Or.inl rfl) ⟨by rw [rc_15 hk e], I1, Y1, F1⟩
theorem ds_open {d e : Nat} {q : am_A} {s1 : am_Z} {a b c p r t k v : Int} {kd : Int → Nat} (hx : k ≠ 0 → kd k = 13 ∨ kd k = 14 ∨ kd k = 15) (hC : am_C2 20 m_X_open [aR 8 0, aI (zI a), aI (zI b)] q (am_OQ e k kd (some (aI (zI v))) q s1)) : am_C2 (d + 21) m_L_does [aR 8 0, aI (zI 28), aI (zI a), aI (zI b), aI (zI c), aI (zI p), aI (zI r), aI (zI t)] q (am_OX e q s1 (am_rc k kd v)) := by
  refine am_C2_i (ls := [some (aR 8 0), some (aI (zI 28)), some (aI (zI a)), some (aI (zI b)), some (aI (zI c)), some (aI (zI p)), some (aI (zI r)), some (aI (zI t)), none]) rfl ?_
  refine ar_iload_n rfl rfl ?_
  refine ar_if_ne rfl rfl (by omega) (fun h1 => ?_) (fun hf => by omega)
  refine ar_iload_n rfl rfl ?_
  refine ar_iconst rfl ?_
  refine ar_icmp_ne rfl rfl (by omega) (by omega) (fun h15 => ?_) (fun hf => by omega)
  refine ar_iload_n rfl rfl ?_
  refine ar_iconst rfl ?_
  refine ar_icmp_ne rfl rfl (by omega) (by omega) (fun h29 => ?_) (fun hf => by omega)
  refine ar_iload_n rfl rfl ?_
  refine ar_iconst rfl ?_
  refine ar_icmp_ne rfl rfl (by omega) (by omega) (fun h51 => ?_) (fun hf => by omega)
  refine ar_iload_n rfl rfl ?_
  refine ar_iconst rfl ?_
  refine ar_icmp_ne rfl rfl (by omega) (by omega) (fun h69 => ?_) (fun hf => by omega)
  refine ar_iload_n rfl rfl ?_
  refine ar_iconst rfl ?_
  refine ar_icmp_ne rfl rfl (by omega) (by omega) (fun h85 => ?_) (fun hf => by omega)
  refine ar_iload_n rfl rfl ?_
  refine ar_bipush (x := 6) rfl rfl ?_
  refine ar_icmp_ne rfl rfl (by omega) (by omega) (fun h111 => ?_) (fun hf => by omega)
  refine ar_iload_n rfl rfl ?_
  refine ar_bipush (x := 7) rfl rfl ?_
  refine ar_icmp_ne rfl rfl (by omega) (by omega) (fun h132 => ?_) (fun hf => by omega)
  refine ar_iload_n rfl rfl ?_
  refine ar_bipush (x := 8) rfl rfl ?_
  refine ar_icmp_ne rfl rfl (by omega) (by omega) (fun h147 => ?_) (fun hf => by omega)
  refine ar_iload_n rfl rfl ?_
  refine ar_bipush (x := 9) rfl rfl ?_
  refine ar_icmp_ne rfl rfl (by omega) (by omega) (fun h161 => ?_) (fun hf => by omega)
  refine ar_iload_n rfl rfl ?_
  refine ar_bipush (x := 10) rfl rfl ?_
  refine ar_icmp_ne rfl rfl (by omega) (by omega) (fun h176 => ?_) (fun hf => by omega)
  refine ar_iload_n rfl rfl ?_
  refine ar_bipush (x := 11) rfl rfl ?_
  refine ar_icmp_ne rfl rfl (by omega) (by omega) (fun h190 => ?_) (fun hf => by omega)
  refine ar_iload_n rfl rfl ?_
  refine ar_bipush (x := 12) rfl rfl ?_
  refine ar_icmp_ne rfl rfl (by omega) (by omega) (fun h204 => ?_) (fun hf => by omega)
  refine ar_iload_n rfl rfl ?_
  refine ar_bipush (x := 13) rfl rfl ?_
  refine ar_icmp_ne rfl rfl (by omega) (by omega) (fun h218 => ?_) (fun hf => by omega)
  refine ar_iload_n rfl rfl ?_
  refine ar_bipush (x := 14) rfl rfl ?_
  refine ar_icmp_ne rfl rfl (by omega) (by omega) (fun h233 => ?_) (fun hf => by omega)
  refine ar_iload_n rfl rfl ?_
  refine ar_bipush (x := 15) rfl rfl ?_
  refine ar_icmp_ne rfl rfl (by omega) (by omega) (fun h250 => ?_) (fun hf => by omega)
  refine ar_iload_n rfl rfl ?_
  refine ar_bipush (x := 16) rfl rfl ?_
  refine ar_icmp_ne rfl rfl (by omega) (by omega) (fun h265 => ?_) (fun hf => by omega)
  refine ar_iload_n rfl rfl ?_
  refine ar_bipush (x := 17) rfl rfl ?_
  refine ar_icmp_ne rfl rfl (by omega) (by omega) (fun h279 => ?_) (fun hf => by omega)
  refine ar_iload_n rfl rfl ?_
  refine ar_bipush (x := 18) rfl rfl ?_
  refine ar_icmp_ne rfl rfl (by omega) (by omega) (fun h293 => ?_) (fun hf => by omega)
  refine ar_iload_n rfl rfl ?_
  refine ar_bipush (x := 19) rfl rfl ?_
  refine ar_icmp_ne rfl rfl (by omega) (by omega) (fun h308 => ?_) (fun hf => by omega)
  refine ar_iload_n rfl rfl ?_
  refine ar_bipush (x := 20) rfl rfl ?_
  refine ar_icmp_ne rfl rfl (by omega) (by omega) (fun h322 => ?_) (fun hf => by omega)
  refine ar_iload_n rfl rfl ?_
  refine ar_bipush (x := 21) rfl rfl ?_
  refine ar_icmp_ne rfl rfl (by omega) (by omega) (fun h336 => ?_) (fun hf => by omega)
  refine ar_iload_n rfl rfl ?_
  refine ar_bipush (x := 22) rfl rfl ?_
  refine ar_icmp_ne rfl rfl (by omega) (by omega) (fun h351 => ?_) (fun hf => by omega)
  refine ar_iload_n rfl rfl ?_
  refine ar_bipush (x := 23) rfl rfl ?_
  refine ar_icmp_ne rfl rfl (by omega) (by omega) (fun h366 => ?_) (fun hf => by omega)
  refine ar_iload_n rfl rfl ?_
  refine ar_bipush (x := 24) rfl rfl ?_
  refine ar_icmp_ne rfl rfl (by omega) (by omega) (fun h381 => ?_) (fun hf => by omega)
  refine ar_iload_n rfl rfl ?_
  refine ar_bipush (x := 25) rfl rfl ?_
  refine ar_icmp_ne rfl rfl (by omega) (by omega) (fun h403 => ?_) (fun hf => by omega)
  refine ar_iload_n rfl rfl ?_
  refine ar_bipush (x := 26) rfl rfl ?_
  refine ar_icmp_ne rfl rfl (by omega) (by omega) (fun h417 => ?_) (fun hf => by omega)
  refine ar_iload_n rfl rfl ?_
  refine ar_bipush (x := 27) rfl rfl ?_
  refine ar_icmp_ne rfl rfl (by omega) (by omega) (fun h431 => ?_) (fun hf => by omega)
  refine ar_iload_n rfl rfl ?_
  refine ar_bipush (x := 28) rfl rfl ?_
  refine ar_icmp_ne rfl rfl (by omega) (by omega) (fun ht => by omega) (fun h445 => ?_)
  refine ar_aload_n rfl rfl ?_
  refine ar_iload_n rfl rfl ?_
  refine ar_iload_n rfl rfl ?_
  refine ar_cv2 rfl rfl rfl (Nat.le_of_ble_eq_true rfl) hC (by omega) (fun o q1 hq => B2_OQ hq (fun hk I1 Y1 F1 => ?_) (fun hk I1 Y1 F1 => ?_))
  · refine ar_goto rfl rfl ?_
    exact ar_iret rfl (Or.inl rfl) ⟨by rw [rc_0 hk], I1, Y1, F1⟩
  · rcases hx hk with e | e | e
    · rw [e]
      refine B2_H rfl rfl (Nat.le_of_ble_eq_true rfl) ?_
      refine ar_ldc (x := -3000000) rfl rfl ?_
      exact ar_iret rfl (Or.inl rfl) ⟨by rw [rc_13 hk e], I1, Y1, F1⟩
    · rw [e]
      refine B2_H rfl rfl (Nat.le_of_ble_eq_true rfl) ?_
      refine ar_ldc (x := -2000000) rfl rfl ?_
      exact ar_iret rfl (Or.inl rfl) ⟨by rw [rc_14 hk e], I1, Y1, F1⟩
    · rw [e]
      refine B2_H rfl rfl (Nat.le_of_ble_eq_true rfl) ?_
      refine ar_ldc (x := -1000000) rfl rfl ?_
      exact ar_iret rfl (Or.inl rfl) ⟨by rw [rc_15 hk e], I1, Y1, F1⟩
theorem ds_points {d e : Nat} {q : am_A} {s1 : am_Z} {a b c p r t k v : Int} {kd : Int → Nat} (hx : k ≠ 0 → kd k = 13 ∨ kd k = 14 ∨ kd k = 15) (hC : am_C2 20 m_X_points [aR 8 0, aI (zI a)] q (am_OQ e k kd (some (aI (zI v))) q s1)) : am_C2 (d + 21) m_L_does [aR 8 0, aI (zI 29), aI (zI a), aI (zI b), aI (zI c), aI (zI p), aI (zI r), aI (zI t)] q (am_OX e q s1 (am_rc k kd v)) := by
  refine am_C2_i (ls := [some (aR 8 0), some (aI (zI 29)), some (aI (zI a)), some (aI (zI b)), some (aI (zI c)), some (aI (zI p)), some (aI (zI r)), some (aI (zI t)), none]) rfl ?_
  refine ar_iload_n rfl rfl ?_
  refine ar_if_ne rfl rfl (by omega) (fun h1 => ?_) (fun hf => by omega)
  refine ar_iload_n rfl rfl ?_
  refine ar_iconst rfl ?_
  refine ar_icmp_ne rfl rfl (by omega) (by omega) (fun h15 => ?_) (fun hf => by omega)
  refine ar_iload_n rfl rfl ?_
  refine ar_iconst rfl ?_
  refine ar_icmp_ne rfl rfl (by omega) (by omega) (fun h29 => ?_) (fun hf => by omega)
  refine ar_iload_n rfl rfl ?_
  refine ar_iconst rfl ?_
  refine ar_icmp_ne rfl rfl (by omega) (by omega) (fun h51 => ?_) (fun hf => by omega)
  refine ar_iload_n rfl rfl ?_
  refine ar_iconst rfl ?_
  refine ar_icmp_ne rfl rfl (by omega) (by omega) (fun h69 => ?_) (fun hf => by omega)
  refine ar_iload_n rfl rfl ?_
  refine ar_iconst rfl ?_
  refine ar_icmp_ne rfl rfl (by omega) (by omega) (fun h85 => ?_) (fun hf => by omega)
  refine ar_iload_n rfl rfl ?_
  refine ar_bipush (x := 6) rfl rfl ?_
  refine ar_icmp_ne rfl rfl (by omega) (by omega) (fun h111 => ?_) (fun hf => by omega)
  refine ar_iload_n rfl rfl ?_
  refine ar_bipush (x := 7) rfl rfl ?_
  refine ar_icmp_ne rfl rfl (by omega) (by omega) (fun h132 => ?_) (fun hf => by omega)
  refine ar_iload_n rfl rfl ?_
  refine ar_bipush (x := 8) rfl rfl ?_
  refine ar_icmp_ne rfl rfl (by omega) (by omega) (fun h147 => ?_) (fun hf => by omega)
  refine ar_iload_n rfl rfl ?_
  refine ar_bipush (x := 9) rfl rfl ?_
  refine ar_icmp_ne rfl rfl (by omega) (by omega) (fun h161 => ?_) (fun hf => by omega)
  refine ar_iload_n rfl rfl ?_
  refine ar_bipush (x := 10) rfl rfl ?_
  refine ar_icmp_ne rfl rfl (by omega) (by omega) (fun h176 => ?_) (fun hf => by omega)
  refine ar_iload_n rfl rfl ?_
  refine ar_bipush (x := 11) rfl rfl ?_
  refine ar_icmp_ne rfl rfl (by omega) (by omega) (fun h190 => ?_) (fun hf => by omega)
  refine ar_iload_n rfl rfl ?_
  refine ar_bipush (x := 12) rfl rfl ?_
  refine ar_icmp_ne rfl rfl (by omega) (by omega) (fun h204 => ?_) (fun hf => by omega)
  refine ar_iload_n rfl rfl ?_
  refine ar_bipush (x := 13) rfl rfl ?_
  refine ar_icmp_ne rfl rfl (by omega) (by omega) (fun h218 => ?_) (fun hf => by omega)
  refine ar_iload_n rfl rfl ?_
  refine ar_bipush (x := 14) rfl rfl ?_
  refine ar_icmp_ne rfl rfl (by omega) (by omega) (fun h233 => ?_) (fun hf => by omega)
  refine ar_iload_n rfl rfl ?_
  refine ar_bipush (x := 15) rfl rfl ?_
  refine ar_icmp_ne rfl rfl (by omega) (by omega) (fun h250 => ?_) (fun hf => by omega)
  refine ar_iload_n rfl rfl ?_
  refine ar_bipush (x := 16) rfl rfl ?_
  refine ar_icmp_ne rfl rfl (by omega) (by omega) (fun h265 => ?_) (fun hf => by omega)
  refine ar_iload_n rfl rfl ?_
  refine ar_bipush (x := 17) rfl rfl ?_
  refine ar_icmp_ne rfl rfl (by omega) (by omega) (fun h279 => ?_) (fun hf => by omega)
  refine ar_iload_n rfl rfl ?_
  refine ar_bipush (x := 18) rfl rfl ?_
  refine ar_icmp_ne rfl rfl (by omega) (by omega) (fun h293 => ?_) (fun hf => by omega)
  refine ar_iload_n rfl rfl ?_
  refine ar_bipush (x := 19) rfl rfl ?_
  refine ar_icmp_ne rfl rfl (by omega) (by omega) (fun h308 => ?_) (fun hf => by omega)
  refine ar_iload_n rfl rfl ?_
  refine ar_bipush (x := 20) rfl rfl ?_
  refine ar_icmp_ne rfl rfl (by omega) (by omega) (fun h322 => ?_) (fun hf => by omega)
  refine ar_iload_n rfl rfl ?_
  refine ar_bipush (x := 21) rfl rfl ?_
  refine ar_icmp_ne rfl rfl (by omega) (by omega) (fun h336 => ?_) (fun hf => by omega)
  refine ar_iload_n rfl rfl ?_
  refine ar_bipush (x := 22) rfl rfl ?_
  refine ar_icmp_ne rfl rfl (by omega) (by omega) (fun h351 => ?_) (fun hf => by omega)
  refine ar_iload_n rfl rfl ?_
  refine ar_bipush (x := 23) rfl rfl ?_
  refine ar_icmp_ne rfl rfl (by omega) (by omega) (fun h366 => ?_) (fun hf => by omega)
  refine ar_iload_n rfl rfl ?_
  refine ar_bipush (x := 24) rfl rfl ?_
  refine ar_icmp_ne rfl rfl (by omega) (by omega) (fun h381 => ?_) (fun hf => by omega)
  refine ar_iload_n rfl rfl ?_
  refine ar_bipush (x := 25) rfl rfl ?_
  refine ar_icmp_ne rfl rfl (by omega) (by omega) (fun h403 => ?_) (fun hf => by omega)
  refine ar_iload_n rfl rfl ?_
  refine ar_bipush (x := 26) rfl rfl ?_
  refine ar_icmp_ne rfl rfl (by omega) (by omega) (fun h417 => ?_) (fun hf => by omega)
  refine ar_iload_n rfl rfl ?_
  refine ar_bipush (x := 27) rfl rfl ?_
  refine ar_icmp_ne rfl rfl (by omega) (by omega) (fun h431 => ?_) (fun hf => by omega)
  refine ar_iload_n rfl rfl ?_
  refine ar_bipush (x := 28) rfl rfl ?_
  refine ar_icmp_ne rfl rfl (by omega) (by omega) (fun h445 => ?_) (fun hf => by omega)
  refine ar_iload_n rfl rfl ?_
  refine ar_bipush (x := 29) rfl rfl ?_
  refine ar_icmp_ne rfl rfl (by omega) (by omega) (fun ht => by omega) (fun h460 => ?_)
  refine ar_aload_n rfl rfl ?_
  refine ar_iload_n rfl rfl ?_
  refine ar_cv1 rfl rfl rfl (Nat.le_of_ble_eq_true rfl) hC (by omega) (fun o q1 hq => B2_OQ hq (fun hk I1 Y1 F1 => ?_) (fun hk I1 Y1 F1 => ?_))
  · refine ar_goto rfl rfl ?_
    exact ar_iret rfl (Or.inl rfl) ⟨by rw [rc_0 hk], I1, Y1, F1⟩
  · rcases hx hk with e | e | e
    · rw [e]
      refine B2_H rfl rfl (Nat.le_of_ble_eq_true rfl) ?_
      refine ar_ldc (x := -3000000) rfl rfl ?_
      exact ar_iret rfl (Or.inl rfl) ⟨by rw [rc_13 hk e], I1, Y1, F1⟩
    · rw [e]
      refine B2_H rfl rfl (Nat.le_of_ble_eq_true rfl) ?_
      refine ar_ldc (x := -2000000) rfl rfl ?_
      exact ar_iret rfl (Or.inl rfl) ⟨by rw [rc_14 hk e], I1, Y1, F1⟩
    · rw [e]
      refine B2_H rfl rfl (Nat.le_of_ble_eq_true rfl) ?_
      refine ar_ldc (x := -1000000) rfl rfl ?_
      exact ar_iret rfl (Or.inl rfl) ⟨by rw [rc_15 hk e], I1, Y1, F1⟩
theorem ds_owed {d e : Nat} {q : am_A} {s1 : am_Z} {a b c p r t k v : Int} {kd : Int → Nat} (hx : k ≠ 0 → kd k = 13 ∨ kd k = 14 ∨ kd k = 15) (hC : am_C2 20 m_X_owed [aR 8 0, aI (zI a), aI (zI b)] q (am_OQ e k kd (some (aI (zI v))) q s1)) : am_C2 (d + 21) m_L_does [aR 8 0, aI (zI 30), aI (zI a), aI (zI b), aI (zI c), aI (zI p), aI (zI r), aI (zI t)] q (am_OX e q s1 (am_rc k kd v)) := by
  refine am_C2_i (ls := [some (aR 8 0), some (aI (zI 30)), some (aI (zI a)), some (aI (zI b)), some (aI (zI c)), some (aI (zI p)), some (aI (zI r)), some (aI (zI t)), none]) rfl ?_
  refine ar_iload_n rfl rfl ?_
  refine ar_if_ne rfl rfl (by omega) (fun h1 => ?_) (fun hf => by omega)
  refine ar_iload_n rfl rfl ?_
  refine ar_iconst rfl ?_
  refine ar_icmp_ne rfl rfl (by omega) (by omega) (fun h15 => ?_) (fun hf => by omega)
  refine ar_iload_n rfl rfl ?_
  refine ar_iconst rfl ?_
  refine ar_icmp_ne rfl rfl (by omega) (by omega) (fun h29 => ?_) (fun hf => by omega)
  refine ar_iload_n rfl rfl ?_
  refine ar_iconst rfl ?_
  refine ar_icmp_ne rfl rfl (by omega) (by omega) (fun h51 => ?_) (fun hf => by omega)
  refine ar_iload_n rfl rfl ?_
  refine ar_iconst rfl ?_
  refine ar_icmp_ne rfl rfl (by omega) (by omega) (fun h69 => ?_) (fun hf => by omega)
  refine ar_iload_n rfl rfl ?_
  refine ar_iconst rfl ?_
  refine ar_icmp_ne rfl rfl (by omega) (by omega) (fun h85 => ?_) (fun hf => by omega)
  refine ar_iload_n rfl rfl ?_
  refine ar_bipush (x := 6) rfl rfl ?_
  refine ar_icmp_ne rfl rfl (by omega) (by omega) (fun h111 => ?_) (fun hf => by omega)
  refine ar_iload_n rfl rfl ?_
  refine ar_bipush (x := 7) rfl rfl ?_
  refine ar_icmp_ne rfl rfl (by omega) (by omega) (fun h132 => ?_) (fun hf => by omega)
  refine ar_iload_n rfl rfl ?_
  refine ar_bipush (x := 8) rfl rfl ?_
  refine ar_icmp_ne rfl rfl (by omega) (by omega) (fun h147 => ?_) (fun hf => by omega)
  refine ar_iload_n rfl rfl ?_
  refine ar_bipush (x := 9) rfl rfl ?_
  refine ar_icmp_ne rfl rfl (by omega) (by omega) (fun h161 => ?_) (fun hf => by omega)
  refine ar_iload_n rfl rfl ?_
  refine ar_bipush (x := 10) rfl rfl ?_
  refine ar_icmp_ne rfl rfl (by omega) (by omega) (fun h176 => ?_) (fun hf => by omega)
  refine ar_iload_n rfl rfl ?_
  refine ar_bipush (x := 11) rfl rfl ?_
  refine ar_icmp_ne rfl rfl (by omega) (by omega) (fun h190 => ?_) (fun hf => by omega)
  refine ar_iload_n rfl rfl ?_
  refine ar_bipush (x := 12) rfl rfl ?_
  refine ar_icmp_ne rfl rfl (by omega) (by omega) (fun h204 => ?_) (fun hf => by omega)
  refine ar_iload_n rfl rfl ?_
  refine ar_bipush (x := 13) rfl rfl ?_
  refine ar_icmp_ne rfl rfl (by omega) (by omega) (fun h218 => ?_) (fun hf => by omega)
  refine ar_iload_n rfl rfl ?_
  refine ar_bipush (x := 14) rfl rfl ?_
  refine ar_icmp_ne rfl rfl (by omega) (by omega) (fun h233 => ?_) (fun hf => by omega)
  refine ar_iload_n rfl rfl ?_
  refine ar_bipush (x := 15) rfl rfl ?_
  refine ar_icmp_ne rfl rfl (by omega) (by omega) (fun h250 => ?_) (fun hf => by omega)
  refine ar_iload_n rfl rfl ?_
  refine ar_bipush (x := 16) rfl rfl ?_
  refine ar_icmp_ne rfl rfl (by omega) (by omega) (fun h265 => ?_) (fun hf => by omega)
  refine ar_iload_n rfl rfl ?_
  refine ar_bipush (x := 17) rfl rfl ?_
  refine ar_icmp_ne rfl rfl (by omega) (by omega) (fun h279 => ?_) (fun hf => by omega)
  refine ar_iload_n rfl rfl ?_
  refine ar_bipush (x := 18) rfl rfl ?_
  refine ar_icmp_ne rfl rfl (by omega) (by omega) (fun h293 => ?_) (fun hf => by omega)
  refine ar_iload_n rfl rfl ?_
  refine ar_bipush (x := 19) rfl rfl ?_
  refine ar_icmp_ne rfl rfl (by omega) (by omega) (fun h308 => ?_) (fun hf => by omega)
  refine ar_iload_n rfl rfl ?_
  refine ar_bipush (x := 20) rfl rfl ?_
  refine ar_icmp_ne rfl rfl (by omega) (by omega) (fun h322 => ?_) (fun hf => by omega)
  refine ar_iload_n rfl rfl ?_
  refine ar_bipush (x := 21) rfl rfl ?_
  refine ar_icmp_ne rfl rfl (by omega) (by omega) (fun h336 => ?_) (fun hf => by omega)
  refine ar_iload_n rfl rfl ?_
  refine ar_bipush (x := 22) rfl rfl ?_
  refine ar_icmp_ne rfl rfl (by omega) (by omega) (fun h351 => ?_) (fun hf => by omega)
  refine ar_iload_n rfl rfl ?_
  refine ar_bipush (x := 23) rfl rfl ?_
  refine ar_icmp_ne rfl rfl (by omega) (by omega) (fun h366 => ?_) (fun hf => by omega)
  refine ar_iload_n rfl rfl ?_
  refine ar_bipush (x := 24) rfl rfl ?_
  refine ar_icmp_ne rfl rfl (by omega) (by omega) (fun h381 => ?_) (fun hf => by omega)
  refine ar_iload_n rfl rfl ?_
  refine ar_bipush (x := 25) rfl rfl ?_
  refine ar_icmp_ne rfl rfl (by omega) (by omega) (fun h403 => ?_) (fun hf => by omega)
  refine ar_iload_n rfl rfl ?_
  refine ar_bipush (x := 26) rfl rfl ?_
  refine ar_icmp_ne rfl rfl (by omega) (by omega) (fun h417 => ?_) (fun hf => by omega)
  refine ar_iload_n rfl rfl ?_
  refine ar_bipush (x := 27) rfl rfl ?_
  refine ar_icmp_ne rfl rfl (by omega) (by omega) (fun h431 => ?_) (fun hf => by omega)
  refine ar_iload_n rfl rfl ?_
  refine ar_bipush (x := 28) rfl rfl ?_
  refine ar_icmp_ne rfl rfl (by omega) (by omega) (fun h445 => ?_) (fun hf => by omega)
  refine ar_iload_n rfl rfl ?_
  refine ar_bipush (x := 29) rfl rfl ?_
  refine ar_icmp_ne rfl rfl (by omega) (by omega) (fun h460 => ?_) (fun hf => by omega)
  refine ar_aload_n rfl rfl ?_
  refine ar_iload_n rfl rfl ?_
  refine ar_iload_n rfl rfl ?_
  refine ar_cv2 rfl rfl rfl (Nat.le_of_ble_eq_true rfl) hC (by omega) (fun o q1 hq => B2_OQ hq (fun hk I1 Y1 F1 => ?_) (fun hk I1 Y1 F1 => ?_))
  · exact ar_iret rfl (Or.inl rfl) ⟨by rw [rc_0 hk], I1, Y1, F1⟩
  · rcases hx hk with e | e | e
    · rw [e]
      refine B2_H rfl rfl (Nat.le_of_ble_eq_true rfl) ?_
      refine ar_ldc (x := -3000000) rfl rfl ?_
      exact ar_iret rfl (Or.inl rfl) ⟨by rw [rc_13 hk e], I1, Y1, F1⟩
    · rw [e]
      refine B2_H rfl rfl (Nat.le_of_ble_eq_true rfl) ?_
      refine ar_ldc (x := -2000000) rfl rfl ?_
      exact ar_iret rfl (Or.inl rfl) ⟨by rw [rc_14 hk e], I1, Y1, F1⟩
    · rw [e]
      refine B2_H rfl rfl (Nat.le_of_ble_eq_true rfl) ?_
      refine ar_ldc (x := -1000000) rfl rfl ?_
      exact ar_iret rfl (Or.inl rfl) ⟨by rw [rc_15 hk e], I1, Y1, F1⟩
theorem ds_rules {d e : Nat} {q : am_A} {s1 : am_Z} {f a b c p r t k : Int} {kd : Int → Nat} (hx : k ≠ 0 → kd k = 13 ∨ kd k = 14) (hC : am_C2 20 m_X_rules [aR 8 0, aI (zI f), aI (zI a), aI (zI b), aI (zI c), aI (zI p), aI (zI r), aI (zI t)] q (am_OQ e k kd none q s1)) : am_C2 (d + 21) m_L_rules [aR 8 0, aI (zI f), aI (zI a), aI (zI b), aI (zI c), aI (zI p), aI (zI r), aI (zI t)] q (am_OX e q s1 (am_rc k kd 0)) := by
  refine am_C2_i (ls := [some (aR 8 0), some (aI (zI f)), some (aI (zI a)), some (aI (zI b)), some (aI (zI c)), some (aI (zI p)), some (aI (zI r)), some (aI (zI t)), none]) rfl ?_
  refine ar_aload_n rfl rfl ?_
  refine ar_iload_n rfl rfl ?_
  refine ar_iload_n rfl rfl ?_
  refine ar_iload_n rfl rfl ?_
  refine ar_iload rfl rfl ?_
  refine ar_iload rfl rfl ?_
  refine ar_iload rfl rfl ?_
  refine ar_iload rfl rfl ?_
  refine ar_cv7 rfl rfl rfl (Nat.le_of_ble_eq_true rfl) hC (by omega) (fun o q1 hq => B2_OQ hq (fun hk I1 Y1 F1 => ?_) (fun hk I1 Y1 F1 => ?_))
  · refine ar_iconst rfl ?_
    exact ar_iret rfl (Or.inl rfl) ⟨by rw [rc_0 hk], I1, Y1, F1⟩
  · rcases hx hk with e | e
    · rw [e]
      refine B2_H rfl rfl (Nat.le_of_ble_eq_true rfl) ?_
      refine ar_ldc (x := -3000000) rfl rfl ?_
      exact ar_iret rfl (Or.inl rfl) ⟨by rw [rc_13 hk e], I1, Y1, F1⟩
    · rw [e]
      refine B2_H rfl rfl (Nat.le_of_ble_eq_true rfl) ?_
      refine ar_ldc (x := -2000000) rfl rfl ?_
      exact ar_iret rfl (Or.inl rfl) ⟨by rw [rc_14 hk e], I1, Y1, F1⟩
theorem cs_lleg {d : Nat} {q : am_A} {T : am_LT} (H : am_LA q T) (hg : 0 ≤ T 5 0 ∧ T 5 0 ≤ 12) {o1 : Int} (ho : 0 ≤ o1 ∧ o1 ≤ 200000) : am_C2 d m_L_leg [aR 24 5, aI (zI o1)] q (am_is2 (aI (zI (if T 5 0 = 0 then 0 else 100 * (o1 % T 5 0) + o1 / 12 % 9))) q) := by
  refine am_C2_i (ls := [some (aR 24 5), some (aI (zI o1))]) rfl ?_
  have g0 : qAI q (24, 5) (0 : Int).toNat = T 5 0 := (H 5 (by omega)).2 0 (by omega) (by show (0 : Int) < ((7 : Nat) : Int); omega)
  have gl : qAL q (24, 5) = 7 := (H 5 (by omega)).1
  refine ar_aload_n rfl rfl ?_
  refine ar_iconst rfl ?_
  refine ar_ia rfl rfl (gl) (by omega) (by omega) ?_
  rw [g0]
  refine ar_if_ne rfl rfl (by omega) (fun h3 => ?_) (fun h3 => ?_)
  · refine ar_bipush (x := 100) rfl rfl ?_
    refine ar_iload_n rfl rfl ?_
    refine ar_aload_n rfl rfl ?_
    refine ar_iconst rfl ?_
    refine ar_ia rfl rfl (gl) (by omega) (by omega) ?_
    rw [g0]
    refine ar_irem rfl (by omega) (by omega) ?_
    refine ar_imul rfl ?_
    refine ar_iload_n rfl rfl ?_
    refine ar_bipush (x := 12) rfl rfl ?_
    refine ar_idiv rfl (by omega) (by omega) ?_
    refine ar_bipush (x := 9) rfl rfl ?_
    refine ar_irem rfl (by omega) (by omega) ?_
    refine ar_iadd rfl ?_
    exact ar_iret rfl (Or.inl rfl) (cq_eP (by first | rw [if_pos (by omega)] | rw [if_neg (by omega)]))
  · refine ar_iconst rfl ?_
    refine ar_goto rfl rfl ?_
    exact ar_iret rfl (Or.inl rfl) (cq_eP (by first | rw [if_pos (by omega)] | rw [if_neg (by omega)]))
end

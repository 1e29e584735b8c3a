noncomputable section
/-- the best way of a journey -/
def bestW (s : am_Z) (n : Int) : am_wQ := if rI s 35 ≤ 0 then (-1, []) else (wSub s n 4 0 []).foldl (tk s) (-1, [])
def jrn (s : am_Z) : am_Z := wB (wI s 35 (rI s 33)) 36 0 (rI s 33).toNat (fun i => rA s 34 i)
def kMany (n : Int) : Int := if 1 ≤ n ∧ n ≤ 9 then 0 else 1
def kStr (s : am_Z) (n i : Int) : Int := if ¬ (1 ≤ n ∧ n ≤ 9) then 2 else if (bestW (jrn s) n).1 ≠ -1 ∧ 0 ≤ i ∧ i < (bestW (jrn s) n).2.length then 0 else 1
theorem sr_builds {d : Nat} {s : am_Z} {n : Int}  (hn : in32 n) : am_CR (d + 5) m_M_builds [aR 9 0, aI (zI n)] s (isV (fun s2 => am_BR s s2 ∧ am_WQ s2 (bestW s n))) := by
  refine am_CR_i (ls := [some (aR 9 0), some (aI (zI n)), none, none]) rfl (fun q0 => ?_)
  have hB0 : am_BR s (wI (wI s 37 (-1)) 38 0) := ⟨fun _ _ _ => rfl, fun j h1 h2 => (if_neg h2).trans (if_neg h1)⟩
  have hB1 : am_BR s (wA (wA (wA (wI (wI s 37 (-1)) 38 0) 43 0 0) 41 0 1) 42 0 (-1)) := am_BR_w (am_BR_w (am_BR_w hB0 rfl) rfl) rfl
  have hW1 : am_WQ (wA (wA (wA (wI (wI s 37 (-1)) 38 0) 43 0 0) 41 0 1) 42 0 (-1)) (-1, []) := ⟨rfl, rfl, by simp, fun i hi => absurd hi (by simp)⟩
  refine rr_inS (fun B => ?_)
  have b35 := B.2.1 35 0 4 rfl
  have b20 := B.2.1 20 0 16 rfl
  refine rr_aload_n rfl rfl ?_
  refine rr_iconst rfl ?_
  refine rr_pfI 37 rfl rfl rfl rfl (by omega) rfl (by omega) ?_
  refine rr_aload_n rfl rfl ?_
  refine rr_iconst rfl ?_
  refine rr_pfI 38 rfl rfl rfl rfl (by omega) rfl (by omega) ?_
  refine rr_iconst rfl ?_
  refine rr_stI2 rfl ?_
  refine rr_aload_n rfl rfl ?_
  refine rr_gfA 43 rfl rfl (by omega) rfl ?_
  refine rr_iconst rfl ?_
  refine rr_iconst rfl ?_
  refine rr_ias 43 5 rfl ⟨rfl, by omega⟩ rfl (by omega) (by omega) rfl rfl (by omega) (by omega) ?_
  refine rr_aload_n rfl rfl ?_
  refine rr_gfA 41 rfl rfl (by omega) rfl ?_
  refine rr_iconst rfl ?_
  refine rr_iconst rfl ?_
  refine rr_ias 41 5 rfl ⟨rfl, by omega⟩ rfl (by omega) (by omega) rfl rfl (by omega) (by omega) ?_
  refine rr_aload_n rfl rfl ?_
  refine rr_gfA 42 rfl rfl (by omega) rfl ?_
  refine rr_iconst rfl ?_
  refine rr_iconst rfl ?_
  refine rr_ias 42 5 rfl ⟨rfl, by omega⟩ rfl (by omega) (by omega) rfl rfl (by omega) (by omega) ?_
  by_cases hz : rI s 35 ≤ 0
  · refine rr_iload_n rfl rfl ?_
    refine rr_if_lt rfl rfl (by omega) (fun ht => by omega) (fun h34 => ?_)
    refine rr_aload_n rfl rfl ?_
    refine rr_gfIv 35 (s) rfl rfl rfl (by omega) rfl (fun b38 => ?_)
    refine rr_if_le rfl rfl (by omega) (fun h41 => ?_) (fun hf => by omega)
    exact rr_ret rfl rfl ⟨rfl, hB1, by unfold bestW; rw [if_pos hz]; exact hW1⟩
  · refine lv_build (d := d) (s := s) hn (by omega) b20 3 100 [] 0 1 (-1) 0 _ (-1, []) _ (by omega) (by omega) ⟨rfl, rfl, by omega, by omega, by omega, by omega, by omega⟩ (fun x hx => absurd hx (by simp)) hB1 (fun i hi => absurd hi (by simp)) ⟨rfl, rfl, rfl⟩ hW1 (fun s2 W2 x3 v2 e1 e2 e3 e4 e5 => ?_)
    refine rr_iload_n rfl rfl ?_
    refine rr_if_lt rfl rfl (by omega) (fun h34 => ?_) (fun hf => by omega)
    exact rr_ret rfl rfl ⟨rfl, e2, by unfold bestW; rw [if_neg hz]; rw [show (wSub s n 4 0 []).foldl (tk s) (-1, []) = W2 from e5.symm]; exact e4⟩
theorem lp_bd {d : Nat} {s : am_Z} {q0 : am_A} {Q : Option am_V → am_Z → Prop} {n : Int} : ∀ (m : Nat) (j : Nat) (k : Int) (s1 : am_Z), (rI s 33).toNat - j < m → (k = j ∧ (j : Int) ≤ rI s 33 ∧ s1 = wB s 36 0 j (fun i => rA s 34 i)) → (∀ x2, am_WR d m_M_buildsDraft 36 [some (aR 9 0), some (aI (zI n)), x2] [] q0 (wB s 36 0 (rI s 33).toNat (fun i => rA s 34 i)) Q) → am_WR d m_M_buildsDraft 10 [some (aR 9 0), some (aI (zI n)), some (aI (zI k))] [] q0 (s1) Q := by
  intro m
  induction m with
  | zero => intro j k s1 hm; exact absurd hm (Nat.not_lt_zero _)
  | succ m ih =>
    intro j k s1 hm ⟨hj, hj2, hs1⟩ K
    subst hj
    subst hs1
    refine rr_inS (fun B => ?_)
    have b33 := B.2.1 33 0 4 rfl
    have e33 : rI (wB s 36 0 j (fun i => rA s 34 i)) 33 = rI s 33 := rfl
    refine rr_iload_n rfl rfl ?_
    refine rr_aload_n rfl rfl ?_
    refine rr_gfIv 33 (s) rfl rfl rfl (by omega) rfl (fun b12 => ?_)
    refine rr_icmp_ge rfl rfl (by omega) (by omega) (fun h15 => ?_) (fun h15 => ?_)
    · rw [show j = (rI s 33).toNat by omega]
      exact K _
    · refine rr_aload_n rfl rfl ?_
      refine rr_gfA 36 rfl rfl (by omega) rfl ?_
      refine rr_iload_n rfl rfl ?_
      refine rr_aload_n rfl rfl ?_
      refine rr_gfA 34 rfl rfl (by omega) rfl ?_
      refine rr_iload_n rfl rfl ?_
      refine rr_iaL 34 4 (s) (fun _ => rfl) rfl rfl rfl rfl rfl (by omega) (by omega) (fun b28 => ?_)
      refine rr_iasL 36 4 rfl ⟨rfl, by omega⟩ rfl (by omega) (by omega) rfl (by omega) (by omega) ?_
      refine rr_inc2 rfl ?_
      refine rr_goto rfl rfl ?_
      have e := wB_s s 36 0 j (fun i => rA s 34 i)
      rw [Int.zero_add] at e
      rw [e]
      exact ih (j + 1) _ _ (by omega) ⟨by omega, by omega, rfl⟩ K
theorem sr_buildsDraft {d : Nat} {s : am_Z} {n : Int}  (hn : in32 n) : am_CR (d + 6) m_M_buildsDraft [aR 9 0, aI (zI n)] s (isV (fun s2 => am_BR (jrn s) s2 ∧ am_WQ s2 (bestW (jrn s) n))) := by
  refine am_CR_i (ls := [some (aR 9 0), some (aI (zI n)), none]) rfl (fun q0 => ?_)
  refine rr_inS (fun B => ?_)
  have b33 := B.2.1 33 0 4 rfl
  refine rr_aload_n rfl rfl ?_
  refine rr_aload_n rfl rfl ?_
  refine rr_gfI 33 rfl rfl (by omega) rfl (fun b2 => ?_)
  refine rr_pfI 35 rfl rfl rfl rfl (by omega) rfl (by omega) ?_
  refine rr_iconst rfl ?_
  refine rr_stI2 rfl ?_
  refine lp_bd (d := d + 6) (s := wI s 35 (rI s 33)) ((rI s 33).toNat + 1) 0 0 _ (by show (rI s 33).toNat - 0 < (rI s 33).toNat + 1; omega) ⟨rfl, by show (0 : Int) ≤ rI s 33; omega, (wB_0 ..).symm⟩ (fun x2 => ?_)
  refine rr_aload_n rfl rfl ?_
  refine rr_iload_n rfl rfl ?_
  refine rr_cv1V rfl rfl rfl (Nat.le_of_ble_eq_true rfl) (sr_builds (d := 0) (by omega)) (by omega) (fun s38 q38 => ?_)
  exact rr_ret rfl rfl ⟨rfl, q38⟩
theorem sr_priced {d : Nat} {s : am_Z} {n : Int}  (hn : in32 n) : am_CR (d + 7) m_M_priced [aR 9 0, aI (zI n)] s (isG (fun v s2 => (kMany n = 0 → v = (bestW (jrn (wI s 74 (kMany n))) n).1 ∧ am_BR (jrn (wI s 74 (kMany n))) s2) ∧ (kMany n ≠ 0 → v = 0 ∧ s2 = (wI s 74 (kMany n))))) := by
  refine am_CR_i (ls := [some (aR 9 0), some (aI (zI n))]) rfl (fun q0 => ?_)
  refine rr_aload_n rfl rfl ?_
  refine rr_join (pc' := 13) (V := kMany n) ?_ (fun K13 => ?_)
  · refine rr_cv1B rfl rfl rfl (Nat.le_of_ble_eq_true rfl) (sr_fails (d := 0) (by unfold kMany; omega)) (by omega) ?_
    refine rr_if_eqB rfl rfl (fun h16 => ?_) (fun h16 => ?_)
    · have hk : kMany n = 0 := by { have z : 0 ≤ kMany n := by { unfold kMany; omega }; omega }
      refine rr_aload_n rfl rfl ?_
      refine rr_iload_n rfl rfl ?_
      refine rr_cv1V rfl rfl rfl (Nat.le_of_ble_eq_true rfl) (sr_buildsDraft (d := 0) (by omega)) (by omega) (fun s23 q23 => ?_)
      refine rr_aload_n rfl rfl ?_
      refine rr_gfI 37 rfl rfl (by omega) rfl (fun b27 => ?_)
      refine rr_iret rfl (Or.inl rfl) ?_
      exact ⟨_, rfl, fun z => ⟨q23.2.1, q23.1⟩, fun z => absurd hk z⟩
    · refine rr_iconst rfl ?_
      refine rr_iret rfl (Or.inl rfl) ?_
      exact ⟨_, rfl, fun z => by omega, fun z => ⟨rfl, rfl⟩⟩
  · refine rr_iload_n rfl rfl ?_
    refine rr_cs1B rfl rfl (Nat.le_of_ble_eq_true rfl) (sr_isMany (d := 0) (by omega)) (by omega) ?_
    refine rr_if_eqB rfl rfl (fun h5 => ?_) (fun h5 => ?_)
    · refine rr_iconst rfl ?_
      exact K13 _ (by unfold kMany; omega)
    · refine rr_iconst rfl ?_
      refine rr_goto rfl rfl ?_
      exact K13 _ (by unfold kMany; omega)
theorem sr_price {d : Nat} {s : am_Z} {n : Int}  (hn : in32 n) : am_CR (d + 8) m_M_price [aR 9 0, aI (zI n)] s (isG (fun v s2 => (kMany n = 0 → v = (bestW (jrn (wI s 74 (kMany n))) n).1 ∧ am_BR (jrn (wI s 74 (kMany n))) s2) ∧ (kMany n ≠ 0 → v = 0 ∧ s2 = (wI s 74 (kMany n))))) := by
  refine am_CR_i (ls := [some (aR 9 0), some (aI (zI n))]) rfl (fun q0 => ?_)
  refine rr_aload_n rfl rfl ?_
  refine rr_iload_n rfl rfl ?_
  refine rr_cv1G rfl rfl rfl (Nat.le_of_ble_eq_true rfl) (sr_priced (d := 0) (by omega)) (by omega) (fun v2 s2 q2 => ?_)
  refine rr_iret rfl (Or.inl rfl) ?_
  exact ⟨_, rfl, q2⟩
theorem sr_priceAnew {d : Nat} {s : am_Z} {n : Int}  (hn : in32 n) : am_CR (d + 8) m_M_priceAnew [aR 9 0, aI (zI n)] s (isG (fun v s2 => (kMany n = 0 → v = (bestW (jrn (wI s 74 (kMany n))) n).1 ∧ am_BR (jrn (wI s 74 (kMany n))) s2) ∧ (kMany n ≠ 0 → v = 0 ∧ s2 = (wI s 74 (kMany n))))) := by
  refine am_CR_i (ls := [some (aR 9 0), some (aI (zI n))]) rfl (fun q0 => ?_)
  refine rr_aload_n rfl rfl ?_
  refine rr_iload_n rfl rfl ?_
  refine rr_cv1G rfl rfl rfl (Nat.le_of_ble_eq_true rfl) (sr_priced (d := 0) (by omega)) (by omega) (fun v2 s2 q2 => ?_)
  refine rr_iret rfl (Or.inl rfl) ?_
  exact ⟨_, rfl, q2⟩
theorem sr_stretch {d : Nat} {s : am_Z} {n i : Int}  (hn : in32 n) (hi : in32 i) : am_CR (d + 7) m_M_stretch [aR 9 0, aI (zI n), aI (zI i)] s (isG (fun v s2 => (kStr s n i = 0 → v = 10 * pF (bestW (jrn s) n).2 i.toNat + pC (bestW (jrn s) n).2 i.toNat) ∧ (kStr s n i ≠ 0 → v = 0) ∧ ∃ s1, s2 = wI s1 74 (kStr s n i) ∧ ((kMany n ≠ 0 ∧ s1 = s) ∨ (kMany n = 0 ∧ am_BR (jrn s) s1)))) := by
  refine am_CR_i (ls := [some (aR 9 0), some (aI (zI n)), some (aI (zI i)), none]) rfl (fun q0 => ?_)
  refine rr_iload_n rfl rfl ?_
  refine rr_cs1B rfl rfl (Nat.le_of_ble_eq_true rfl) (sr_isMany (d := 0) (by omega)) (by omega) ?_
  refine rr_if_eqB rfl rfl (fun h4 => ?_) (fun h4 => ?_)
  · refine rr_iload_n rfl rfl ?_
    refine rr_cs1B rfl rfl (Nat.le_of_ble_eq_true rfl) (sr_isMany (d := 0) (by omega)) (by omega) ?_
    refine rr_if_eqB rfl rfl (fun h16 => ?_) (fun h16 => ?_)
    · refine rr_iconst rfl ?_
      refine rr_stI3 rfl ?_
      refine rr_aload_n rfl rfl ?_
      refine rr_join (pc' := 68) (V := kStr s n i) ?_ (fun K68 => ?_)
      · refine rr_cv1B rfl rfl rfl (Nat.le_of_ble_eq_true rfl) (sr_fails (d := 0) (by unfold kStr; omega)) (by omega) ?_
        refine rr_if_eqB rfl rfl (fun h71 => ?_) (fun h71 => ?_)
        · have hk : kStr s n i = 0 := by { have z : 0 ≤ kStr s n i := by { unfold kStr; omega }; omega }
          have hk2 := hk
          unfold kStr at hk2
          refine rr_bipush (x := 10) rfl rfl ?_
          refine rr_aload_n rfl rfl ?_
          refine rr_gfA 40 rfl rfl (by omega) rfl ?_
          refine rr_iload_n rfl rfl ?_
          refine rr_iav 40 4 (s) (fun _ => rfl) rfl rfl rfl rfl (by omega) (by omega) (fun b85 => ?_)
          refine rr_imul rfl ?_
          refine rr_aload_n rfl rfl ?_
          refine rr_gfA 39 rfl rfl (by omega) rfl ?_
          refine rr_iload_n rfl rfl ?_
          refine rr_iav 39 4 (s) (fun _ => rfl) rfl rfl rfl rfl (by omega) (by omega) (fun b92 => ?_)
          refine rr_iadd rfl ?_
          refine rr_iret rfl (Or.inl rfl) ?_
          first | exact ⟨_, rfl, fun z => absurd z (by omega), fun _ => rfl, _, rfl, Or.inl ⟨by unfold kMany; omega, rfl⟩⟩ | exact ⟨_, rfl, fun z => absurd z (by omega), fun _ => rfl, _, rfl, Or.inr ⟨by unfold kMany; omega, q9.1⟩⟩ | exact ⟨_, rfl, fun z => (by have hz := q9.2.2.2.2 i.toNat (by omega); rw [show ((i.toNat : Nat) : Int) = i by omega] at hz; omega), fun z => absurd hk z, _, rfl, Or.inr ⟨by unfold kMany; omega, q9.1⟩⟩ | exact False.elim (by omega)
        · refine rr_iconst rfl ?_
          refine rr_goto rfl rfl ?_
          refine rr_iret rfl (Or.inl rfl) ?_
          first | exact ⟨_, rfl, fun z => absurd z (by omega), fun _ => rfl, _, rfl, Or.inl ⟨by unfold kMany; omega, rfl⟩⟩ | exact ⟨_, rfl, fun z => absurd z (by omega), fun _ => rfl, _, rfl, Or.inr ⟨by unfold kMany; omega, q9.1⟩⟩ | exact ⟨_, rfl, fun z => (by have hz := q9.2.2.2.2 i.toNat (by omega); rw [show ((i.toNat : Nat) : Int) = i by omega] at hz; omega), fun z => absurd hk z, _, rfl, Or.inr ⟨by unfold kMany; omega, q9.1⟩⟩ | exact False.elim (by omega)
      · refine rr_iload_n rfl rfl ?_
        refine rr_cs1B rfl rfl (Nat.le_of_ble_eq_true rfl) (sr_isMany (d := 0) (by omega)) (by omega) ?_
        refine rr_if_neB rfl rfl (fun h52 => ?_) (fun h52 => ?_)
        · refine rr_iload_n rfl rfl ?_
          refine rr_if_eq rfl rfl (by omega) (fun h60 => ?_) (fun h60 => ?_)
          · refine rr_iconst rfl ?_
            exact K68 _ (by unfold kStr; omega)
          · refine rr_iconst rfl ?_
            refine rr_goto rfl rfl ?_
            exact K68 _ (by unfold kStr; omega)
        · refine rr_iconst rfl ?_
          refine rr_goto rfl rfl ?_
          exact K68 _ (by unfold kStr; omega)
    · refine rr_aload_n rfl rfl ?_
      refine rr_gfI 37 rfl rfl (by omega) rfl (fun b20 => ?_)
      refine rr_iconst rfl ?_
      refine rr_icmp_eq rfl rfl (by omega) (by omega) (fun h24 => ?_) (fun h24 => ?_)
      · refine rr_iconst rfl ?_
        refine rr_stI3 rfl ?_
        refine rr_aload_n rfl rfl ?_
        refine rr_join (pc' := 68) (V := kStr s n i) ?_ (fun K68 => ?_)
        · refine rr_cv1B rfl rfl rfl (Nat.le_of_ble_eq_true rfl) (sr_fails (d := 0) (by unfold kStr; omega)) (by omega) ?_
          refine rr_if_eqB rfl rfl (fun h71 => ?_) (fun h71 => ?_)
          · have hk : kStr s n i = 0 := by { have z : 0 ≤ kStr s n i := by { unfold kStr; omega }; omega }
            have hk2 := hk
            unfold kStr at hk2
            refine rr_bipush (x := 10) rfl rfl ?_
            refine rr_aload_n rfl rfl ?_
            refine rr_gfA 40 rfl rfl (by omega) rfl ?_
            refine rr_iload_n rfl rfl ?_
            refine rr_iav 40 4 (s) (fun _ => rfl) rfl rfl rfl rfl (by omega) (by omega) (fun b85 => ?_)
            refine rr_imul rfl ?_
            refine rr_aload_n rfl rfl ?_
            refine rr_gfA 39 rfl rfl (by omega) rfl ?_
            refine rr_iload_n rfl rfl ?_
            refine rr_iav 39 4 (s) (fun _ => rfl) rfl rfl rfl rfl (by omega) (by omega) (fun b92 => ?_)
            refine rr_iadd rfl ?_
            refine rr_iret rfl (Or.inl rfl) ?_
            first | exact ⟨_, rfl, fun z => absurd z (by omega), fun _ => rfl, _, rfl, Or.inl ⟨by unfold kMany; omega, rfl⟩⟩ | exact ⟨_, rfl, fun z => absurd z (by omega), fun _ => rfl, _, rfl, Or.inr ⟨by unfold kMany; omega, q9.1⟩⟩ | exact ⟨_, rfl, fun z => (by have hz := q9.2.2.2.2 i.toNat (by omega); rw [show ((i.toNat : Nat) : Int) = i by omega] at hz; omega), fun z => absurd hk z, _, rfl, Or.inr ⟨by unfold kMany; omega, q9.1⟩⟩ | exact False.elim (by omega)
          · refine rr_iconst rfl ?_
            refine rr_goto rfl rfl ?_
            refine rr_iret rfl (Or.inl rfl) ?_
            first | exact ⟨_, rfl, fun z => absurd z (by omega), fun _ => rfl, _, rfl, Or.inl ⟨by unfold kMany; omega, rfl⟩⟩ | exact ⟨_, rfl, fun z => absurd z (by omega), fun _ => rfl, _, rfl, Or.inr ⟨by unfold kMany; omega, q9.1⟩⟩ | exact ⟨_, rfl, fun z => (by have hz := q9.2.2.2.2 i.toNat (by omega); rw [show ((i.toNat : Nat) : Int) = i by omega] at hz; omega), fun z => absurd hk z, _, rfl, Or.inr ⟨by unfold kMany; omega, q9.1⟩⟩ | exact False.elim (by omega)
        · refine rr_iload_n rfl rfl ?_
          refine rr_cs1B rfl rfl (Nat.le_of_ble_eq_true rfl) (sr_isMany (d := 0) (by omega)) (by omega) ?_
          refine rr_if_neB rfl rfl (fun h52 => ?_) (fun h52 => ?_)
          · refine rr_iload_n rfl rfl ?_
            refine rr_if_eq rfl rfl (by omega) (fun h60 => ?_) (fun h60 => ?_)
            · refine rr_iconst rfl ?_
              exact K68 _ (by unfold kStr; omega)
            · refine rr_iconst rfl ?_
              refine rr_goto rfl rfl ?_
              exact K68 _ (by unfold kStr; omega)
          · refine rr_iconst rfl ?_
            refine rr_goto rfl rfl ?_
            exact K68 _ (by unfold kStr; omega)
      · refine rr_iload_n rfl rfl ?_
        refine rr_iconst rfl ?_
        refine rr_aload_n rfl rfl ?_
        refine rr_gfI 38 rfl rfl (by omega) rfl (fun b30 => ?_)
        refine rr_iconst rfl ?_
        refine rr_isub rfl ?_
        refine rr_cs3B rfl rfl (Nat.le_of_ble_eq_true rfl) (sr_isIn (d := 0) (by omega) (by omega) (by omega)) (by omega) ?_
        refine rr_if_eqB rfl rfl (fun h38 => ?_) (fun h38 => ?_)
        · refine rr_iconst rfl ?_
          refine rr_stI3 rfl ?_
          refine rr_aload_n rfl rfl ?_
          refine rr_join (pc' := 68) (V := kStr s n i) ?_ (fun K68 => ?_)
          · refine rr_cv1B rfl rfl rfl (Nat.le_of_ble_eq_true rfl) (sr_fails (d := 0) (by unfold kStr; omega)) (by omega) ?_
            refine rr_if_eqB rfl rfl (fun h71 => ?_) (fun h71 => ?_)
            · have hk : kStr s n i = 0 := by { have z : 0 ≤ kStr s n i := by { unfold kStr; omega }; omega }
              have hk2 := hk
              unfold kStr at hk2
              refine rr_bipush (x := 10) rfl rfl ?_
              refine rr_aload_n rfl rfl ?_
              refine rr_gfA 40 rfl rfl (by omega) rfl ?_
              refine rr_iload_n rfl rfl ?_
              refine rr_iav 40 4 (s) (fun _ => rfl) rfl rfl rfl rfl (by omega) (by omega) (fun b85 => ?_)
              refine rr_imul rfl ?_
              refine rr_aload_n rfl rfl ?_
              refine rr_gfA 39 rfl rfl (by omega) rfl ?_
              refine rr_iload_n rfl rfl ?_
              refine rr_iav 39 4 (s) (fun _ => rfl) rfl rfl rfl rfl (by omega) (by omega) (fun b92 => ?_)
              refine rr_iadd rfl ?_
              refine rr_iret rfl (Or.inl rfl) ?_
              first | exact ⟨_, rfl, fun z => absurd z (by omega), fun _ => rfl, _, rfl, Or.inl ⟨by unfold kMany; omega, rfl⟩⟩ | exact ⟨_, rfl, fun z => absurd z (by omega), fun _ => rfl, _, rfl, Or.inr ⟨by unfold kMany; omega, q9.1⟩⟩ | exact ⟨_, rfl, fun z => (by have hz := q9.2.2.2.2 i.toNat (by omega); rw [show ((i.toNat : Nat) : Int) = i by omega] at hz; omega), fun z => absurd hk z, _, rfl, Or.inr ⟨by unfold kMany; omega, q9.1⟩⟩ | exact False.elim (by omega)
            · refine rr_iconst rfl ?_
              refine rr_goto rfl rfl ?_
              refine rr_iret rfl (Or.inl rfl) ?_
              first | exact ⟨_, rfl, fun z => absurd z (by omega), fun _ => rfl, _, rfl, Or.inl ⟨by unfold kMany; omega, rfl⟩⟩ | exact ⟨_, rfl, fun z => absurd z (by omega), fun _ => rfl, _, rfl, Or.inr ⟨by unfold kMany; omega, q9.1⟩⟩ | exact ⟨_, rfl, fun z => (by have hz := q9.2.2.2.2 i.toNat (by omega); rw [show ((i.toNat : Nat) : Int) = i by omega] at hz; omega), fun z => absurd hk z, _, rfl, Or.inr ⟨by unfold kMany; omega, q9.1⟩⟩ | exact False.elim (by omega)
          · refine rr_iload_n rfl rfl ?_
            refine rr_cs1B rfl rfl (Nat.le_of_ble_eq_true rfl) (sr_isMany (d := 0) (by omega)) (by omega) ?_
            refine rr_if_neB rfl rfl (fun h52 => ?_) (fun h52 => ?_)
            · refine rr_iload_n rfl rfl ?_
              refine rr_if_eq rfl rfl (by omega) (fun h60 => ?_) (fun h60 => ?_)
              · refine rr_iconst rfl ?_
                exact K68 _ (by unfold kStr; omega)
              · refine rr_iconst rfl ?_
                refine rr_goto rfl rfl ?_
                exact K68 _ (by unfold kStr; omega)
            · refine rr_iconst rfl ?_
              refine rr_goto rfl rfl ?_
              exact K68 _ (by unfold kStr; omega)
        · refine rr_iconst rfl ?_
          refine rr_goto rfl rfl ?_
          refine rr_stI3 rfl ?_
          refine rr_aload_n rfl rfl ?_
          refine rr_join (pc' := 68) (V := kStr s n i) ?_ (fun K68 => ?_)
          · refine rr_cv1B rfl rfl rfl (Nat.le_of_ble_eq_true rfl) (sr_fails (d := 0) (by unfold kStr; omega)) (by omega) ?_
            refine rr_if_eqB rfl rfl (fun h71 => ?_) (fun h71 => ?_)
            · have hk : kStr s n i = 0 := by { have z : 0 ≤ kStr s n i := by { unfold kStr; omega }; omega }
              have hk2 := hk
              unfold kStr at hk2
              refine rr_bipush (x := 10) rfl rfl ?_
              refine rr_aload_n rfl rfl ?_
              refine rr_gfA 40 rfl rfl (by omega) rfl ?_
              refine rr_iload_n rfl rfl ?_
              refine rr_iav 40 4 (s) (fun _ => rfl) rfl rfl rfl rfl (by omega) (by omega) (fun b85 => ?_)
              refine rr_imul rfl ?_
              refine rr_aload_n rfl rfl ?_
              refine rr_gfA 39 rfl rfl (by omega) rfl ?_
              refine rr_iload_n rfl rfl ?_
              refine rr_iav 39 4 (s) (fun _ => rfl) rfl rfl rfl rfl (by omega) (by omega) (fun b92 => ?_)
              refine rr_iadd rfl ?_
              refine rr_iret rfl (Or.inl rfl) ?_
              first | exact ⟨_, rfl, fun z => absurd z (by omega), fun _ => rfl, _, rfl, Or.inl ⟨by unfold kMany; omega, rfl⟩⟩ | exact ⟨_, rfl, fun z => absurd z (by omega), fun _ => rfl, _, rfl, Or.inr ⟨by unfold kMany; omega, q9.1⟩⟩ | exact ⟨_, rfl, fun z => (by have hz := q9.2.2.2.2 i.toNat (by omega); rw [show ((i.toNat : Nat) : Int) = i by omega] at hz; omega), fun z => absurd hk z, _, rfl, Or.inr ⟨by unfold kMany; omega, q9.1⟩⟩ | exact False.elim (by omega)
            · refine rr_iconst rfl ?_
              refine rr_goto rfl rfl ?_
              refine rr_iret rfl (Or.inl rfl) ?_
              first | exact ⟨_, rfl, fun z => absurd z (by omega), fun _ => rfl, _, rfl, Or.inl ⟨by unfold kMany; omega, rfl⟩⟩ | exact ⟨_, rfl, fun z => absurd z (by omega), fun _ => rfl, _, rfl, Or.inr ⟨by unfold kMany; omega, q9.1⟩⟩ | exact ⟨_, rfl, fun z => (by have hz := q9.2.2.2.2 i.toNat (by omega); rw [show ((i.toNat : Nat) : Int) = i by omega] at hz; omega), fun z => absurd hk z, _, rfl, Or.inr ⟨by unfold kMany; omega, q9.1⟩⟩ | exact False.elim (by omega)
          · refine rr_iload_n rfl rfl ?_
            refine rr_cs1B rfl rfl (Nat.le_of_ble_eq_true rfl) (sr_isMany (d := 0) (by omega)) (by omega) ?_
            refine rr_if_neB rfl rfl (fun h52 => ?_) (fun h52 => ?_)
            · refine rr_iload_n rfl rfl ?_
              refine rr_if_eq rfl rfl (by omega) (fun h60 => ?_) (fun h60 => ?_)
              · refine rr_iconst rfl ?_
                exact K68 _ (by unfold kStr; omega)
              · refine rr_iconst rfl ?_
                refine rr_goto rfl rfl ?_
                exact K68 _ (by unfold kStr; omega)
            · refine rr_iconst rfl ?_
              refine rr_goto rfl rfl ?_
              exact K68 _ (by unfold kStr; omega)
  · refine rr_aload_n rfl rfl ?_
    refine rr_iload_n rfl rfl ?_
    refine rr_cv1V rfl rfl rfl (Nat.le_of_ble_eq_true rfl) (sr_buildsDraft (d := 0) (by omega)) (by omega) (fun s9 q9 => ?_)
    have g37 := q9.2.1
    have g38 := q9.2.2.1
    have g4 := q9.2.2.2.1
    refine rr_iload_n rfl rfl ?_
    refine rr_cs1B rfl rfl (Nat.le_of_ble_eq_true rfl) (sr_isMany (d := 0) (by omega)) (by omega) ?_
    refine rr_if_eqB rfl rfl (fun h16 => ?_) (fun h16 => ?_)
    · refine rr_iconst rfl ?_
      refine rr_stI3 rfl ?_
      refine rr_aload_n rfl rfl ?_
      refine rr_join (pc' := 68) (V := kStr s n i) ?_ (fun K68 => ?_)
      · refine rr_cv1B rfl rfl rfl (Nat.le_of_ble_eq_true rfl) (sr_fails (d := 0) (by unfold kStr; omega)) (by omega) ?_
        refine rr_if_eqB rfl rfl (fun h71 => ?_) (fun h71 => ?_)
        · have hk : kStr s n i = 0 := by { have z : 0 ≤ kStr s n i := by { unfold kStr; omega }; omega }
          have hk2 := hk
          unfold kStr at hk2
          refine rr_bipush (x := 10) rfl rfl ?_
          refine rr_aload_n rfl rfl ?_
          refine rr_gfA 40 rfl rfl (by omega) rfl ?_
          refine rr_iload_n rfl rfl ?_
          refine rr_iav 40 4 (s9) (fun _ => rfl) rfl rfl rfl rfl (by omega) (by omega) (fun b85 => ?_)
          refine rr_imul rfl ?_
          refine rr_aload_n rfl rfl ?_
          refine rr_gfA 39 rfl rfl (by omega) rfl ?_
          refine rr_iload_n rfl rfl ?_
          refine rr_iav 39 4 (s9) (fun _ => rfl) rfl rfl rfl rfl (by omega) (by omega) (fun b92 => ?_)
          refine rr_iadd rfl ?_
          refine rr_iret rfl (Or.inl rfl) ?_
          first | exact ⟨_, rfl, fun z => absurd z (by omega), fun _ => rfl, _, rfl, Or.inl ⟨by unfold kMany; omega, rfl⟩⟩ | exact ⟨_, rfl, fun z => absurd z (by omega), fun _ => rfl, _, rfl, Or.inr ⟨by unfold kMany; omega, q9.1⟩⟩ | exact ⟨_, rfl, fun z => (by have hz := q9.2.2.2.2 i.toNat (by omega); rw [show ((i.toNat : Nat) : Int) = i by omega] at hz; omega), fun z => absurd hk z, _, rfl, Or.inr ⟨by unfold kMany; omega, q9.1⟩⟩ | exact False.elim (by omega)
        · refine rr_iconst rfl ?_
          refine rr_goto rfl rfl ?_
          refine rr_iret rfl (Or.inl rfl) ?_
          first | exact ⟨_, rfl, fun z => absurd z (by omega), fun _ => rfl, _, rfl, Or.inl ⟨by unfold kMany; omega, rfl⟩⟩ | exact ⟨_, rfl, fun z => absurd z (by omega), fun _ => rfl, _, rfl, Or.inr ⟨by unfold kMany; omega, q9.1⟩⟩ | exact ⟨_, rfl, fun z => (by have hz := q9.2.2.2.2 i.toNat (by omega); rw [show ((i.toNat : Nat) : Int) = i by omega] at hz; omega), fun z => absurd hk z, _, rfl, Or.inr ⟨by unfold kMany; omega, q9.1⟩⟩ | exact False.elim (by omega)
      · refine rr_iload_n rfl rfl ?_
        refine rr_cs1B rfl rfl (Nat.le_of_ble_eq_true rfl) (sr_isMany (d := 0) (by omega)) (by omega) ?_
        refine rr_if_neB rfl rfl (fun h52 => ?_) (fun h52 => ?_)
        · refine rr_iload_n rfl rfl ?_
          refine rr_if_eq rfl rfl (by omega) (fun h60 => ?_) (fun h60 => ?_)
          · refine rr_iconst rfl ?_
            exact K68 _ (by unfold kStr; omega)
          · refine rr_iconst rfl ?_
            refine rr_goto rfl rfl ?_
            exact K68 _ (by unfold kStr; omega)
        · refine rr_iconst rfl ?_
          refine rr_goto rfl rfl ?_
          exact K68 _ (by unfold kStr; omega)
    · refine rr_aload_n rfl rfl ?_
      refine rr_gfI 37 rfl rfl (by omega) rfl (fun b20 => ?_)
      refine rr_iconst rfl ?_
      refine rr_icmp_eq rfl rfl (by omega) (by omega) (fun h24 => ?_) (fun h24 => ?_)
      · refine rr_iconst rfl ?_
        refine rr_stI3 rfl ?_
        refine rr_aload_n rfl rfl ?_
        refine rr_join (pc' := 68) (V := kStr s n i) ?_ (fun K68 => ?_)
        · refine rr_cv1B rfl rfl rfl (Nat.le_of_ble_eq_true rfl) (sr_fails (d := 0) (by unfold kStr; omega)) (by omega) ?_
          refine rr_if_eqB rfl rfl (fun h71 => ?_) (fun h71 => ?_)
          · have hk : kStr s n i = 0 := by { have z : 0 ≤ kStr s n i := by { unfold kStr; omega }; omega }
            have hk2 := hk
            unfold kStr at hk2
            refine rr_bipush (x := 10) rfl rfl ?_
            refine rr_aload_n rfl rfl ?_
            refine rr_gfA 40 rfl rfl (by omega) rfl ?_
            refine rr_iload_n rfl rfl ?_
            refine rr_iav 40 4 (s9) (fun _ => rfl) rfl rfl rfl rfl (by omega) (by omega) (fun b85 => ?_)
            refine rr_imul rfl ?_
            refine rr_aload_n rfl rfl ?_
            refine rr_gfA 39 rfl rfl (by omega) rfl ?_
            refine rr_iload_n rfl rfl ?_
            refine rr_iav 39 4 (s9) (fun _ => rfl) rfl rfl rfl rfl (by omega) (by omega) (fun b92 => ?_)
            refine rr_iadd rfl ?_
            refine rr_iret rfl (Or.inl rfl) ?_
            first | exact ⟨_, rfl, fun z => absurd z (by omega), fun _ => rfl, _, rfl, Or.inl ⟨by unfold kMany; omega, rfl⟩⟩ | exact ⟨_, rfl, fun z => absurd z (by omega), fun _ => rfl, _, rfl, Or.inr ⟨by unfold kMany; omega, q9.1⟩⟩ | exact ⟨_, rfl, fun z => (by have hz := q9.2.2.2.2 i.toNat (by omega); rw [show ((i.toNat : Nat) : Int) = i by omega] at hz; omega), fun z => absurd hk z, _, rfl, Or.inr ⟨by unfold kMany; omega, q9.1⟩⟩ | exact False.elim (by omega)
          · refine rr_iconst rfl ?_
            refine rr_goto rfl rfl ?_
            refine rr_iret rfl (Or.inl rfl) ?_
            first | exact ⟨_, rfl, fun z => absurd z (by omega), fun _ => rfl, _, rfl, Or.inl ⟨by unfold kMany; omega, rfl⟩⟩ | exact ⟨_, rfl, fun z => absurd z (by omega), fun _ => rfl, _, rfl, Or.inr ⟨by unfold kMany; omega, q9.1⟩⟩ | exact ⟨_, rfl, fun z => (by have hz := q9.2.2.2.2 i.toNat (by omega); rw [show ((i.toNat : Nat) : Int) = i by omega] at hz; omega), fun z => absurd hk z, _, rfl, Or.inr ⟨by unfold kMany; omega, q9.1⟩⟩ | exact False.elim (by omega)
        · refine rr_iload_n rfl rfl ?_
          refine rr_cs1B rfl rfl (Nat.le_of_ble_eq_true rfl) (sr_isMany (d := 0) (by omega)) (by omega) ?_
          refine rr_if_neB rfl rfl (fun h52 => ?_) (fun h52 => ?_)
          · refine rr_iload_n rfl rfl ?_
            refine rr_if_eq rfl rfl (by omega) (fun h60 => ?_) (fun h60 => ?_)
            · refine rr_iconst rfl ?_
              exact K68 _ (by unfold kStr; omega)
            · refine rr_iconst rfl ?_
              refine rr_goto rfl rfl ?_
              exact K68 _ (by unfold kStr; omega)
          · refine rr_iconst rfl ?_
            refine rr_goto rfl rfl ?_
            exact K68 _ (by unfold kStr; omega)
      · refine rr_iload_n rfl rfl ?_
        refine rr_iconst rfl ?_
        refine rr_aload_n rfl rfl ?_
        refine rr_gfI 38 rfl rfl (by omega) rfl (fun b30 => ?_)
        refine rr_iconst rfl ?_
        refine rr_isub rfl ?_
        refine rr_cs3B rfl rfl (Nat.le_of_ble_eq_true rfl) (sr_isIn (d := 0) (by omega) (by omega) (by omega)) (by omega) ?_
        refine rr_if_eqB rfl rfl (fun h38 => ?_) (fun h38 => ?_)
        · refine rr_iconst rfl ?_
          refine rr_stI3 rfl ?_
          refine rr_aload_n rfl rfl ?_
          refine rr_join (pc' := 68) (V := kStr s n i) ?_ (fun K68 => ?_)
          · refine rr_cv1B rfl rfl rfl (Nat.le_of_ble_eq_true rfl) (sr_fails (d := 0) (by unfold kStr; omega)) (by omega) ?_
            refine rr_if_eqB rfl rfl (fun h71 => ?_) (fun h71 => ?_)
            · have hk : kStr s n i = 0 := by { have z : 0 ≤ kStr s n i := by { unfold kStr; omega }; omega }
              have hk2 := hk
              unfold kStr at hk2
              refine rr_bipush (x := 10) rfl rfl ?_
              refine rr_aload_n rfl rfl ?_
              refine rr_gfA 40 rfl rfl (by omega) rfl ?_
              refine rr_iload_n rfl rfl ?_
              refine rr_iav 40 4 (s9) (fun _ => rfl) rfl rfl rfl rfl (by omega) (by omega) (fun b85 => ?_)
              refine rr_imul rfl ?_
              refine rr_aload_n rfl rfl ?_
              refine rr_gfA 39 rfl rfl (by omega) rfl ?_
              refine rr_iload_n rfl rfl ?_
              refine rr_iav 39 4 (s9) (fun _ => rfl) rfl rfl rfl rfl (by omega) (by omega) (fun b92 => ?_)
              refine rr_iadd rfl ?_
              refine rr_iret rfl (Or.inl rfl) ?_
              first | exact ⟨_, rfl, fun z => absurd z (by omega), fun _ => rfl, _, rfl, Or.inl ⟨by unfold kMany; omega, rfl⟩⟩ | exact ⟨_, rfl, fun z => absurd z (by omega), fun _ => rfl, _, rfl, Or.inr ⟨by unfold kMany; omega, q9.1⟩⟩ | exact ⟨_, rfl, fun z => (by have hz := q9.2.2.2.2 i.toNat (by omega); rw [show ((i.toNat : Nat) : Int) = i by omega] at hz; omega), fun z => absurd hk z, _, rfl, Or.inr ⟨by unfold kMany; omega, q9.1⟩⟩ | exact False.elim (by omega)
            · refine rr_iconst rfl ?_
              refine rr_goto rfl rfl ?_
              refine rr_iret rfl (Or.inl rfl) ?_
              first | exact ⟨_, rfl, fun z => absurd z (by omega), fun _ => rfl, _, rfl, Or.inl ⟨by unfold kMany; omega, rfl⟩⟩ | exact ⟨_, rfl, fun z => absurd z (by omega), fun _ => rfl, _, rfl, Or.inr ⟨by unfold kMany; omega, q9.1⟩⟩ | exact ⟨_, rfl, fun z => (by have hz := q9.2.2.2.2 i.toNat (by omega); rw [show ((i.toNat : Nat) : Int) = i by omega] at hz; omega), fun z => absurd hk z, _, rfl, Or.inr ⟨by unfold kMany; omega, q9.1⟩⟩ | exact False.elim (by omega)
          · refine rr_iload_n rfl rfl ?_
            refine rr_cs1B rfl rfl (Nat.le_of_ble_eq_true rfl) (sr_isMany (d := 0) (by omega)) (by omega) ?_
            refine rr_if_neB rfl rfl (fun h52 => ?_) (fun h52 => ?_)
            · refine rr_iload_n rfl rfl ?_
              refine rr_if_eq rfl rfl (by omega) (fun h60 => ?_) (fun h60 => ?_)
              · refine rr_iconst rfl ?_
                exact K68 _ (by unfold kStr; omega)
              · refine rr_iconst rfl ?_
                refine rr_goto rfl rfl ?_
                exact K68 _ (by unfold kStr; omega)
            · refine rr_iconst rfl ?_
              refine rr_goto rfl rfl ?_
              exact K68 _ (by unfold kStr; omega)
        · refine rr_iconst rfl ?_
          refine rr_goto rfl rfl ?_
          refine rr_stI3 rfl ?_
          refine rr_aload_n rfl rfl ?_
          refine rr_join (pc' := 68) (V := kStr s n i) ?_ (fun K68 => ?_)
          · refine rr_cv1B rfl rfl rfl (Nat.le_of_ble_eq_true rfl) (sr_fails (d := 0) (by unfold kStr; omega)) (by omega) ?_
            refine rr_if_eqB rfl rfl (fun h71 => ?_) (fun h71 => ?_)
            · have hk : kStr s n i = 0 := by { have z : 0 ≤ kStr s n i := by { unfold kStr; omega }; omega }
              have hk2 := hk
              unfold kStr at hk2
              refine rr_bipush (x := 10) rfl rfl ?_
              refine rr_aload_n rfl rfl ?_
              refine rr_gfA 40 rfl rfl (by omega) rfl ?_
              refine rr_iload_n rfl rfl ?_
              refine rr_iav 40 4 (s9) (fun _ => rfl) rfl rfl rfl rfl (by omega) (by omega) (fun b85 => ?_)
              refine rr_imul rfl ?_
              refine rr_aload_n rfl rfl ?_
              refine rr_gfA 39 rfl rfl (by omega) rfl ?_
              refine rr_iload_n rfl rfl ?_
              refine rr_iav 39 4 (s9) (fun _ => rfl) rfl rfl rfl rfl (by omega) (by omega) (fun b92 => ?_)
              refine rr_iadd rfl ?_
              refine rr_iret rfl (Or.inl rfl) ?_
              first | exact ⟨_, rfl, fun z => absurd z (by omega), fun _ => rfl, _, rfl, Or.inl ⟨by unfold kMany; omega, rfl⟩⟩ | exact ⟨_, rfl, fun z => absurd z (by omega), fun _ => rfl, _, rfl, Or.inr ⟨by unfold kMany; omega, q9.1⟩⟩ | exact ⟨_, rfl, fun z => (by have hz := q9.2.2.2.2 i.toNat (by omega); rw [show ((i.toNat : Nat) : Int) = i by omega] at hz; omega), fun z => absurd hk z, _, rfl, Or.inr ⟨by unfold kMany; omega, q9.1⟩⟩ | exact False.elim (by omega)
            · refine rr_iconst rfl ?_
              refine rr_goto rfl rfl ?_
              refine rr_iret rfl (Or.inl rfl) ?_
              first | exact ⟨_, rfl, fun z => absurd z (by omega), fun _ => rfl, _, rfl, Or.inl ⟨by unfold kMany; omega, rfl⟩⟩ | exact ⟨_, rfl, fun z => absurd z (by omega), fun _ => rfl, _, rfl, Or.inr ⟨by unfold kMany; omega, q9.1⟩⟩ | exact ⟨_, rfl, fun z => (by have hz := q9.2.2.2.2 i.toNat (by omega); rw [show ((i.toNat : Nat) : Int) = i by omega] at hz; omega), fun z => absurd hk z, _, rfl, Or.inr ⟨by unfold kMany; omega, q9.1⟩⟩ | exact False.elim (by omega)
          · refine rr_iload_n rfl rfl ?_
            refine rr_cs1B rfl rfl (Nat.le_of_ble_eq_true rfl) (sr_isMany (d := 0) (by omega)) (by omega) ?_
            refine rr_if_neB rfl rfl (fun h52 => ?_) (fun h52 => ?_)
            · refine rr_iload_n rfl rfl ?_
              refine rr_if_eq rfl rfl (by omega) (fun h60 => ?_) (fun h60 => ?_)
              · refine rr_iconst rfl ?_
                exact K68 _ (by unfold kStr; omega)
              · refine rr_iconst rfl ?_
                refine rr_goto rfl rfl ?_
                exact K68 _ (by unfold kStr; omega)
            · refine rr_iconst rfl ?_
              refine rr_goto rfl rfl ?_
              exact K68 _ (by unfold kStr; omega)
end

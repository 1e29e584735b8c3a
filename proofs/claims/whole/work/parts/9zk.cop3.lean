noncomputable section
section HG
variable {D y : Nat} {as : List am_V} {s sR sC : am_Z} {vM vC k : Int} {J : am_Z → Prop} {Qv : Int → am_Z → Prop}
theorem hM_G (C : am_CR D y as s (isG Qv)) (H : ∀ v s2, Qv v s2 → in_S s2 → (k = 0 → v = vC) ∧ rI s2 74 = k ∧ J s2 ∧ (∀ j x, usA j → rA s2 j x = rA sC j x) ∧ ∀ j, usI j → rI s2 j = rI sC j) (q1 : am_A) (R : am_RV q1 q1 s) : am_C2 D y as q1 (fun o q' => ∃ b s2, o = .inl (some (aI (zI b))) ∧ am_RV q1 q' s2 ∧ (k = 0 → b = vC) ∧ am_SD J k sC s2) := am_C2_imp (C q1 q1 R) (fun o q' h => by
  obtain ⟨v, s', e, R', b, e1, hq⟩ := h
  subst e1
  obtain ⟨h1, h2, h3, h4, h5⟩ := H b s' hq R'.2.2.2.2.1
  exact ⟨b, s', e, R', h1, h2, h3, h4, h5⟩)
theorem hM_Z (C : am_CR D y as s (isP sR vM True)) (h74 : rI sR 74 = 0) (hv : vM = vC) (hJ : J sR) (m : ∀ j x, usA j → rA sR j x = rA sC j x) (n : ∀ j, usI j → rI sR j = rI sC j) (q1 : am_A) (R : am_RV q1 q1 s) : am_C2 D y as q1 (fun o q' => ∃ b s2, o = .inl (some (aI (zI b))) ∧ am_RV q1 q' s2 ∧ b = (zI vC).toInt ∧ am_SD J 0 sC s2) := am_C2_imp (C q1 q1 R) (fun o q' h => by
  obtain ⟨v, s', e, R', e1, e2, _⟩ := h
  subst e1
  subst e2
  subst hv
  exact ⟨_, s', by rw [(zI_self vM).1]; exact e, R', rfl, h74, hJ, m, n⟩)
theorem hM_Y (C : am_CR D y as s (isG Qv)) (H : ∀ v s2, Qv v s2 → in_S s2 → v = vC ∧ rI s2 74 = 0 ∧ J s2 ∧ (∀ j x, usA j → rA s2 j x = rA sC j x) ∧ ∀ j, usI j → rI s2 j = rI sC j) (q1 : am_A) (R : am_RV q1 q1 s) : am_C2 D y as q1 (fun o q' => ∃ b s2, o = .inl (some (aI (zI b))) ∧ am_RV q1 q' s2 ∧ b = (zI vC).toInt ∧ am_SD J 0 sC s2) := am_C2_imp (C q1 q1 R) (fun o q' h => by
  obtain ⟨v, s', e, R', b, e1, hq⟩ := h
  subst e1
  obtain ⟨h1, h2, h3, h4, h5⟩ := H b s' hq R'.2.2.2.2.1
  subst h1
  exact ⟨_, s', by rw [(zI_self b).1]; exact e, R', rfl, h2, h3, h4, h5⟩)
theorem C2_ex {Q : am_O → am_A → Prop} {q : am_A} {h : am_H} (C : am_C2 D y as q Q) (Rh : am_Re q h) : ∃ o q', Q o q' := by
  obtain ⟨n, o, h', e, a', _, hq⟩ := C h Rh
  exact ⟨o, a', hq⟩
/-- a state in which a price was looked for -/
theorem BRt {t s2 : am_Z} (R : am_BR (jrn t) s2) (I : am_INV t) : am_INV s2 ∧ (∀ j x, usA j → rA s2 j x = rA t j x) ∧ (∀ j, usI j → rI s2 j = rI t j) ∧ rI s2 74 = rI t 74 := ⟨INV_BR (INV_J I) R, fun j x h => (R.1 j x (scr_o (by omega))).trans (jr_A (by omega)), fun j h => (R.2 j (by omega) (by omega)).trans (jr_I (by omega)), (R.2 74 (by omega) (by omega)).trans (jr_I (by omega))⟩
theorem leg_f {s : am_Z} {l : Int} (h : legP s l) : 0 ≤ l / 100 ∧ l / 100 < rI s 3 := ⟨by have := h.1; omega, by have := h.2.1; omega⟩
end HG
section LX
variable {d e : Nat} {q : am_A} {Q : am_O → am_A → Prop} {s : am_Z} {L : Nat} {X : Nat → Int} {i : Int} {x6 x7 : Option am_V}
theorem OQ_OK {k : Int} {v : Option am_V} {R : am_A → Prop} {s1 t : am_Z} {o : am_O} {q1 : am_A} (F : am_DFh q) (I : am_CI e q t) (h : am_OK k kd1 v q R o q1) (hR : k = 0 → ∀ q2, R q2 → am_CI e q2 s1 ∧ am_CY q q2 ∧ am_DFh q2) : am_OQ e k kd1 v q (if k = 0 then s1 else t) o q1 := by
  by_cases hk : k = 0
  · obtain ⟨rfl, r⟩ := h.1 hk
    obtain ⟨a, b, c⟩ := hR hk q1 r
    rw [if_pos hk]
    exact ⟨fun _ => rfl, fun z => absurd hk z, CI_le a (by omega), b, c⟩
  · obtain ⟨rfl, rfl⟩ := h.2 hk
    rw [if_neg hk]
    exact ⟨fun z => absurd z hk, fun _ => rfl, CI_EX I (by show 13 ≤ 14 ∧ 14 ≤ 15; omega), CY_NO CY_r (by show cK 14; unfold cK; omega), DF_FP F (CG_NO CG_r (by show cK 14; unfold cK; omega)).2⟩
theorem lx_price (P : am_LP e q s s L X) (I : am_INV s) (hL : L ≤ 4096) (hX : ∀ k, in32 (X k)) (hi : 0 ≤ i ∧ i + 8 ≤ L) (K : ∀ q' s' x6 x7, am_LP (e + 1) q' s' s' L X → am_IJ s s' → am_W2 (d + 22) m_L_law 2620 [some (aR 31 0), some (aR 8 0), some (aR 9 0), some (aR 26 0), some (aR 27 0), some (aI (zI i)), x6, x7] [] q' Q) : am_W2 (d + 22) m_L_law 1514 [some (aR 31 0), some (aR 8 0), some (aR 9 0), some (aR 26 0), some (aR 27 0), some (aI (zI i)), x6, x7] [] q Q := by
  have B := CV_B P.1.1
  have bk : 0 ≤ kMany (X (i + 1).toNat) ∧ kMany (X (i + 1).toNat) ≤ 1 := by
    unfold kMany
    split <;> omega
  have It := CI_t (k := kMany (X (i + 1).toNat)) P.1 (by omega)
  have IJ := INV_I (j := 74) (v := kMany (X (i + 1).toNat)) I (by unfold ivI; omega)
  refine lw_price (J := am_IJ s) P hL hX hi (k := kMany (X (i + 1).toNat)) bk rfl (am_C2_imp (cs_price (d := 3) It.1 (hX _)) (fun o q' h => OQ_OP P.2.2.1 h)) (hM_G (sr_price (d := 12) (hX _)) (fun v s2 h B2 => ?_)) K
  by_cases hk : kMany (X (i + 1).toNat) = 0
  · obtain ⟨hv, R⟩ := h.1 hk
    obtain ⟨a1, a2, a3, a4⟩ := BRt R IJ
    exact ⟨fun _ => hv, a4, ⟨a1, by rw [a3 0 (by omega)]; show rI s 0 ≤ _; omega⟩, a2, a3⟩
  · obtain ⟨hv, rfl⟩ := h.2 hk
    exact ⟨fun z => absurd z hk, rfl, ⟨IJ, by show rI s 0 ≤ _; omega⟩, fun _ _ _ => rfl, fun _ _ => rfl⟩
theorem lx_priceAnew (P : am_LP e q s s L X) (I : am_INV s) (hL : L ≤ 4096) (hX : ∀ k, in32 (X k)) (hi : 0 ≤ i ∧ i + 8 ≤ L) (K : ∀ q' s' x6 x7, am_LP (e + 1) q' s' s' L X → am_IJ s s' → am_W2 (d + 22) m_L_law 2620 [some (aR 31 0), some (aR 8 0), some (aR 9 0), some (aR 26 0), some (aR 27 0), some (aI (zI i)), x6, x7] [] q' Q) : am_W2 (d + 22) m_L_law 1570 [some (aR 31 0), some (aR 8 0), some (aR 9 0), some (aR 26 0), some (aR 27 0), some (aI (zI i)), x6, x7] [] q Q := by
  have B := CV_B P.1.1
  have bk : 0 ≤ kMany (X (i + 1).toNat) ∧ kMany (X (i + 1).toNat) ≤ 1 := by
    unfold kMany
    split <;> omega
  have It := CI_t (k := kMany (X (i + 1).toNat)) P.1 (by omega)
  have IJ := INV_I (j := 74) (v := kMany (X (i + 1).toNat)) I (by unfold ivI; omega)
  refine lw_priceAnew (J := am_IJ s) P hL hX hi (k := kMany (X (i + 1).toNat)) bk rfl (am_C2_imp (cs_priceAnew (d := 4) It.1 (hX _)) (fun o q' h => OQ_OP P.2.2.1 h)) (hM_G (sr_priceAnew (d := 12) (hX _)) (fun v s2 h B2 => ?_)) K
  by_cases hk : kMany (X (i + 1).toNat) = 0
  · obtain ⟨hv, R⟩ := h.1 hk
    obtain ⟨a1, a2, a3, a4⟩ := BRt R IJ
    exact ⟨fun _ => hv, a4, ⟨a1, by rw [a3 0 (by omega)]; show rI s 0 ≤ _; omega⟩, a2, a3⟩
  · obtain ⟨hv, rfl⟩ := h.2 hk
    exact ⟨fun z => absurd z hk, rfl, ⟨IJ, by show rI s 0 ≤ _; omega⟩, fun _ _ _ => rfl, fun _ _ => rfl⟩
theorem lx_stretch (P : am_LP e q s s L X) (I : am_INV s) (hL : L ≤ 4096) (hX : ∀ k, in32 (X k)) (hi : 0 ≤ i ∧ i + 8 ≤ L) (K : ∀ q' s' x6 x7, am_LP (e + 1) q' s' s' L X → am_IJ s s' → am_W2 (d + 22) m_L_law 2620 [some (aR 31 0), some (aR 8 0), some (aR 9 0), some (aR 26 0), some (aR 27 0), some (aI (zI i)), x6, x7] [] q' Q) : am_W2 (d + 22) m_L_law 1626 [some (aR 31 0), some (aR 8 0), some (aR 9 0), some (aR 26 0), some (aR 27 0), some (aI (zI i)), x6, x7] [] q Q := by
  have B := CV_B P.1.1
  have bk : 0 ≤ kStr s (X (i + 1).toNat) (X (i + 2).toNat) ∧ kStr s (X (i + 1).toNat) (X (i + 2).toNat) ≤ 2 := by
    unfold kStr
    repeat' split
    all_goals omega
  refine lw_stretch (J := am_IJ s) P hL hX hi (k := kStr s (X (i + 1).toNat) (X (i + 2).toNat)) bk rfl rfl (am_C2_imp (cs_stretch (d := 3) P.1 (hX _) (hX _)) (fun o q' h => OQ_OP P.2.2.1 h)) (hM_G (sr_stretch (d := 13) (hX _) (hX _)) (fun v s2 h B2 => ?_)) K
  obtain ⟨h1, h2, s1, rfl, hs⟩ := h
  rcases hs with ⟨_, rfl⟩ | ⟨_, R⟩
  · exact ⟨h1, rfl, ⟨INV_I I (by unfold ivI; omega), by show rI s1 0 ≤ _; omega⟩, fun _ _ _ => rfl, fun j hj => us74 hj⟩
  · obtain ⟨a1, a2, a3, a4⟩ := BRt R I
    exact ⟨h1, rfl, ⟨INV_I a1 (by unfold ivI; omega), by have := a3 0 (by omega); show rI s1 0 ≤ _; omega⟩, fun j x hj => a2 j x hj, fun j hj => (us74 hj).trans (a3 j hj)⟩
theorem lx_taxes (P : am_LP e q s s L X) (I : am_INV s) (hL : L ≤ 4096) (hX : ∀ k, in32 (X k)) (hi : 0 ≤ i ∧ i + 8 ≤ L) (K : ∀ q' s' x6 x7, am_LP (e + 1) q' s' s' L X → am_IJ s s' → am_W2 (d + 22) m_L_law 2620 [some (aR 31 0), some (aR 8 0), some (aR 9 0), some (aR 26 0), some (aR 27 0), some (aI (zI i)), x6, x7] [] q' Q) : am_W2 (d + 22) m_L_law 1694 [some (aR 31 0), some (aR 8 0), some (aR 9 0), some (aR 26 0), some (aR 27 0), some (aI (zI i)), x6, x7] [] q Q := by
  refine lw_taxes (J := am_IJ s) P hL hX hi (v := (zI (sumI 0 (rI s 33).toNat (taxD s))).toInt) (zI_self _).2 (am_C2_imp (cs_taxes (d := 15) P.1.1) (fun o q' h => OQ_is P.2.2.1 P.1 (by rw [(zI_self _).1]; exact h))) (hM_Z (sr_taxes (d := 16)) rfl ?_ ?_ ?_ ?_) K
  · rfl
  · refine ⟨INV_cg I (fun j x h => if_neg (fun z => by have := z.1; omega)) (fun j h => ?_), by show rI s 0 ≤ _; omega⟩
    show (if j = 35 then _ else if j = 74 then _ else s.2 j) = s.2 j
    rw [if_neg (by omega), if_neg (by omega)]
  · exact fun j x h => if_neg (fun z => by have := z.1; omega)
  · intro j h
    show (if j = 35 then _ else if j = 74 then _ else s.2 j) = s.2 j
    rw [if_neg (by omega), if_neg (by omega)]
theorem lx_repair (P : am_LP e q s s L X) (I : am_INV s) (hL : L ≤ 4096) (hX : ∀ k, in32 (X k)) (hi : 0 ≤ i ∧ i + 8 ≤ L) (K : ∀ q' s' x6 x7, am_LP (e + 1) q' s' s' L X → am_IJ s s' → am_W2 (d + 22) m_L_law 2620 [some (aR 31 0), some (aR 8 0), some (aR 9 0), some (aR 26 0), some (aR 27 0), some (aI (zI i)), x6, x7] [] q' Q) : am_W2 (d + 22) m_L_law 1432 [some (aR 31 0), some (aR 8 0), some (aR 9 0), some (aR 26 0), some (aR 27 0), some (aI (zI i)), x6, x7] [] q Q := by
  have It := CI_t (k := 0) P.1 (by omega)
  have IJ := INV_I (j := 74) (v := 0) I (by unfold ivI; omega)
  have z := INV_repair IJ It.2
  refine lw_repair (J := am_IJ s) P hL hX hi (v := (zI (rpr1 (rI s 44).toNat 4 (wI s 74 0, 0)).2).toInt) (zI_self _).2 (am_C2_imp (co_repair (d := 12) It.1 IJ.2.1.2.2.2.2.1) (fun o q' h => OQ_OP P.2.2.1 (by rw [(zI_self _).1]; exact h))) (hM_Z (sr_repair (d := 13)) ?_ ?_ ?_ ?_ ?_) K
  · exact z.2 74 (by omega) (by omega)
  · rfl
  · exact ⟨z.1, by have y := z.2 0 (by omega) (by omega); have y2 : rI (wI s 74 0) 0 = rI s 0 := rfl; have y3 := y.trans y2; show rI (rpr1 (rI s 44).toNat 4 (wI s 74 0, 0)).1 0 ≤ _; have y4 : rI (rpr1 (rI s 44).toNat 4 (wI s 74 0, 0)).1 0 = rI s 0 := y3; omega⟩
  · exact fun j x hj => rfl
  · exact fun j hj => rfl
theorem lx_load (P : am_LP e q s s L X) (I : am_INV s) (hL : L ≤ 4096) (hX : ∀ k, in32 (X k)) (hi : 0 ≤ i ∧ i + 8 ≤ L) (K : ∀ q' s' x6 x7, am_LP (e + 1) q' s' s' L X → am_IJ s s' → am_W2 (d + 22) m_L_law 2620 [some (aR 31 0), some (aR 8 0), some (aR 9 0), some (aR 26 0), some (aR 27 0), some (aI (zI i)), x6, x7] [] q' Q) : am_W2 (d + 22) m_L_law 1230 [some (aR 31 0), some (aR 8 0), some (aR 9 0), some (aR 26 0), some (aR 27 0), some (aI (zI i)), x6, x7] [] q Q := by
  have B := CV_B P.1.1
  have bk : 0 ≤ kLeg1 s (X (i + 1).toNat) ∧ kLeg1 s (X (i + 1).toNat) ≤ 1 := by
    unfold kLeg1
    split <;> omega
  have hse : legP s (X (i + 1).toNat) → 1 ≤ rA s 9 ((X (i + 1).toNat) / 100) := fun h => (I.1.1 _ (leg_f h).1 (leg_f h).2).2
  have hv : FP.Core.decode FP.Core.b32 (if legP s (X (i + 1).toNat) then ldF s (X (i + 1).toNat) else FP.i2f (zI 0)).toNat ≠ .nan := by
    split
    · rename_i h
      exact fp_mask (fp_div ⟨hse h, (B.1 9 _ 0 60 rfl).2⟩)
    · exact fp_i2f _
  refine lw_load (J := am_IJ s) P hL hX hi (k := kLeg1 s (X (i + 1).toNat)) bk rfl hv (am_C2_imp (cs_load (d := 16) P.1.1 (hX _) hse) (fun o q' h => OQ_T2 P.2.2.1 P.1 k01 ?_)) (fun q1 R => am_C2_imp (sr_load (d := 17) (hX _) hse q1 q1 R) (fun o q' h => ?_)) K
  · refine ⟨fun z => ?_, h.2⟩
    rw [if_pos z]
    exact h.1 z
  · obtain ⟨v, s', e1, R', rfl, rfl⟩ := h
    refine ⟨_, _, e1, R', fun hk => ?_, rfl, ⟨INV_I I (by unfold ivI; omega), by show rI s 0 ≤ _; omega⟩, fun _ _ _ => rfl, fun j hj => us74 hj⟩
    rw [if_pos hk, if_pos (k01.mp hk)]
theorem lg_I {j : Nat} (hj : j ≠ 0 ∧ j ≠ 68 ∧ j ≠ 72 ∧ j ≠ 73) (t : am_Z) : rI (hrS t) j = rI t j ∧ rI (hrS t) 0 = rI t 0 + 1 := by
  have hl : ∀ j, j ≠ 68 → j ≠ 72 → j ≠ 73 → ∀ (i : Nat) (t : am_Z), rI (lgF i t) j = rI t j := fun j h1 h2 h3 i t => by
    unfold lgF
    split
    · exact goS_I t i h1 h2 h3
    · rfl
  have hp : ∀ (j : Nat) (i : Nat) (t : am_Z), rI (lapF i t) j = rI t j := fun j i t => by
    unfold lapF
    split
    · rfl
    · rfl
  have key : ∀ j, j ≠ 68 → j ≠ 72 → j ≠ 73 → rI (hrS t) j = rI (wI t 0 (rI t 0 + 1)) j := fun j h1 h2 h3 => (itS_J (hl j h1 h2 h3) _ _).trans (itS_J (hp j) _ _)
  exact ⟨(key j hj.2.1 hj.2.2.1 hj.2.2.2).trans (if_neg hj.1), (key 0 (by omega) (by omega) (by omega)).trans rfl⟩
theorem hr_I (t : am_Z) : ∀ n : Nat, rI (itS (fun _ => hrS) n t) 0 = rI t 0 + n ∧ rI (itS (fun _ => hrS) n t) 74 = rI t 74
  | 0 => ⟨by show rI t 0 = _; omega, rfl⟩
  | n + 1 => by
    have ih := hr_I t n
    rw [itS_s]
    have z := lg_I (j := 74) (by omega) (itS (fun _ => hrS) n t)
    exact ⟨by rw [z.2, ih.1]; omega, z.1.trans ih.2⟩
theorem lx_pass (P : am_LP e q s s L X) (I : am_INV s) (hT : rI s 0 ≤ 59900) (hL : L ≤ 4096) (hX : ∀ k, in32 (X k)) (hi : 0 ≤ i ∧ i + 8 ≤ L) (K : ∀ q' s' x6 x7, am_LP (e + 1) q' s' s' L X → am_IJ s s' → am_W2 (d + 22) m_L_law 2620 [some (aR 31 0), some (aR 8 0), some (aR 9 0), some (aR 26 0), some (aR 27 0), some (aI (zI i)), x6, x7] [] q' Q) : am_W2 (d + 22) m_L_law 2427 [some (aR 31 0), some (aR 8 0), some (aR 9 0), some (aR 26 0), some (aR 27 0), some (aI (zI i)), x6, x7] [] q Q := by
  have bk : 0 ≤ kPass (X (i + 1).toNat) ∧ kPass (X (i + 1).toNat) ≤ 1 := by
    unfold kPass
    split <;> omega
  have It := CI_t (k := kPass (X (i + 1).toNat)) P.1 (by omega)
  have IJ := INV_I (j := 74) (v := kPass (X (i + 1).toNat)) I (by unfold ivI; omega)
  have hh : kPass (X (i + 1).toNat) = 0 → 1 ≤ (X (i + 1).toNat) ∧ (X (i + 1).toNat) ≤ 100 := fun z => by
    unfold kPass at z
    split at z
    · rename_i h
      exact h
    · omega
  have hT2 : kPass (X (i + 1).toNat) = 0 → rI s 0 + (X (i + 1).toNat) ≤ 60000 := fun z => by have := hh z; omega
  have hC := cs_pass (d := 11) It.1 (hX (i + 1).toNat) PX_INV (J_INV IJ) P.2.2.1 hT2
  intro hp Rh
  have hI : kPass (X (i + 1).toNat) = 0 → am_INV (itS (fun _ => hrS) (X (i + 1).toNat).toNat (wI s 74 (kPass (X (i + 1).toNat)))) := fun z => by
    obtain ⟨o, q', h⟩ := C2_ex hC Rh
    exact (h.1 z).2.2.1.2.2.2
  have r := hr_I (wI s 74 (kPass (X (i + 1).toNat))) (X (i + 1).toNat).toNat
  refine lw_pass (J := am_IJ s) P hL hX hi (k := kPass (X (i + 1).toNat)) bk rfl (s1 := if kPass (X (i + 1).toNat) = 0 then itS (fun _ => hrS) (X (i + 1).toNat).toNat (wI s 74 (kPass (X (i + 1).toNat))) else wI s 74 (kPass (X (i + 1).toNat))) (am_C2_imp hC (fun o q' h => OQ_OK P.2.2.1 It.1 h (fun _ q2 h2 => ⟨h2.1, h2.2.2.1, h2.2.2.2⟩))) (hM_G (sr_pass (d := 12) (hX _) I.2.1.2.2.1 hT2) (fun v s2 h B2 => ?_)) K hp Rh
  by_cases hk : kPass (X (i + 1).toNat) = 0
  · obtain ⟨hv, rfl, _⟩ := h.1 hk
    have h1 := hh hk
    refine ⟨fun _ => hv, r.2, ⟨hI hk, by rw [r.1]; show rI s 0 + _ ≤ _; omega⟩, ?_, ?_⟩
    · rw [if_pos hk]
      exact fun _ _ _ => rfl
    · rw [if_pos hk]
      exact fun _ _ => rfl
  · obtain ⟨hv, rfl⟩ := h.2 hk
    refine ⟨fun z => absurd z hk, rfl, ⟨IJ, by show rI s 0 ≤ _; omega⟩, ?_, ?_⟩
    · rw [if_neg hk]
      exact fun _ _ _ => rfl
    · rw [if_neg hk]
      exact fun _ _ => rfl
theorem lx_hold (P : am_LP e q s s L X) (I : am_INV s) (hL : L ≤ 4096) (hX : ∀ k, in32 (X k)) (hi : 0 ≤ i ∧ i + 8 ≤ L) (K : ∀ q' s' x6 x7, am_LP (e + 1) q' s' s' L X → am_IJ s s' → am_W2 (d + 22) m_L_law 2620 [some (aR 31 0), some (aR 8 0), some (aR 9 0), some (aR 26 0), some (aR 27 0), some (aI (zI i)), x6, x7] [] q' Q) : am_W2 (d + 22) m_L_law 1707 [some (aR 31 0), some (aR 8 0), some (aR 9 0), some (aR 26 0), some (aR 27 0), some (aI (zI i)), x6, x7] [] q Q := by
  have B := CV_B P.1.1
  have bk : 0 ≤ kHold s (X (i + 1).toNat) (X (i + 2).toNat) (X (i + 3).toNat) ∧ kHold s (X (i + 1).toNat) (X (i + 2).toNat) (X (i + 3).toNat) ≤ 3 := by
    unfold kHold
    repeat' split
    all_goals omega
  have hlen : ∀ k, 0 ≤ k → k < rI s 33 → 1 ≤ rA s 8 (rA s 34 k / 100) := fun k h1 h2 => by
    have z := (P.1.1.2.2.2.2.2.1.2 k.toNat (by omega)).2
    rw [show ((k.toNat : Nat) : Int) = k by omega] at z
    exact (I.1.1 _ (leg_f z).1 (leg_f z).2).1
  have hne : kHold s (X (i + 1).toNat) (X (i + 2).toNat) (X (i + 3).toNat) = 0 → (bestW (jrn s) (X (i + 1).toNat)).1 ≠ -1 ∧ 1 ≤ (X (i + 1).toNat) := fun z => by
    unfold kHold at z
    split at z
    · omega
    · split at z
      · omega
      · split at z
        · omega
        · rename_i a b c
          exact ⟨fun w => c (Or.inl w), (Decidable.not_not.mp b).1.1⟩
  intro hp Rh
  have hE : ∃ s1, kHold s (X (i + 1).toNat) (X (i + 2).toNat) (X (i + 3).toNat) = 0 → am_BR (jrn s) s1 ∧ am_WQ s1 (bestW (jrn s) (X (i + 1).toNat)) ∧ in_S s1 := by
    by_cases hk : kHold s (X (i + 1).toNat) (X (i + 2).toNat) (X (i + 3).toNat) = 0
    · obtain ⟨v, s2, B2, v1, _, h, _⟩ := CR_ex (sr_hold (d := 0) (hX _) (hX _) (hX _) hlen) P.2.1 Rh
      obtain ⟨_, s1, R, W, rfl⟩ := h hk
      exact ⟨s1, fun _ => ⟨R, W, in_S_hold B R W (hne hk).1 B2⟩⟩
    · exact ⟨s, fun z => absurd z hk⟩
  obtain ⟨s1, hs⟩ := hE
  refine lw_hold (J := am_IJ s) P hL hX hi (k := kHold s (X (i + 1).toNat) (X (i + 2).toNat) (X (i + 3).toNat)) bk rfl rfl rfl (am_C2_imp (cs_hold (d := 3) P.1 (hX _) (hX _) (hX _) hs I.2.1.1 hlen) (fun o q' h => OQ_OP P.2.2.1 h)) (hM_G (sr_hold (d := 13) (hX _) (hX _) (hX _) hlen) (fun v s2 h B2 => ?_)) K hp Rh
  by_cases hk : kHold s (X (i + 1).toNat) (X (i + 2).toNat) (X (i + 3).toNat) = 0
  · obtain ⟨hv, s1', R', W', rfl⟩ := h.1 hk
    obtain ⟨R, W, B1⟩ := hs hk
    have B1' := in_S_hold B R' W' (hne hk).1 B2
    have Rr : am_BR s1 s1' := BR_t (BR_sym R) R'
    have Rw : am_BR (wI (wI s1 74 0) 33 0) (wI (wI s1' 74 0) 33 0) := ⟨fun j x h => Rr.1 j x h, fun j h1 h2 => by
      show (if j = 33 then _ else if j = 74 then _ else s1'.2 j) = (if j = 33 then _ else if j = 74 then _ else s1.2 j)
      rw [show s1'.2 j = s1.2 j from Rr.2 j h1 h2]⟩
    have Rb : am_BR (bkT (wI (wI s1 74 0) 33 0) (X (i + 1).toNat) (X (i + 2).toNat) (X (i + 3).toNat)) (bkT (wI (wI s1' 74 0) 33 0) (X (i + 1).toNat) (X (i + 2).toNat) (X (i + 3).toNat)) := bkT_cg Rw (WQ_I (WQ_I W (by omega)) (by omega)) (WQ_I (WQ_I W' (by omega)) (by omega))
    refine ⟨fun _ => hv, ?_, ⟨INV_hold I B R' W' B1' (hne hk).1 (hne hk).2, ?_⟩, ?_, ?_⟩
    · rw [bkT_I, if_neg (by omega), hk]
      rfl
    · have y : rI s1' 0 = rI s 0 := (R'.2 0 (by omega) (by omega)).trans (jr_I (by omega))
      rw [bkT_I, if_neg (by omega)]
      show rI s1' 0 ≤ _
      omega
    · rw [if_pos hk]
      exact fun j x hj => Rb.1 j x (scr_o (by omega))
    · rw [if_pos hk]
      exact fun j hj => Rb.2 j (by omega) (by omega)
  · obtain ⟨hv, s1', rfl, hs'⟩ := h.2 hk
    rw [if_neg hk]
    rcases hs' with rfl | R
    · exact ⟨fun z => absurd z hk, rfl, ⟨INV_I I (by unfold ivI; omega), by show rI s1' 0 ≤ _; omega⟩, fun _ _ _ => rfl, fun j hj => us74 hj⟩
    · obtain ⟨a1, a2, a3, a4⟩ := BRt R I
      exact ⟨fun z => absurd z hk, rfl, ⟨INV_I a1 (by unfold ivI; omega), by have := a3 0 (by omega); show rI s1' 0 ≤ _; omega⟩, fun j x hj => a2 j x hj, fun j hj => (us74 hj).trans (a3 j hj)⟩
theorem lx_clear (P : am_LP e q s s L X) (I : am_INV s) (hL : L ≤ 4096) (hX : ∀ k, in32 (X k)) (hi : 0 ≤ i ∧ i + 8 ≤ L) (K : ∀ q' s' x6 x7, am_LP (e + 1) q' s' s' L X → am_IJ s s' → am_W2 (d + 22) m_L_law 2620 [some (aR 31 0), some (aR 8 0), some (aR 9 0), some (aR 26 0), some (aR 27 0), some (aI (zI i)), x6, x7] [] q' Q) : am_W2 (d + 22) m_L_law 1855 [some (aR 31 0), some (aR 8 0), some (aR 9 0), some (aR 26 0), some (aR 27 0), some (aI (zI i)), x6, x7] [] q Q := by
  have It := CI_t (k := 0) P.1 (by omega)
  have IJ := INV_I (j := 74) (v := 0) I (by unfold ivI; omega)
  have m67 : ∀ j x, j ≠ 67 → rA (wB (wI s 74 0) 67 0 20 (fun _ => 0)) j x = rA (wI s 74 0) j x := fun j x h => if_neg (fun z => h z.1)
  have Iw : am_INV (wB (wI s 74 0) 67 0 20 (fun _ => 0)) := INV_cg IJ (fun j x h => m67 j x (by omega)) (fun _ _ => rfl)
  have Bw : in_S (wB (wI s 74 0) 67 0 20 (fun _ => 0)) := by
    refine ⟨fun j y lo hi h => ?_, It.2.2.1, fun j y h => ?_⟩
    · rw [wB_A]
      split
      · rename_i z
        rw [z.1] at h
        cases h
        omega
      · exact It.2.1 j y lo hi h
    · rw [m67 j y (fun z => by rw [z] at h; cases h)]
      exact It.2.2.2 j y h
  have Cw := CI_s It.1 (s' := wB (wI s 74 0) 67 0 20 (fun _ => 0)) (fun j x h => m67 j x (by omega)) (fun _ _ => rfl) Bw
  have hwl : hWL s := fun w k w1 w2 k1 k2 => by
    have z := ((P.1.1.2.2.2.2.2.2.2.1.2.2 w.toNat (by omega)).2.2.2 k.toNat (by rw [show ((w.toNat : Nat) : Int) = w by omega]; omega)).2
    rw [show ((w.toNat : Nat) : Int) = w by omega, show ((k.toNat : Nat) : Int) = k by omega] at z
    exact (I.1.1 _ (leg_f z).1 (leg_f z).2).1
  intro hp Rh
  obtain ⟨_, s20, B20, v0, _, f, c⟩ := CR_ex (sr_clearQ (d := 0) hwl) P.2.1 Rh
  refine lw_clear (J := am_IJ s) P hL hX hi (kd := kd0) (v := (zI v0).toInt) (zI_self _).2 (s1 := s20) (am_C2_imp (cs_clear (d := 3) Cw c hwl IJ.2.2.1 (PT_N It.2 IJ.2.1.2.2.2.2.2.1) IJ.2.1.1) (fun o q' h => ?_)) (hM_Y (sr_clearQ (d := 14) hwl) (fun v s2 h B2 => ?_)) K hp Rh
  · rw [(zI_self _).1]
    exact ⟨fun _ => h.1, fun z => absurd rfl z, CI_le h.2.1 (by omega), h.2.2.1, DF_FP P.2.2.1 h.2.2.2⟩
  · obtain ⟨f', c'⟩ := h
    obtain ⟨ev, R⟩ := clQ_det _ _ _ _ _ c _ _ _ _ c' BR_r
    obtain ⟨J2, _, n2⟩ := INV_clQ _ _ _ _ _ c' Iw Bw
    exact ⟨ev, (n2 74 (by omega)).trans rfl, ⟨J2, by rw [n2 0 (by omega)]; show rI s 0 ≤ _; omega⟩, fun j x hj => R.1 j x (scr_o (by omega)), fun j hj => R.2 j (by omega) (by omega)⟩
end LX
end

noncomputable section
theorem lp_go4 {d : Nat} {s : am_Z} {q0 : am_A} {Q : Option am_V → am_Z → Prop} {l n nb : Int} {x2 : Option am_V} (hl : legR l) (hnb : 0 ≤ nb ∧ nb ≤ 40) (hn : 0 ≤ n ∧ n ≤ nb) : ∀ (m : Nat) (j : Nat) (k : Int) (s1 : am_Z) (x5 : Option am_V), n.toNat - j < m → (k = j ∧ (j : Int) ≤ n ∧ (am_UQ s1 ∧ rI s1 44 = nb) ∧ (∀ i, (j : Int) ≤ i → i < n → (0 ≤ rA s1 71 i ∧ rA s1 71 i < nb) ∧ cfS s1 (rA s1 71 i) l ≠ -1) ∧ (∀ i i2, 0 ≤ i → i < i2 → i2 < n → rA s1 71 i ≠ rA s1 71 i2) ∧ s1 = itS (gmF l) j s) → (∀ x4 x5, am_UQ (itS (gmF l) n.toNat s) → am_WR (d + 7) m_M_goes 271 [some (aR 9 0), some (aI (zI l)), x2, some (aI (zI n)), x4, x5] [] q0 (itS (gmF l) n.toNat s) Q) → am_WR (d + 7) m_M_goes 235 [some (aR 9 0), some (aI (zI l)), x2, some (aI (zI n)), some (aI (zI k)), x5] [] q0 (s1) Q := by
  intro m
  induction m with
  | zero => intro j k s1 x5 hm; exact absurd hm (Nat.not_lt_zero _)
  | succ m ih =>
    intro j k s1 x5 hm ⟨hj, hj2, hUQ, hA, hD, hs1⟩ K
    subst hj
    refine rr_inS (fun B => ?_)
    refine rr_iload rfl rfl ?_
    refine rr_iload_n rfl rfl ?_
    refine rr_icmp_ge rfl rfl (by omega) (by omega) (fun h238 => ?_) (fun h238 => ?_)
    · rw [hs1, show j = n.toNat by omega] at hUQ ⊢
      exact K _ _ hUQ.1
    · have hAj := hA (j : Int) (by omega) (by omega)
      have h10 : ∀ b, rA s1 52 b ≤ 10 := fun b => (B.1 52 b 0 10 rfl).2
      have hcf : 0 ≤ cfS s1 (rA s1 71 (j : Int)) l ∧ cfS s1 (rA s1 71 (j : Int)) l < rA s1 52 (rA s1 71 (j : Int)) := by
        have z0 := B.1 52 (rA s1 71 (j : Int)) 0 10 rfl
        have z1 := hAj.2
        unfold cfS at z1 ⊢
        by_cases z2 : rA s1 47 (rA s1 71 (j : Int)) = 1
        · rw [if_pos z2] at z1 ⊢
          have z3 := cfN_b s1 (rA s1 71 (j : Int)) l (rA s1 52 (rA s1 71 (j : Int))).toNat
          have z4 := (cfN_ne z1).1
          omega
        · rw [if_neg z2] at z1; exact absurd rfl z1
      have hcc := hcf
      have e71 : ∀ i, rA (moveS s1 (rA s1 71 (j : Int)) (cfS s1 (rA s1 71 (j : Int)) l)) 71 i = rA s1 71 i := fun i => moveS_A hcc (h10 _) (Or.inr (Or.inl (by omega)))
      refine rr_aload_n rfl rfl ?_
      refine rr_aload_n rfl rfl ?_
      refine rr_gfA 71 rfl rfl (by omega) rfl ?_
      refine rr_iload rfl rfl ?_
      refine rr_ia 71 40 rfl rfl rfl rfl (by omega) (by omega) (fun b248 => ?_)
      refine rr_aload_n rfl rfl ?_
      refine rr_aload_n rfl rfl ?_
      refine rr_gfA 71 rfl rfl (by omega) rfl ?_
      refine rr_iload rfl rfl ?_
      refine rr_ia 71 40 rfl rfl rfl rfl (by omega) (by omega) (fun b256 => ?_)
      refine rr_iload_n rfl rfl ?_
      refine rr_cv2P rfl rfl rfl (Nat.le_of_ble_eq_true rfl) (sr_checkedFor (d := 0) (by omega) (by omega)) (by omega) (fun b258 => ?_)
      refine rr_cv2B rfl rfl rfl (Nat.le_of_ble_eq_true rfl) (sr_moves (d := 0) (by omega) (by omega)) (by omega) ?_
      refine rr_pop rfl rfl ?_
      refine rr_inc4 rfl ?_
      refine rr_goto rfl rfl ?_
      refine ih (j + 1) _ _ _ (by omega) ⟨by omega, by omega, ⟨moveS_UQ B hUQ.1 (by omega) hcc, (moveS_I (by omega) (by omega)).trans hUQ.2⟩, fun i h1 h2 => ?_, fun i i2 h1 h2 h3 => ?_, by rw [itS_s, ← hs1]; rfl⟩ K
      · rw [e71 i]
        have h3 := hA i (by omega) h2
        rw [moveS_cf hcc h10 (fun z => hD j i (by omega) (by omega) h2 z.symm)]
        exact h3
      · rw [e71 i, e71 i2]; exact hD i i2 h1 h2 h3
theorem fLv_0 {s : am_Z} (B : in_S s) (hU : am_UQ s) {l : Int} : nTc (gl0 s) l = sumI 0 (rI s 44).toNat (fLv (gl0 s) l) := by
  show sumI 0 (rI s 44).toNat (bTc (gl0 s) l) = _
  refine sumI_c (fun b h1 h2 => ?_)
  have e1 : bTc (gl0 s) l b = bTc s l b := rfl
  have e2 : cfS (gl0 s) b l = cfS s b l := cfS_cg (s := s) (s' := gl0 s) rfl rfl (fun _ _ => ⟨rfl, Iff.rfl⟩) l
  have e3 : rA (gl0 s) 67 b = 0 := if_pos ⟨rfl, h1, h2⟩
  unfold fLv
  rw [e1, bTc_cf B (hU b h1 (by omega)), e3, e2, if_pos rfl]
  rfl
theorem sr_goes {d : Nat} {s : am_Z} {l : Int}  (hl : legR l) (hU : am_UQ s) : am_CR (d + 7) m_M_goes [aR 9 0, aI (zI l)] s (isV (fun s2 => s2 = goS s l ∧ am_UQ s2)) := by
  refine am_CR_i (ls := [some (aR 9 0), some (aI (zI l)), none, none, none, none]) rfl (fun q0 => ?_)
  refine rr_inS (fun B => ?_)
  have b44 := B.2.1 44 0 40 rfl
  have h67 : ∀ i : Int, 0 ≤ i → i < (rI s 44).toNat → rA (gl0 s) 67 i = 0 := fun i h1 h2 => if_pos ⟨rfl, h1, by omega⟩
  have hc0 : cntD (gl0 s) (rI s 44).toNat = (rI s 44).toNat := cntD_all h67
  refine rr_iconst rfl ?_
  refine rr_stI2 rfl ?_
  refine lp_go1 (d := d + 7) (s := s) (nb := rI s 44) b44 rfl ((rI s 44).toNat + 1) 0 0 s _ _ _ (by omega) ⟨rfl, by omega, (wB_0 ..).symm⟩ (fun x2 => ?_)
  show am_WR _ m_M_goes 23 _ _ q0 (gl0 s) _
  refine rr_aload_n rfl rfl ?_
  refine rr_iload_n rfl rfl ?_
  refine rr_cv1P rfl rfl rfl (Nat.le_of_ble_eq_true rfl) (sr_checked (d := 0) (by omega)) (by omega) (fun b25 => ?_)
  refine rr_stI2 rfl ?_
  refine rr_iconst rfl ?_
  refine rr_stI3 rfl ?_
  refine lp_go2 (d := d + 4) (s := s) (nb := rI s 44) hl b44 ((rI s 44).toNat + 1) _ 0 (gl0 s) _ _ (by rw [hc0]; omega) ⟨rfl, ⟨by omega, by rw [hc0]; omega⟩, fLv_0 B hU, ⟨fun i h1 h2 => by omega, fun i j h1 h2 h3 => by omega⟩⟩ (fun s2 n2 x2 x4 x5 e1 e2 e3 e4 => ?_)
  have f1 : s2 = (glX s l).1 := congrArg Prod.fst e1
  have f2 : n2 = (glX s l).2 := congrArg Prod.snd e1
  have k44 : rI s2 44 = rI s 44 := (e4.2 44 (by omega)).trans rfl
  refine rr_inS (fun B2 => ?_)
  have h10 : ∀ b, rA s2 52 b ≤ 10 := fun b => (B2.1 52 b 0 10 rfl).2
  refine rr_iconst rfl ?_
  refine rr_stI4 rfl ?_
  refine lp_go3b (d := d + 6) (s := s2) (nb := rI s 44) hl b44 ((rI s 44).toNat + 1) 0 0 s2 _ (by omega) ⟨rfl, by omega, k44, rfl⟩ (fun x4 x5 => ?_)
  have hg := glN_u (l := l) h10 (rI s 44).toNat
  have hU2 : am_UQ s2 := UQ_cg k44 (fun b => (e4.1 52 b (by omega) (by omega)).trans rfl) (fun b => (e4.1 53 b (by omega) (by omega)).trans rfl) (fun b z => (by rw [(e4.1 55 b (by omega) (by omega))] at z; exact z)) hU
  have hU3 : am_UQ (itS (glB l) (rI s 44).toNat s2) := UQ_cg (congrFun hg.2.1 44) (fun b => hg.1 52 b (by omega) (by omega) (by omega)) (fun b => hg.1 53 b (by omega) (by omega) (by omega)) (fun b z => glN_3 _ _ _ _ z) hU2
  have k443 : rI (itS (glB l) (rI s 44).toNat s2) 44 = rI s 44 := (congrFun hg.2.1 44).trans k44
  have h71 : ∀ i, rA (itS (glB l) (rI s 44).toNat s2) 71 i = rA s2 71 i := fun i => hg.1 71 i (by omega) (by omega) (by omega)
  refine rr_iconst rfl ?_
  refine rr_stI4 rfl ?_
  refine lp_go4 (d := d) (s := itS (glB l) (rI s 44).toNat s2) (nb := rI s 44) hl b44 e2 (n2.toNat + 1) 0 0 _ _ (by omega) ⟨rfl, by omega, ⟨hU3, k443⟩, fun i h1 h2 => (by rw [h71 i]; have z := e3.1 i h1 h2; exact ⟨z.1, by rw [glN_cf h10 _ z.1.1 z.2.1]; exact z.2.2⟩), fun i i2 h1 h2 h3 => (by rw [h71 i, h71 i2]; exact e3.2 i i2 h1 h2 h3), rfl⟩ (fun x4 x5 hU4 => ?_)
  exact rr_ret rfl rfl ⟨rfl, by unfold goS; rw [f1, f2], hU4⟩
def lapF (i : Nat) (t : am_Z) : am_Z := if rA t 47 i = 0 ∧ rA t 48 i ≤ rI t 0 then voidS (wA t 47 i 2) i else t
def lgF (i : Nat) (t : am_Z) : am_Z := if legP t i ∧ rA t 18 (61 * ((i : Int) / 100) + (i : Int) % 100) = 0 ∧ dep t i = rI t 0 then goS t i else t
def hrS (t : am_Z) : am_Z := itS lgF (100 * rI t 3).toNat (itS lapF (rI t 44).toNat (wI t 0 (rI t 0 + 1)))
def kPass (h : Int) : Int := if 1 ≤ h ∧ h ≤ 100 then 0 else 1
theorem lapF_2 (i : Nat) (t : am_Z) : (lapF i t).2 = t.2 := by unfold lapF; split <;> rfl
theorem lapF_UQ {i : Nat} {t : am_Z} (h : am_UQ t) : am_UQ (lapF i t) := by
  unfold lapF
  split
  · exact voidS_UQ (UQ_cg (s := t) (s' := wA t 47 i 2) rfl (fun _ => rfl) (fun _ => rfl) (fun _ z => z) h)
  · exact h
theorem lgF_I {i : Nat} {t : am_Z} {j : Nat} (h1 : j ≠ 68) (h2 : j ≠ 72) (h3 : j ≠ 73) : rI (lgF i t) j = rI t j := by
  unfold lgF
  split
  · exact goS_I t i h1 h2 h3
  · rfl
theorem lp_pa1 {d : Nat} {s : am_Z} {q0 : am_A} {Q : Option am_V → am_Z → Prop} {h k0 nb : Int} (hnb : 0 ≤ nb ∧ nb ≤ 40) : ∀ (m : Nat) (j : Nat) (b : Int) (s1 : am_Z), nb.toNat - j < m → (b = j ∧ (j : Int) ≤ nb ∧ (rI s1 44 = nb ∧ s1.2 = s.2 ∧ am_UQ s1) ∧ s1 = itS lapF j s) → (∀ x3, (itS lapF nb.toNat s).2 = s.2 → am_UQ (itS lapF nb.toNat s) → am_WR (d + 1) m_M_pass 91 [some (aR 9 0), some (aI (zI h)), some (aI (zI k0)), x3] [] q0 (itS lapF nb.toNat s) Q) → am_WR (d + 1) m_M_pass 43 [some (aR 9 0), some (aI (zI h)), some (aI (zI k0)), some (aI (zI b))] [] q0 (s1) Q := by
  intro m
  induction m with
  | zero => intro j b s1 hm; exact absurd hm (Nat.not_lt_zero _)
  | succ m ih =>
    intro j b s1 hm ⟨hj, hj2, hI, hs1⟩ K
    subst hj
    refine rr_iload_n rfl rfl ?_
    refine rr_aload_n rfl rfl ?_
    refine rr_gfI 44 rfl rfl (by omega) rfl (fun b45 => ?_)
    refine rr_icmp_ge rfl rfl (by omega) (by omega) (fun h48 => ?_) (fun h48 => ?_)
    · have hjn : nb.toNat = j := by omega
      rw [hjn, ← hs1] at K
      exact K _ hI.2.1 hI.2.2
    · refine rr_aload_n rfl rfl ?_
      refine rr_gfA 47 rfl rfl (by omega) rfl ?_
      refine rr_iload_n rfl rfl ?_
      refine rr_ia 47 40 rfl rfl rfl rfl (by omega) (by omega) (fun b56 => ?_)
      refine rr_if_ne rfl rfl (by omega) (fun h57 => ?_) (fun h57 => ?_)
      · refine rr_inc3 rfl ?_
        refine rr_goto rfl rfl ?_
        have e : ∀ z : am_Z, z = lapF j s1 → (rI z 44 = nb ∧ z.2 = s.2 ∧ am_UQ z) ∧ z = itS lapF (j + 1) s := fun z hz => ⟨⟨by rw [hz]; exact (congrFun (lapF_2 j s1) 44).trans hI.1, by rw [hz, lapF_2]; exact hI.2.1, by rw [hz]; exact lapF_UQ hI.2.2⟩, by rw [itS_s, ← hs1]; exact hz⟩
        refine ih (j + 1) _ _ (by omega) ⟨by omega, by omega, e _ ?_⟩ K
        unfold lapF
        first | rw [if_pos ⟨by omega, by omega⟩] | rw [if_neg (by omega)]
      · refine rr_aload_n rfl rfl ?_
        refine rr_gfA 48 rfl rfl (by omega) rfl ?_
        refine rr_iload_n rfl rfl ?_
        refine rr_ia 48 40 rfl rfl rfl rfl (by omega) (by omega) (fun b65 => ?_)
        refine rr_aload_n rfl rfl ?_
        refine rr_gfI 0 rfl rfl (by omega) rfl (fun b67 => ?_)
        refine rr_icmp_gt rfl rfl (by omega) (by omega) (fun h70 => ?_) (fun h70 => ?_)
        · refine rr_inc3 rfl ?_
          refine rr_goto rfl rfl ?_
          have e : ∀ z : am_Z, z = lapF j s1 → (rI z 44 = nb ∧ z.2 = s.2 ∧ am_UQ z) ∧ z = itS lapF (j + 1) s := fun z hz => ⟨⟨by rw [hz]; exact (congrFun (lapF_2 j s1) 44).trans hI.1, by rw [hz, lapF_2]; exact hI.2.1, by rw [hz]; exact lapF_UQ hI.2.2⟩, by rw [itS_s, ← hs1]; exact hz⟩
          refine ih (j + 1) _ _ (by omega) ⟨by omega, by omega, e _ ?_⟩ K
          unfold lapF
          first | rw [if_pos ⟨by omega, by omega⟩] | rw [if_neg (by omega)]
        · refine rr_aload_n rfl rfl ?_
          refine rr_gfA 47 rfl rfl (by omega) rfl ?_
          refine rr_iload_n rfl rfl ?_
          refine rr_iconst rfl ?_
          refine rr_ias 47 40 rfl ⟨rfl, by omega⟩ rfl (by omega) (by omega) rfl rfl (by omega) (by omega) ?_
          refine rr_aload_n rfl rfl ?_
          refine rr_iload_n rfl rfl ?_
          refine rr_cv1W rfl rfl rfl (Nat.le_of_ble_eq_true rfl) (sr_voids (d := 0) (by omega)) (by omega) ?_
          refine rr_inc3 rfl ?_
          refine rr_goto rfl rfl ?_
          have e : ∀ z : am_Z, z = lapF j s1 → (rI z 44 = nb ∧ z.2 = s.2 ∧ am_UQ z) ∧ z = itS lapF (j + 1) s := fun z hz => ⟨⟨by rw [hz]; exact (congrFun (lapF_2 j s1) 44).trans hI.1, by rw [hz, lapF_2]; exact hI.2.1, by rw [hz]; exact lapF_UQ hI.2.2⟩, by rw [itS_s, ← hs1]; exact hz⟩
          refine ih (j + 1) _ _ (by omega) ⟨by omega, by omega, e _ ?_⟩ K
          unfold lapF
          first | rw [if_pos ⟨by omega, by omega⟩] | rw [if_neg (by omega)]
theorem lp_pa2 {d : Nat} {s : am_Z} {q0 : am_A} {Q : Option am_V → am_Z → Prop} {h k0 nf T : Int} (hnf : 0 ≤ nf ∧ nf ≤ 12) : ∀ (m : Nat) (j : Nat) (l : Int) (s1 : am_Z), (100 * nf).toNat - j < m → (l = j ∧ (j : Int) ≤ 100 * nf ∧ (rI s1 3 = nf ∧ rI s1 0 = T ∧ am_UQ s1) ∧ s1 = itS lgF j s) → (∀ x3, rI (itS lgF (100 * nf).toNat s) 0 = T → am_UQ (itS lgF (100 * nf).toNat s) → am_WR (d + 8) m_M_pass 147 [some (aR 9 0), some (aI (zI h)), some (aI (zI k0)), x3] [] q0 (itS lgF (100 * nf).toNat s) Q) → am_WR (d + 8) m_M_pass 93 [some (aR 9 0), some (aI (zI h)), some (aI (zI k0)), some (aI (zI l))] [] q0 (s1) Q := by
  intro m
  induction m with
  | zero => intro j l s1 hm; exact absurd hm (Nat.not_lt_zero _)
  | succ m ih =>
    intro j l s1 hm ⟨hj, hj2, hI, hs1⟩ K
    subst hj
    refine rr_inS (fun B => ?_)
    have b3 := B.2.1 3 0 12 rfl
    refine rr_iload_n rfl rfl ?_
    refine rr_bipush (x := 100) rfl rfl ?_
    refine rr_aload_n rfl rfl ?_
    refine rr_gfI 3 rfl rfl (by omega) rfl (fun b97 => ?_)
    refine rr_imul rfl ?_
    refine rr_icmp_ge rfl rfl (by omega) (by omega) (fun h101 => ?_) (fun h101 => ?_)
    · have hjn : (100 * nf).toNat = j := by omega
      rw [hjn, ← hs1] at K
      exact K _ hI.2.1 hI.2.2
    · refine rr_aload_n rfl rfl ?_
      refine rr_iload_n rfl rfl ?_
      refine rr_cv1B rfl rfl rfl (Nat.le_of_ble_eq_true rfl) (sr_isLeg (d := 0) (by omega)) (by omega) ?_
      refine rr_if_eqB rfl rfl (fun h109 => ?_) (fun h109 => ?_)
      · refine rr_inc3 rfl ?_
        refine rr_goto rfl rfl ?_
        first
          | exact ih (j + 1) _ _ (by omega) ⟨by omega, by omega, ⟨(goS_I s1 _ (by omega) (by omega) (by omega)).trans hI.1, (goS_I s1 _ (by omega) (by omega) (by omega)).trans hI.2.1, hUg⟩, by rw [itS_s, ← hs1]; unfold lgF; rw [if_pos ⟨by assumption, by assumption, by assumption⟩]⟩ K
          | exact ih (j + 1) _ _ (by omega) ⟨by omega, by omega, hI, by rw [itS_s, ← hs1]; unfold lgF; first | rw [if_neg (fun z => absurd z.1 (by assumption))] | rw [if_neg (fun z => absurd z.2.1 (by assumption))] | rw [if_neg (fun z => absurd z.2.2 (by assumption))]⟩ K
      · have hlr : legR (j : Int) := legP_R B (by assumption)
        refine rr_aload_n rfl rfl ?_
        refine rr_gfA 18 rfl rfl (by omega) rfl ?_
        refine rr_iload_n rfl rfl ?_
        refine rr_cs1P rfl rfl (Nat.le_of_ble_eq_true rfl) (sr_at (d := 0) (by omega)) (by omega) (fun b117 => ?_)
        refine rr_ba 18 732 rfl rfl rfl rfl (by omega) (by omega) (fun b120 => ?_)
        refine rr_if_ne rfl rfl (by omega) (fun h121 => ?_) (fun h121 => ?_)
        · refine rr_inc3 rfl ?_
          refine rr_goto rfl rfl ?_
          first
            | exact ih (j + 1) _ _ (by omega) ⟨by omega, by omega, ⟨(goS_I s1 _ (by omega) (by omega) (by omega)).trans hI.1, (goS_I s1 _ (by omega) (by omega) (by omega)).trans hI.2.1, hUg⟩, by rw [itS_s, ← hs1]; unfold lgF; rw [if_pos ⟨by assumption, by assumption, by assumption⟩]⟩ K
            | exact ih (j + 1) _ _ (by omega) ⟨by omega, by omega, hI, by rw [itS_s, ← hs1]; unfold lgF; first | rw [if_neg (fun z => absurd z.1 (by assumption))] | rw [if_neg (fun z => absurd z.2.1 (by assumption))] | rw [if_neg (fun z => absurd z.2.2 (by assumption))]⟩ K
        · refine rr_aload_n rfl rfl ?_
          refine rr_iload_n rfl rfl ?_
          refine rr_cv1P rfl rfl rfl (Nat.le_of_ble_eq_true rfl) (sr_departs (d := 0) (by omega)) (by omega) (fun b126 => ?_)
          refine rr_aload_n rfl rfl ?_
          refine rr_gfI 0 rfl rfl (by omega) rfl (fun b130 => ?_)
          refine rr_icmp_ne rfl rfl (by omega) (by omega) (fun h133 => ?_) (fun h133 => ?_)
          · refine rr_inc3 rfl ?_
            refine rr_goto rfl rfl ?_
            first
              | exact ih (j + 1) _ _ (by omega) ⟨by omega, by omega, ⟨(goS_I s1 _ (by omega) (by omega) (by omega)).trans hI.1, (goS_I s1 _ (by omega) (by omega) (by omega)).trans hI.2.1, hUg⟩, by rw [itS_s, ← hs1]; unfold lgF; rw [if_pos ⟨by assumption, by assumption, by assumption⟩]⟩ K
              | exact ih (j + 1) _ _ (by omega) ⟨by omega, by omega, hI, by rw [itS_s, ← hs1]; unfold lgF; first | rw [if_neg (fun z => absurd z.1 (by assumption))] | rw [if_neg (fun z => absurd z.2.1 (by assumption))] | rw [if_neg (fun z => absurd z.2.2 (by assumption))]⟩ K
          · refine rr_aload_n rfl rfl ?_
            refine rr_iload_n rfl rfl ?_
            refine rr_cv1V rfl rfl rfl (Nat.le_of_ble_eq_true rfl) (sr_goes (d := 0) (by omega) hI.2.2) (by omega) (fun s138 q138 => ?_)
            obtain ⟨rfl, hUg⟩ := q138
            refine rr_inc3 rfl ?_
            refine rr_goto rfl rfl ?_
            first
              | exact ih (j + 1) _ _ (by omega) ⟨by omega, by omega, ⟨(goS_I s1 _ (by omega) (by omega) (by omega)).trans hI.1, (goS_I s1 _ (by omega) (by omega) (by omega)).trans hI.2.1, hUg⟩, by rw [itS_s, ← hs1]; unfold lgF; rw [if_pos ⟨by assumption, by assumption, by assumption⟩]⟩ K
              | exact ih (j + 1) _ _ (by omega) ⟨by omega, by omega, hI, by rw [itS_s, ← hs1]; unfold lgF; first | rw [if_neg (fun z => absurd z.1 (by assumption))] | rw [if_neg (fun z => absurd z.2.1 (by assumption))] | rw [if_neg (fun z => absurd z.2.2 (by assumption))]⟩ K
theorem lp_pa3 {d : Nat} {s : am_Z} {q0 : am_A} {Q : Option am_V → am_Z → Prop} {h T : Int} (hh : 1 ≤ h ∧ h ≤ 100) (hT : 0 ≤ T ∧ T + h ≤ 60000) : ∀ (m : Nat) (j : Nat) (k : Int) (s1 : am_Z) (x3 : Option am_V), h.toNat - j < m → (k = j ∧ (j : Int) ≤ h ∧ (rI s1 0 = T + j ∧ am_UQ s1) ∧ s1 = itS (fun _ => hrS) j s) → (∀ x2 x3, rI (itS (fun _ => hrS) h.toNat s) 0 = T + h → am_UQ (itS (fun _ => hrS) h.toNat s) → am_WR (d + 8) m_M_pass 153 [some (aR 9 0), some (aI (zI h)), x2, x3] [] q0 (itS (fun _ => hrS) h.toNat s) Q) → am_WR (d + 8) m_M_pass 26 [some (aR 9 0), some (aI (zI h)), some (aI (zI k)), x3] [] q0 (s1) Q := by
  intro m
  induction m with
  | zero => intro j k s1 x3 hm; exact absurd hm (Nat.not_lt_zero _)
  | succ m ih =>
    intro j k s1 x3 hm ⟨hj, hj2, hI, hs1⟩ K
    subst hj
    refine rr_inS (fun B => ?_)
    have b44 := B.2.1 44 0 40 rfl
    have b3 := B.2.1 3 0 12 rfl
    refine rr_iload_n rfl rfl ?_
    refine rr_iload_n rfl rfl ?_
    refine rr_icmp_ge rfl rfl (by omega) (by omega) (fun h28 => ?_) (fun h28 => ?_)
    · have hjn : h.toNat = j := by omega
      rw [hjn, ← hs1] at K
      exact K _ _ (by omega) hI.2
    · refine rr_aload_n rfl rfl ?_
      refine rr_dup rfl rfl ?_
      refine rr_gfI 0 rfl rfl (by omega) rfl (fun b33 => ?_)
      refine rr_iconst rfl ?_
      refine rr_iadd rfl ?_
      refine rr_pfI 0 rfl rfl rfl rfl (by omega) rfl (by omega) ?_
      refine rr_iconst rfl ?_
      refine rr_stI3 rfl ?_
      refine lp_pa1 (d := d + 7) (s := wI s1 0 (rI s1 0 + 1)) (nb := rI s1 44) b44 ((rI s1 44).toNat + 1) 0 0 _ (by omega) ⟨rfl, by omega, ⟨rfl, rfl, UQ_cg (s := s1) (s' := wI s1 0 (rI s1 0 + 1)) rfl (fun _ => rfl) (fun _ => rfl) (fun _ z => z) hI.2⟩, rfl⟩ (fun x3 hL2 hU1 => ?_)
      refine rr_iconst rfl ?_
      refine rr_stI3 rfl ?_
      refine lp_pa2 (d := d) (s := itS lapF (rI s1 44).toNat (wI s1 0 (rI s1 0 + 1))) (nf := rI s1 3) (T := rI s1 0 + 1) b3 ((100 * rI s1 3).toNat + 1) 0 0 _ (by omega) ⟨rfl, by omega, ⟨congrFun hL2 3, congrFun hL2 0, hU1⟩, rfl⟩ (fun x3 hT2 hU2 => ?_)
      refine rr_inc2 rfl ?_
      refine rr_goto rfl rfl ?_
      exact ih (j + 1) _ _ _ (by omega) ⟨by omega, by omega, ⟨by rw [hT2]; omega, hU2⟩, by rw [itS_s, ← hs1]; rfl⟩ K
theorem sr_pass {d : Nat} {s : am_Z} {h : Int}  (hh : in32 h) (hU : am_UQ s) (hT : kPass h = 0 → rI s 0 + h ≤ 60000) : am_CR (d + 8) m_M_pass [aR 9 0, aI (zI h)] s (isG (fun v s2 => (kPass h = 0 → v = rI s 0 + h ∧ s2 = itS (fun _ => hrS) h.toNat (wI s 74 (kPass h)) ∧ am_UQ s2) ∧ (kPass h ≠ 0 → v = 0 ∧ s2 = wI s 74 (kPass h)))) := by
  refine am_CR_i (ls := [some (aR 9 0), some (aI (zI h)), none, none]) rfl (fun q0 => ?_)
  refine rr_inS (fun B => ?_)
  have b0 := B.2.1 0 0 60000 rfl
  refine rr_aload_n rfl rfl ?_
  refine rr_join (pc' := 16) (V := kPass h) ?_ (fun K16 => ?_)
  · refine rr_cv1B rfl rfl rfl (Nat.le_of_ble_eq_true rfl) (sr_fails (d := 0) (by unfold kPass; omega)) (by omega) ?_
    refine rr_if_eqB rfl rfl (fun h19 => ?_) (fun h19 => ?_)
    · have hk : kPass h = 0 := by { have z : 0 ≤ kPass h := by { unfold kPass; omega }; omega }
      have hk2 := hk
      unfold kPass at hk2
      have hT2 := hT hk
      refine rr_iconst rfl ?_
      refine rr_stI2 rfl ?_
      refine lp_pa3 (d := d) (s := wI s 74 (kPass h)) (T := rI s 0) (by omega) (by omega) (h.toNat + 1) 0 0 _ _ (by omega) ⟨rfl, by omega, ⟨by show rI s 0 = _; omega, UQ_cg (s := s) (s' := wI s 74 (kPass h)) rfl (fun _ => rfl) (fun _ => rfl) (fun _ z => z) hU⟩, rfl⟩ (fun x2 x3 hT3 hU3 => ?_)
      refine rr_aload_n rfl rfl ?_
      refine rr_gfI 0 rfl rfl (by omega) rfl (fun b154 => ?_)
      refine rr_iret rfl (Or.inl rfl) ?_
      exact ⟨_, rfl, fun z => ⟨hT3, rfl, hU3⟩, fun z => absurd hk z⟩
    · refine rr_iconst rfl ?_
      refine rr_iret rfl (Or.inl rfl) ?_
      exact ⟨_, rfl, fun z => by omega, fun z => ⟨rfl, rfl⟩⟩
  · refine rr_iload_n rfl rfl ?_
    refine rr_iconst rfl ?_
    refine rr_bipush (x := 100) rfl rfl ?_
    refine rr_cs3B rfl rfl (Nat.le_of_ble_eq_true rfl) (sr_isIn (d := 0) (by omega) (by omega) (by omega)) (by omega) ?_
    refine rr_if_eqB rfl rfl (fun h8 => ?_) (fun h8 => ?_)
    · refine rr_iconst rfl ?_
      exact K16 _ (by unfold kPass; omega)
    · refine rr_iconst rfl ?_
      refine rr_goto rfl rfl ?_
      exact K16 _ (by unfold kPass; omega)
end

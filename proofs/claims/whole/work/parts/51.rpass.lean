noncomputable section
theorem lp_go4 {d : Nat} {s : am_Z} {q0 : am_A} {Q : Option am_V → am_Z → Prop} {l n nb : Int} {x2 : Option am_V} (hl : legR l) (hnb : 0 ≤ nb ∧ nb ≤ 40) (hn : 0 ≤ n ∧ n ≤ nb) : ∀ (m : Nat) (j : Nat) (k : Int) (s1 : am_Z) (x5 : Option am_V), n.toNat - j < m → (k = j ∧ (j : Int) ≤ n ∧ (am_UQ s1 ∧ rI s1 44 = nb) ∧ (∀ i, (j : Int) ≤ i → i < n → (0 ≤ rA s1 71 i ∧ rA s1 71 i < nb) ∧ cfS s1 (rA s1 71 i) l ≠ -1) ∧ (∀ i i2, 0 ≤ i → i < i2 → i2 < n → rA s1 71 i ≠ rA s1 71 i2) ∧ s1 = itS (gmF l) j s) → (∀ x4 x5, am_UQ (itS (gmF l) n.toNat s) → am_WR (d + 7) m_M_goes 271 [some (aR 9 0), some (aI (zI l)), x2, some (aI (zI n)), x4, x5] [] q0 (itS (gmF l) n.toNat s) Q) → am_WR (d + 7) m_M_goes 235 [some (aR 9 0), some (aI (zI l)), x2, some (aI (zI n)), some (aI (zI k)), x5] [] q0 (s1) Q := by
  intro m
  induction m with
  | zero => intro j k s1 x5 hm; exact absurd hm (Nat.not_lt_zero _)
  | succ m ih =>
    intro j k s1 x5 hm ⟨hj, hj2, hUQ, hA, hD, hs1⟩ K
    subst hj
    refine rr_inS (fun B => ?_)
    refine rr_iload rfl rfl ?_
    refine rr_iload_n rfl rfl ?_
    refine rr_icmp_ge rfl rfl (by omega) (by omega) (fun h238 => ?_) (fun h238 => ?_)
    · rw [hs1, show j = n.toNat by omega] at hUQ ⊢
      exact K _ _ hUQ.1
    · have hAj := hA (j : Int) (by omega) (by omega)
      have h10 : ∀ b, rA s1 52 b ≤ 10 := fun b => (B.1 52 b 0 10 rfl).2
      have hcf : 0 ≤ cfS s1 (rA s1 71 (j : Int)) l ∧ cfS s1 (rA s1 71 (j : Int)) l < rA s1 52 (rA s1 71 (j : Int)) := by
        have z0 := B.1 52 (rA s1 71 (j : Int)) 0 10 rfl
        have z1 := hAj.2
        unfold cfS at z1 ⊢
        by_cases z2 : rA s1 47 (rA s1 71 (j : Int)) = 1
        · rw [if_pos z2] at z1 ⊢
          have z3 := cfN_b s1 (rA s1 71 (j : Int)) l (rA s1 52 (rA s1 71 (j : Int))).toNat
          have z4 := (cfN_ne z1).1
          omega
        · rw [if_neg z2] at z1; exact absurd rfl z1
      have hcc := hcf
      have e71 : ∀ i, rA (moveS s1 (rA s1 71 (j : Int)) (cfS s1 (rA s1 71 (j : Int)) l)) 71 i = rA s1 71 i := fun i => moveS_A hcc (h10 _) (Or.inr (Or.inl (by omega)))
      refine rr_aload_n rfl rfl ?_
      refine rr_aload_n rfl rfl ?_
      refine rr_gfA 71 rfl rfl (by omega) rfl ?_
      refine rr_iload rfl rfl ?_
      refine rr_ia 71 40 rfl rfl rfl rfl (by omega) (by omega) (fun b248 => ?_)
      refine rr_aload_n rfl rfl ?_
      refine rr_aload_n rfl rfl ?_
      refine rr_gfA 71 rfl rfl (by omega) rfl ?_
      refine rr_iload rfl rfl ?_
      refine rr_ia 71 40 rfl rfl rfl rfl (by omega) (by omega) (fun b256 => ?_)
      refine rr_iload_n rfl rfl ?_
      refine rr_cv2P rfl rfl rfl (Nat.le_of_ble_eq_true rfl) (sr_checkedFor (d := 0) (by omega) (by omega)) (by omega) (fun b258 => ?_)
      refine rr_cv2B rfl rfl rfl (Nat.le_of_ble_eq_true rfl) (sr_moves (d := 0) (by omega) (by omega)) (by omega) ?_
      refine rr_pop rfl rfl ?_
      refine rr_inc4 rfl ?_
      refine rr_goto rfl rfl ?_
      refine ih (j + 1) _ _ _ (by omega) ⟨by omega, by omega, ⟨moveS_UQ B hUQ.1 (by omega) hcc, (moveS_I (by omega) (by omega)).trans hUQ.2⟩, fun i h1 h2 => ?_, fun i i2 h1 h2 h3 => ?_, by rw [itS_s, ← hs1]; rfl⟩ K
      · rw [e71 i]
        have h3 := hA i (by omega) h2
        rw [moveS_cf hcc h10 (fun z => hD j i (by omega) (by omega) h2 z.symm)]
        exact h3
      · rw [e71 i, e71 i2]; exact hD i i2 h1 h2 h3
theorem fLv_0 {s : am_Z} (B : in_S s) (hU : am_UQ s) {l : Int} : nTc (gl0 s) l = sumI 0 (rI s 44).toNat (fLv (gl0 s) l) := by
  show sumI 0 (rI s 44).toNat (bTc (gl0 s) l) = _
  refine sumI_c (fun b h1 h2 => ?_)
  have e1 : bTc (gl0 s) l b = bTc s l b := rfl
  have e2 : cfS (gl0 s) b l = cfS s b l := cfS_cg (s := s) (s' := gl0 s) rfl rfl (fun _ _ => ⟨rfl, Iff.rfl⟩) l
  have e3 : rA (gl0 s) 67 b = 0 := if_pos ⟨rfl, h1, h2⟩
  unfold fLv
  rw [e1, bTc_cf B (hU b h1 (by omega)), e3, e2, if_pos rfl]
  rfl
theorem sr_goes {d : Nat} {s : am_Z} {l : Int}  (hl : legR l) (hU : am_UQ s) : am_CR (d + 7) m_M_goes [aR 9 0, aI (zI l)] s (isV (fun s2 => s2 = goS s l ∧ am_UQ s2)) := by
  refine am_CR_i (ls := [some (aR 9 0), some (aI (zI l)), none, none, none, none]) rfl (fun q0 => ?_)
  refine rr_inS (fun B => ?_)
  have b44 := B.2.1 44 0 40 rfl
  have h67 : ∀ i : Int, 0 ≤ i → i < (rI s 44).toNat → rA (gl0 s) 67 i = 0 := fun i h1 h2 => if_pos ⟨rfl, h1, by omega⟩
  have hc0 : cntD (gl0 s) (rI s 44).toNat = (rI s 44).toNat := cntD_all h67
  refine rr_iconst rfl ?_
  refine rr_stI2 rfl ?_
  refine lp_go1 (d := d + 7) (s := s) (nb := rI s 44) b44 rfl ((rI s 44).toNat + 1) 0 0 s _ _ _ (by omega) ⟨rfl, by omega, (wB_0 ..).symm⟩ (fun x2 => ?_)
  show am_WR _ m_M_goes 23 _ _ q0 (gl0 s) _
  refine rr_aload_n rfl rfl ?_
  refine rr_iload_n rfl rfl ?_
  refine rr_cv1P rfl rfl rfl (Nat.le_of_ble_eq_true rfl) (sr_checked (d := 0) (by omega)) (by omega) (fun b25 => ?_)
  refine rr_stI2 rfl ?_
  refine rr_iconst rfl ?_
  refine rr_stI3 rfl ?_
  refine lp_go2 (d := d + 4) (s := s) (nb := rI s 44) hl b44 ((rI s 44).toNat + 1) _ 0 (gl0 s) _ _ (by rw [hc0]; omega) ⟨rfl, ⟨by omega, by rw [hc0]; omega⟩, fLv_0 B hU, ⟨fun i h1 h2 => by omega, fun i j h1 h2 h3 => by omega⟩⟩ (fun s2 n2 x2 x4 x5 e1 e2 e3 e4 => ?_)
  have f1 : s2 = (glX s l).1 := congrArg Prod.fst e1
  have f2 : n2 = (glX s l).2 := congrArg Prod.snd e1
  have k44 : rI s2 44 = rI s 44 := (e4.2 44 (by omega)).trans rfl
  refine rr_inS (fun B2 => ?_)
  have h10 : ∀ b, rA s2 52 b ≤ 10 := fun b => (B2.1 52 b 0 10 rfl).2
  refine rr_iconst rfl ?_
  refine rr_stI4 rfl ?_
  refine lp_go3b (d := d + 6) (s := s2) (nb := rI s 44) hl b44 ((rI s 44).toNat + 1) 0 0 s2 _ (by omega) ⟨rfl, by omega, k44, rfl⟩ (fun x4 x5 => ?_)
  have hg := glN_u (l := l) h10 (rI s 44).toNat
  have hU2 : am_UQ s2 := UQ_cg k44 (fun b => (e4.1 52 b (by omega) (by omega)).trans rfl) (fun b => (e4.1 53 b (by omega) (by omega)).trans rfl) (fun b z => (by rw [(e4.1 55 b (by omega) (by omega))] at z; exact z)) hU
  have hU3 : am_UQ (itS (glB l) (rI s 44).toNat s2) := UQ_cg (congrFun hg.2.1 44) (fun b => hg.1 52 b (by omega) (by omega) (by omega)) (fun b => hg.1 53 b (by omega) (by omega) (by omega)) (fun b z => glN_3 _ _ _ _ z) hU2
  have k443 : rI (itS (glB l) (rI s 44).toNat s2) 44 = rI s 44 := (congrFun hg.2.1 44).trans k44
  have h71 : ∀ i, rA (itS (glB l) (rI s 44).toNat s2) 71 i = rA s2 71 i := fun i => hg.1 71 i (by omega) (by omega) (by omega)
  refine rr_iconst rfl ?_
  refine rr_stI4 rfl ?_
  refine lp_go4 (d := d) (s := itS (glB l) (rI s 44).toNat s2) (nb := rI s 44) hl b44 e2 (n2.toNat + 1) 0 0 _ _ (by omega) ⟨rfl, by omega, ⟨hU3, k443⟩, fun i h1 h2 => (by rw [h71 i]; have z := e3.1 i h1 h2; exact ⟨z.1, by rw [glN_cf h10 _ z.1.1 z.2.1]; exact z.2.2⟩), fun i i2 h1 h2 h3 => (by rw [h71 i, h71 i2]; exact e3.2 i i2 h1 h2 h3), rfl⟩ (fun x4 x5 hU4 => ?_)
  exact rr_ret rfl rfl ⟨rfl, by unfold goS; rw [f1, f2], hU4⟩
end

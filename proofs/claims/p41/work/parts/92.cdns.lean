noncomputable section
theorem MK_no2 {s : am_Z} {l t r : Int} {k : Nat} (M : am_MK s l t r k) (h : ¬ (cfS s k l ≠ -1 ∧ rA s 51 k = 1 - t ∧ tierS s (rA s 46 k) = r)) : am_MK s l t r (k + -1) := by
  refine MK_no M (fun c hc y => h ?_)
  have e : c = k := by omega
  subst e
  exact y
/-- a flag stands where nobody flies any more -/
def am_DFh (q : am_A) : Prop := ∀ j : Nat, qFI q 106 (1, j) ≠ 0 → qFI q 106 (1, j) = 1 ∧ 2 ≤ qFI q 105 (1, j)
theorem DF_CG {q q' : am_A} (D : am_DFh q) (G : am_CG q q') : am_DFh q' := fun j h => by
  have g := G.2 j h
  have d := D j (fun z => h (g.1.trans z))
  exact ⟨g.1.trans d.1, g.2 d.2⟩
/-- who is denied, on the heap -/
def am_DH (q q1 : am_A) (s1 : am_Z) (l n : Int) : Prop := ((qLS q1 (1809, 0)).length : Int) = n ∧ (∀ k : Nat, (k : Int) < n → (qLS q1 (1809, 0))[k]? = some (0, (rA s1 71 k).toNat)) ∧ (∀ j : Nat, qFI q1 106 (1, j) ≠ 0 → qFI q1 106 (1, j) = 1 ∧ (2 ≤ qFI q1 105 (1, j) ∨ ∃ i : Nat, (i : Int) < n ∧ j = cId q1 (rA s1 71 i).toNat (cfS s1 (rA s1 71 i) l).toNat)) ∧ (∀ b : Nat, (b : Int) < rI s1 44 → rA s1 67 b ≠ 0 → qFI q1 106 (1, cId q1 b (cfS s1 b l).toNat) = 1) ∧ (∀ x, lId q1 x = lId q x) ∧ am_CY q q1
theorem DH_step {q q1 : am_A} {s1 : am_Z} {l n p : Int} {k : Nat} (D : am_DH q q1 s1 l n) (hn : 0 ≤ n) (hk : (k : Int) < rI s1 44) (e : pfS s1 k l = cfS s1 k l) : am_DH q (dnH q1 k (pfS s1 k l).toNat p) (dnS s1 k n) l (n + 1) := by
  obtain ⟨d1, d2, d3, d4, d5, d6⟩ := D
  refine ⟨?_, fun x hx => ?_, fun j hj => ?_, fun b hb h67 => ?_, fun x => (dnH_l x).trans (d5 x), CY_t d6 dnH_CY⟩
  · rw [dnH_LS, List.length_append]
    show (((qLS q1 (1809, 0)).length + 1 : Nat) : Int) = n + 1
    omega
  · rw [dnH_LS, dn_71]
    by_cases ex : (x : Int) = n
    · rw [if_pos ex, List.getElem?_append_right (by omega), show x - (qLS q1 (1809, 0)).length = 0 by omega]
      rfl
    · rw [if_neg ex, List.getElem?_append_left (by omega)]
      exact d2 x (by omega)
  · rw [dnH_6] at hj ⊢
    rw [dnH_F (by omega)]
    by_cases ej : j = cId q1 k (pfS s1 k l).toNat
    · rw [if_pos ej]
      refine ⟨rfl, Or.inr ⟨n.toNat, by omega, ?_⟩⟩
      rw [dnH_c, dn_cf, dn_71, if_pos (by omega), ← e, Int.toNat_natCast]
      exact ej
    · rw [if_neg ej] at hj ⊢
      have d := d3 j hj
      exact ⟨d.1, d.2.imp id (fun ⟨b, b1, b3⟩ => ⟨b, by omega, by rw [dnH_c, dn_cf, dn_71, if_neg (by omega)]; exact b3⟩)⟩
  · rw [dnH_6, dnH_c, dn_cf]
    rw [dn_I s1 _ _ (by omega)] at hb
    rw [dn_67] at h67
    by_cases eb : (b : Int) = k
    · have : b = k := by omega
      subst this
      rw [e, if_pos rfl]
    · rw [if_neg eb] at h67
      split
      · rfl
      · exact d4 b hb h67
theorem dnS_B {s : am_Z} (B : in_S s) {k : Nat} (hk : k < 40) {n : Int} : in_S (dnS s k n) := in_S_I (in_S_A (in_S_A B (fun lo hi h => by cases h; omega) (fun h => by cases h)) (fun lo hi h => by cases h; omega) (fun h => by cases h)) (fun lo hi h => by cases h)
theorem dn_CI {e : Nat} {q : am_A} {s : am_Z} {k : Nat} {n : Int} (B : in_S s) (hk : k < 40) (I : am_CI e q (wI s 68 (rI s 68 + rA s 45 k))) : am_CI e q (dnS s k n) := CI_s I (fun j x h => (dn_A s k n (by omega) (by omega) x).trans rfl) (fun j h => rfl) (dnS_B B hk)
theorem dnH_B {q : am_A} {b k x f : Nat} {p : Int} (h : f ≠ 106) (h2 : f ≠ 814) : qFI (dnH q b k p) f (0, x) = qFI q f (0, x) := by
  have h1 : am_u2 (qFI (qAdd (uFI q 106 (1, cId q b k) 1) (1809, 0) (0, b))) 814 (8, 0) p f (0, x) = qFI (qAdd (uFI q 106 (1, cId q b k) 1) (1809, 0) (0, b)) f (0, x) := uf_ne h2
  rw [qAdd_FI] at h1
  have h3 : am_u2 (qFI q) 106 (1, cId q b k) 1 f (0, x) = qFI q f (0, x) := uf_ne h
  refine Eq.trans ?_ (h1.trans h3)
  show am_u2 (qFI (qAdd (uFI q 106 (1, cId q b k) 1) (1809, 0) (0, b))) 814 (8, 0) p f (0, x) = _
  rw [qAdd_FI]
theorem DS_b {l : Int} {s0 s1 : am_Z} {a0 a n : Int} (D : am_DS l s0 s1 a0 a n) (B : in_S s1) (h44 : rI s0 44 ≤ 40) : 0 ≤ a ∧ a ≤ 360 := by
  have bl := sumI_b (a := 0) (n := (rI s0 44).toNat) (f := fLv s1 l) (M := 9) (fun i => by { have := B.1 45 i 0 9 rfl; unfold fLv; split <;> first | omega | (split <;> omega) })
  rw [← D.2.2.1] at bl
  omega
/-- the state but for the marks -/
def am_S7 (s0 s1 : am_Z) : Prop := (∀ j i, j ≠ 67 → j ≠ 71 → rA s1 j i = rA s0 j i) ∧ ∀ j, j ≠ 68 → rI s1 j = rI s0 j
theorem S7_PN {s0 s1 : am_Z} (h : am_S7 s0 s1) (P : am_PN s0) : am_PN s1 := fun i h1 h2 => by
  rw [h.1 69 i (by omega) (by omega)]
  exact P i h1 h2
theorem S7_UQ {s0 s1 : am_Z} (h : am_S7 s0 s1) (U : am_UQ s0) : am_UQ s1 := UQ_cg (h.2 44 (by omega)) (fun b => h.1 52 b (by omega) (by omega)) (fun b => h.1 53 b (by omega) (by omega)) (fun b z => by rw [h.1 55 b (by omega) (by omega)] at z; exact z) U
theorem S7_CK {s0 s1 : am_Z} (h : am_S7 s0 s1) (C : am_CK s0) : am_CK s1 := fun b k h1 h2 h3 => by
  rw [h.2 44 (by omega)] at h1
  rw [h.1 52 _ (by omega) (by omega)] at h2
  rw [h.1 55 _ (by omega) (by omega)] at h3
  rw [h.1 47 _ (by omega) (by omega)]
  exact C b k h1 h2 h3
theorem S7_l {s0 s1 : am_Z} (h : am_S7 s0 s1) {l : Int} (hl : legP s0 l) : legP s1 l := (legP_cg (s := s0) (s' := s1) (fun j x z => h.1 j x (by omega) (by omega)) (h.2 3 (by omega))).mpr hl
theorem lp_ds3 {d : Nat} {q : am_A} {Q : am_O → am_A → Prop} {e : Nat} {s0 : am_Z} {l a0 t r : Int} (hl : legP s0 l) (P : am_PN s0) (U : am_UQ s0) (C : am_CK s0) (b9 : 0 ≤ rA s0 9 (l / 100) ∧ rA s0 9 (l / 100) ≤ 60) (ht : t = 0 ∨ t = 1) (hr : 0 ≤ r ∧ r ≤ 3) : ∀ (m : Nat) (i a n : Int) (s1 : am_Z) (q1 : am_A) (x7 : Option am_V), (i + 1).toNat < m → ((-1 ≤ i ∧ i < rI s0 44) ∧ am_DS l s0 s1 a0 a n ∧ am_CI e q1 s1 ∧ am_DH q q1 s1 l n ∧ (a ≤ rA s0 9 (l / 100) ∨ am_MK s1 l t r i)) → (∀ a2 n2 s2 x6 x7 q2, am_DS l s0 s2 a0 a2 n2 → am_CI e q2 s2 → am_DH q q2 s2 l n2 → (a2 ≤ rA s0 9 (l / 100) ∨ am_MK s2 l t r (-1)) → am_W2 (d + 7) m_X_denySurplus 140 [some (aR 8 0), some (aR 5 (lId q l)), some (aI (zI (a2 - rA s0 9 (l / 100)))), some (aI (zI t)), some (aI (zI (1 - t))), some (aI (zI r)), x6, x7] [] (q2) Q) → am_W2 (d + 7) m_X_denySurplus 63 [some (aR 8 0), some (aR 5 (lId q l)), some (aI (zI (a - rA s0 9 (l / 100)))), some (aI (zI t)), some (aI (zI (1 - t))), some (aI (zI r)), some (aI (zI i)), x7] [] (q1) Q := by
  intro m
  induction m with
  | zero => intro i a n s1 q1 x7 hm; exact absurd hm (Nat.not_lt_zero _)
  | succ m ih =>
    intro i a n s1 q1 x7 hm ⟨hi, hD, hI, hH, hM⟩ K
    have V := hI.1
    have B := CV_B V
    have hS7 : am_S7 s0 s1 := hD.2.2.2.2.1
    have e44 : rI s1 44 = rI s0 44 := hS7.2 44 (by omega)
    have b44 := B.2.1 44 0 40 rfl
    have ba := DS_b hD B (by omega)
    have hl1 := S7_l hS7 hl
    have hll := hH.2.2.2.2.1 l
    refine ar_iload rfl rfl ?_
    refine ar_if_lt rfl rfl (by omega) (fun h65 => ?_) (fun h65 => ?_)
    · first | exact K _ _ _ _ _ _ hD hI hH (Or.inl (by omega)) | exact K _ _ _ _ _ _ hD hI hH (by rw [show (-1 : Int) = i by omega]; exact hM)
    · refine ar_iload_n rfl rfl ?_
      refine ar_if_le rfl rfl (by omega) (fun h69 => ?_) (fun h69 => ?_)
      · first | exact K _ _ _ _ _ _ hD hI hH (Or.inl (by omega)) | exact K _ _ _ _ _ _ hD hI hH (by rw [show (-1 : Int) = i by omega]; exact hM)
      · obtain ⟨k, rfl⟩ : ∃ k : Nat, i = (k : Int) := ⟨i.toNat, by omega⟩
        have hb2 : (k : Int) < rI s1 44 := by omega
        have hMM : am_MK s1 l t r k := hM.resolve_left (by omega)
        have hB := V.2.2.2.2.2.2.1.2.2.1 k hb2
        have b51 := B.1 51 k 0 1 rfl
        have b46 := B.1 46 k (-1) 4 rfl
        have btr := tier_b B (S7_PN hS7 P) k
        have hcc := ch_cf B (S7_UQ hS7 U) (S7_CK hS7 C) (l := l) hb2
        refine ar_aload_n rfl rfl ?_
        refine ar_gfR rfl rfl rfl (by omega) (V.1.1 806 _ rfl) ?_
        refine ar_iload rfl rfl ?_
        refine ar_cv1 rfl rfl rfl (Nat.le_of_ble_eq_true rfl) (cl_getB (d := 0) V (by omega)) (by omega) (fun o q78 hq => am_B2_is ?_ hq)
        rw [Int.toNat_natCast]
        refine ar_cast rfl rfl rfl ?_
        refine ar_stA7 rfl ?_
        refine ar_aload rfl rfl ?_
        refine ar_gfIv rfl rfl rfl (by omega) (hB.1 8 51 rfl) ?_
        refine ar_iload rfl rfl ?_
        refine ar_icmp_ne rfl rfl (by omega) (by omega) (fun h93 => ?_) (fun h93 => ?_)
        · refine ar_inc6 rfl ?_
          refine ar_goto rfl rfl ?_
          first | (have hMi := MK_i B hb2 ht hcf.1 (by omega) (by omega) hMM; rw [show a - rA s0 9 (l / 100) - rA s1 45 (k : Int) = a - rA s1 45 (k : Int) - rA s0 9 (l / 100) by omega]; exact ih (k + -1) _ _ _ _ _ (by omega) ⟨⟨by omega, by omega⟩, DS_step hD (by omega) hcf.1 hMi.1 hMi.2 (by omega), dn_CI B (by omega) I123, DH_step hH hD.2.1.1 hb2 hcf.2, Or.inr (MK_yes (n := n) (by omega) (by omega) hMM)⟩ K) | exact ih (k + -1) _ _ _ _ _ (by omega) ⟨⟨by omega, by omega⟩, hD, hI, hH, Or.inr (MK_no2 hMM (fun y => by have y1 := y.2.1; have y2 := y.2.2; first | omega | exact h116 (hcc.1.mp y.1)))⟩ K
        · refine ar_aload_n rfl rfl ?_
          refine ar_aload rfl rfl ?_
          refine ar_gfIv rfl rfl rfl (by omega) (hB.1 0 46 rfl) ?_
          refine ar_cv1 rfl rfl rfl (Nat.le_of_ble_eq_true rfl) (cs_tierOf (d := 0) V (by omega)) (by omega) (fun o q102 hq => am_B2_is ?_ hq)
          refine ar_iload rfl rfl ?_
          refine ar_icmp_ne rfl rfl (by omega) (by omega) (fun h107 => ?_) (fun h107 => ?_)
          · refine ar_inc6 rfl ?_
            refine ar_goto rfl rfl ?_
            first | (have hMi := MK_i B hb2 ht hcf.1 (by omega) (by omega) hMM; rw [show a - rA s0 9 (l / 100) - rA s1 45 (k : Int) = a - rA s1 45 (k : Int) - rA s0 9 (l / 100) by omega]; exact ih (k + -1) _ _ _ _ _ (by omega) ⟨⟨by omega, by omega⟩, DS_step hD (by omega) hcf.1 hMi.1 hMi.2 (by omega), dn_CI B (by omega) I123, DH_step hH hD.2.1.1 hb2 hcf.2, Or.inr (MK_yes (n := n) (by omega) (by omega) hMM)⟩ K) | exact ih (k + -1) _ _ _ _ _ (by omega) ⟨⟨by omega, by omega⟩, hD, hI, hH, Or.inr (MK_no2 hMM (fun y => by have y1 := y.2.1; have y2 := y.2.2; first | omega | exact h116 (hcc.1.mp y.1)))⟩ K
          · rw [← hll]
            refine ar_aload rfl rfl ?_
            refine ar_aload_n rfl rfl ?_
            refine ar_cv1 rfl rfl rfl (Nat.le_of_ble_eq_true rfl) (cs_isCheckedFor (d := 0) V hl1 hb2) (by omega) (fun o q113 hq => am_B2_is ?_ hq)
            rw [hll]
            refine ar_if_eqB rfl rfl (fun h116 => ?_) (fun h116 => ?_)
            · refine ar_inc6 rfl ?_
              refine ar_goto rfl rfl ?_
              first | (have hMi := MK_i B hb2 ht hcf.1 (by omega) (by omega) hMM; rw [show a - rA s0 9 (l / 100) - rA s1 45 (k : Int) = a - rA s1 45 (k : Int) - rA s0 9 (l / 100) by omega]; exact ih (k + -1) _ _ _ _ _ (by omega) ⟨⟨by omega, by omega⟩, DS_step hD (by omega) hcf.1 hMi.1 hMi.2 (by omega), dn_CI B (by omega) I123, DH_step hH hD.2.1.1 hb2 hcf.2, Or.inr (MK_yes (n := n) (by omega) (by omega) hMM)⟩ K) | exact ih (k + -1) _ _ _ _ _ (by omega) ⟨⟨by omega, by omega⟩, hD, hI, hH, Or.inr (MK_no2 hMM (fun y => by have y1 := y.2.1; have y2 := y.2.2; first | omega | exact h116 (hcc.1.mp y.1)))⟩ K
            · have hcf : cfS s1 k l ≠ -1 ∧ pfS s1 k l = cfS s1 k l := ⟨hcc.1.mpr h116, hcc.2 (hcc.1.mpr h116)⟩
              refine ar_aload_n rfl rfl ?_
              refine ar_aload rfl rfl ?_
              rw [← hll]
              refine ar_aload_n rfl rfl ?_
              refine ar_cv2 rfl rfl rfl (Nat.le_of_ble_eq_true rfl) (cs_deny (d := 0) hI hl1 hb2 (by omega)) (by omega) (fun o q123 hq => ?_)
              obtain ⟨rfl, rfl, hc123⟩ := hq
              rw [hll]
              have h39 : (qLS q1 (1809, 0)).length ≤ 39 := by { have z := hH.1; have z2 := hD.2.1; have z3 := MK_i B hb2 ht hcf.1 (by omega) (by omega) hMM; have z4 := DS_step hD (by omega) hcf.1 z3.1 z3.2 (by omega); have z5 := z4.2.1; omega }
              have I123 := dnH_CI (b := k) (k := (pfS s1 k l).toNat) (p := rI s1 68 + rA s1 45 k) hI h39 hc123
              refine ar_iload_n rfl rfl ?_
              refine ar_aload rfl rfl ?_
              refine ar_gfIv rfl rfl rfl (by omega) ((dnH_B (by omega) (by omega)).trans (hB.1 6 45 rfl)) ?_
              refine ar_isub rfl ?_
              refine ar_stI2 rfl ?_
              refine ar_inc6 rfl ?_
              refine ar_goto rfl rfl ?_
              first | (have hMi := MK_i B hb2 ht hcf.1 (by omega) (by omega) hMM; rw [show a - rA s0 9 (l / 100) - rA s1 45 (k : Int) = a - rA s1 45 (k : Int) - rA s0 9 (l / 100) by omega]; exact ih (k + -1) _ _ _ _ _ (by omega) ⟨⟨by omega, by omega⟩, DS_step hD (by omega) hcf.1 hMi.1 hMi.2 (by omega), dn_CI B (by omega) I123, DH_step hH hD.2.1.1 hb2 hcf.2, Or.inr (MK_yes (n := n) (by omega) (by omega) hMM)⟩ K) | exact ih (k + -1) _ _ _ _ _ (by omega) ⟨⟨by omega, by omega⟩, hD, hI, hH, Or.inr (MK_no2 hMM (fun y => by have y1 := y.2.1; have y2 := y.2.2; first | omega | exact h116 (hcc.1.mp y.1)))⟩ K
theorem lp_ds2 {d : Nat} {q : am_A} {Q : am_O → am_A → Prop} {e : Nat} {s0 : am_Z} {l a0 t : Int} (hl : legP s0 l) (P : am_PN s0) (U : am_UQ s0) (C : am_CK s0) (b9 : 0 ≤ rA s0 9 (l / 100) ∧ rA s0 9 (l / 100) ≤ 60) (ht : t = 0 ∨ t = 1) : ∀ (m : Nat) (r a n : Int) (s1 : am_Z) (q1 : am_A) (x6 x7 : Option am_V), (5 - r).toNat < m → ((0 ≤ r ∧ r ≤ 4) ∧ am_DS l s0 s1 a0 a n ∧ am_CI e q1 s1 ∧ am_DH q q1 s1 l n ∧ (a ≤ rA s0 9 (l / 100) ∨ am_MK s1 l t r (rI s1 44 - 1))) → (∀ a2 n2 s2 x5 x6 x7 q2, am_DS l s0 s2 a0 a2 n2 → am_CI e q2 s2 → am_DH q q2 s2 l n2 → (a2 ≤ rA s0 9 (l / 100) ∨ am_MK s2 l t 4 (rI s2 44 - 1)) → am_W2 (d + 7) m_X_denySurplus 146 [some (aR 8 0), some (aR 5 (lId q l)), some (aI (zI (a2 - rA s0 9 (l / 100)))), some (aI (zI t)), some (aI (zI (1 - t))), x5, x6, x7] [] (q2) Q) → am_W2 (d + 7) m_X_denySurplus 46 [some (aR 8 0), some (aR 5 (lId q l)), some (aI (zI (a - rA s0 9 (l / 100)))), some (aI (zI t)), some (aI (zI (1 - t))), some (aI (zI r)), x6, x7] [] (q1) Q := by
  intro m
  induction m with
  | zero => intro r a n s1 q1 x6 x7 hm; exact absurd hm (Nat.not_lt_zero _)
  | succ m ih =>
    intro r a n s1 q1 x6 x7 hm ⟨hr, hD, hI, hH, hM⟩ K
    have V := hI.1
    have B := CV_B V
    have hS7 : am_S7 s0 s1 := hD.2.2.2.2.1
    have e44 : rI s1 44 = rI s0 44 := hS7.2 44 (by omega)
    have b44 := B.2.1 44 0 40 rfl
    have ba := DS_b hD B (by omega)
    have hl1 := S7_l hS7 hl
    have hll := hH.2.2.2.2.1 l
    refine ar_iload rfl rfl ?_
    refine ar_iconst rfl ?_
    refine ar_icmp_gt rfl rfl (by omega) (by omega) (fun h49 => ?_) (fun h49 => ?_)
    · exact K _ _ _ _ _ _ _ hD hI hH (by rw [show (4 : Int) = r by omega]; exact hM)
    · refine ar_aload_n rfl rfl ?_
      refine ar_gfR rfl rfl rfl (by omega) (V.1.1 806 _ rfl) ?_
      refine ar_cv0 rfl rfl rfl (Nat.le_of_ble_eq_true rfl) (cl_szB (d := 0) V) (by omega) (fun o q56 hq => am_B2_is ?_ hq)
      refine ar_iconst rfl ?_
      refine ar_isub rfl ?_
      refine ar_stI6 rfl ?_
      refine lp_ds3 (d := d) (q := q) (e := e) (s0 := s0) (l := l) (a0 := a0) (t := t) (r := r) hl P U C b9 ht (by omega) ((rI s0 44).toNat + 2) _ _ _ _ _ _ (by omega) ⟨⟨by omega, by omega⟩, hD, hI, hH, hM⟩ (fun a2 n2 s2 x6 x7 q2 D2 I2 H2 M2 => ?_)
      refine ar_inc5 rfl ?_
      refine ar_goto rfl rfl ?_
      exact ih (r + 1) _ _ _ _ _ _ (by omega) ⟨by omega, D2, I2, H2, M2.imp id MK_tier⟩ K
theorem lp_ds1 {d : Nat} {q : am_A} {Q : am_O → am_A → Prop} {e : Nat} {s0 : am_Z} {l a0 : Int} (hl : legP s0 l) (P : am_PN s0) (U : am_UQ s0) (C : am_CK s0) (b9 : 0 ≤ rA s0 9 (l / 100) ∧ rA s0 9 (l / 100) ≤ 60)  : ∀ (m : Nat) (t a n : Int) (s1 : am_Z) (q1 : am_A) (x4 x5 x6 x7 : Option am_V), (3 - t).toNat < m → ((0 ≤ t ∧ t ≤ 2) ∧ am_DS l s0 s1 a0 a n ∧ am_CI e q1 s1 ∧ am_DH q q1 s1 l n ∧ (a ≤ rA s0 9 (l / 100) ∨ am_MK s1 l t 0 (rI s1 44 - 1))) → (∀ a2 n2 s2 x3 x4 x5 x6 x7 q2, a2 ≤ rA s0 9 (l / 100) → am_DS l s0 s2 a0 a2 n2 → am_CI e q2 s2 → am_DH q q2 s2 l n2 → am_W2 (d + 7) m_X_denySurplus 152 [some (aR 8 0), some (aR 5 (lId q l)), some (aI (zI (a2 - rA s0 9 (l / 100)))), x3, x4, x5, x6, x7] [] (q2) Q) → am_W2 (d + 7) m_X_denySurplus 23 [some (aR 8 0), some (aR 5 (lId q l)), some (aI (zI (a - rA s0 9 (l / 100)))), some (aI (zI t)), x4, x5, x6, x7] [] (q1) Q := by
  intro m
  induction m with
  | zero => intro t a n s1 q1 x4 x5 x6 x7 hm; exact absurd hm (Nat.not_lt_zero _)
  | succ m ih =>
    intro t a n s1 q1 x4 x5 x6 x7 hm ⟨ht, hD, hI, hH, hM⟩ K
    have V := hI.1
    have B := CV_B V
    have hS7 : am_S7 s0 s1 := hD.2.2.2.2.1
    have e44 : rI s1 44 = rI s0 44 := hS7.2 44 (by omega)
    have b44 := B.2.1 44 0 40 rfl
    have ba := DS_b hD B (by omega)
    have hl1 := S7_l hS7 hl
    have hll := hH.2.2.2.2.1 l
    refine ar_iload_n rfl rfl ?_
    refine ar_iconst rfl ?_
    refine ar_icmp_ge rfl rfl (by omega) (by omega) (fun h25 => ?_) (fun h25 => ?_)
    · first | exact K _ _ _ _ _ _ _ _ _ (by omega) hD hI hH | exact K _ _ _ _ _ _ _ _ _ (by { rcases hM with hM | hM; exact hM; rw [show t = 2 by omega] at hM; have := DS_all hD B hM; omega }) hD hI hH
    · refine ar_iload_n rfl rfl ?_
      refine ar_if_le rfl rfl (by omega) (fun h29 => ?_) (fun h29 => ?_)
      · first | exact K _ _ _ _ _ _ _ _ _ (by omega) hD hI hH | exact K _ _ _ _ _ _ _ _ _ (by { rcases hM with hM | hM; exact hM; rw [show t = 2 by omega] at hM; have := DS_all hD B hM; omega }) hD hI hH
      · refine cq_join (pc' := 41) (V := 1 - t) ?_ (fun K41 => ?_)
        · refine ar_stI4 rfl ?_
          refine ar_iconst rfl ?_
          refine ar_stI5 rfl ?_
          refine lp_ds2 (d := d) (q := q) (e := e) (s0 := s0) (l := l) (a0 := a0) (t := t) hl P U C b9 (by omega) 6 0 _ _ _ _ _ _ (by omega) ⟨⟨by omega, by omega⟩, hD, hI, hH, hM⟩ (fun a2 n2 s2 x5 x6 x7 q2 D2 I2 H2 M2 => ?_)
          refine ar_inc3 rfl ?_
          refine ar_goto rfl rfl ?_
          exact ih (t + 1) _ _ _ _ _ _ _ _ (by omega) ⟨by omega, D2, I2, H2, M2.imp id (MK_turn (CV_B I2.1) (S7_PN D2.2.2.2.2.1 P))⟩ K
        · refine ar_iload_n rfl rfl ?_
          refine ar_if_ne rfl rfl (by omega) (fun h33 => ?_) (fun h33 => ?_)
          · refine ar_iconst rfl ?_
            exact K41 _ (by omega)
          · refine ar_iconst rfl ?_
            refine ar_goto rfl rfl ?_
            exact K41 _ (by omega)
end

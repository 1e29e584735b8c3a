noncomputable section
/-- of what is held all coupons are open -/
def am_HOs (s : am_Z) : Prop := ∀ b k : Nat, (b : Int) < rI s 44 → rA s 47 b = 0 → (k : Int) < rA s 52 b → rA s 55 (10 * b + k) = 0
theorem pfR_ex {s : am_Z} {b l : Int} : ∀ (n : Nat) (k i : Int), 0 ≤ k → k ≤ i → i < rA s 52 b → i - k < n → pfM s b l i → pfR s b l n k ≠ -1 := by
  intro n
  induction n with
  | zero => intro k i h0 h1 h2 h3 h4; omega
  | succ n ih =>
    intro k i h0 h1 h2 h3 h4
    rw [pfR, if_pos (by omega)]
    by_cases hp : pfM s b l k
    · rw [if_pos hp]
      omega
    · rw [if_neg hp]
      have hne : k ≠ i := fun z => hp (by rw [z]; exact h4)
      exact ih (k + 1) i (by omega) (by omega) h2 (by omega) h4
theorem hasN_iff {s : am_Z} {l b : Int} : ∀ n : Nat, hasN s l b n ≠ 0 ↔ ∃ k : Nat, k < n ∧ rA s 53 (10 * b + k) = l := by
  intro n
  induction n with
  | zero => exact ⟨fun h => absurd rfl h, fun ⟨k, h, _⟩ => absurd h (Nat.not_lt_zero k)⟩
  | succ n ih =>
    rw [hasN]
    constructor
    · intro h
      have h2 : hasN s l b n ≠ 0 ∨ rA s 53 (10 * b + n) = l := Classical.byContradiction fun z => h (if_neg z)
      rcases h2 with h2 | h2
      · obtain ⟨k, h3, h4⟩ := ih.mp h2
        exact ⟨k, by omega, h4⟩
      · exact ⟨n, by omega, h2⟩
    · rintro ⟨k, h1, h2⟩
      rw [if_pos]
      · omega
      · by_cases hk : k = n
        · exact Or.inr (hk ▸ h2)
        · exact Or.inl (ih.mpr ⟨k, by omega, h2⟩)
theorem pf_has {s : am_Z} (H : am_HOs s) {b : Nat} {l : Int} (hb : (b : Int) < rI s 44) (h47 : rA s 47 b = 0) (h52 : 0 ≤ rA s 52 b ∧ rA s 52 b ≤ 10) : pfS s b l ≠ -1 ↔ hasN s l b (rA s 52 b).toNat ≠ 0 := by
  rw [hasN_iff]
  have hp := pfR_b s b l 12 0 (by omega)
  constructor
  · intro h
    rcases hp with hp | ⟨h1, h2, h3⟩
    · exact absurd hp h
    · refine ⟨(pfR s b l 12 0).toNat, by omega, ?_⟩
      rw [show (((pfR s b l 12 0).toNat : Nat) : Int) = pfR s b l 12 0 by omega]
      exact h3.1
  · rintro ⟨k, h1, h2⟩
    exact pfR_ex 12 0 k (by omega) (by omega) (by omega) (by omega) ⟨h2, Or.inl (H b k hb h47 (by omega))⟩
/-- what withdrawing leaves alone -/
theorem cnF_m {l : Int} {b : Nat} {t : am_Z} {j : Nat} {x : Int} (h : j ≠ 47 ∧ j ≠ 55) : rA (cancF l b t) j x = rA t j x := by
  unfold cancF
  split
  · unfold voidS
    rw [wB_A, if_neg (fun z => h.2 z.1), wA_A, if_neg (fun z => h.1 z.1)]
  · rfl
theorem cnF_I {l : Int} {b : Nat} {t : am_Z} {j : Nat} : rI (cancF l b t) j = rI t j := by
  unfold cancF
  split
  · rfl
  · rfl
theorem cnF_o {l : Int} {b : Nat} {t : am_Z} {c : Nat} (h : c ≠ b) (B : in_S t) : rA (cancF l b t) 47 c = rA t 47 c ∧ ∀ k : Nat, (k : Int) < 10 → rA (cancF l b t) 55 (10 * c + k) = rA t 55 (10 * c + k) := by
  have b52 := B.1 52 b 0 10 rfl
  unfold cancF
  split
  · unfold voidS
    refine ⟨?_, fun k hk => ?_⟩
    · rw [wB_A, if_neg (fun z => absurd z.1 (by omega)), wA_A, if_neg (fun z => h (by have := z.2; omega))]
    · have e52 : rA (wA t 47 b 3) 52 b = rA t 52 b := rfl
      rw [wB_A, e52, if_neg (fun z => by have := z.2; omega)]
      rfl
  · exact ⟨rfl, fun _ _ => rfl⟩
theorem cnF_HO {l : Int} {b : Nat} {t : am_Z} (B : in_S t) (H : am_HOs t) : am_HOs (cancF l b t) := by
  intro c k hc h47 hk
  rw [cnF_I] at hc
  rw [cnF_m (by omega)] at hk
  have h52 := B.1 52 c 0 10 rfl
  by_cases e : c = b
  · subst e
    have h3 : cancF l c t = t := by
      unfold cancF
      split
      · rename_i z
        unfold cancF at h47
        rw [if_pos z] at h47
        have : rA (voidS (wA t 47 c 3) c) 47 c = 3 := by
          unfold voidS
          rw [wB_A, if_neg (fun z => absurd z.1 (by omega)), wA_A, if_pos ⟨rfl, rfl⟩]
        omega
      · rfl
    rw [h3] at h47 ⊢
    exact H c k hc h47 hk
  · have h := cnF_o (l := l) e B
    rw [h.1] at h47
    rw [h.2 k (by omega)]
    exact H c k hc h47 hk
theorem HOs_s {s s' : am_Z} (H : am_HOs s) (m : ∀ j x, j = 47 ∨ j = 52 ∨ j = 55 → rA s' j x = rA s j x) (n : rI s' 44 = rI s 44) : am_HOs s' := by
  intro b k hb h1 h2
  rw [m 55 _ (by omega)]
  exact H b k (by rw [← n]; exact hb) (by rw [← m 47 _ (by omega)]; exact h1) (by rw [← m 52 _ (by omega)]; exact h2)
theorem itC_I {l : Int} {s : am_Z} {j : Nat} : ∀ n : Nat, rI (itS (cancF l) n s) j = rI s j
  | 0 => rfl
  | n + 1 => cnF_I.trans (itC_I n)
theorem itC_m {l : Int} {s : am_Z} {j : Nat} {x : Int} (h : j ≠ 47 ∧ j ≠ 55) : ∀ n : Nat, rA (itS (cancF l) n s) j x = rA s j x
  | 0 => rfl
  | n + 1 => (cnF_m h).trans (itC_m h n)
theorem lId_2 {q q1 : am_A} (h : q1.2 = q.2) (l : Int) : lId q1 l = lId q l := by
  have e : qAR q1 = qAR q := congrArg (fun z : (Nat → am_R → Option am_R) × (am_R → Nat → Int) × (am_R → Nat → Option am_R) × (am_R → Nat → Int64) × (am_R → Nat → UInt64) × (am_R → Nat) × (Nat → Nat) × (am_R → List am_R) × (am_R → Nat) × Nat × Nat => z.2.2.1) h
  unfold lId legO
  rw [e]
theorem cnF_1 {l : Int} {b : Nat} {t : am_Z} (h : hasN t l b (rA t 52 b).toNat ≠ 0) (h0 : rA t 47 b = 0) : cancF l b t = voidS (wA t 47 b 3) b := if_pos ⟨h, h0⟩
theorem cnF_0 {l : Int} {b : Nat} {t : am_Z} (h : ¬ (hasN t l b (rA t 52 b).toNat ≠ 0 ∧ rA t 47 b = 0)) : cancF l b t = t := if_neg h
theorem pf_1 {t : am_Z} (H : am_HOs t) {b : Nat} {l : Int} (hb : (b : Int) < rI t 44) (h52 : 0 ≤ rA t 52 b ∧ rA t 52 b ≤ 10) (h0 : rA t 47 b = 0) (hp : pfS t b l ≠ -1) : cancF l b t = voidS (wA t 47 b 3) b := cnF_1 ((pf_has H hb h0 h52).mp hp) h0
theorem pf_0 {t : am_Z} (H : am_HOs t) {b : Nat} {l : Int} (hb : (b : Int) < rI t 44) (h52 : 0 ≤ rA t 52 b ∧ rA t 52 b ≤ 10) (hp : rA t 47 b = 0 → pfS t b l = -1) : cancF l b t = t := cnF_0 (fun z => (pf_has H hb z.2 h52).mpr z.1 (hp z.2))
theorem lp_wd {d : Nat} {q : am_A} {Q : am_O → am_A → Prop} {e : Nat} {s : am_Z} {l : Int} (hl : legP s l) : ∀ (m : Nat) (j : Nat) (k : Int) (q1 : am_A) (x3 : Option am_V), (rI s 44).toNat - j < m → (k = j ∧ (j : Int) ≤ rI s 44 ∧ am_CI e q1 (itS (cancF l) j s) ∧ am_HOs (itS (cancF l) j s) ∧ am_CG q q1 ∧ q1.2 = q.2) → (∀ x2 x3 q1, am_CI e q1 (itS (cancF l) (rI s 44).toNat s) → am_CG q q1 → q1.2 = q.2 → am_W2 (d + 4) m_X_withdraw 56 [some (aR 8 0), some (aR 5 (lId q l)), x2, x3] [] (q1) Q) → am_W2 (d + 4) m_X_withdraw 7 [some (aR 8 0), some (aR 5 (lId q l)), some (aI (zI k)), x3] [] (q1) Q := by
  intro m
  induction m with
  | zero => intro j k q1 x3 hm; exact absurd hm (Nat.not_lt_zero _)
  | succ m ih =>
    intro j k q1 x3 hm ⟨hj, hj2, hI, hH, hG, h2⟩ K
    subst hj
    have V := hI.1
    have e44 : rI (itS (cancF l) j s) 44 = rI s 44 := itC_I j
    have b44 := (CV_B V).2.1 44 0 40 rfl
    have hl1 : legP (itS (cancF l) j s) l := (legP_cg (fun a x h => itC_m (by omega) j) (itC_I j)).mpr hl
    refine ar_iload_n rfl rfl ?_
    refine ar_aload_n rfl rfl ?_
    refine ar_gfR rfl rfl rfl (by omega) (V.1.1 806 _ rfl) ?_
    refine ar_cv0 rfl rfl rfl (Nat.le_of_ble_eq_true rfl) (cl_szB (d := 0) V) (by omega) (fun o q12 hq => am_B2_is ?_ hq)
    refine ar_icmp_ge rfl rfl (by omega) (by omega) (fun h15 => ?_) (fun h15 => ?_)
    · have ej : j = (rI s 44).toNat := by omega
      rw [ej] at hI
      exact K _ _ _ hI hG h2
    · refine ar_aload_n rfl rfl ?_
      refine ar_gfR rfl rfl rfl (by omega) (V.1.1 806 _ rfl) ?_
      refine ar_iload_n rfl rfl ?_
      refine ar_cv1 rfl rfl rfl (Nat.le_of_ble_eq_true rfl) (cl_getB (d := 0) V (by omega)) (by omega) (fun o q23 hq => am_B2_is ?_ hq)
      rw [Int.toNat_natCast]
      have hb2 : ((j : Nat) : Int) < rI (itS (cancF l) j s) 44 := by omega
      have hB := V.2.2.2.2.2.2.1.2.2.1 j hb2
      have b47 := (CV_B V).1 47 j 0 3 rfl
      have b52 := (CV_B V).1 52 j 0 10 rfl
      refine ar_cast rfl rfl rfl ?_
      refine ar_stA3 rfl ?_
      refine ar_aload_n rfl rfl ?_
      refine ar_gfIv rfl rfl rfl (by omega) (hB.1 7 47 rfl) ?_
      refine ar_if_ne rfl rfl (by omega) (fun h34 => ?_) (fun h34 => ?_)
      · try have hpn := pfO_n hn42
        refine ar_inc2 rfl ?_
        refine ar_goto rfl rfl ?_
        first | exact ih (j + 1) _ _ _ (by omega) ⟨by omega, by omega, by { rw [itS_s, pf_1 hH hb2 b52 (by omega) (by omega)]; exact I48 }, cnF_HO (CV_B V) hH, CG_t hG G48, E48.trans h2⟩ K | exact ih (j + 1) _ _ _ (by omega) ⟨by omega, by omega, by { rw [itS_s, pf_0 hH hb2 b52 (fun z => by omega)]; exact hI }, cnF_HO (CV_B V) hH, hG, h2⟩ K
      · refine ar_aload_n rfl rfl ?_
        rw [← lId_2 h2 l]
        refine ar_aload_n rfl rfl ?_
        refine ar_cv1 rfl rfl rfl (Nat.le_of_ble_eq_true rfl) (cs_couponToFly (d := 0) V hl1 hb2) (by omega) (fun o q39 hq => am_B2_is ?_ hq)
        rw [lId_2 h2 l]
        have bpf := pfR_b (itS (cancF l) j s) j l 12 0 (by omega)
        have epf : pfS (itS (cancF l) j s) j l = pfR (itS (cancF l) j s) j l 12 0 := rfl
        refine ar_ifnull rfl rfl (fun hn42 => ?_) (fun r42 hr42 => ?_)
        · try have hpn := pfO_n hn42
          refine ar_inc2 rfl ?_
          refine ar_goto rfl rfl ?_
          first | exact ih (j + 1) _ _ _ (by omega) ⟨by omega, by omega, by { rw [itS_s, pf_1 hH hb2 b52 (by omega) (by omega)]; exact I48 }, cnF_HO (CV_B V) hH, CG_t hG G48, E48.trans h2⟩ K | exact ih (j + 1) _ _ _ (by omega) ⟨by omega, by omega, by { rw [itS_s, pf_0 hH hb2 b52 (fun z => by omega)]; exact hI }, cnF_HO (CV_B V) hH, hG, h2⟩ K
        · have hps := pfO_s hr42
          refine ar_aload_n rfl rfl ?_
          refine ar_iconst rfl ?_
          refine ar_cv1 rfl rfl rfl (Nat.le_of_ble_eq_true rfl) (cs_end (d := 0) (v := 3) hI hb2 (by omega)) (by omega) (fun o q47 hq => ?_)
          obtain ⟨rfl, I48, G48, E48⟩ := hq
          try have hpn := pfO_n hn42
          refine ar_inc2 rfl ?_
          refine ar_goto rfl rfl ?_
          first | exact ih (j + 1) _ _ _ (by omega) ⟨by omega, by omega, by { rw [itS_s, pf_1 hH hb2 b52 (by omega) (by omega)]; exact I48 }, cnF_HO (CV_B V) hH, CG_t hG G48, E48.trans h2⟩ K | exact ih (j + 1) _ _ _ (by omega) ⟨by omega, by omega, by { rw [itS_s, pf_0 hH hb2 b52 (fun z => by omega)]; exact hI }, cnF_HO (CV_B V) hH, hG, h2⟩ K
theorem cs_withdraw {d : Nat} {q : am_A} {e : Nat} {s : am_Z} {l : Int} (I : am_CI e q s) (hl : legP s l) (H : am_HOs s) : am_C2 (d + 4) m_X_withdraw [aR 8 0, aR 5 (lId q l)] q (fun o q' => o = .inl none ∧ am_CI e q' (cancS s l) ∧ am_CG q q' ∧ q'.2 = q.2) := by
  refine am_C2_i (ls := [some (aR 8 0), some (aR 5 (lId q l)), none, none]) rfl ?_
  have b44 := (CV_B I.1).2.1 44 0 40 rfl
  have I1 : am_CI e (uFI q 506 (5, lId q l) 1) (wA s 18 (61 * (l / 100) + l % 100) 1) := CI_w I (CV_canc I.1 hl) rfl rfl rfl rfl (fun _ => ⟨rfl, rfl⟩) ⟨rfl, rfl, rfl⟩
  have hl1 : legP (wA s 18 (61 * (l / 100) + l % 100) 1) l := (legP_cg (s := s) (s' := wA s 18 (61 * (l / 100) + l % 100) 1) (fun j x h => if_neg (fun z => absurd z.1 (by omega))) rfl).mpr hl
  refine ar_aload_n rfl rfl ?_
  refine ar_iconst rfl ?_
  refine ar_pfI rfl rfl rfl rfl (by omega) (Or.inr (by omega)) ?_
  refine ar_iconst rfl ?_
  refine ar_stI2 rfl ?_
  refine lp_wd (d := d) (q := uFI q 506 (5, lId q l) 1) (e := e) (s := wA s 18 (61 * (l / 100) + l % 100) 1) (l := l) hl1 ((rI s 44).toNat + 1) 0 0 _ _ (by show (rI s 44).toNat - 0 < _; omega) ⟨rfl, by show (0 : Int) ≤ rI s 44; omega, I1, HOs_s (s' := wA s 18 (61 * (l / 100) + l % 100) 1) H (fun j x h => if_neg (fun z => absurd z.1 (by omega))) rfl, CG_r, rfl⟩ (fun x2 x3 q1 I2 G2 E2 => ?_)
  exact ar_ret rfl rfl (⟨rfl, I2, CG_t (CG_FI CG_r (by show cK 5; omega)) G2, E2⟩)
def tkFc (s : am_Z) (l b : Int) : Int := if rA s 47 b = 1 ∧ pfS s b l ≠ -1 then rA s 45 b else 0
def tkVc (s : am_Z) (l : Int) : Int := sumI 0 (rI s 44).toNat (tkFc s l)
theorem kCL_1 {s : am_Z} {l : Int} (h : ¬ legP s l) : kCancelLeg s l = 1 := if_pos h
theorem kCL_2 {s : am_Z} {l : Int} (h : legP s l) (h2 : ¬ freeP s l) : kCancelLeg s l = 2 := (if_neg (fun z => z h)).trans (if_neg h2)
theorem kCL_0 {s : am_Z} {l : Int} (h : legP s l) (h2 : freeP s l) : kCancelLeg s l = 0 := (if_neg (fun z => z h)).trans (if_pos h2)
theorem lp_tk {d : Nat} {q : am_A} {Q : am_O → am_A → Prop} {s : am_Z} (V : am_CV q s) {l : Int} {x1 : Option am_V} (hl : legP s l) : ∀ (m : Nat) (j : Nat) (k acc : Int) (x5 : Option am_V), (rI s 44).toNat - j < m → (k = j ∧ (j : Int) ≤ rI s 44 ∧ acc = sumI 0 j (tkFc s l)) → (∀ x4 x5, am_W2 (d + 4) m_X_cancelLeg 80 [some (aR 8 0), x1, some (aR 5 (lId q l)), some (aI (zI (tkVc s l))), x4, x5] [] (q) Q) → am_W2 (d + 4) m_X_cancelLeg 22 [some (aR 8 0), x1, some (aR 5 (lId q l)), some (aI (zI acc)), some (aI (zI k)), x5] [] (q) Q := by
  intro m
  induction m with
  | zero => intro j k acc x5 hm; exact absurd hm (Nat.not_lt_zero _)
  | succ m ih =>
    intro j k acc x5 hm ⟨hj, hj2, hacc⟩ K
    subst hj
    subst hacc
    have b44 := (CV_B V).2.1 44 0 40 rfl
    refine ar_iload rfl rfl ?_
    refine ar_aload_n rfl rfl ?_
    refine ar_gfR rfl rfl rfl (by omega) (V.1.1 806 _ rfl) ?_
    refine ar_cv0 rfl rfl rfl (Nat.le_of_ble_eq_true rfl) (cl_szB (d := 0) V) (by omega) (fun o q28 hq => am_B2_is ?_ hq)
    refine ar_icmp_ge rfl rfl (by omega) (by omega) (fun h31 => ?_) (fun h31 => ?_)
    · have ej : j = (rI s 44).toNat := by omega
      rw [ej]
      exact K _ _
    · refine ar_aload_n rfl rfl ?_
      refine ar_gfR rfl rfl rfl (by omega) (V.1.1 806 _ rfl) ?_
      refine ar_iload rfl rfl ?_
      refine ar_cv1 rfl rfl rfl (Nat.le_of_ble_eq_true rfl) (cl_getB (d := 0) V (by omega)) (by omega) (fun o q40 hq => am_B2_is ?_ hq)
      rw [Int.toNat_natCast]
      have hb2 : ((j : Nat) : Int) < rI s 44 := by omega
      have hB := V.2.2.2.2.2.2.1.2.2.1 j hb2
      have b47 := (CV_B V).1 47 j 0 3 rfl
      refine ar_cast rfl rfl rfl ?_
      refine ar_stA5 rfl ?_
      refine ar_aload rfl rfl ?_
      refine ar_gfIv rfl rfl rfl (by omega) (hB.1 7 47 rfl) ?_
      refine ar_iconst rfl ?_
      refine ar_icmp_ne rfl rfl (by omega) (by omega) (fun h54 => ?_) (fun h54 => ?_)
      · try have hpn := pfO_n hn63
        refine ar_inc4 rfl ?_
        refine ar_goto rfl rfl ?_
        have es := sumI_s 0 j (tkFc s l)
        rw [Int.zero_add] at es
        have ec : tkFc s l (j : Int) = if rA s 47 (j : Int) = 1 ∧ pfS s (j : Int) l ≠ -1 then rA s 45 (j : Int) else 0 := rfl
        exact ih (j + 1) _ _ _ (by omega) ⟨by omega, by omega, by first | (rw [if_pos (by omega)] at ec; omega) | (rw [if_neg (by omega)] at ec; omega)⟩ K
      · refine ar_aload rfl rfl ?_
        refine ar_aload_n rfl rfl ?_
        refine ar_cv1 rfl rfl rfl (Nat.le_of_ble_eq_true rfl) (cs_couponToFly (d := 0) V hl hb2) (by omega) (fun o q60 hq => am_B2_is ?_ hq)
        have bpf := pfR_b s j l 12 0 (by omega)
        have epf : pfS s j l = pfR s j l 12 0 := rfl
        have b52 := (CV_B V).1 52 j 0 10 rfl
        refine ar_ifnull rfl rfl (fun hn63 => ?_) (fun r63 hr63 => ?_)
        · try have hpn := pfO_n hn63
          refine ar_inc4 rfl ?_
          refine ar_goto rfl rfl ?_
          have es := sumI_s 0 j (tkFc s l)
          rw [Int.zero_add] at es
          have ec : tkFc s l (j : Int) = if rA s 47 (j : Int) = 1 ∧ pfS s (j : Int) l ≠ -1 then rA s 45 (j : Int) else 0 := rfl
          exact ih (j + 1) _ _ _ (by omega) ⟨by omega, by omega, by first | (rw [if_pos (by omega)] at ec; omega) | (rw [if_neg (by omega)] at ec; omega)⟩ K
        · have hps := pfO_s hr63
          refine ar_iload_n rfl rfl ?_
          refine ar_aload rfl rfl ?_
          refine ar_gfIv rfl rfl rfl (by omega) (hB.1 6 45 rfl) ?_
          refine ar_iadd rfl ?_
          refine ar_stI3 rfl ?_
          try have hpn := pfO_n hn63
          refine ar_inc4 rfl ?_
          refine ar_goto rfl rfl ?_
          have es := sumI_s 0 j (tkFc s l)
          rw [Int.zero_add] at es
          have ec : tkFc s l (j : Int) = if rA s 47 (j : Int) = 1 ∧ pfS s (j : Int) l ≠ -1 then rA s 45 (j : Int) else 0 := rfl
          exact ih (j + 1) _ _ _ (by omega) ⟨by omega, by omega, by first | (rw [if_pos (by omega)] at ec; omega) | (rw [if_neg (by omega)] at ec; omega)⟩ K
theorem cs_cancelLeg {d : Nat} {q : am_A} {e : Nat} {s : am_Z} {l : Int} (I : am_CI e q s) (H : am_HOs s) (hl : in32 l) : am_C2 (d + 5) m_X_cancelLeg [aR 8 0, aI (zI l)] q (am_OK (kCancelLeg s l) kd2 (some (aI (zI (tkVc s l)))) q (fun q2 => am_CI e q2 (cancS s l) ∧ am_CG q q2)) := by
  refine am_C2_i (ls := [some (aR 8 0), some (aI (zI l)), none, none, none, none]) rfl ?_
  have V := I.1
  have b44 := (CV_B V).2.1 44 0 40 rfl
  have b3 := (CV_B V).2.1 3 0 12 rfl
  have b0 := (CV_B V).2.1 0 0 60000 rfl
  refine ar_aload_n rfl rfl ?_
  refine ar_iload_n rfl rfl ?_
  refine ar_cv1 rfl rfl rfl (Nat.le_of_ble_eq_true rfl) (cs_findLeg (d := 0) V (by omega)) (by omega) (fun o q2 hq => am_B2_T rfl (fun h2 => ?_) (fun h2 => ?_) hq)
  · have hg := V.2.2.2.1.1 l h2
    have hd := dep_b (CV_B V) (l := l) (by omega)
    have hcc := (CV_B V).1 18 (61 * (l / 100) + l % 100) 0 1 rfl
    refine ar_stA2 rfl ?_
    refine ar_aload_n rfl rfl ?_
    refine ar_aload_n rfl rfl ?_
    refine ar_gfIv rfl rfl rfl (by omega) (V.2.1.2.2.2.2.1) ?_
    refine ar_cv1 rfl rfl rfl (Nat.le_of_ble_eq_true rfl) (cs_isAhead (d := 0) hg.2.2.2.2.2.2.2.2 hg.2.2.2.2.2.1 (by omega) (by omega) (by omega)) (by omega) (fun o q11 hq => am_B2_is ?_ hq)
    refine ar_cs1 rfl rfl (Nat.le_of_ble_eq_true rfl) (cs_needState (d := 0) (by omega)) (by omega) (fun o q14 hq => am_B2_T rfl (fun h14 => ?_) (fun h14 => ?_) hq)
    · refine ar_iconst rfl ?_
      refine ar_stI3 rfl ?_
      refine ar_iconst rfl ?_
      refine ar_stI4 rfl ?_
      refine lp_tk (d := d + 1) V h2 ((rI s 44).toNat + 1) 0 0 0 _ (by omega) ⟨rfl, by omega, rfl⟩ (fun x4 x5 => ?_)
      refine ar_aload_n rfl rfl ?_
      refine ar_aload_n rfl rfl ?_
      refine ar_cv1 rfl rfl rfl (Nat.le_of_ble_eq_true rfl) (cs_withdraw (d := 0) I h2 H) (by omega) (fun o q82 hq => ?_)
      obtain ⟨rfl, I83, G83, -⟩ := hq
      refine ar_iload_n rfl rfl ?_
      exact ar_iret rfl (Or.inl rfl) (⟨fun _ => ⟨rfl, I83, G83⟩, fun z => absurd (kCL_0 h2 (Classical.byContradiction (fun y => h14 (if_neg y)))) z⟩)
    · exact ⟨fun z => absurd z (by rw [kCL_2 h2 (fun y => h14 (by rw [if_pos y]; omega))]; omega), fun _ => by { rw [kCL_2 h2 (fun y => h14 (by rw [if_pos y]; omega))]; exact ⟨rfl, rfl⟩ }⟩
  · exact ⟨fun z => absurd z (by rw [kCL_1 h2]; omega), fun _ => by { rw [kCL_1 h2]; exact ⟨rfl, rfl⟩ }⟩
theorem co_cancelLeg {d e : Nat} {q : am_A} {s : am_Z} (I : am_CI e q s) (H : am_HOs s) {l : Int} (hl : in32 l) : am_C2 (d + 5) m_X_cancelLeg [aR 8 0, aI (zI l)] q (am_OP e (kCancelLeg s l) kd2 (some (aI (zI (tkVc s l)))) q (if kCancelLeg s l = 0 then cancS s l else s)) := by
  refine am_C2_imp (cs_cancelLeg (d := d) I H hl) (fun o q' h => OP_of I (fun _ => kd2_b) h (fun h0 hq => ?_) (fun h => if_neg h))
  rw [if_pos h0]
  exact ⟨CI_le hq.1 (Nat.le_succ e), hq.2⟩
end

noncomputable section
section CLL
variable {d : Nat} {q : am_A} {s : am_Z}
theorem cl_szL {t i : Nat} {n : Int} {f : Int → Int} (hk : am_kc t = some 10) (h30 : t ≠ 30) (hn : i < qCN q t) (L : am_LL q s (t, i) n f) : am_C2 d m_AL_size [aR t i] q (am_is2 (aI (zI n)) q) := by
  have h := sq_size (d := d) (t := t) (n := i) (q := q) hk h30 hn
  rw [L.1] at h
  exact h
theorem cl_getL {t i : Nat} {n : Int} {f : Int → Int} (hk : am_kc t = some 10) (h30 : t ≠ 30) (hn : i < qCN q t) (L : am_LL q s (t, i) n f) {k : Int} (hk2 : 0 ≤ k ∧ k < n) : am_C2 (d + 2) m_AL_get [aR t i, aI (zI k)] q (am_is2 (aR 5 (lId q (f k))) q) := sq_get (j := k.toNat) hk h30 hn (by omega) (by have h := (L.2 k.toNat (by omega)).1; rw [show ((k.toNat : Nat) : Int) = k by omega] at h; exact h)
theorem LL_leg {r : am_R} {n : Int} {f : Int → Int} (L : am_LL q s r n f) {k : Int} (h : 0 ≤ k ∧ k < n) : legP s (f k) := by
  have h2 := (L.2 k.toNat (by omega)).2
  rw [show ((k.toNat : Nat) : Int) = k by omega] at h2
  exact h2
end CLL
def hAh (s : am_Z) (n : Int) (f : Int → Int) (k : Int) : Int := if 1 ≤ k ∧ k < n then dep s (f k) - arv s (f (k - 1)) else 0
def txL (s : am_Z) (f : Int → Int) (k : Int) : Int := if k = 0 ∨ 6 ≤ dep s (f k) - arv s (f (k - 1)) then rA s 2 (rA s 5 (f k / 100)) else 0
theorem arv_b {s : am_Z} (B : in_S s) {l : Int} (hl : legR l) : -14 ≤ arv s l ∧ arv s l ≤ 1520 := by
  have h1 := dep_b B hl
  have h2 := B.1 8 (l / 100) 0 20 rfl
  unfold arv
  omega
theorem hAh_b {q : am_A} {s : am_Z} {r : am_R} {n : Int} {f : Int → Int} (B : in_S s) (L : am_LL q s r n f) (k : Int) : -2000 ≤ hAh s n f k ∧ hAh s n f k ≤ 2000 := by
  unfold hAh
  split
  · have h1 := dep_b B (l := f k) (legP_R B (LL_leg L (by omega)))
    have h2 := arv_b B (l := f (k - 1)) (legP_R B (LL_leg L (by omega)))
    omega
  · omega
theorem cs_hoursAhead {d : Nat} {q : am_A} {s : am_Z} (V : am_CV q s) {t i : Nat} {n : Int} {f : Int → Int} (hk : am_kc t = some 10) (h30 : t ≠ 30) (hn : i < qCN q t) (L : am_LL q s (t, i) n f) (b4 : 0 ≤ n ∧ n ≤ 4) {k : Int} (bk : in32 k) : am_C2 (d + 3) m_X_hoursAhead [aR t i, aI (zI k)] q (am_is2 (aI (zI (hAh s n f k))) q) := by
  refine am_C2_i (ls := [some (aR t i), some (aI (zI k))]) rfl ?_
  refine ar_iload_n rfl rfl ?_
  refine ar_iconst rfl ?_
  refine ar_icmp_lt rfl rfl (by omega) (by omega) (fun h2 => ?_) (fun h2 => ?_)
  · refine ar_iconst rfl ?_
    exact ar_iret rfl (Or.inl rfl) (cq_eP (by unfold hAh; first | rw [if_neg (by omega)] | rw [if_pos (by omega)]))
  · refine ar_iload_n rfl rfl ?_
    refine ar_aload_n rfl rfl ?_
    refine ar_cv0 rfl hk rfl (Nat.le_of_ble_eq_true rfl) (cl_szL (d := 0) hk h30 hn L) (by omega) (fun o q7 hq => am_B2_is ?_ hq)
    refine ar_icmp_lt rfl rfl (by omega) (by omega) (fun h12 => ?_) (fun h12 => ?_)
    · refine ar_aload_n rfl rfl ?_
      refine ar_iload_n rfl rfl ?_
      refine ar_cv1 rfl hk rfl (Nat.le_of_ble_eq_true rfl) (cl_getL (d := 0) hk h30 hn L (by omega)) (by omega) (fun o q19 hq => am_B2_is ?_ hq)
      refine ar_cast rfl rfl rfl ?_
      refine ar_gfIv rfl rfl rfl (by omega) ((V.2.2.2.1.1 _ (LL_leg L (k := k) (by omega))).2.2.2.2.2.1) ?_
      refine ar_aload_n rfl rfl ?_
      refine ar_iload_n rfl rfl ?_
      refine ar_iconst rfl ?_
      refine ar_isub rfl ?_
      refine ar_cv1 rfl hk rfl (Nat.le_of_ble_eq_true rfl) (cl_getL (d := 0) hk h30 hn L (by omega)) (by omega) (fun o q34 hq => am_B2_is ?_ hq)
      refine ar_cast rfl rfl rfl ?_
      refine ar_gfIv rfl rfl rfl (by omega) ((V.2.2.2.1.1 _ (LL_leg L (k := k - 1) (by omega))).2.2.2.2.2.2.1) ?_
      refine ar_isub rfl ?_
      exact ar_iret rfl (Or.inl rfl) (cq_eP (by unfold hAh; first | rw [if_neg (by omega)] | rw [if_pos (by omega)]))
    · refine ar_iconst rfl ?_
      exact ar_iret rfl (Or.inl rfl) (cq_eP (by unfold hAh; first | rw [if_neg (by omega)] | rw [if_pos (by omega)]))
theorem cs_taxAt {d : Nat} {q : am_A} {s : am_Z} (V : am_CV q s) {t i : Nat} {n : Int} {f : Int → Int} (hk : am_kc t = some 10) (h30 : t ≠ 30) (hn : i < qCN q t) (L : am_LL q s (t, i) n f) (b4 : 0 ≤ n ∧ n ≤ 4) {k : Int} (bk : 0 ≤ k ∧ k < n) : am_C2 (d + 4) m_X_taxAt [aR 8 0, aR t i, aI (zI k)] q (am_is2 (aI (zI (txL s f k))) q) := by
  refine am_C2_i (ls := [some (aR 8 0), some (aR t i), some (aI (zI k)), none, none]) rfl ?_
  have hb := hAh_b (CV_B V) L k
  have hlk := LL_leg L bk
  have b3 := (CV_B V).2.1 3 0 12 rfl
  have hfl := V.2.2.1.2.2.1 (f k / 100).toNat (by omega)
  have e5 : rA s 5 (((f k / 100).toNat : Nat) : Int) = rA s 5 (f k / 100) := by rw [show (((f k / 100).toNat : Nat) : Int) = f k / 100 by omega]
  have b5 := (CV_B V).1 5 (f k / 100) 0 5 rfl
  have hah : k ≠ 0 → hAh s n f k = dep s (f k) - arv s (f (k - 1)) := fun z => if_pos (by omega)
  refine ar_iload_n rfl rfl ?_
  refine ar_if_lt rfl rfl (by omega) (fun ht => by omega) (fun h1 => ?_)
  refine ar_iload_n rfl rfl ?_
  refine ar_aload_n rfl rfl ?_
  refine ar_cv0 rfl hk rfl (Nat.le_of_ble_eq_true rfl) (cl_szL (d := 0) hk h30 hn L) (by omega) (fun o q6 hq => am_B2_is ?_ hq)
  refine ar_icmp_lt rfl rfl (by omega) (by omega) (fun h11 => ?_) (fun hf => by omega)
  refine ar_aload_n rfl rfl ?_
  refine ar_iload_n rfl rfl ?_
  refine ar_cv1 rfl hk rfl (Nat.le_of_ble_eq_true rfl) (cl_getL (d := 0) hk h30 hn L (by omega)) (by omega) (fun o q18 hq => am_B2_is ?_ hq)
  refine ar_cast rfl rfl rfl ?_
  refine ar_gfR rfl rfl rfl (by omega) ((V.2.2.2.1.1 _ (LL_leg L (k := k) (by omega))).2.2.1) ?_
  refine ar_gfIv rfl rfl rfl (by omega) ((hfl.1 402 5 rfl).trans e5) ?_
  refine ar_stI3 rfl ?_
  refine cq_join (pc' := 52) (V := if k = 0 ∨ 6 ≤ dep s (f k) - arv s (f (k - 1)) then 1 else 0) ?_ (fun K52 => ?_)
  · refine ar_stI4 rfl ?_
    refine ar_iload rfl rfl ?_
    refine ar_if_eqB rfl rfl (fun h56 => ?_) (fun h56 => ?_)
    · refine ar_iconst rfl ?_
      exact ar_iret rfl (Or.inl rfl) (cq_eP (by unfold txL; first | rw [if_pos (by assumption)] | rw [if_neg (by assumption)]))
    · refine ar_iload_n rfl rfl ?_
      refine ar_if_lt rfl rfl (by omega) (fun ht => by omega) (fun h60 => ?_)
      refine ar_iload_n rfl rfl ?_
      refine ar_bipush (x := 6) rfl rfl ?_
      refine ar_icmp_ge rfl rfl (by omega) (by omega) (fun ht => by omega) (fun h66 => ?_)
      refine ar_aload_n rfl rfl ?_
      refine ar_gfR rfl rfl rfl (by omega) (V.1.1 801 _ rfl) ?_
      refine ar_iload_n rfl rfl ?_
      refine ar_ia rfl rfl (V.1.2.2.1 1801 6 rfl) (by omega) (by omega) ?_
      rw [V.2.1.2.1 _ (by omega) (by omega)]
      refine ar_goto rfl rfl ?_
      exact ar_iret rfl (Or.inl rfl) (cq_eP (by unfold txL; first | rw [if_pos (by assumption)] | rw [if_neg (by assumption)]))
  · refine ar_iload_n rfl rfl ?_
    refine ar_if_eq rfl rfl (by omega) (fun h34 => ?_) (fun h34 => ?_)
    · refine ar_iconst rfl ?_
      refine ar_goto rfl rfl ?_
      exact K52 _ (by first | omega | (simp_all) | (split <;> omega))
    · have hah := hah (by omega)
      refine ar_aload_n rfl rfl ?_
      refine ar_iload_n rfl rfl ?_
      refine ar_cs2 rfl rfl (Nat.le_of_ble_eq_true rfl) (cs_hoursAhead (d := 0) V hk h30 hn L b4 (by omega)) (by omega) (fun o q39 hq => am_B2_is ?_ hq)
      refine ar_bipush (x := 6) rfl rfl ?_
      refine ar_icmp_lt rfl rfl (by omega) (by omega) (fun h44 => ?_) (fun h44 => ?_)
      · refine ar_iconst rfl ?_
        exact K52 _ (by first | omega | (simp_all) | (split <;> omega))
      · refine ar_iconst rfl ?_
        refine ar_goto rfl rfl ?_
        exact K52 _ (by first | omega | (simp_all) | (split <;> omega))
theorem lp_ctax {d : Nat} {q : am_A} {Q : am_O → am_A → Prop} {s : am_Z} (V : am_CV q s)  : ∀ (m : Nat) (j : Nat) (k acc : Int), (rI s 33).toNat - j < m → (k = j ∧ (j : Int) ≤ rI s 33 ∧ acc = sumI 0 j (taxD s)) → (∀ x2, am_W2 (d + 5) m_X_taxes 33 [some (aR 8 0), some (aI (zI (sumI 0 (rI s 33).toNat (taxD s)))), x2] [] (q) Q) → am_W2 (d + 5) m_X_taxes 4 [some (aR 8 0), some (aI (zI acc)), some (aI (zI k))] [] (q) Q := by
  intro m
  induction m with
  | zero => intro j k acc hm; exact absurd hm (Nat.not_lt_zero _)
  | succ m ih =>
    intro j k acc hm ⟨hj, hj2, hacc⟩ K
    subst hj
    subst hacc
    have b33 := (CV_B V).2.1 33 0 4 rfl
    refine ar_iload_n rfl rfl ?_
    refine ar_aload_n rfl rfl ?_
    refine ar_gfR rfl rfl rfl (by omega) (V.1.1 804 _ rfl) ?_
    refine ar_cv0 rfl rfl rfl (Nat.le_of_ble_eq_true rfl) (cl_szD (d := 0) V) (by omega) (fun o q9 hq => am_B2_is ?_ hq)
    refine ar_icmp_ge rfl rfl (by omega) (by omega) (fun h12 => ?_) (fun h12 => ?_)
    · rw [show j = (rI s 33).toNat by omega]
      exact K _
    · refine ar_iload_n rfl rfl ?_
      refine ar_aload_n rfl rfl ?_
      refine ar_aload_n rfl rfl ?_
      refine ar_gfR rfl rfl rfl (by omega) (V.1.1 804 _ rfl) ?_
      refine ar_iload_n rfl rfl ?_
      refine ar_cv2 rfl rfl rfl (Nat.le_of_ble_eq_true rfl) (cs_taxAt (d := 0) V rfl (by omega) (V.1.2.2.2 1804 rfl) V.2.2.2.2.2.1 b33 (by omega)) (by omega) (fun o q22 hq => am_B2_is ?_ hq)
      refine ar_iadd rfl ?_
      refine ar_stI1 rfl ?_
      refine ar_inc2 rfl ?_
      refine ar_goto rfl rfl ?_
      have e := sumI_s 0 j (taxD s)
      rw [Int.zero_add] at e
      have e2 : txL s (fun k => rA s 34 k) (j : Int) = taxD s (j : Int) := rfl
      exact ih (j + 1) _ _ (by omega) ⟨by omega, by omega, by omega⟩ K
theorem cs_taxes {d : Nat} {q : am_A} {s : am_Z} (V : am_CV q s)  : am_C2 (d + 5) m_X_taxes [aR 8 0] q (am_is2 (aI (zI (sumI 0 (rI s 33).toNat (taxD s)))) q) := by
  refine am_C2_i (ls := [some (aR 8 0), none, none]) rfl ?_
  have b33 := (CV_B V).2.1 33 0 4 rfl
  refine ar_iconst rfl ?_
  refine ar_stI1 rfl ?_
  refine ar_iconst rfl ?_
  refine ar_stI2 rfl ?_
  refine lp_ctax (d := d) V ((rI s 33).toNat + 1) 0 0 0 (by omega) ⟨rfl, by omega, rfl⟩ (fun x2 => ?_)
  refine ar_iload_n rfl rfl ?_
  exact ar_iret rfl (Or.inl rfl) (cq_eP (by first | rfl | omega))
theorem cs_tierOf {d : Nat} {q : am_A} {s : am_Z} (V : am_CV q s) {m : Int} (hm : -1 ≤ m ∧ m ≤ 4) : am_C2 (d + 1) m_X_tierOf [aR 8 0, aI (zI m)] q (am_is2 (aI (zI (tierS s m))) q) := by
  refine am_C2_i (ls := [some (aR 8 0), some (aI (zI m))]) rfl ?_
  refine ar_iload_n rfl rfl ?_
  refine ar_if_lt rfl rfl (by omega) (fun h1 => ?_) (fun h1 => ?_)
  · refine ar_iconst rfl ?_
    exact ar_iret rfl (Or.inl rfl) (cq_eP (by unfold tierS; first | rw [if_pos (by omega)] | rw [if_neg (by omega)]))
  · refine ar_iload_n rfl rfl ?_
    refine ar_iconst rfl ?_
    refine ar_icmp_lt rfl rfl (by omega) (by omega) (fun h6 => ?_) (fun h6 => ?_)
    · refine ar_iconst rfl ?_
      refine ar_aload_n rfl rfl ?_
      refine ar_gfR rfl rfl rfl (by omega) (V.1.1 811 _ rfl) ?_
      refine ar_iload_n rfl rfl ?_
      refine ar_ia rfl rfl (V.1.2.2.1 1811 5 rfl) (by omega) (by omega) ?_
      rw [V.2.1.2.2.1 m (by omega) (by omega)]
      refine ar_sipush (x := 500) rfl rfl ?_
      refine ar_idivr rfl (by omega) ?_
      have hd := in32_iDiv (rA s 69 m) 500
      refine ar_cs2 rfl rfl (Nat.le_of_ble_eq_true rfl) (cs_min (d := 0) (by omega) (by omega)) (by omega) (fun o q22 hq => am_B2_is ?_ hq)
      exact ar_iret rfl (Or.inl rfl) (cq_eP (by unfold tierS; first | rw [if_pos (by omega)] | rw [if_neg (by omega)]))
    · refine ar_iconst rfl ?_
      exact ar_iret rfl (Or.inl rfl) (cq_eP (by unfold tierS; first | rw [if_pos (by omega)] | rw [if_neg (by omega)]))
end

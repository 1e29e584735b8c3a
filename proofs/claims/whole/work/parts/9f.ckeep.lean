noncomputable section
/-- pricing goes on from the heap q0 -/
def am_PS (e : Nat) (q0 q : am_A) (s : am_Z) (r : am_R) (n : Int) (f : Int → Int) (p am : Int) : Prop := am_CI e q s ∧ am_CG q0 q ∧ am_PB q s r n f p am
/-- the best way so far -/
def am_BW (q : am_A) (s : am_Z) (W : am_wQ) : Prop := qFI q 609 (6, 0) = W.2.length ∧ W.2.length ≤ 4 ∧ ∀ i : Nat, i < W.2.length → qAR q (1603, 0) i = some (3, (pF W.2 i).toNat) ∧ qAI q (1604, 0) i = pC W.2 i ∧ (0 ≤ pF W.2 i ∧ pF W.2 i < rI s 20)
section PSG
variable {e : Nat} {q0 q q' : am_A} {s : am_Z} {r : am_R} {n p am am' : Int} {f : Int → Int} {w : am_wP} {W : am_wQ}
theorem G_B {P : Prop} {d y : Nat} {as : List am_V} (h : am_C2 d y as q (fun o q' => q' = q ∧ ((P ∧ o = .inl (some (aI (zI 1)))) ∨ (¬ P ∧ o = .inl (some (aI (zI 0))))))) : am_C2 d y as q (am_is2 (aI (zI (@ite Int P (Classical.propDecidable P) 1 0))) q) := am_C2_imp h (fun o a' ⟨h1, h2⟩ => by
  subst h1
  rcases h2 with ⟨hP, rfl⟩ | ⟨hP, rfl⟩
  · exact ⟨by rw [if_pos hP], rfl⟩
  · exact ⟨by rw [if_neg hP], rfl⟩)
theorem cs_combB {d : Nat} (V : am_CV q s) (T : am_TR q s w) : am_C2 d m_Pr_areCarriersCombined [aR 6 0, aI (zI (w.length : Int))] q (am_is2 (aI (zI (@ite Int (¬ (ownQ s w w.length ∧ mixQ s w w.length)) (Classical.propDecidable _) 1 0))) q) := G_B (am_C2_imp (cs_combined (d := d) V T) (fun o a' ⟨h1, h2⟩ => ⟨h1, h2.imp id (fun z => ⟨not_not_intro z.1, z.2⟩)⟩))
theorem PB_w (H : am_PB q s r n f p am) (h1 : qLS q' = qLS q) (h2 : ∀ i k, qAR q' (1408, i) k = qAR q (1408, i) k) (h3 : qFR q' = qFR q) (h4 : qFI q' 607 (6, 0) = qFI q 607 (6, 0)) (h4' : qFI q' 608 (6, 0) = qFI q 608 (6, 0)) (h5 : qFI q' 610 (6, 0) = am') (h6 : ∀ k, qAI q' (1600, 0) k = qAI q (1600, 0) k) (h7 : qCN q' = qCN q) (h8 : -1 ≤ am' ∧ am' ≤ 20000) : am_PB q' s r n f p am' := by
  obtain ⟨⟨hk, h30, hn⟩, ⟨L, n0, n4⟩, ⟨r605, r606, r607, r608, r610⟩, bp, bam, hop⟩ := H
  exact ⟨⟨hk, h30, by rw [h7]; exact hn⟩, ⟨LL_cg L (congrFun h1 r) h2 rfl (fun _ _ _ => rfl) (fun _ _ _ => rfl) rfl, n0, n4⟩, ⟨by rw [h3]; exact r605, by rw [h3]; exact r606, h4.trans r607, h4'.trans r608, h5⟩, bp, h8, fun i b a1 a2 a3 a4 => (h6 _).trans (hop i b a1 a2 a3 a4)⟩
theorem PS_I {t k : Nat} {v : Int} (P : am_PS e q0 q s r n f p am) (h : t = 1602 ∨ t = 1604) : am_PS e q0 (uAI q (t, 0) k v) s r n f p am := ⟨CI_16I P.1 (by omega), CG_16I P.2.1 (by omega), PB_w P.2.2 rfl (fun _ _ => rfl) rfl rfl rfl P.2.2.2.2.1.2.2.2.2 (fun k => u2_ne (by show 1600 ≠ t; omega)) rfl P.2.2.2.2.2.2.1⟩
theorem PS_R {t k : Nat} {v : Option am_R} (P : am_PS e q0 q s r n f p am) (h : t = 1601 ∨ t = 1603) : am_PS e q0 (uAR q (t, 0) k v) s r n f p am := ⟨CI_16R P.1 (by omega), CG_16R P.2.1 (by omega), PB_w P.2.2 rfl (fun _ _ => u2_ne (by show 1408 ≠ t; omega)) rfl rfl rfl P.2.2.2.2.1.2.2.2.2 (fun k => rfl) rfl P.2.2.2.2.2.2.1⟩
theorem PS_am {x : Int} (P : am_PS e q0 q s r n f p am) (h : -1 ≤ x ∧ x ≤ 20000) : am_PS e q0 (uFI q 610 (6, 0) x) s r n f p x := ⟨CI_6I P.1, CG_FI P.2.1 (by show cK 6; omega), PB_w P.2.2 rfl (fun _ _ => rfl) rfl (ff_ne (by omega)) (ff_ne (by omega)) ff_eq (fun k => rfl) rfl h⟩
theorem PS_st {x : Int} (P : am_PS e q0 q s r n f p am) : am_PS e q0 (uFI q 609 (6, 0) x) s r n f p am := ⟨CI_6I P.1, CG_FI P.2.1 (by show cK 6; omega), PB_w P.2.2 rfl (fun _ _ => rfl) rfl (ff_ne (by omega)) (ff_ne (by omega)) ((ff_ne (by omega)).trans P.2.2.2.2.1.2.2.2.2) (fun k => rfl) rfl P.2.2.2.2.2.2.1⟩
theorem TR_cg (T : am_TR q s w) (h1 : ∀ k, qAR q' (1601, 0) k = qAR q (1601, 0) k) (h2 : ∀ k, qAI q' (1602, 0) k = qAI q (1602, 0) k) : am_TR q' s w := ⟨T.1, fun i hi => ⟨(h1 i).trans (T.2 i hi).1, (h2 i).trans (T.2 i hi).2.1, (T.2 i hi).2.2⟩⟩
theorem BW_cg (T : am_BW q s W) (h0 : qFI q' 609 (6, 0) = qFI q 609 (6, 0)) (h1 : ∀ k, qAR q' (1603, 0) k = qAR q (1603, 0) k) (h2 : ∀ k, qAI q' (1604, 0) k = qAI q (1604, 0) k) : am_BW q' s W := ⟨h0.trans T.1, T.2.1, fun i hi => ⟨(h1 i).trans (T.2.2 i hi).1, (h2 i).trans (T.2.2 i hi).2.1, (T.2.2 i hi).2.2⟩⟩
theorem rR_ne {t t' k k' : Nat} {v : Option am_R} (h : t' ≠ t) : qAR (uAR q (t, 0) k v) (t', 0) k' = qAR q (t', 0) k' := u2_ne (g := qAR q) (r := (t, 0)) (r' := (t', 0)) h
theorem rI_ne {t t' k k' : Nat} {v : Int} (h : t' ≠ t) : qAI (uAI q (t, 0) k v) (t', 0) k' = qAI q (t', 0) k' := u2_ne (g := qAI q) (r := (t, 0)) (r' := (t', 0)) h
theorem TR_R {k : Nat} {v : Option am_R} (T : am_TR q s w) : am_TR (uAR q (1603, 0) k v) s w := TR_cg T (fun _ => rR_ne (by omega)) (fun _ => rfl)
theorem TR_I {k : Nat} {v : Int} (T : am_TR q s w) : am_TR (uAI q (1604, 0) k v) s w := TR_cg T (fun _ => rfl) (fun _ => rI_ne (by omega))
theorem BW_R {k : Nat} {v : Option am_R} (T : am_BW q s W) : am_BW (uAR q (1601, 0) k v) s W := BW_cg T rfl (fun _ => rR_ne (by omega)) (fun _ => rfl)
theorem BW_I {k : Nat} {v : Int} (T : am_BW q s W) : am_BW (uAI q (1602, 0) k v) s W := BW_cg T rfl (fun _ => rfl) (fun _ => rI_ne (by omega))
theorem TR_push {fa c : Int} (T : am_TR q s w) (hl : w.length < 4) (hf : 0 ≤ fa ∧ fa < rI s 20) : am_TR (uAI (uAR q (1601, 0) w.length (some (3, fa.toNat))) (1602, 0) w.length c) s (w ++ [(fa, c)]) := by
  refine ⟨by rw [List.length_append]; show w.length + 1 ≤ 4; omega, fun i hi => ?_⟩
  rw [List.length_append] at hi
  have hi2 : i < w.length + 1 := hi
  by_cases e : i = w.length
  · subst e
    have z := pF_end w (fa, c)
    rw [z.1, z.2]
    exact ⟨if_pos ⟨rfl, rfl⟩, if_pos ⟨rfl, rfl⟩, hf⟩
  · have z := pF_app (w := w) (x := (fa, c)) (i := i) (by omega)
    rw [z.1, z.2]
    have t := T.2 i (by omega)
    exact ⟨(if_neg (fun z => e z.2)).trans t.1, (if_neg (fun z => e z.2)).trans t.2.1, t.2.2⟩
theorem TR_pop {x : Int × Int} (T : am_TR q s (w ++ [x])) : am_TR q s w := by
  have h1 := T.1
  rw [List.length_append] at h1
  have h2 : w.length + 1 ≤ 4 := h1
  refine ⟨by omega, fun i hi => ?_⟩
  have t := T.2 i (by rw [List.length_append]; show i < w.length + 1; omega)
  have z := pF_app (w := w) (x := x) (i := i) hi
  rw [z.1, z.2] at t
  exact t
theorem pSum_b (B : in_S s) (h4 : w.length ≤ 4) : 0 ≤ pSum s w ∧ pSum s w ≤ 20000 := by
  have := sumI_b (a := 0) (n := w.length) (f := fun i => rA s 25 (pF w i.toNat)) (M := 5000) (fun i => B.1 25 _ 0 5000 rfl)
  unfold pSum
  omega
theorem pSum_app (s : am_Z) (w : am_wP) (x : Int × Int) : pSum s (w ++ [x]) = pSum s w + rA s 25 x.1 := by
  unfold pSum
  rw [List.length_append]
  show sumI 0 (w.length + 1) _ = _
  rw [sumI_s]
  congr 1
  · refine sumI_c (fun i h1 h2 => ?_)
    rw [(pF_app (w := w) (x := x) (i := i.toNat) (by omega)).1]
  · rw [show (0 + (w.length : Int)).toNat = w.length by omega, (pF_end w x).1]
/-- a part of the best that is taken over -/
def am_KP (q : am_A) (w : am_wP) (j : Nat) : Prop := ∀ i : Nat, i < j → qAR q (1603, 0) i = some (3, (pF w i).toNat) ∧ qAI q (1604, 0) i = pC w i
theorem KP_s {j : Nat} {v : Int} (K : am_KP q w j) (hv : v = pC w j) : am_KP (uAI (uAR q (1603, 0) j (some (3, (pF w j).toNat))) (1604, 0) j v) w (j + 1) := fun i hi => by
  by_cases e : i = j
  · subst e
    exact ⟨if_pos ⟨rfl, rfl⟩, (if_pos ⟨rfl, rfl⟩).trans hv⟩
  · have t := K i (by omega)
    exact ⟨(if_neg (fun z => e z.2)).trans t.1, (if_neg (fun z => e z.2)).trans t.2⟩
theorem tk_no (h35 : rI s 35 = n) (hJ : ∀ k, 0 ≤ k → k < n → rA s 36 k = f k) (hok : okP w) (hl : pLen w = n) (h1 : 1 ≤ n) (h : ¬ chpP W.1 (pSum s w) ∨ (ownQ s w w.length ∧ mixQ s w w.length) ∨ ¬ rtQ s n f w) : tk s W w = W := by
  unfold tk
  rw [if_neg]
  intro z
  have g := (gtV_iff h35 hJ hok hl h1).mp z.2
  rcases h with h | h | h
  · exact h z.1
  · exact g.1 h
  · exact h g.2
theorem tk_yes (h35 : rI s 35 = n) (hJ : ∀ k, 0 ≤ k → k < n → rA s 36 k = f k) (hok : okP w) (hl : pLen w = n) (h1 : 1 ≤ n) (h : chpP W.1 (pSum s w)) (h2 : ¬ (ownQ s w w.length ∧ mixQ s w w.length)) (h3 : rtQ s n f w) : tk s W w = (pSum s w, w) := by
  unfold tk
  rw [if_pos ⟨h, (gtV_iff h35 hJ hok hl h1).mpr ⟨h2, h3⟩⟩]
end PSG
theorem lp_keep {d : Nat} {q : am_A} {Q : am_O → am_A → Prop} {e : Nat} {q0 : am_A} {s : am_Z} {r : am_R} {n p S a : Int} {f : Int → Int} {w : am_wP} (h4 : w.length ≤ 4) : ∀ (m : Nat) (j : Nat) (k : Int) (q1 : am_A), w.length - j < m → (k = j ∧ j ≤ w.length ∧ am_PS e q0 q1 s r n f p S ∧ am_TR q1 s w ∧ qFI q1 609 (6, 0) = w.length ∧ am_KP q1 w j) → (∀ x3 q2, am_PS e q0 q2 s r n f p S → am_TR q2 s w → qFI q2 609 (6, 0) = w.length → am_KP q2 w w.length → am_W2 d m_Pr_keepIfPossible 77 [some (aR 6 0), some (aI (zI (w.length : Int))), some (aI (zI a)), x3] [] (q2) Q) → am_W2 d m_Pr_keepIfPossible 37 [some (aR 6 0), some (aI (zI (w.length : Int))), some (aI (zI a)), some (aI (zI k))] [] (q1) Q := by
  intro m
  induction m with
  | zero => intro j k q1 hm; exact absurd hm (Nat.not_lt_zero _)
  | succ m ih =>
    intro j k q1 hm ⟨hj, hj2, hP, hT, h609, hK⟩ K
    subst hj
    have V1 := hP.1.1
    have p601 : qFR q1 601 (6, 0) = some (1601, 0) := V1.1.2.1 601 _ rfl
    have p602 : qFR q1 602 (6, 0) = some (1602, 0) := V1.1.2.1 602 _ rfl
    have p603 : qFR q1 603 (6, 0) = some (1603, 0) := V1.1.2.1 603 _ rfl
    have p604 : qFR q1 604 (6, 0) = some (1604, 0) := V1.1.2.1 604 _ rfl
    refine ar_iload_n rfl rfl ?_
    refine ar_iload_n rfl rfl ?_
    refine ar_icmp_ge rfl rfl (by omega) (by omega) (fun h39 => ?_) (fun h39 => ?_)
    · have ej : j = w.length := by omega
      rw [ej] at hK
      exact K _ _ hP hT h609 hK
    · refine ar_iload_n rfl rfl ?_
      refine ar_iconst rfl ?_
      refine ar_icmp_ge rfl rfl (by omega) (by omega) (fun h44 => ?_) (fun h44 => ?_)
      · have ej : j = w.length := by omega
        rw [ej] at hK
        exact K _ _ hP hT h609 hK
      · have hTj := hT.2 j (by omega)
        refine ar_aload_n rfl rfl ?_
        refine ar_gfR rfl rfl rfl (by omega) (p603) ?_
        refine ar_iload_n rfl rfl ?_
        refine ar_aload_n rfl rfl ?_
        refine ar_gfR rfl rfl rfl (by omega) (p601) ?_
        refine ar_iload_n rfl rfl ?_
        refine ar_aa rfl (by first | exact Or.inl rfl | exact Or.inr rfl) (V1.1.2.2.1 1601 4 rfl) (by omega) (by omega) (show qAR q1 (1601, 0) ((j : Nat) : Int).toNat = some (3, (pF w j).toNat) from hTj.1) ?_
        refine ar_aastore (j := j) rfl (Or.inr ⟨Or.inr rfl, rfl⟩) rfl (by rw [V1.1.2.2.1 1603 4 rfl]; omega) (by rw [V1.1.2.2.1 1603 4 rfl]; omega) ?_
        refine ar_aload_n rfl rfl ?_
        refine ar_gfR rfl rfl rfl (by omega) (p604) ?_
        refine ar_iload_n rfl rfl ?_
        refine ar_aload_n rfl rfl ?_
        refine ar_gfR rfl rfl rfl (by omega) (p602) ?_
        refine ar_iload_n rfl rfl ?_
        refine ar_ia rfl rfl (V1.1.2.2.1 1602 4 rfl) (by omega) (by omega) ?_
        refine ar_ias rfl ⟨rfl, by omega⟩ (V1.1.2.2.1 1604 4 rfl) (by omega) (by omega) ?_
        refine ar_inc3 rfl ?_
        refine ar_goto rfl rfl ?_
        exact ih (j + 1) _ _ (by omega) ⟨by omega, by omega, PS_I (PS_R hP (Or.inr rfl)) (Or.inr rfl), TR_I (TR_R hT), h609, KP_s hK hTj.2.1⟩ K
theorem cs_keep {d : Nat} {q : am_A} {e : Nat} {q0 : am_A} {s : am_Z} {t i : Nat} {n p : Int} {f : Int → Int} {w : am_wP} {W : am_wQ} (h35 : rI s 35 = n) (hJ : ∀ k, 0 ≤ k → k < n → rA s 36 k = f k) (h1 : 1 ≤ n) (P : am_PS e q0 q s (t, i) n f p W.1) (bW : am_BW q s W) (T : am_TR q s w) (hok : okP w) (hl : pLen w = n) : am_C2 (d + 5) m_Pr_keepIfPossible [aR 6 0, aI (zI (w.length : Int)), aI (zI (pSum s w))] q (fun o q' => o = .inl none ∧ am_PS e q0 q' s (t, i) n f p (tk s W w).1 ∧ am_BW q' s (tk s W w) ∧ am_TR q' s w) := by
  refine am_C2_i (ls := [some (aR 6 0), some (aI (zI (w.length : Int))), some (aI (zI (pSum s w))), none]) rfl ?_
  letI iD1 : Decidable (¬ (ownQ s w w.length ∧ mixQ s w w.length)) := Classical.propDecidable _
  letI iD2 : Decidable (rtQ s n f w) := Classical.propDecidable _
  have V := P.1.1
  have H := P.2.2
  have B := CV_B V
  have h4 := T.1
  have bS := pSum_b B h4
  have bw := pLen_b hok
  refine ar_aload_n rfl rfl ?_
  refine ar_iload_n rfl rfl ?_
  refine ar_cv1 rfl rfl rfl (Nat.le_of_ble_eq_true rfl) (cs_isCheaper (d := 0) V H (by omega)) (by omega) (fun o q2 hq => am_B2_is ?_ hq)
  refine ar_if_eqB rfl rfl (fun h5 => ?_) (fun h5 => ?_)
  · exact ar_ret rfl rfl ((by { have ek : tk s W w = W := tk_no h35 hJ hok hl h1 (by first | exact Or.inl h5 | exact Or.inr (Or.inl (Classical.not_not.mp h13)) | exact Or.inr (Or.inr h21)); rw [ek]; exact ⟨rfl, P, bW, T⟩ }))
  · refine ar_aload_n rfl rfl ?_
    refine ar_iload_n rfl rfl ?_
    refine ar_cv1 rfl rfl rfl (Nat.le_of_ble_eq_true rfl) (cs_combB (d := 0) V T) (by omega) (fun o q10 hq => am_B2_is ?_ hq)
    refine ar_if_eqB rfl rfl (fun h13 => ?_) (fun h13 => ?_)
    · exact ar_ret rfl rfl ((by { have ek : tk s W w = W := tk_no h35 hJ hok hl h1 (by first | exact Or.inl h5 | exact Or.inr (Or.inl (Classical.not_not.mp h13)) | exact Or.inr (Or.inr h21)); rw [ek]; exact ⟨rfl, P, bW, T⟩ }))
    · refine ar_aload_n rfl rfl ?_
      refine ar_iload_n rfl rfl ?_
      refine ar_cv1 rfl rfl rfl (Nat.le_of_ble_eq_true rfl) (G_B (cs_returns (d := 0) V H T hok hl h1)) (by omega) (fun o q18 hq => am_B2_is ?_ hq)
      refine ar_if_neB rfl rfl (fun h21 => ?_) (fun h21 => ?_)
      · have ek : tk s W w = (pSum s w, w) := tk_yes h35 hJ hok hl h1 h5 h13 h21
        refine ar_aload_n rfl rfl ?_
        refine ar_iload_n rfl rfl ?_
        refine ar_pfI rfl rfl rfl rfl (by omega) (Or.inl rfl) ?_
        refine ar_aload_n rfl rfl ?_
        refine ar_iload_n rfl rfl ?_
        refine ar_pfI rfl rfl rfl rfl (by omega) (Or.inl rfl) ?_
        refine ar_iconst rfl ?_
        refine ar_stI3 rfl ?_
        refine lp_keep (d := d + 5) (q := q) (e := e) (q0 := q0) (s := s) (r := (t, i)) (n := n) (p := p) (S := pSum s w) (a := pSum s w) (f := f) (w := w) h4 (w.length + 1) 0 0 _ (by omega) ⟨rfl, by omega, PS_st (PS_am P (by omega)), TR_cg T (fun _ => rfl) (fun _ => rfl), ff_eq, fun i hi => absurd hi (Nat.not_lt_zero i)⟩ (fun x3 q2 hP2 hT2 h609 hK => ?_)
        exact ar_ret rfl rfl ((by { rw [ek]; exact ⟨rfl, hP2, ⟨h609, h4, fun i hi => ⟨(hK i hi).1, (hK i hi).2, (hT2.2 i hi).2.2⟩⟩, hT2⟩ }))
      · exact ar_ret rfl rfl ((by { have ek : tk s W w = W := tk_no h35 hJ hok hl h1 (by first | exact Or.inl h5 | exact Or.inr (Or.inl (Classical.not_not.mp h13)) | exact Or.inr (Or.inr h21)); rw [ek]; exact ⟨rfl, P, bW, T⟩ }))
end

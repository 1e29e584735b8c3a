noncomputable section
/-- pricing goes on from the heap q0 -/
def am_PS (e : Nat) (q0 q : am_A) (s : am_Z) (r : am_R) (n : Int) (f : Int → Int) (p am : Int) : Prop := am_CI e q s ∧ am_CG q0 q ∧ am_PB q s r n f p am
/-- the best way so far -/
def am_BW (q : am_A) (s : am_Z) (W : am_wQ) : Prop := ((qLS q (1603, 0)).length : Int) = W.2.length ∧ W.2.length ≤ 4 ∧ ∀ i : Nat, i < W.2.length → (qLS q (1603, 0))[i]? = some (3, (pF W.2 i).toNat) ∧ qAI q (1604, 0) i = pC W.2 i ∧ (0 ≤ pF W.2 i ∧ pF W.2 i < rI s 20)
section PSG
variable {e : Nat} {q0 q q' : am_A} {s : am_Z} {r : am_R} {n p am am' : Int} {f : Int → Int} {w : am_wP} {W : am_wQ}
theorem G_B {P : Prop} {d y : Nat} {as : List am_V} (h : am_C2 d y as q (fun o q' => q' = q ∧ ((P ∧ o = .inl (some (aI (zI 1)))) ∨ (¬ P ∧ o = .inl (some (aI (zI 0))))))) : am_C2 d y as q (am_is2 (aI (zI (@ite Int P (Classical.propDecidable P) 1 0))) q) := am_C2_imp h (fun o a' ⟨h1, h2⟩ => by
  subst h1
  rcases h2 with ⟨hP, rfl⟩ | ⟨hP, rfl⟩
  · exact ⟨by rw [if_pos hP], rfl⟩
  · exact ⟨by rw [if_neg hP], rfl⟩)
theorem cs_combB {d : Nat} (V : am_CV q s) (T : am_TR q s w) : am_C2 (d + 3) m_Pr_areCarriersCombined [aR 6 0] q (am_is2 (aI (zI (@ite Int (¬ (ownQ s w w.length ∧ mixQ s w w.length)) (Classical.propDecidable _) 1 0))) q) := G_B (am_C2_imp (cs_combined (d := d) V T) (fun o a' ⟨h1, h2⟩ => ⟨h1, h2.imp id (fun z => ⟨not_not_intro z.1, z.2⟩)⟩))
theorem PB_w (H : am_PB q s r n f p am) (h1 : qLS q' r = qLS q r) (h2 : ∀ i k, qAR q' (1408, i) k = qAR q (1408, i) k) (h3 : qFR q' = qFR q) (h4 : qFI q' 607 (6, 0) = qFI q 607 (6, 0)) (h4' : qFI q' 608 (6, 0) = qFI q 608 (6, 0)) (h5 : qFI q' 609 (6, 0) = am') (h6 : ∀ k, qAI q' (1600, 0) k = qAI q (1600, 0) k) (h7 : qCN q' = qCN q) (h8 : -1 ≤ am' ∧ am' ≤ 20000) : am_PB q' s r n f p am' := by
  obtain ⟨⟨hk, h30, hn⟩, ⟨L, n0, n4⟩, ⟨r605, r606, r607, r608, r610⟩, bp, bam, hop, hr16⟩ := H
  exact ⟨⟨hk, h30, by rw [h7]; exact hn⟩, ⟨LL_cg L h1 h2 rfl (fun _ _ _ => rfl) (fun _ _ _ => rfl) rfl, n0, n4⟩, ⟨by rw [h3]; exact r605, by rw [h3]; exact r606, h4.trans r607, h4'.trans r608, h5⟩, bp, h8, fun i b a1 a2 a3 a4 => (h6 _).trans (hop i b a1 a2 a3 a4), hr16⟩
theorem PS_I {t k : Nat} {v : Int} (P : am_PS e q0 q s r n f p am) (h : t = 1602 ∨ t = 1604) : am_PS e q0 (uAI q (t, 0) k v) s r n f p am := ⟨CI_16I P.1 (by omega), CG_16I P.2.1 (by omega), PB_w P.2.2 rfl (fun _ _ => rfl) rfl rfl rfl P.2.2.2.2.1.2.2.2.2 (fun k => u2_ne (by show 1600 ≠ t; omega)) rfl P.2.2.2.2.2.2.1⟩
theorem PS_L {t : Nat} {xs : List am_R} (P : am_PS e q0 q s r n f p am) (h : t = 1601 ∨ t = 1603) : am_PS e q0 (uLS q (t, 0) xs) s r n f p am := ⟨CI_16L P.1 h, CG_LS P.2.1 (by show cK t; omega), PB_w P.2.2 (if_neg (fun z => by have h1 := P.2.2.2.2.2.2.2.2; rw [z] at h1; have h2 : t ≠ 1601 ∧ t ≠ 1603 := h1; omega)) (fun _ _ => rfl) rfl rfl rfl P.2.2.2.2.1.2.2.2.2 (fun k => rfl) rfl P.2.2.2.2.2.2.1⟩
theorem PS_A {t : Nat} {v : am_R} (P : am_PS e q0 q s r n f p am) (h : t = 1601 ∨ t = 1603) (hl : (qLS q (t, 0)).length ≤ 40) (hc : (qLS q (t, 0)).length ≤ qCP q (t, 0)) : am_PS e q0 (qAdd q (t, 0) v) s r n f p am := ⟨CI_16A P.1 h hl hc, CG_Add P.2.1 (by show cK t; omega), PB_w P.2.2 (qAdd_LSn (fun z => by have h1 := P.2.2.2.2.2.2.2.2; rw [z] at h1; have h2 : t ≠ 1601 ∧ t ≠ 1603 := h1; omega)) (fun i k => congrFun (congrFun qAdd_AR (1408, i)) k) qAdd_FR (congrFun (congrFun qAdd_FI _) _) (congrFun (congrFun qAdd_FI _) _) ((congrFun (congrFun qAdd_FI _) _).trans P.2.2.2.2.1.2.2.2.2) (fun k => congrFun (congrFun qAdd_AI _) k) qAdd_CN P.2.2.2.2.2.2.1⟩
theorem PS_am {x : Int} (P : am_PS e q0 q s r n f p am) (h : -1 ≤ x ∧ x ≤ 20000) : am_PS e q0 (uFI q 609 (6, 0) x) s r n f p x := ⟨CI_6I P.1, CG_FI P.2.1 (by show cK 6; omega), PB_w P.2.2 rfl (fun _ _ => rfl) rfl (ff_ne (by omega)) (ff_ne (by omega)) ff_eq (fun k => rfl) rfl h⟩
theorem TR_cg (T : am_TR q s w) (h1 : qLS q' (1601, 0) = qLS q (1601, 0)) (h2 : ∀ k, qAI q' (1602, 0) k = qAI q (1602, 0) k) : am_TR q' s w := ⟨T.1, fun i hi => ⟨by rw [h1]; exact (T.2.1 i hi).1, (h2 i).trans (T.2.1 i hi).2.1, (T.2.1 i hi).2.2⟩, by rw [h1]; exact T.2.2⟩
theorem BW_cg (T : am_BW q s W) (h1 : qLS q' (1603, 0) = qLS q (1603, 0)) (h2 : ∀ k, qAI q' (1604, 0) k = qAI q (1604, 0) k) : am_BW q' s W := ⟨by rw [h1]; exact T.1, T.2.1, fun i hi => ⟨by rw [h1]; exact (T.2.2 i hi).1, (h2 i).trans (T.2.2 i hi).2.1, (T.2.2 i hi).2.2⟩⟩
theorem rI_ne {t t' k k' : Nat} {v : Int} (h : t' ≠ t) : qAI (uAI q (t, 0) k v) (t', 0) k' = qAI q (t', 0) k' := u2_ne (g := qAI q) (r := (t, 0)) (r' := (t', 0)) h
theorem LS_eq {q : am_A} {r : am_R} {xs : List am_R} : qLS (uLS q r xs) r = xs := if_pos rfl
theorem LS_ne {q : am_A} {r r' : am_R} {xs : List am_R} (h : r' ≠ r) : qLS (uLS q r xs) r' = qLS q r' := if_neg h
theorem r16_ne {t t' : Nat} (h : t' ≠ t) : ((t', 0) : am_R) ≠ (t, 0) := fun z => h (congrArg Prod.fst z)
theorem TR_A {v : am_R} (T : am_TR q s w) : am_TR (qAdd q (1603, 0) v) s w := TR_cg T (qAdd_LSn (r16_ne (by omega))) (fun k => congrFun (congrFun qAdd_AI _) k)
theorem TR_I {k : Nat} {v : Int} (T : am_TR q s w) : am_TR (uAI q (1604, 0) k v) s w := TR_cg T rfl (fun _ => rI_ne (by omega))
theorem BW_A {v : am_R} (T : am_BW q s W) : am_BW (qAdd q (1601, 0) v) s W := BW_cg T (qAdd_LSn (r16_ne (by omega))) (fun k => congrFun (congrFun qAdd_AI _) k)
theorem BW_L {xs : List am_R} (T : am_BW q s W) : am_BW (uLS q (1601, 0) xs) s W := BW_cg T (LS_ne (r16_ne (by omega))) (fun _ => rfl)
theorem BW_I {k : Nat} {v : Int} (T : am_BW q s W) : am_BW (uAI q (1602, 0) k v) s W := BW_cg T rfl (fun _ => rI_ne (by omega))
theorem TR_push {fa c : Int} (T : am_TR q s w) (hl : w.length < 4) (hf : 0 ≤ fa ∧ fa < rI s 20) : am_TR (uAI (qAdd q (1601, 0) (3, fa.toNat)) (1602, 0) w.length c) s (w ++ [(fa, c)]) := by
  have eL : qLS (uAI (qAdd q (1601, 0) (3, fa.toNat)) (1602, 0) w.length c) (1601, 0) = qLS q (1601, 0) ++ [(3, fa.toNat)] := qAdd_LS
  have hlen := T.2.2
  refine ⟨by rw [List.length_append]; show w.length + 1 ≤ 4; omega, fun i hi => ?_, by rw [eL, List.length_append, List.length_append, T.2.2]; rfl⟩
  rw [List.length_append] at hi
  have hi2 : i < w.length + 1 := hi
  rw [eL]
  by_cases e : i = w.length
  · subst e
    have z := pF_end w (fa, c)
    rw [z.1, z.2]
    exact ⟨by rw [List.getElem?_append_right (by omega), hlen, Nat.sub_self]; rfl, if_pos ⟨rfl, rfl⟩, hf⟩
  · have z := pF_app (w := w) (x := (fa, c)) (i := i) (by omega)
    rw [z.1, z.2]
    have t := T.2.1 i (by omega)
    exact ⟨by rw [List.getElem?_append_left (by omega)]; exact t.1, (if_neg (fun z => e z.2)).trans ((congrFun (congrFun qAdd_AI _) _).trans t.2.1), t.2.2⟩
theorem TR_pop {x : Int × Int} (T : am_TR q s (w ++ [x])) : am_TR (uLS q (1601, 0) (qLS q (1601, 0)).dropLast) s w := by
  have h1 := T.1
  have h3 := T.2.2
  rw [List.length_append] at h1 h3
  have h2 : w.length + 1 ≤ 4 := h1
  have h4 : (qLS q (1601, 0)).length = w.length + 1 := h3
  have eL : qLS (uLS q (1601, 0) (qLS q (1601, 0)).dropLast) (1601, 0) = (qLS q (1601, 0)).dropLast := LS_eq
  refine ⟨by omega, fun i hi => ?_, by rw [eL, List.length_dropLast]; omega⟩
  have t := T.2.1 i (by rw [List.length_append]; show i < w.length + 1; omega)
  have z := pF_app (w := w) (x := x) (i := i) hi
  rw [z.1, z.2] at t
  rw [eL, List.getElem?_dropLast, if_pos (by omega)]
  exact t
theorem cs_dropT {d : Nat} (V : am_CV q s) {x : Int × Int} (T : am_TR q s (w ++ [x])) : am_C2 (d + 2) m_AL_remove [aR 1601 0, aI (zI (w.length : Int))] q (fun o q' => (∃ v, o = .inl (some (aO v))) ∧ q' = uLS q (1601, 0) (qLS q (1601, 0)).dropLast) := by
  have h3 := T.2.2
  rw [List.length_append] at h3
  have h4 : (qLS q (1601, 0)).length = w.length + 1 := h3
  have hne : qLS q (1601, 0) ≠ [] := fun z => by rw [z] at h4; simp at h4
  refine am_C2_imp (sq_remL (d := d) rfl (by omega) (V.1.2.2.2 1601 rfl) (xs := (qLS q (1601, 0)).dropLast) (v := (qLS q (1601, 0)).getLast hne) (List.dropLast_concat_getLast hne).symm (by rw [List.length_dropLast]; omega)) (fun o a' h => ⟨⟨_, h.1⟩, h.2⟩)
theorem pSum_b (B : in_S s) (h4 : w.length ≤ 4) : 0 ≤ pSum s w ∧ pSum s w ≤ 20000 := by
  have := sumI_b (a := 0) (n := w.length) (f := fun i => rA s 25 (pF w i.toNat)) (M := 5000) (fun i => B.1 25 _ 0 5000 rfl)
  unfold pSum
  omega
theorem pSum_app (s : am_Z) (w : am_wP) (x : Int × Int) : pSum s (w ++ [x]) = pSum s w + rA s 25 x.1 := by
  unfold pSum
  rw [List.length_append]
  show sumI 0 (w.length + 1) _ = _
  rw [sumI_s]
  congr 1
  · refine sumI_c (fun i h1 h2 => ?_)
    rw [(pF_app (w := w) (x := x) (i := i.toNat) (by omega)).1]
  · rw [show (0 + (w.length : Int)).toNat = w.length by omega, (pF_end w x).1]
/-- a part of the best that is taken over -/
def am_KP (q : am_A) (w : am_wP) (j : Nat) : Prop := (qLS q (1603, 0)).length = j ∧ ∀ i : Nat, i < j → (qLS q (1603, 0))[i]? = some (3, (pF w i).toNat) ∧ qAI q (1604, 0) i = pC w i
theorem KP_s {j : Nat} {v : Int} (K : am_KP q w j) (hv : v = pC w j) : am_KP (uAI (qAdd q (1603, 0) (3, (pF w j).toNat)) (1604, 0) j v) w (j + 1) := by
  have eL : qLS (uAI (qAdd q (1603, 0) (3, (pF w j).toNat)) (1604, 0) j v) (1603, 0) = qLS q (1603, 0) ++ [(3, (pF w j).toNat)] := qAdd_LS
  have hlen := K.1
  refine ⟨by rw [eL, List.length_append, hlen]; rfl, fun i hi => ?_⟩
  rw [eL]
  by_cases e : i = j
  · subst e
    exact ⟨by rw [List.getElem?_append_right (by omega), hlen, Nat.sub_self]; rfl, (if_pos ⟨rfl, rfl⟩).trans hv⟩
  · have t := K.2 i (by omega)
    exact ⟨by rw [List.getElem?_append_left (by omega)]; exact t.1, (if_neg (fun z => e z.2)).trans ((congrFun (congrFun qAdd_AI _) _).trans t.2)⟩
theorem tk_no (h35 : rI s 35 = n) (hJ : ∀ k, 0 ≤ k → k < n → rA s 36 k = f k) (hok : okP w) (hl : pLen w = n) (h1 : 1 ≤ n) (h : ¬ chpP W.1 (pSum s w) ∨ (ownQ s w w.length ∧ mixQ s w w.length) ∨ ¬ rtQ s n f w) : tk s W w = W := by
  unfold tk
  rw [if_neg]
  intro z
  have g := (gtV_iff h35 hJ hok hl h1).mp z.2
  rcases h with h | h | h
  · exact h z.1
  · exact g.1 h
  · exact h g.2
theorem tk_yes (h35 : rI s 35 = n) (hJ : ∀ k, 0 ≤ k → k < n → rA s 36 k = f k) (hok : okP w) (hl : pLen w = n) (h1 : 1 ≤ n) (h : chpP W.1 (pSum s w)) (h2 : ¬ (ownQ s w w.length ∧ mixQ s w w.length)) (h3 : rtQ s n f w) : tk s W w = (pSum s w, w) := by
  unfold tk
  rw [if_pos ⟨h, (gtV_iff h35 hJ hok hl h1).mpr ⟨h2, h3⟩⟩]
end PSG
theorem cs_dropLast {d : Nat} {q : am_A} {s : am_Z} (V : am_CV q s) {w : am_wP} {x : Int × Int} (T : am_TR q s (w ++ [x])) : am_C2 (d + 3) m_Pr_dropLastTried [aR 6 0] q (fun o q' => o = .inl none ∧ q' = uLS q (1601, 0) (qLS q (1601, 0)).dropLast) := by
  refine am_C2_i (ls := [some (aR 6 0)]) rfl ?_
  have hpr : qFR q 601 (6, 0) = some (1601, 0) := V.1.2.1 601 _ rfl
  have h3 := T.2.2
  rw [List.length_append] at h3
  have h4 : (qLS q (1601, 0)).length = w.length + 1 := h3
  have hne : qLS q (1601, 0) ≠ [] := fun z => by { rw [z] at h4; simp at h4 }
  have el : ((w ++ [x]).length : Int) - 1 = (w.length : Int) := by { rw [List.length_append]; show (((w.length + 1 : Nat)) : Int) - 1 = _; omega }
  refine ar_aload_n rfl rfl ?_
  refine ar_gfR rfl rfl rfl (by omega) (hpr) ?_
  refine ar_cv0 rfl rfl rfl (Nat.le_of_ble_eq_true rfl) (sq_isEmpty (d := 0) rfl (by omega) (V.1.2.2.2 1601 rfl)) (by omega) (fun o q4 hq => am_B2_is ?_ hq)
  refine ar_if_neB rfl rfl (fun ht => absurd ht hne) (fun h7 => ?_)
  refine ar_aload_n rfl rfl ?_
  refine ar_gfR rfl rfl rfl (by omega) (hpr) ?_
  refine ar_aload_n rfl rfl ?_
  refine ar_gfR rfl rfl rfl (by omega) (hpr) ?_
  refine ar_cv0 rfl rfl rfl (Nat.le_of_ble_eq_true rfl) (cl_szT (d := 0) V T) (by omega) (fun o q18 hq => am_B2_is ?_ hq)
  refine ar_iconst rfl ?_
  refine ar_isub rfl ?_
  rw [el]
  refine ar_cv1 rfl rfl rfl (Nat.le_of_ble_eq_true rfl) (cs_dropT (d := 0) V T) (by omega) (fun o q23 hq => ?_)
  obtain ⟨⟨v23, rfl⟩, rfl⟩ := hq
  refine ar_pop rfl rfl ?_
  exact ar_ret rfl rfl (⟨rfl, rfl⟩)
theorem cs_lastN {d : Nat} {q : am_A} {s : am_Z} (V : am_CV q s) (T : am_TR q s []) : am_C2 (d + 1) m_Pr_lastTried [aR 6 0] q (am_is2 (aO none) q) := by
  refine am_C2_i (ls := [some (aR 6 0)]) rfl ?_
  have hpr : qFR q 601 (6, 0) = some (1601, 0) := V.1.2.1 601 _ rfl
  refine ar_aload_n rfl rfl ?_
  refine ar_gfR rfl rfl rfl (by omega) (hpr) ?_
  refine ar_cv0 rfl rfl rfl (Nat.le_of_ble_eq_true rfl) (sq_isEmpty (d := 0) rfl (by omega) (V.1.2.2.2 1601 rfl)) (by omega) (fun o q4 hq => am_B2_is ?_ hq)
  refine ar_if_eqB rfl rfl (fun ht => absurd (List.eq_nil_of_length_eq_zero T.2.2) ht) (fun h7 => ?_)
  refine ar_null rfl ?_
  refine ar_goto rfl rfl ?_
  exact ar_aret rfl rfl (⟨rfl, rfl⟩)
theorem cs_lastS {d : Nat} {q : am_A} {s : am_Z} (V : am_CV q s) {w : am_wP} {x : Int × Int} (T : am_TR q s (w ++ [x])) : am_C2 (d + 3) m_Pr_lastTried [aR 6 0] q (am_is2 (aR 3 x.1.toNat) q) := by
  refine am_C2_i (ls := [some (aR 6 0)]) rfl ?_
  have hpr : qFR q 601 (6, 0) = some (1601, 0) := V.1.2.1 601 _ rfl
  have h3 := T.2.2
  rw [List.length_append] at h3
  have h4 : (qLS q (1601, 0)).length = w.length + 1 := h3
  have hne : qLS q (1601, 0) ≠ [] := fun z => by { rw [z] at h4; simp at h4 }
  have el : ((w ++ [x]).length : Int) - 1 = (w.length : Int) := by { rw [List.length_append]; show (((w.length + 1 : Nat)) : Int) - 1 = _; omega }
  refine ar_aload_n rfl rfl ?_
  refine ar_gfR rfl rfl rfl (by omega) (hpr) ?_
  refine ar_cv0 rfl rfl rfl (Nat.le_of_ble_eq_true rfl) (sq_isEmpty (d := 0) rfl (by omega) (V.1.2.2.2 1601 rfl)) (by omega) (fun o q4 hq => am_B2_is ?_ hq)
  refine ar_if_eqB rfl rfl (fun h7 => ?_) (fun hf => absurd hf hne)
  refine ar_aload_n rfl rfl ?_
  refine ar_gfR rfl rfl rfl (by omega) (hpr) ?_
  refine ar_aload_n rfl rfl ?_
  refine ar_gfR rfl rfl rfl (by omega) (hpr) ?_
  refine ar_cv0 rfl rfl rfl (Nat.le_of_ble_eq_true rfl) (cl_szT (d := 0) V T) (by omega) (fun o q22 hq => am_B2_is ?_ hq)
  refine ar_iconst rfl ?_
  refine ar_isub rfl ?_
  rw [el]
  refine ar_cv1 rfl rfl rfl (Nat.le_of_ble_eq_true rfl) (cl_getT (d := 0) (j := w.length) V T rfl (by rw [List.length_append]; show w.length < w.length + 1; omega)) (by omega) (fun o q27 hq => am_B2_is ?_ hq)
  rw [(pF_end w x).1]
  refine ar_cast rfl rfl rfl ?_
  exact ar_aret rfl rfl (⟨rfl, rfl⟩)
theorem lp_keep {d : Nat} {q : am_A} {Q : am_O → am_A → Prop} {e : Nat} {q0 : am_A} {s : am_Z} {r : am_R} {n p S a : Int} {f : Int → Int} {w : am_wP} (h4 : w.length ≤ 4) : ∀ (m : Nat) (j : Nat) (k : Int) (q1 : am_A), w.length - j < m → (k = j ∧ j ≤ w.length ∧ am_PS e q0 q1 s r n f p S ∧ am_TR q1 s w ∧ am_KP q1 w j) → (∀ x3 q2, am_PS e q0 q2 s r n f p S → am_TR q2 s w → am_KP q2 w w.length → am_W2 (d + 6) m_Pr_keepIfPossible 90 [some (aR 6 0), some (aI (zI a)), x3] [] (q2) Q) → am_W2 (d + 6) m_Pr_keepIfPossible 37 [some (aR 6 0), some (aI (zI a)), some (aI (zI k))] [] (q1) Q := by
  intro m
  induction m with
  | zero => intro j k q1 hm; exact absurd hm (Nat.not_lt_zero _)
  | succ m ih =>
    intro j k q1 hm ⟨hj, hj2, hP, hT, hK⟩ K
    subst hj
    have V1 := hP.1.1
    have p601 : qFR q1 601 (6, 0) = some (1601, 0) := V1.1.2.1 601 _ rfl
    have p602 : qFR q1 602 (6, 0) = some (1602, 0) := V1.1.2.1 602 _ rfl
    have p603 : qFR q1 603 (6, 0) = some (1603, 0) := V1.1.2.1 603 _ rfl
    have p604 : qFR q1 604 (6, 0) = some (1604, 0) := V1.1.2.1 604 _ rfl
    refine ar_iload_n rfl rfl ?_
    refine ar_aload_n rfl rfl ?_
    refine ar_gfR rfl rfl rfl (by omega) (p601) ?_
    refine ar_cv0 rfl rfl rfl (Nat.le_of_ble_eq_true rfl) (cl_szT (d := 0) V1 hT) (by omega) (fun o q42 hq => am_B2_is ?_ hq)
    refine ar_icmp_ge rfl rfl (by omega) (by omega) (fun h45 => ?_) (fun h45 => ?_)
    · have ej : j = w.length := by omega
      rw [ej] at hK
      exact K _ _ hP hT hK
    · refine ar_iload_n rfl rfl ?_
      refine ar_iconst rfl ?_
      refine ar_icmp_ge rfl rfl (by omega) (by omega) (fun ht => by omega) (fun h50 => ?_)
      have hTj := hT.2.1 j (by omega)
      refine ar_aload_n rfl rfl ?_
      refine ar_gfR rfl rfl rfl (by omega) (p603) ?_
      refine ar_aload_n rfl rfl ?_
      refine ar_gfR rfl rfl rfl (by omega) (p601) ?_
      refine ar_iload_n rfl rfl ?_
      refine ar_cv1 rfl rfl rfl (Nat.le_of_ble_eq_true rfl) (cl_getT (d := 0) V1 hT rfl (by omega)) (by omega) (fun o q62 hq => am_B2_is ?_ hq)
      refine ar_cast rfl rfl rfl ?_
      refine ar_cv1 rfl rfl rfl (Nat.le_of_ble_eq_true rfl) (sq_addL (d := 0) rfl (by omega) (V1.1.2.2.2 1603 rfl) (Nat.le_trans (V1.2.2.2.2.2.2.2.2.1 1603 rfl) (by omega)) ⟨rfl, by omega⟩) (by omega) (fun o q68 hq => ?_)
      obtain ⟨rfl, rfl, hc68⟩ := hq
      have pA : qFR (qAdd q1 (1603, 0) (3, (pF w j).toNat)) = qFR q1 := qAdd_FR
      have pB : qAL (qAdd q1 (1603, 0) (3, (pF w j).toNat)) = qAL q1 := qAdd_AL
      have pC : qAI (qAdd q1 (1603, 0) (3, (pF w j).toNat)) = qAI q1 := qAdd_AI
      refine ar_pop rfl rfl ?_
      refine ar_aload_n rfl rfl ?_
      refine ar_gfR rfl rfl rfl (by omega) ((congrFun (congrFun pA 604) (6, 0)).trans p604) ?_
      refine ar_iload_n rfl rfl ?_
      refine ar_aload_n rfl rfl ?_
      refine ar_gfR rfl rfl rfl (by omega) ((congrFun (congrFun pA 602) (6, 0)).trans p602) ?_
      refine ar_iload_n rfl rfl ?_
      refine ar_ia rfl rfl ((congrFun pB (1602, 0)).trans (V1.1.2.2.1 1602 4 rfl)) (by omega) (by omega) ?_
      rw [pC]
      refine ar_ias rfl ⟨rfl, by omega⟩ ((congrFun pB (1604, 0)).trans (V1.1.2.2.1 1604 4 rfl)) (by omega) (by omega) ?_
      refine ar_inc2 rfl ?_
      refine ar_goto rfl rfl ?_
      exact ih (j + 1) _ _ (by omega) ⟨by omega, by omega, PS_I (PS_A hP (Or.inr rfl) (by rw [hK.1]; omega) hc68) (Or.inr rfl), TR_I (TR_A hT), KP_s hK hTj.2.1⟩ K
theorem cs_keep {d : Nat} {q : am_A} {e : Nat} {q0 : am_A} {s : am_Z} {t i : Nat} {n p : Int} {f : Int → Int} {w : am_wP} {W : am_wQ} (h35 : rI s 35 = n) (hJ : ∀ k, 0 ≤ k → k < n → rA s 36 k = f k) (h1 : 1 ≤ n) (P : am_PS e q0 q s (t, i) n f p W.1) (bW : am_BW q s W) (T : am_TR q s w) (hok : okP w) (hl : pLen w = n) : am_C2 (d + 6) m_Pr_keepIfPossible [aR 6 0, aI (zI (pSum s w))] q (fun o q' => o = .inl none ∧ am_PS e q0 q' s (t, i) n f p (tk s W w).1 ∧ am_BW q' s (tk s W w) ∧ am_TR q' s w) := by
  refine am_C2_i (ls := [some (aR 6 0), some (aI (zI (pSum s w))), none]) rfl ?_
  letI iD1 : Decidable (¬ (ownQ s w w.length ∧ mixQ s w w.length)) := Classical.propDecidable _
  letI iD2 : Decidable (rtQ s n f w) := Classical.propDecidable _
  have V := P.1.1
  have H := P.2.2
  have B := CV_B V
  have h4 := T.1
  have bS := pSum_b B h4
  have bw := pLen_b hok
  refine ar_aload_n rfl rfl ?_
  refine ar_iload_n rfl rfl ?_
  refine ar_cv1 rfl rfl rfl (Nat.le_of_ble_eq_true rfl) (cs_isCheaper (d := 0) V H (by omega)) (by omega) (fun o q2 hq => am_B2_is ?_ hq)
  refine ar_if_eqB rfl rfl (fun h5 => ?_) (fun h5 => ?_)
  · exact ar_ret rfl rfl ((by { have ek : tk s W w = W := tk_no h35 hJ hok hl h1 (by first | exact Or.inl h5 | exact Or.inr (Or.inl (Classical.not_not.mp h12)) | exact Or.inr (Or.inr h19)); rw [ek]; exact ⟨rfl, P, bW, T⟩ }))
  · refine ar_aload_n rfl rfl ?_
    refine ar_cv0 rfl rfl rfl (Nat.le_of_ble_eq_true rfl) (cs_combB (d := 0) V T) (by omega) (fun o q9 hq => am_B2_is ?_ hq)
    refine ar_if_eqB rfl rfl (fun h12 => ?_) (fun h12 => ?_)
    · exact ar_ret rfl rfl ((by { have ek : tk s W w = W := tk_no h35 hJ hok hl h1 (by first | exact Or.inl h5 | exact Or.inr (Or.inl (Classical.not_not.mp h12)) | exact Or.inr (Or.inr h19)); rw [ek]; exact ⟨rfl, P, bW, T⟩ }))
    · refine ar_aload_n rfl rfl ?_
      refine ar_cv0 rfl rfl rfl (Nat.le_of_ble_eq_true rfl) (G_B (cs_returns (d := 0) V H T hok hl h1)) (by omega) (fun o q16 hq => am_B2_is ?_ hq)
      refine ar_if_neB rfl rfl (fun h19 => ?_) (fun h19 => ?_)
      · have ek : tk s W w = (pSum s w, w) := tk_yes h35 hJ hok hl h1 h5 h12 h19
        refine ar_aload_n rfl rfl ?_
        refine ar_iload_n rfl rfl ?_
        refine ar_pfI rfl rfl rfl rfl (by omega) (Or.inl rfl) ?_
        refine ar_aload_n rfl rfl ?_
        refine ar_gfR rfl rfl rfl (by omega) (V.1.2.1 603 _ rfl) ?_
        refine ar_cv0 rfl rfl rfl (Nat.le_of_ble_eq_true rfl) (sq_clear (d := 0) rfl (by omega) (V.1.2.2.2 1603 rfl)) (by omega) (fun o q32 hq => ?_)
        obtain ⟨rfl, rfl⟩ := hq
        refine ar_iconst rfl ?_
        refine ar_stI2 rfl ?_
        refine lp_keep (d := d) (q := q) (e := e) (q0 := q0) (s := s) (r := (t, i)) (n := n) (p := p) (S := pSum s w) (a := pSum s w) (f := f) (w := w) h4 (w.length + 1) 0 0 _ (by omega) ⟨rfl, by omega, PS_L (PS_am P (by omega)) (Or.inr rfl), TR_cg T (LS_ne (r16_ne (by omega))) (fun _ => rfl), ⟨congrArg List.length LS_eq, fun i hi => absurd hi (Nat.not_lt_zero i)⟩⟩ (fun x3 q2 hP2 hT2 hK => ?_)
        exact ar_ret rfl rfl ((by { rw [ek]; exact ⟨rfl, hP2, ⟨congrArg Int.ofNat hK.1, h4, fun i hi => ⟨(hK.2 i hi).1, (hK.2 i hi).2, (hT2.2.1 i hi).2.2⟩⟩, hT2⟩ }))
      · exact ar_ret rfl rfl ((by { have ek : tk s W w = W := tk_no h35 hJ hok hl h1 (by first | exact Or.inl h5 | exact Or.inr (Or.inl (Classical.not_not.mp h12)) | exact Or.inr (Or.inr h19)); rw [ek]; exact ⟨rfl, P, bW, T⟩ }))
end

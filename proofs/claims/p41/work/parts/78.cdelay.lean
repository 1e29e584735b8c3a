noncomputable section
/-- the legs that are delayed now -/
def am_DN (q : am_A) (t : am_Z) : Prop := ((qLS q (1808, 0)).length : Int) = sumI 0 732 (nTch t) ∧ (∀ k : Nat, k < (qLS q (1808, 0)).length → ∃ l, legP t l ∧ rA t 19 (61 * (l / 100) + l % 100) ≠ 0 ∧ (qLS q (1808, 0))[k]? = some (5, lId q l)) ∧ (∀ l, legP t l → rA t 19 (61 * (l / 100) + l % 100) ≠ 0 → ∃ k : Nat, (qLS q (1808, 0))[k]? = some (5, lId q l))
theorem CI_s {e : Nat} {q : am_A} {s s' : am_Z} (I : am_CI e q s) (m : ∀ j x, usA j → rA s' j x = rA s j x) (n : ∀ j, usI j → rI s' j = rI s j) (B : in_S s') : am_CI e q s' := ⟨CV_s I.1 m n B, CX_s I.2.1 (fun x => ⟨m 52 x (by omega), m 10 x (by omega)⟩) ⟨n 44 (by omega), n 61 (by omega), n 3 (by omega)⟩, I.2.2⟩
section AO
variable {e : Nat} {q : am_A} {t : am_Z} {l : Int}
theorem ix_b (B : in_S t) (hl : legP t l) : 0 ≤ 61 * (l / 100) + l % 100 ∧ 61 * (l / 100) + l % 100 < 732 := by
  have b3 := B.2.1 3 0 12 rfl
  have := hl.1
  have := hl.2.1
  have := hl.2.2.1
  omega
theorem w19_B (B : in_S t) : in_S (wA t 19 (61 * (l / 100) + l % 100) 1) := in_S_A B (fun lo hi h => by cases h; omega) (fun h => by cases h)
theorem w19_l {x : Int} : legP (wA t 19 (61 * (l / 100) + l % 100) 1) x ↔ legP t x := legP_cg (s := t) (s' := wA t 19 (61 * (l / 100) + l % 100) 1) (fun j y h => if_neg (fun z => absurd z.1 (by omega))) rfl
theorem ao_f (I : am_CI e q t) (hl : legP t l) (D : am_DN q t) {k : Nat} (hk : (qLS q (1808, 0))[k]? = some (5, lId q l)) : wA t 19 (61 * (l / 100) + l % 100) 1 = t := by
  obtain ⟨l', h1, h2, h3⟩ := D.2.1 k (List.getElem?_eq_some_iff.mp hk).1
  rw [hk] at h3
  have e1 : l = l' := lId_inj I.1 hl h1 (congrArg Prod.snd (Option.some.inj h3))
  have b19 := (CV_B I.1).1 19 (61 * (l / 100) + l % 100) 0 1 rfl
  rw [← e1] at h2
  exact wA_same (by omega)
theorem ao_n (I : am_CI e q t) (hl : legP t l) (D : am_DN q t) (hk : ∀ k : Nat, (qLS q (1808, 0))[k]? ≠ some (5, lId q l)) (h10 : (qLS q (1808, 0)).length ≤ 10) (hc : (qLS q (1808, 0)).length ≤ qCP q (1808, 0)) : am_CI e (qAdd q (1808, 0) (5, lId q l)) (wA t 19 (61 * (l / 100) + l % 100) 1) ∧ am_DN (qAdd q (1808, 0) (5, lId q l)) (wA t 19 (61 * (l / 100) + l % 100) 1) := by
  have hix := ix_b (CV_B I.1) hl
  have h0 : rA t 19 (61 * (l / 100) + l % 100) = 0 := Classical.byContradiction (fun z => by
    obtain ⟨k, h⟩ := D.2.2 l hl z
    exact hk k h)
  have hnv : ¬ vL t (1808, 0) := by
    unfold vL
    simp only
    omega
  have hI : ∀ x, lId (qAdd q (1808, 0) (5, lId q l)) x = lId q x := fun x => lId_cg (fun i k => by rw [qAdd_AR])
  have V2 : am_CV (qAdd q (1808, 0) (5, lId q l)) t := CV_EQ I.1 (EQ_Add hnv (by omega) (I.1.2.2.2.2.2.2.2.2.1 1808 rfl))
  have I2 : am_CI e (qAdd q (1808, 0) (5, lId q l)) t := ⟨V2, CX_G I.2.1 (fun x _ => congrFun qAdd_CN x) (fun x i hx => qAdd_CPn (fun z => by have := congrArg Prod.fst z; simp only at this; omega)) (fun _ => rfl) rfl ⟨rfl, rfl⟩, RM_Add I.2.2 (Or.inl ⟨rfl, by show 1808 = 1802 ∨ 1808 = 1803 ∨ 1808 = 1804 ∨ 1808 = 1806 ∨ 1808 = 1807 ∨ 1808 = 1808 ∨ 1808 = 1809 ∨ 1808 = 1601 ∨ 1808 = 1603; omega⟩) (by omega) hc⟩
  have i19 : rA (wA t 19 (61 * (l / 100) + l % 100) 1) 19 (61 * (l / 100) + l % 100) = 1 := by rw [wA_A, if_pos ⟨rfl, rfl⟩]
  have o19 : ∀ x, x ≠ 61 * (l / 100) + l % 100 → rA (wA t 19 (61 * (l / 100) + l % 100) 1) 19 x = rA t 19 x := fun x h => by rw [wA_A, if_neg (fun z => h z.2)]
  refine ⟨CI_s I2 (fun j x h => if_neg (fun z => by have := z.1; omega)) (fun j _ => rfl) (w19_B (CV_B I.1)), ?_, fun k hk2 => ?_, fun x hx h19 => ?_⟩
  · have es := sumI_upd (a := 0) (n := 732) (f := nTch t) (g := nTch (wA t 19 (61 * (l / 100) + l % 100) 1)) (i0 := 61 * (l / 100) + l % 100) (by omega) (fun i hi => by unfold nTch; rw [o19 i hi])
    have e0 : nTch t (61 * (l / 100) + l % 100) = 0 := if_pos h0
    have e1 : nTch (wA t 19 (61 * (l / 100) + l % 100) 1) (61 * (l / 100) + l % 100) = 1 := by unfold nTch; rw [i19]; rfl
    rw [es, e0, e1, ← D.1, qAdd_LS, List.length_append]
    show (((qLS q (1808, 0)).length + 1 : Nat) : Int) = _
    omega
  · rw [qAdd_LS, List.length_append] at hk2
    have hk3 : k < (qLS q (1808, 0)).length + 1 := hk2
    rw [qAdd_LS]
    by_cases ek : k = (qLS q (1808, 0)).length
    · refine ⟨l, w19_l.mpr hl, by rw [i19]; omega, ?_⟩
      rw [hI, List.getElem?_append_right (by omega), show k - (qLS q (1808, 0)).length = 0 by omega]
      rfl
    · obtain ⟨x, h1, h2, h3⟩ := D.2.1 k (by omega)
      refine ⟨x, w19_l.mpr h1, ?_, ?_⟩
      · by_cases ex : 61 * (x / 100) + x % 100 = 61 * (l / 100) + l % 100
        · rw [ex, i19]; omega
        · rw [o19 _ ex]; exact h2
      · rw [hI, List.getElem?_append_left (by omega)]
        exact h3
  · rw [qAdd_LS, hI]
    have hx1 := w19_l.mp hx
    by_cases ex : x = l
    · refine ⟨(qLS q (1808, 0)).length, ?_⟩
      rw [List.getElem?_append_right (Nat.le_refl _), Nat.sub_self, ex]
      rfl
    · rw [o19 _ (fun z => ex (ix_inj hx1 hl z))] at h19
      obtain ⟨k, h⟩ := D.2.2 x hx1 h19
      refine ⟨k, ?_⟩
      rw [List.getElem?_append_left (List.getElem?_eq_some_iff.mp h).1]
      exact h
end AO
theorem lp_ao {d : Nat} {q : am_A} {Q : am_O → am_A → Prop} {n5 : Nat} (hn : 0 < qCN q 1808) (hL : (qLS q (1808, 0)).length ≤ 1000) (KF : ∀ k : Nat, (qLS q (1808, 0))[k]? = some (5, n5) → Q (.inl none) q) : ∀ (m : Nat) (j : Nat) (k : Int), (qLS q (1808, 0)).length - j < m → (k = j ∧ j ≤ (qLS q (1808, 0)).length ∧ ∀ i : Nat, i < j → (qLS q (1808, 0))[i]? ≠ some (5, n5)) → ((∀ i : Nat, (qLS q (1808, 0))[i]? ≠ some (5, n5)) → ∀ x2, am_W2 (d + 3) m_X_addOnce 26 [some (aR 1808 0), some (aR 5 n5), x2] [] (q) Q) → am_W2 (d + 3) m_X_addOnce 2 [some (aR 1808 0), some (aR 5 n5), some (aI (zI k))] [] (q) Q := by
  intro m
  induction m with
  | zero => intro j k hm; exact absurd hm (Nat.not_lt_zero _)
  | succ m ih =>
    intro j k hm ⟨hj, hj2, hall⟩ K
    subst hj
    refine ar_iload_n rfl rfl ?_
    refine ar_aload_n rfl rfl ?_
    refine ar_cv0 rfl rfl rfl (Nat.le_of_ble_eq_true rfl) (sq_size (d := 0) rfl (by omega) hn) (by omega) (fun o q4 hq => am_B2_is ?_ hq)
    refine ar_icmp_ge rfl rfl (by omega) (by omega) (fun h7 => ?_) (fun h7 => ?_)
    · exact K (fun i hi => by have h := (List.getElem?_eq_some_iff.mp hi).1; exact hall i (by omega) hi) _
    · obtain ⟨v, hv⟩ : ∃ v, (qLS q (1808, 0))[j]? = some v := ⟨_, List.getElem?_eq_getElem (by omega)⟩
      refine ar_aload_n rfl rfl ?_
      refine ar_iload_n rfl rfl ?_
      refine ar_cv1 rfl rfl rfl (Nat.le_of_ble_eq_true rfl) (sq_get (d := 0) (j := j) (v := v) rfl (by omega) hn rfl hv) (by omega) (fun o q12 hq => am_B2_is ?_ hq)
      refine ar_aload_n rfl rfl ?_
      refine ar_acmp_ne rfl rfl (fun h16 => ?_) (fun h16 => ?_)
      · refine ar_inc2 rfl ?_
        refine ar_goto rfl rfl ?_
        exact ih (j + 1) _ (by omega) ⟨by omega, by omega, fun i hi => (Nat.lt_or_ge i j).elim (hall i) (fun y => by rw [show i = j by omega, hv]; exact h16)⟩ K
      · exact ar_ret rfl rfl (KF j (hv.trans h16))
theorem cs_addOnce {d : Nat} {q : am_A} {e : Nat} {t : am_Z} {l : Int} (I : am_CI e q t) (hl : legP t l) (D : am_DN q t) (h10 : (qLS q (1808, 0)).length ≤ 10) : am_C2 (d + 6) m_X_addOnce [aR 1808 0, aR 5 (lId q l)] q (fun o q' => o = .inl none ∧ am_CI e q' (wA t 19 (61 * (l / 100) + l % 100) 1) ∧ am_DN q' (wA t 19 (61 * (l / 100) + l % 100) 1) ∧ am_CG q q' ∧ (∀ x, lId q' x = lId q x) ∧ (qLS q' (1808, 0)).length ≤ (qLS q (1808, 0)).length + 1) := by
  refine am_C2_i (ls := [some (aR 1808 0), some (aR 5 (lId q l)), none]) rfl ?_
  refine ar_iconst rfl ?_
  refine ar_stI2 rfl ?_
  refine lp_ao (d := d + 3) (I.1.1.2.2.2 1808 rfl) (by omega) (fun k hk => by rw [ao_f I hl D hk]; exact ⟨rfl, I, D, CG_r, fun _ => rfl, Nat.le_succ _⟩) ((qLS q (1808, 0)).length + 1) 0 0 (by omega) ⟨rfl, Nat.zero_le _, fun i hi => absurd hi (Nat.not_lt_zero i)⟩ (fun hnf x2 => ?_)
  refine ar_aload_n rfl rfl ?_
  refine ar_aload_n rfl rfl ?_
  refine ar_cv1 rfl rfl rfl (Nat.le_of_ble_eq_true rfl) (sq_addL (d := 0) rfl (by omega) (I.1.1.2.2.2 1808 rfl) (Nat.le_trans (I.1.2.2.2.2.2.2.2.2.1 1808 rfl) (by omega)) ⟨rfl, by omega⟩) (by omega) (fun o q28 hq => ?_)
  obtain ⟨rfl, rfl, hc28⟩ := hq
  have hz := ao_n I hl D hnf h10 hc28
  refine ar_pop rfl rfl ?_
  exact ar_ret rfl rfl (⟨rfl, hz.1, hz.2, CG_Add CG_r (by show cK 1808; omega), fun x => lId_cg (fun i k => by rw [qAdd_AR]), by rw [qAdd_LS, List.length_append]; exact Nat.le_refl _⟩)
def othR (q : am_A) (s : am_Z) (l : Int) : Option am_R := if othL s l = -1 then none else some (5, lId q (othL s l))
theorem othL_leg {q : am_A} {s : am_Z} {l : Int} (V : am_CV q s) (hl : legP s l) (h : othL s l ≠ -1) : legP s (othL s l) := by
  have h15 := V.2.2.1.2.2.2 (l / 100) (by have := hl.1; omega) hl.2.1
  have b16 := (CV_B V).1 16 (l / 100) 0 1 rfl
  have hl2 := hl.2.2.1
  have hn : ¬ (rA s 15 (l / 100) = -1 ∨ 61 ≤ l % 100 + rA s 16 (l / 100) ∨ ¬ thereP s (rA s 15 (l / 100)) (l % 100 + rA s 16 (l / 100))) := fun z => h (if_pos z)
  have e : othL s l = 100 * rA s 15 (l / 100) + (l % 100 + rA s 16 (l / 100)) := if_neg hn
  have e1 : (100 * rA s 15 (l / 100) + (l % 100 + rA s 16 (l / 100))) / 100 = rA s 15 (l / 100) := by omega
  have e2 : (100 * rA s 15 (l / 100) + (l % 100 + rA s 16 (l / 100))) % 100 = l % 100 + rA s 16 (l / 100) := by omega
  have h3 : thereP s (rA s 15 (l / 100)) (l % 100 + rA s 16 (l / 100)) := Classical.byContradiction (fun z => hn (Or.inr (Or.inr z)))
  rw [e]
  refine ⟨by omega, by rw [e1]; exact h15.2, by rw [e2]; omega, ?_⟩
  rw [e1, e2]
  exact h3
theorem oth_on {q : am_A} {s : am_Z} {l : Int} (V : am_CV q s) (hl : legP s l) (hg : rA s 15 (l / 100) ≠ -1) : (if 0 ≤ l % 100 + rA s 16 (l / 100) ∧ l % 100 + rA s 16 (l / 100) < 61 then qAR q (1408, (rA s 15 (l / 100)).toNat) (l % 100 + rA s 16 (l / 100)).toNat else none) = othR q s l := by
  have h15 := V.2.2.1.2.2.2 (l / 100) (by have := hl.1; omega) hl.2.1
  have b16 := (CV_B V).1 16 (l / 100) 0 1 rfl
  have hl2 := hl.2.2.1
  have e1 : (100 * rA s 15 (l / 100) + (l % 100 + rA s 16 (l / 100))) / 100 = rA s 15 (l / 100) := by omega
  have e2 : (100 * rA s 15 (l / 100) + (l % 100 + rA s 16 (l / 100))) % 100 = l % 100 + rA s 16 (l / 100) := by omega
  have hO : legO q (100 * rA s 15 (l / 100) + (l % 100 + rA s 16 (l / 100))) = qAR q (1408, (rA s 15 (l / 100)).toNat) (l % 100 + rA s 16 (l / 100)).toNat := by unfold legO; rw [e1, e2]
  by_cases h61 : l % 100 + rA s 16 (l / 100) < 61
  · rw [if_pos ⟨by omega, h61⟩, ← hO]
    by_cases ht : thereP s (rA s 15 (l / 100)) (l % 100 + rA s 16 (l / 100))
    · have e : othL s l = 100 * rA s 15 (l / 100) + (l % 100 + rA s 16 (l / 100)) := if_neg (fun z => by rcases z with z | z | z; exact hg z; omega; exact z ht)
      have hne : othL s l ≠ -1 := by rw [e]; omega
      have h := V.2.2.2.1.1 _ (othL_leg V hl hne)
      unfold othR
      rw [if_neg hne, e] at *
      exact h.1
    · have e : othL s l = -1 := if_pos (Or.inr (Or.inr ht))
      unfold othR
      rw [if_pos e]
      exact V.2.2.2.1.2 _ (by omega) (by rw [e1]; exact h15.2) (by rw [e2]; exact h61) (by rw [e1, e2]; exact ht)
  · have e : othL s l = -1 := if_pos (Or.inr (Or.inl (by omega)))
    unfold othR
    rw [if_neg (fun z => h61 z.2), if_pos e]
theorem cs_onwardLeg {d : Nat} {q : am_A} {s : am_Z} (V : am_CV q s) {l : Int} (hl : legP s l) : am_C2 (d + 1) m_Lg_onwardLeg [aR 5 (lId q l)] q (am_is2 (aO (othR q s l)) q) := by
  refine am_C2_i (ls := [some (aR 5 (lId q l))]) rfl ?_
  have hg := V.2.2.2.1.1 l hl
  have hf := V.2.2.1.2.2.1 (l / 100).toNat (by have := hl.1; have := hl.2.1; omega)
  have el : (((l / 100).toNat : Nat) : Int) = l / 100 := by { have := hl.1; omega }
  have b16 := (CV_B V).1 16 (l / 100) 0 1 rfl
  have hl2 := hl.2.2.1
  have h411 : qFR q 411 (4, (l / 100).toNat) = if rA s 15 (l / 100) = -1 then none else some (4, (rA s 15 (l / 100)).toNat) := by { have z := hf.2.2.2.2.2.1; rw [el] at z; exact z }
  have h15 := V.2.2.1.2.2.2 (l / 100) (by have := hl.1; omega) hl.2.1
  refine ar_aload_n rfl rfl ?_
  refine ar_gfR rfl rfl rfl (by omega) (hg.2.2.1) ?_
  refine ar_gfR rfl rfl rfl (by omega) (h411) ?_
  refine ar_ifnonnull rfl rfl (fun hn7 => ?_) (fun r7 hr7 => ?_)
  · refine ar_null rfl ?_
    exact ar_aret rfl rfl (⟨by rw [show othR q s l = none from if_pos (if_pos (Or.inl (Classical.byContradiction (fun y => by rw [if_neg y] at hn7; cases hn7))))], rfl⟩)
  · have zg : rA s 15 (l / 100) ≠ -1 := fun y => by { rw [if_pos y] at hr7; cases hr7 }
    refine ar_aload_n rfl rfl ?_
    refine ar_gfR rfl rfl rfl (by omega) (hg.2.2.1) ?_
    refine ar_gfR rfl rfl rfl (by omega) (h411) ?_
    rw [if_neg zg]
    refine cq_join (pc' := 42) (V := l % 100 + rA s 16 (l / 100)) ?_ (fun K42 => ?_)
    · refine ar_cv1 rfl rfl rfl (Nat.le_of_ble_eq_true rfl) (cs_on (d := 0) (V.2.2.1.2.2.1 (rA s 15 (l / 100)).toNat (by omega)).2.2.2.2.1 (V.2.2.1.2.2.1 (rA s 15 (l / 100)).toNat (by omega)).2.2.2.2.2.2.2.1 (by omega)) (by omega) (fun o q42 hq => am_B2_is ?_ hq)
      exact ar_aret rfl rfl (⟨by rw [oth_on V hl zg], rfl⟩)
    · refine ar_aload_n rfl rfl ?_
      refine ar_gfR rfl rfl rfl (by omega) (hg.2.2.1) ?_
      refine ar_gfIv rfl rfl rfl (by omega) ((hf.1 412 16 rfl).trans (by rw [el])) ?_
      refine ar_if_eq rfl rfl (by omega) (fun h26 => ?_) (fun h26 => ?_)
      · refine ar_aload_n rfl rfl ?_
        refine ar_gfIv rfl rfl rfl (by omega) (hg.2.2.2.1) ?_
        exact K42 _ (by omega)
      · refine ar_aload_n rfl rfl ?_
        refine ar_gfIv rfl rfl rfl (by omega) (hg.2.2.2.1) ?_
        refine ar_iconst rfl ?_
        refine ar_iadd rfl ?_
        refine ar_goto rfl rfl ?_
        exact K42 _ (by omega)
theorem dlR_y {n : Nat} {t : am_Z} {l h : Int} (h8 : rA t 17 (61 * (l / 100) + l % 100) + h ≤ 8) (hg : goesP (dlS t l h) l) : dlR (n + 1) t l h = dlR n (dlS t l h) (othL (dlS t l h) l) (arv (dlS t l h) l + 1 - dep (dlS t l h) (othL (dlS t l h) l)) := if_pos ⟨h8, hg⟩
theorem dlR_n {n : Nat} {t : am_Z} {l h : Int} (hg : ¬ (rA t 17 (61 * (l / 100) + l % 100) + h ≤ 8 ∧ goesP (dlS t l h) l)) : dlR (n + 1) t l h = dlS t l h := if_neg hg
theorem dlS_p {t : am_Z} {l h : Int} (h8 : rA t 17 (61 * (l / 100) + l % 100) + h ≤ 8) : dlS t l h = wA (wA t 19 (61 * (l / 100) + l % 100) 1) 17 (61 * (l / 100) + l % 100) (rA t 17 (61 * (l / 100) + l % 100) + h) := if_pos h8
theorem dlS_c {t : am_Z} {l h : Int} (h8 : ¬ rA t 17 (61 * (l / 100) + l % 100) + h ≤ 8) : dlS t l h = cancS (wA t 19 (61 * (l / 100) + l % 100) 1) l := if_neg h8
theorem DN_cg {q q' : am_A} {t t' : am_Z} (D : am_DN q t) (h : q'.2 = q.2) (m : ∀ j x, (10 ≤ j ∧ j ≤ 13) ∨ j = 19 → rA t' j x = rA t j x) (n : rI t' 3 = rI t 3) : am_DN q' t' := by
  have e : qLS q' = qLS q := congrArg (fun z : (Nat → am_R → Option am_R) × (am_R → Nat → Int) × (am_R → Nat → Option am_R) × (am_R → Nat → Int64) × (am_R → Nat → UInt64) × (am_R → Nat) × (Nat → Nat) × (am_R → List am_R) × (am_R → Nat) × Nat × Nat => z.2.2.2.2.2.2.2.1) h
  have hl : ∀ l, legP t' l ↔ legP t l := fun l => legP_cg (fun j x hj => m j x (by omega)) n
  have h19 : rA t' 19 = rA t 19 := funext (fun x => m 19 x (by omega))
  have hT : nTch t' = nTch t := by unfold nTch; rw [h19]
  unfold am_DN
  rw [e, hT, h19]
  refine ⟨D.1, fun k hk => ?_, fun l h1 h2 => ?_⟩
  · obtain ⟨l, a1, a2, a3⟩ := D.2.1 k hk
    exact ⟨l, (hl l).mpr a1, a2, by rw [lId_2 h]; exact a3⟩
  · obtain ⟨k, a⟩ := D.2.2 l ((hl l).mp h1) h2
    exact ⟨k, by rw [lId_2 h]; exact a⟩
theorem dlR_0 {t : am_Z} {l h : Int} : dlR 0 t l h = t := rfl
end

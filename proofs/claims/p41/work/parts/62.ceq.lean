noncomputable section
/-- an operation: with number k of its exception (0: none), answer v, and R behind it -/
def am_OK (k : Int) (kd : Int → Nat) (v : Option am_V) (q : am_A) (R : am_A → Prop) : am_O → am_A → Prop := fun o q' => (k = 0 → o = .inl v ∧ R q') ∧ (k ≠ 0 → o = .inr (kd k) ∧ q' = uNO q (kd k) 6)
def kd3 (k : Int) : Nat := if k = 1 then 13 else if k = 2 then 14 else 15
def kd2 (k : Int) : Nat := if k = 1 then 13 else 15
def kd1 (_ : Int) : Nat := 14
abbrev usA (j : Nat) : Prop := (1 ≤ j ∧ j ≤ 18) ∨ (21 ≤ j ∧ j ≤ 32) ∨ j = 34 ∨ (45 ≤ j ∧ j ≤ 66) ∨ j = 69 ∨ j = 70
abbrev usI (j : Nat) : Prop := j = 0 ∨ j = 3 ∨ j = 20 ∨ j = 33 ∨ j = 44 ∨ j = 61 ∨ j = 68
def vO (q : am_A) (s : am_Z) (r : am_R) : Prop := r = (8, 0) ∨ r.1 = 3 ∨ r.1 = 4 ∨ (r.1 = 0 ∧ ((r.2 : Nat) : Int) < rI s 44) ∨ (r.1 = 1 ∧ r.2 < qCN q 1) ∨ (r.1 = 5 ∧ r.2 < qCN q 5) ∨ (r.1 = 7 ∧ ((r.2 : Nat) : Int) < rI s 61)
def vA (s : am_Z) (r : am_R) : Prop := (r.2 = 0 ∧ (r.1 = 1800 ∨ r.1 = 1801 ∨ r.1 = 1811 ∨ r.1 = 1812)) ∨ r.1 = 1407 ∨ ((r.1 = 1004 ∨ r.1 = 1005) ∧ ((r.2 : Nat) : Int) < rI s 44)
def vL (s : am_Z) (r : am_R) : Prop := (r.2 = 0 ∧ 1802 ≤ r.1 ∧ r.1 ≤ 1807) ∨ (r.1 = 1003 ∧ ((r.2 : Nat) : Int) < rI s 44) ∨ (r.1 = 1702 ∧ ((r.2 : Nat) : Int) < rI s 61)
/-- the heap is the same where the class holds its state -/
def am_EQ (q q' : am_A) (s : am_Z) : Prop := (∀ f r, vO q s r → f ≠ 106 → qFI q' f r = qFI q f r) ∧ (∀ f r, (vO q s r ∨ r = (6, 0) ∧ f < 605) → qFR q' f r = qFR q f r) ∧ (∀ r k, vA s r → qAI q' r k = qAI q r k) ∧ (∀ i k, qAR q' (1408, i) k = qAR q (1408, i) k) ∧ (∀ r, (vA s r ∨ r.1 = 1408 ∨ (r.2 = 0 ∧ 1600 ≤ r.1 ∧ r.1 ≤ 1604)) → qAL q' r = qAL q r) ∧ (∀ t, qCN q t ≤ qCN q' t) ∧ (∀ t, (t = 3 ∨ t = 4 ∨ t = 1407 ∨ t = 1408) → qCN q' t = qCN q t) ∧ (∀ r, vL s r → qLS q' r = qLS q r) ∧ (∀ r, (vL s r ∨ r = (1808, 0) ∨ r = (1809, 0) ∨ r = (1601, 0) ∨ r = (1603, 0)) → qCP q r ≤ 60 → qCP q' r ≤ 60)
section WR1
variable {q q' : am_A} {s s' : am_Z}
theorem in_S_A (B : in_S s) {j : Nat} {i v : Int} (hv : ∀ lo hi, rRg j = some (lo, hi) → lo ≤ v ∧ v ≤ hi) (hl : rLg j = true → v % 100 ≤ 60) : in_S (wA s j i v) := by
  refine ⟨fun j' i' lo hi h => ?_, B.2.1, fun j' i' h => ?_⟩
  · rw [wA_A]
    split
    · rename_i hc; exact hv lo hi (by rw [← hc.1]; exact h)
    · exact B.1 j' i' lo hi h
  · rw [wA_A]
    split
    · rename_i hc; exact hl (by rw [← hc.1]; exact h)
    · exact B.2.2 j' i' h
theorem in_S_I (B : in_S s) {j : Nat} {v : Int} (hv : ∀ lo hi, rRi j = some (lo, hi) → lo ≤ v ∧ v ≤ hi) : in_S (wI s j v) := by
  refine ⟨B.1, fun j' lo hi h => ?_, B.2.2⟩
  rw [wI_I]
  split
  · rename_i hc; exact hv lo hi (by rw [← hc]; exact h)
  · exact B.2.1 j' lo hi h
theorem cLst_r : am_all cLst (fun k _ => (1802 ≤ k ∧ k ≤ 1804) ∨ (1806 ≤ k ∧ k ≤ 1809) ∨ k = 1601 ∨ k = 1603) := (am_nd_ok (am_nd_ok (am_nd_ok (am_lf_ok (by decide)) (am_lf_ok (by decide))) (am_nd_ok (am_lf_ok (by decide)) (am_lf_ok (by decide)))) (am_nd_ok (am_nd_ok (am_lf_ok (by decide)) (am_lf_ok (by decide))) (am_nd_ok (am_lf_ok (by decide)) (am_nd_ok (am_lf_ok (by decide)) (am_lf_ok (by decide))))))
theorem cLen_r : am_all cLen (fun k _ => k = 1800 ∨ k = 1801 ∨ k = 1811 ∨ k = 1812 ∨ (1600 ≤ k ∧ k ≤ 1604)) := (am_nd_ok (am_nd_ok (am_lf_ok (by decide)) (am_nd_ok (am_lf_ok (by decide)) (am_lf_ok (by decide)))) (am_nd_ok (am_nd_ok (am_lf_ok (by decide)) (am_lf_ok (by decide))) (am_nd_ok (am_lf_ok (by decide)) (am_lf_ok (by decide)))))
theorem pRef_r : am_all pRef (fun f _ => f < 605) := (am_nd_ok (am_nd_ok (am_lf_ok (by decide)) (am_lf_ok (by decide))) (am_nd_ok (am_lf_ok (by decide)) (am_nd_ok (am_lf_ok (by decide)) (am_lf_ok (by decide)))))
/-- nothing of it has changed, and no more of the state than what the class doesn't know of -/
theorem CV_EQs (V : am_CV q s) (E : am_EQ q q' s) (m : ∀ j x, usA j → rA s' j x = rA s j x) (n : ∀ j, usI j → rI s' j = rI s j) (B : in_S s') : am_CV q' s' := by
  obtain ⟨v1, v2, v3, v4, v5, v6, v7, v8, v9, -⟩ := V
  obtain ⟨e1, e2, e3, e4, e5, e6, e7, e8, e9⟩ := E
  have m13 : ∀ j x, (10 ≤ j ∧ j ≤ 13) → rA s' j x = rA s j x := fun j x h => m j x (by omega)
  have o8 : vO q s (8, 0) := Or.inl rfl
  refine ⟨⟨fun f r h => (e2 f _ (Or.inl o8)).trans (v1.1 f r h), fun f r h => (e2 f _ (Or.inr ⟨rfl, pRef_r f r h⟩)).trans (v1.2.1 f r h), fun k c h => (e5 _ ?_).trans (v1.2.2.1 k c h), fun k h => Nat.lt_of_lt_of_le (v1.2.2.2 k h) (e6 k)⟩, ⟨fun i a b => (e3 _ _ (Or.inl ⟨rfl, Or.inl rfl⟩)).trans ((v2.1 i a b).trans (m 1 _ (by omega)).symm), fun i a b => (e3 _ _ (Or.inl ⟨rfl, Or.inr (Or.inl rfl)⟩)).trans ((v2.2.1 i a b).trans (m 2 _ (by omega)).symm), fun i a b => (e3 _ _ (Or.inl ⟨rfl, Or.inr (Or.inr (Or.inl rfl))⟩)).trans ((v2.2.2.1 i a b).trans (m 69 _ (by omega)).symm), fun i a b => (e3 _ _ (Or.inl ⟨rfl, Or.inr (Or.inr (Or.inr rfl))⟩)).trans ((v2.2.2.2.1 i a b).trans (m 70 _ (by omega)).symm), (e1 _ _ o8 (by omega)).trans (v2.2.2.2.2.1.trans (n 0 (by omega)).symm), (e1 _ _ o8 (by omega)).trans (v2.2.2.2.2.2.trans (n 68 (by omega)).symm)⟩, ?_, ?_, ?_, ?_, ?_, ?_, fun k h => e9 _ ?_ (v9 k h), B⟩
  · have h2 := cLen_r k c h
    unfold vA
    show (((0 = 0 ∧ (k = 1800 ∨ k = 1801 ∨ k = 1811 ∨ k = 1812)) ∨ k = 1407 ∨ ((k = 1004 ∨ k = 1005) ∧ ((0 : Nat) : Int) < rI s 44)) ∨ k = 1408 ∨ (0 = 0 ∧ 1600 ≤ k ∧ k ≤ 1604))
    omega
  · exact CF_cg v3 (e8 _ (Or.inl ⟨rfl, by show 1802 ≤ 1802; omega, by show 1802 ≤ 1807; omega⟩)) (fun t h => e7 t (by omega)) (fun f i a b => e1 f _ (Or.inr (Or.inr (Or.inl rfl))) (by omega)) (fun f i a b => e2 f _ (Or.inl (Or.inr (Or.inr (Or.inl rfl))))) (fun i => ⟨e5 _ (Or.inl (Or.inr (Or.inl rfl))), e5 _ (Or.inr (Or.inl rfl))⟩) (fun i k => e3 _ _ (Or.inr (Or.inl rfl))) (fun j x h => m j x (by omega)) (n 3 (by omega))
  · exact CL_cg v4 e4 (e6 5) (fun f j a b c => ⟨e1 f _ (Or.inr (Or.inr (Or.inr (Or.inr (Or.inr (Or.inl ⟨rfl, c⟩)))))) (by omega), e2 f _ (Or.inl (Or.inr (Or.inr (Or.inr (Or.inr (Or.inr (Or.inl ⟨rfl, c⟩)))))))⟩) (fun j x h => m j x (by omega)) (n 3 (by omega))
  · exact CA_cg v5 (e8 _ (Or.inl ⟨rfl, by show 1802 ≤ 1803; omega, by show 1803 ≤ 1807; omega⟩)) (e7 3 (by omega)) (fun f i a b => e1 f _ (Or.inr (Or.inl rfl)) (by omega)) (fun j x h => m j x (by omega)) (n 20 (by omega))
  · exact LL_cg v6 (e8 _ (Or.inl ⟨rfl, by show 1802 ≤ 1804; omega, by show 1804 ≤ 1807; omega⟩)) e4 (n 33 (by omega)) (fun k _ _ => m 34 _ (by omega)) m13 (n 3 (by omega))
  · exact CB_cg v7 (e8 _ (Or.inl ⟨rfl, by show 1802 ≤ 1806; omega, by show 1806 ≤ 1807; omega⟩)) e4 (fun t h => e6 t) (e6 1) (fun f b a hb => ⟨e1 f _ (Or.inr (Or.inr (Or.inr (Or.inl ⟨rfl, hb⟩)))) (by omega), e2 f _ (Or.inl (Or.inr (Or.inr (Or.inr (Or.inl ⟨rfl, hb⟩)))))⟩) (fun b hb => ⟨e8 _ (Or.inr (Or.inl ⟨rfl, hb⟩)), e9 _ (Or.inl (Or.inr (Or.inl ⟨rfl, hb⟩)))⟩) (fun t b h hb => ⟨e5 _ (Or.inl (Or.inr (Or.inr ⟨h, hb⟩))), fun k => e3 _ _ (Or.inr (Or.inr ⟨h, hb⟩))⟩) (fun f j a b c => ⟨e1 f _ (Or.inr (Or.inr (Or.inr (Or.inr (Or.inl ⟨rfl, c⟩))))) (by omega), e2 f _ (Or.inl (Or.inr (Or.inr (Or.inr (Or.inr (Or.inl ⟨rfl, c⟩))))))⟩) (fun j x h => m j x (by omega)) m13 (n 3 (by omega)) (n 44 (by omega))
  · exact CW_cg v8 (e8 _ (Or.inl ⟨rfl, by show 1802 ≤ 1807; omega, by show 1807 ≤ 1807; omega⟩)) e4 (fun t h => e6 t) (fun f w a b hw => ⟨e1 f _ (Or.inr (Or.inr (Or.inr (Or.inr (Or.inr (Or.inr ⟨rfl, hw⟩)))))) (by omega), e2 f _ (Or.inl (Or.inr (Or.inr (Or.inr (Or.inr (Or.inr (Or.inr ⟨rfl, hw⟩)))))))⟩) (fun w hw => e8 _ (Or.inr (Or.inr ⟨rfl, hw⟩))) (fun j x h => m j x (by omega)) m13 (n 3 (by omega)) (n 61 (by omega))
  · have h2 := cLst_r k () h
    unfold vL
    by_cases a : k = 1808
    · subst a; exact Or.inr (Or.inl rfl)
    · by_cases b : k = 1809
      · subst b; exact Or.inr (Or.inr (Or.inl rfl))
      · by_cases c : k = 1601
        · subst c; exact Or.inr (Or.inr (Or.inr (Or.inl rfl)))
        · by_cases c3 : k = 1603
          · subst c3; exact Or.inr (Or.inr (Or.inr (Or.inr rfl)))
          · exact Or.inl (Or.inl ⟨rfl, by show 1802 ≤ k; omega, by show k ≤ 1807; omega⟩)
theorem CV_EQ (V : am_CV q s) (E : am_EQ q q' s) : am_CV q' s := CV_EQs V E (fun _ _ _ => rfl) (fun _ _ => rfl) (CV_B V)
theorem EQ_r : am_EQ q q s := ⟨fun _ _ _ _ => rfl, fun _ _ _ => rfl, fun _ _ _ => rfl, fun _ _ => rfl, fun _ _ => rfl, fun _ => Nat.le_refl _, fun _ _ => rfl, fun _ _ => rfl, fun _ _ h => h⟩
/-- what the class doesn't know of may change -/
theorem CV_s (V : am_CV q s) (m : ∀ j x, usA j → rA s' j x = rA s j x) (n : ∀ j, usI j → rI s' j = rI s j) (B : in_S s') : am_CV q s' := CV_EQs V EQ_r m n B
theorem u2_ne {α : Type} {g : am_R → Nat → α} {r : am_R} {k : Nat} {v : α} {r' : am_R} {k' : Nat} (h : r'.1 ≠ r.1) : am_u2 g r k v r' k' = g r' k' := if_neg (fun z => h (by rw [z.1]))
theorem u2_nr {α : Type} {g : am_R → Nat → α} {r : am_R} {k : Nat} {v : α} {r' : am_R} {k' : Nat} (h : r' ≠ r) : am_u2 g r k v r' k' = g r' k' := if_neg (fun z => h z.1)
theorem uf_ne {α : Type} {g : Nat → am_R → α} {f : Nat} {r : am_R} {v : α} {f' : Nat} {r' : am_R} (h : f' ≠ f) : am_u2 g f r v f' r' = g f' r' := if_neg (fun z => h z.1)
theorem uf_nr {α : Type} {g : Nat → am_R → α} {f : Nat} {r : am_R} {v : α} {f' : Nat} {r' : am_R} (h : r' ≠ r) : am_u2 g f r v f' r' = g f' r' := if_neg (fun z => h z.2)
/-! scratch: the heap changes, the state doesn't -/
theorem EQ_FI {f : Nat} {r : am_R} {v : Int} (h : f = 106 ∨ ¬ vO q s r) : am_EQ q (uFI q f r v) s := by
  refine ⟨fun f' r' h1 h2 => ?_, fun _ _ _ => rfl, fun _ _ _ => rfl, fun _ _ => rfl, fun _ _ => rfl, fun _ => Nat.le_refl _, fun _ _ => rfl, fun _ _ => rfl, fun _ _ h => h⟩
  rcases h with h | h
  · exact uf_ne (by omega)
  · exact uf_nr (fun z => h (by rw [← z]; exact h1))
theorem EQ_FR {f : Nat} {r : am_R} {v : Option am_R} (h : ¬ (vO q s r ∨ r = (6, 0) ∧ f < 605)) : am_EQ q (uFR q f r v) s := by
  refine ⟨fun _ _ _ _ => rfl, fun f' r' h1 => ?_, fun _ _ _ => rfl, fun _ _ => rfl, fun _ _ => rfl, fun _ => Nat.le_refl _, fun _ _ => rfl, fun _ _ => rfl, fun _ _ h => h⟩
  exact if_neg (fun z => h (by rw [← z.1, ← z.2]; exact h1))
theorem EQ_AI {r : am_R} {k : Nat} {v : Int} (h : ¬ vA s r) : am_EQ q (uAI q r k v) s := ⟨fun _ _ _ _ => rfl, fun _ _ _ => rfl, fun r' k' h1 => u2_nr (fun z => h (by rw [← z]; exact h1)), fun _ _ => rfl, fun _ _ => rfl, fun _ => Nat.le_refl _, fun _ _ => rfl, fun _ _ => rfl, fun _ _ h => h⟩
theorem EQ_AR {r : am_R} {k : Nat} {v : Option am_R} (h : r.1 ≠ 1408) : am_EQ q (uAR q r k v) s := ⟨fun _ _ _ _ => rfl, fun _ _ _ => rfl, fun _ _ _ => rfl, fun i k' => u2_ne (Ne.symm h), fun _ _ => rfl, fun _ => Nat.le_refl _, fun _ _ => rfl, fun _ _ => rfl, fun _ _ h => h⟩
theorem EQ_LS {r : am_R} {xs : List am_R} (h : ¬ vL s r) : am_EQ q (uLS q r xs) s := ⟨fun _ _ _ _ => rfl, fun _ _ _ => rfl, fun _ _ _ => rfl, fun _ _ => rfl, fun _ _ => rfl, fun _ => Nat.le_refl _, fun _ _ => rfl, fun r' h1 => if_neg (fun z => h (by rw [← z]; exact h1)), fun _ _ h => h⟩
theorem EQ_LG {r : am_R} {xs : List am_R} {c : Nat} (h : ¬ vL s r) (hc : c ≤ 60) : am_EQ q (uLG q r xs c) s := ⟨fun _ _ _ _ => rfl, fun _ _ _ => rfl, fun _ _ _ => rfl, fun _ _ => rfl, fun _ _ => rfl, fun _ => Nat.le_refl _, fun _ _ => rfl, fun r' h1 => if_neg (fun z => h (by rw [← z]; exact h1)), fun r' _ h1 => by
  show (if r' = r then c else qCP q r') ≤ 60
  split
  · exact hc
  · exact h1⟩
theorem EQ_Add {r v : am_R} (h : ¬ vL s r) (hl : (qLS q r).length ≤ 40) (hc : qCP q r ≤ 60) : am_EQ q (qAdd q r v) s := by
  unfold qAdd
  split
  · exact EQ_LS h
  · exact EQ_LG h (by split <;> omega)
/-- the kinds of which more may be than the state knows of -/
abbrev kNO (t : Nat) : Prop := t = 0 ∨ t = 1 ∨ t = 5 ∨ t = 7 ∨ t = 13 ∨ t = 14 ∨ t = 15
theorem cn_le {t t' : Nat} : qCN q t' ≤ am_u1 (qCN q) t (qCN q t + 1) t' := by
  unfold am_u1
  split
  · rename_i h; rw [h]; exact Nat.le_succ _
  · exact Nat.le_refl _
theorem CV_n0 (V : am_CV q s) : rI s 44 ≤ (qCN q 0 : Int) ∧ rI s 44 ≤ (qCN q 1003 : Int) ∧ rI s 44 ≤ (qCN q 1004 : Int) ∧ rI s 44 ≤ (qCN q 1005 : Int) ∧ rI s 61 ≤ (qCN q 7 : Int) ∧ rI s 61 ≤ (qCN q 1702 : Int) := by
  have a := V.2.2.2.2.2.2.1.2.1
  have b := V.2.2.2.2.2.2.2.1.2.1
  omega
theorem EQ_NO (V : am_CV q s) {t n : Nat} (h : kNO t) : am_EQ q (uNO q t n) s := by
  have hn := CV_n0 V
  have hv : ∀ r, vO q s r ∨ r.1 = 6 → r ≠ (t, qCN q t) := fun r hr z => by
    subst z
    unfold vO at hr
    simp only [Prod.mk.injEq] at hr
    rcases h with rfl | rfl | rfl | rfl | rfl | rfl | rfl <;> omega
  exact ⟨fun f r h1 _ => if_neg (hv r (Or.inl h1)), fun f r h1 => if_neg (hv r (h1.imp id (fun z => by rw [z.1]))), fun _ _ _ => rfl, fun _ _ => rfl, fun _ _ => rfl, fun _ => cn_le, fun t' h1 => if_neg (by omega), fun _ _ => rfl, fun _ _ h => h⟩
theorem EQ_NA (V : am_CV q s) {t n : Nat} (h : t = 1004 ∨ t = 1005) : am_EQ q (uNA q t n) s := by
  have hn := CV_n0 V
  have hv : ∀ r, (vA s r ∨ r.1 = 1408 ∨ (r.2 = 0 ∧ 1600 ≤ r.1 ∧ r.1 ≤ 1604)) → r ≠ (t, qCN q t) := fun r hr z => by
    subst z
    unfold vA at hr
    simp only at hr
    rcases h with rfl | rfl <;> omega
  exact ⟨fun _ _ _ _ => rfl, fun _ _ _ => rfl, fun r k h1 => congrFun (if_neg (hv r (Or.inl h1))) k, fun i k => congrFun (if_neg (hv (1408, i) (Or.inr (Or.inl rfl)))) k, fun r h1 => if_neg (hv r h1), fun _ => cn_le, fun t' h1 => if_neg (by omega), fun _ _ => rfl, fun _ _ h => h⟩
theorem EQ_NL (V : am_CV q s) {t : Nat} (h : t = 1003 ∨ t = 1702) : am_EQ q (uNL q t) s := by
  have hn := CV_n0 V
  have hv : ∀ r, vO q s r ∨ r.1 = 6 → r ≠ (t, qCN q t) := fun r hr z => by
    subst z
    unfold vO at hr
    simp only [Prod.mk.injEq] at hr
    rcases h with rfl | rfl <;> omega
  have hw : ∀ r, vL s r → r ≠ (t, qCN q t) := fun r hr z => by
    subst z
    unfold vL at hr
    simp only at hr
    rcases h with rfl | rfl <;> omega
  exact ⟨fun f r h1 _ => if_neg (hv r (Or.inl h1)), fun f r h1 => if_neg (hv r (h1.imp id (fun z => by rw [z.1]))), fun _ _ _ => rfl, fun _ _ => rfl, fun _ _ => rfl, fun _ => cn_le, fun t' h1 => if_neg (by omega), fun r h1 => if_neg (hw r h1), fun r _ h1 => by
    show (if r = (t, qCN q t) then 0 else qCP q r) ≤ 60
    split
    · exact Nat.zero_le _
    · exact h1⟩
end WR1
end

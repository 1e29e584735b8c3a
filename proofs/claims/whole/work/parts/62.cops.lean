noncomputable section
/-- an operation: with number k of its exception (0: none), answer v, and R behind it -/
def am_OK (k : Int) (kd : Int → Nat) (v : Option am_V) (q : am_A) (R : am_A → Prop) : am_O → am_A → Prop := fun o q' => (k = 0 → o = .inl v ∧ R q') ∧ (k ≠ 0 → o = .inr (kd k) ∧ q' = uNO q (kd k) 6)
def kd3 (k : Int) : Nat := if k = 1 then 13 else if k = 2 then 14 else 15
def kd2 (k : Int) : Nat := if k = 1 then 13 else 15
def kd1 (_ : Int) : Nat := 14
abbrev usA (j : Nat) : Prop := (1 ≤ j ∧ j ≤ 18) ∨ (21 ≤ j ∧ j ≤ 32) ∨ j = 34 ∨ (45 ≤ j ∧ j ≤ 66) ∨ j = 69 ∨ j = 70
abbrev usI (j : Nat) : Prop := j = 0 ∨ j = 3 ∨ j = 20 ∨ j = 33 ∨ j = 44 ∨ j = 61 ∨ j = 68
section WR1
variable {q : am_A} {s s' : am_Z}
theorem in_S_A (B : in_S s) {j : Nat} {i v : Int} (hv : ∀ lo hi, rRg j = some (lo, hi) → lo ≤ v ∧ v ≤ hi) (hl : rLg j = true → v % 100 ≤ 60) : in_S (wA s j i v) := by
  refine ⟨fun j' i' lo hi h => ?_, B.2.1, fun j' i' h => ?_⟩
  · rw [wA_A]
    split
    · rename_i hc; exact hv lo hi (by rw [← hc.1]; exact h)
    · exact B.1 j' i' lo hi h
  · rw [wA_A]
    split
    · rename_i hc; exact hl (by rw [← hc.1]; exact h)
    · exact B.2.2 j' i' h
theorem in_S_I (B : in_S s) {j : Nat} {v : Int} (hv : ∀ lo hi, rRi j = some (lo, hi) → lo ≤ v ∧ v ≤ hi) : in_S (wI s j v) := by
  refine ⟨B.1, fun j' lo hi h => ?_, B.2.2⟩
  rw [wI_I]
  split
  · rename_i hc; exact hv lo hi (by rw [← hc]; exact h)
  · exact B.2.1 j' lo hi h
/-- what the class doesn't know of may change -/
theorem CV_s (V : am_CV q s) (m : ∀ j x, usA j → rA s' j x = rA s j x) (n : ∀ j, usI j → rI s' j = rI s j) (B : in_S s') : am_CV q s' := by
  obtain ⟨v1, v2, v3, v4, v5, v6, v7, v8, v9, -⟩ := V
  have m13 : ∀ j x, (10 ≤ j ∧ j ≤ 13) → rA s' j x = rA s j x := fun j x h => m j x (by omega)
  refine ⟨v1, ⟨fun i a b => (v2.1 i a b).trans (m 1 _ (by omega)).symm, fun i a b => (v2.2.1 i a b).trans (m 2 _ (by omega)).symm, fun i a b => (v2.2.2.1 i a b).trans (m 69 _ (by omega)).symm, fun i a b => (v2.2.2.2.1 i a b).trans (m 70 _ (by omega)).symm, v2.2.2.2.2.1.trans (n 0 (by omega)).symm, v2.2.2.2.2.2.trans (n 68 (by omega)).symm⟩, ?_, ?_, ?_, ?_, ?_, ?_, v9, B⟩
  · exact CF_cg v3 rfl (fun _ _ => rfl) (fun _ _ _ _ => rfl) (fun _ _ _ _ => rfl) (fun _ => ⟨rfl, rfl⟩) (fun _ _ => rfl) (fun j x h => m j x (by omega)) (n 3 (by omega))
  · exact CL_cg v4 (fun _ _ => rfl) (Nat.le_refl _) (fun _ _ _ _ => ⟨rfl, rfl⟩) (fun j x h => m j x (by omega)) (n 3 (by omega))
  · exact CA_cg v5 rfl rfl (fun _ _ _ _ => rfl) (fun j x h => m j x (by omega)) (n 20 (by omega))
  · exact LL_cg v6 rfl (fun _ _ => rfl) (n 33 (by omega)) (fun k _ _ => m 34 _ (by omega)) m13 (n 3 (by omega))
  · exact CB_cg v7 rfl (fun _ _ => rfl) (fun _ _ => rfl) (Nat.le_refl _) (fun _ _ _ => ⟨rfl, rfl⟩) (fun _ => ⟨rfl, rfl⟩) (fun _ _ _ => ⟨rfl, fun _ => rfl⟩) (fun _ _ _ _ => ⟨rfl, rfl⟩) (fun j x h => m j x (by omega)) m13 (n 3 (by omega)) (n 44 (by omega))
  · exact CW_cg v8 rfl (fun _ _ => rfl) (fun _ _ => rfl) (fun _ _ _ _ => ⟨rfl, rfl⟩) (fun _ => rfl) (fun j x h => m j x (by omega)) m13 (n 3 (by omega)) (n 61 (by omega))
theorem u2_ne {α : Type} {g : am_R → Nat → α} {r : am_R} {k : Nat} {v : α} {r' : am_R} {k' : Nat} (h : r'.1 ≠ r.1) : am_u2 g r k v r' k' = g r' k' := if_neg (fun z => h (by rw [z.1]))
/-- a write into an array that is its kind's only one -/
theorem CV_tax (V : am_CV q s) {i v : Int} (hi : 0 ≤ i ∧ i < 6) (hv : 0 ≤ v ∧ v ≤ 500) : am_CV (uAI q (1801, 0) i.toNat v) (wA s 2 i v) := by
  obtain ⟨v1, v2, v3, v4, v5, v6, v7, v8, v9, B⟩ := V
  have mm : ∀ j x, j ≠ 2 → rA (wA s 2 i v) j x = rA s j x := fun j x h => if_neg (fun z => h z.1)
  have m13 : ∀ j x, (10 ≤ j ∧ j ≤ 13) → rA (wA s 2 i v) j x = rA s j x := fun j x h => mm j x (by omega)
  have ka : ∀ (r : am_R) k, r.1 ≠ 1801 → qAI (uAI q (1801, 0) i.toNat v) r k = qAI q r k := fun r k h => u2_ne h
  refine ⟨v1, ⟨fun x a b => (ka _ _ (by simp)).trans ((v2.1 x a b).trans (mm 1 _ (by omega)).symm), fun x a b => ?_, fun x a b => (ka _ _ (by simp)).trans ((v2.2.2.1 x a b).trans (mm 69 _ (by omega)).symm), fun x a b => (ka _ _ (by simp)).trans ((v2.2.2.2.1 x a b).trans (mm 70 _ (by omega)).symm), v2.2.2.2.2.1, v2.2.2.2.2.2⟩, ?_, ?_, ?_, ?_, ?_, ?_, v9, ?_⟩
  · show am_u2 (qAI q) (1801, 0) i.toNat v (1801, 0) x.toNat = if 2 = 2 ∧ x = i then v else rA s 2 x
    unfold am_u2
    by_cases h : x = i
    · rw [if_pos ⟨rfl, by rw [h]⟩, if_pos ⟨rfl, h⟩]
    · rw [if_neg (fun z => h (by have := z.2; omega)), if_neg (fun z => h z.2)]
      exact v2.2.1 x a b
  · exact CF_cg v3 rfl (fun _ _ => rfl) (fun _ _ _ _ => rfl) (fun _ _ _ _ => rfl) (fun _ => ⟨rfl, rfl⟩) (fun _ _ => ka _ _ (by simp)) (fun j x h => mm j x (by omega)) rfl
  · exact CL_cg v4 (fun _ _ => rfl) (Nat.le_refl _) (fun _ _ _ _ => ⟨rfl, rfl⟩) (fun j x h => mm j x (by omega)) rfl
  · exact CA_cg v5 rfl rfl (fun _ _ _ _ => rfl) (fun j x h => mm j x (by omega)) rfl
  · exact LL_cg v6 rfl (fun _ _ => rfl) rfl (fun k _ _ => mm 34 _ (by omega)) m13 rfl
  · exact CB_cg v7 rfl (fun _ _ => rfl) (fun _ _ => rfl) (Nat.le_refl _) (fun _ _ _ => ⟨rfl, rfl⟩) (fun _ => ⟨rfl, rfl⟩) (fun t b ht => ⟨rfl, fun _ => ka _ _ (by show t ≠ 1801; omega)⟩) (fun _ _ _ _ => ⟨rfl, rfl⟩) (fun j x h => mm j x (by omega)) m13 rfl rfl
  · exact CW_cg v8 rfl (fun _ _ => rfl) (fun _ _ => rfl) (fun _ _ _ _ => ⟨rfl, rfl⟩) (fun _ => rfl) (fun j x h => mm j x (by omega)) m13 rfl rfl
  · exact in_S_A B (fun lo hi h => by cases h; exact hv) (fun h => by cases h)
end WR1
theorem cs_setTax {d : Nat} {q : am_A} {s : am_Z} (V : am_CV q s) {i v : Int} (hi : in32 i) (hv : in32 v) : am_C2 (d + 2) m_X_setTax [aR 8 0, aI (zI i), aI (zI v)] q (am_OK (kSetTax s i v) kd3 (some (aI (zI (rA s 2 i)))) q (fun q2 => q2 = uAI q (1801, 0) i.toNat v)) := by
  refine am_C2_i (ls := [some (aR 8 0), some (aI (zI i)), some (aI (zI v)), none]) rfl ?_
  refine ar_iload_n rfl rfl ?_
  refine ar_bipush (x := 6) rfl rfl ?_
  refine ar_cs2 rfl rfl (Nat.le_of_ble_eq_true rfl) (cs_needIndex (d := 0) (by omega) (by omega)) (by omega) (fun o q3 hq => am_B2_T rfl (fun h3 => ?_) (fun h3 => ?_) hq)
  · refine ar_iload_n rfl rfl ?_
    refine ar_iconst rfl ?_
    refine ar_sipush (x := 500) rfl rfl ?_
    refine ar_cs3 rfl rfl (Nat.le_of_ble_eq_true rfl) (cs_needRange (d := 0) (by omega) (by omega) (by omega)) (by omega) (fun o q11 hq => am_B2_T rfl (fun h11 => ?_) (fun h11 => ?_) hq)
    · refine ar_aload_n rfl rfl ?_
      refine ar_gfR rfl rfl rfl (by omega) (V.1.1 801 _ rfl) ?_
      refine ar_iload_n rfl rfl ?_
      refine ar_ia rfl rfl (V.1.2.2.1 1801 6 rfl) (by omega) (by omega) ?_
      rw [V.2.1.2.1 i (by omega) (by omega)]
      refine ar_stI3 rfl ?_
      refine ar_aload_n rfl rfl ?_
      refine ar_gfR rfl rfl rfl (by omega) (V.1.1 801 _ rfl) ?_
      refine ar_iload_n rfl rfl ?_
      refine ar_iload_n rfl rfl ?_
      refine ar_ias rfl ⟨rfl, by omega⟩ (V.1.2.2.1 1801 6 rfl) (by omega) (by omega) ?_
      refine ar_iload_n rfl rfl ?_
      exact ar_iret rfl (Or.inl rfl) (⟨fun _ => ⟨rfl, rfl⟩, fun z => absurd (by unfold kSetTax; omega) z⟩)
    · exact ⟨fun z => absurd z (by unfold kSetTax; omega), fun _ => by { rw [show kSetTax s i v = 2 by { unfold kSetTax; omega }]; exact ⟨rfl, rfl⟩ }⟩
  · exact ⟨fun z => absurd z (by unfold kSetTax; omega), fun _ => by { rw [show kSetTax s i v = 1 by { unfold kSetTax; omega }]; exact ⟨rfl, rfl⟩ }⟩
end

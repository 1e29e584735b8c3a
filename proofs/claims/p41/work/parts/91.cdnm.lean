noncomputable section
/-- what is checked is ticketed -/
def am_CK (s : am_Z) : Prop := ∀ b k : Nat, (b : Int) < rI s 44 → (k : Int) < rA s 52 b → rA s 55 (10 * b + k) = 1 → rA s 47 b = 1
/-- no points are missing -/
def am_PN (s : am_Z) : Prop := ∀ i : Int, 0 ≤ i → i ≤ 4 → 0 ≤ rA s 69 i ∧ rA s 69 i ≤ 1000000
theorem cf_w {s : am_Z} {b l : Int} (h : cfS s b l ≠ -1) : rA s 47 b = 1 ∧ (0 ≤ cfS s b l ∧ cfS s b l < rA s 52 b) ∧ mtC s b l (cfS s b l) := by
  unfold cfS at h ⊢
  by_cases h1 : rA s 47 b = 1
  · rw [if_pos h1] at h ⊢
    have h2 := cfN_ne h
    have h3 := cfN_b s b l (rA s 52 b).toNat
    exact ⟨h1, ⟨h2.1, by omega⟩, h2.2⟩
  · rw [if_neg h1] at h
    exact absurd rfl h
theorem ch_cf {s : am_Z} (B : in_S s) (hU : am_UQ s) (hK : am_CK s) {b : Nat} {l : Int} (hb : (b : Int) < rI s 44) : (cfS s b l ≠ -1 ↔ chP s b l) ∧ (cfS s b l ≠ -1 → pfS s b l = cfS s b l) := by
  have b52 := B.1 52 b 0 10 rfl
  have hp := pfR_b s b l 12 0 (by omega)
  have epf : pfS s b l = pfR s b l 12 0 := rfl
  have key : cfS s b l ≠ -1 → pfS s b l = cfS s b l := by
    intro h
    obtain ⟨h1, h2, h3⟩ := cf_w h
    have hne : pfR s b l 12 0 ≠ -1 := pfR_ex 12 0 (cfS s b l) (by omega) h2.1 h2.2 (by omega) ⟨h3.1, Or.inr h3.2⟩
    rcases hp with hp | ⟨h4, h5, h6⟩
    · exact absurd hp hne
    · rw [epf]
      have h55 : rA s 55 (10 * (b : Int) + pfR s b l 12 0) ≤ 3 := by rcases h6.2 with z | z <;> omega
      have h56 : rA s 55 (10 * (b : Int) + cfS s b l) ≤ 3 := by have := h3.2; omega
      rcases Int.lt_trichotomy (pfR s b l 12 0) (cfS s b l) with z | z | z
      · exact absurd (h6.1.trans h3.1.symm) (hU b (by omega) hb _ _ h4 z h2.2 h55 h56)
      · exact z
      · exact absurd (h3.1.trans h6.1.symm) (hU b (by omega) hb _ _ h2.1 z h5 h56 h55)
  refine ⟨⟨fun h => ?_, fun h => ?_⟩, key⟩
  · obtain ⟨h1, h2, h3⟩ := cf_w h
    have e := key h
    refine ⟨by omega, ?_⟩
    rw [e]
    exact h3.2
  · rcases hp with hp | ⟨h4, h5, h6⟩
    · exact absurd hp h.1
    · have h7 := h.2
      rw [epf] at h7
      have ek : (((pfR s b l 12 0).toNat : Nat) : Int) = pfR s b l 12 0 := by omega
      have h47 := hK b (pfR s b l 12 0).toNat hb (by omega) (by rw [ek]; exact h7)
      unfold cfS
      rw [if_pos h47]
      exact cfN_ex (k := (pfR s b l 12 0).toNat) (by omega) (by rw [ek]; exact ⟨h6.1, h7⟩)
/-- who comes first when somebody has to be denied -/
def bfr (s : am_Z) (i c : Nat) : Prop := (rA s 51 i ≠ 0 ∧ rA s 51 c = 0) ∨ (rA s 51 i = rA s 51 c ∧ (tierS s (rA s 46 i) < tierS s (rA s 46 c) ∨ (tierS s (rA s 46 i) = tierS s (rA s 46 c) ∧ c < i)))
theorem ndN_is {s : am_Z} {l : Int} {i : Nat} (hc : cfS s i l ≠ -1) (h0 : rA s 67 i = 0) : ∀ n : Nat, (∀ c : Nat, c < n → c ≠ i → cfS s c l ≠ -1 → rA s 67 c = 0 → bfr s i c) → i < n → ndN s l n = i := by
  intro n
  induction n with
  | zero => intro _ h; omega
  | succ n ih =>
    intro hb hi
    have hbd := ndN_b s l n
    by_cases e : i = n
    · subst e
      simp only [ndN]
      rw [if_pos]
      refine ⟨hc, h0, ?_⟩
      by_cases hz : ndN s l i = -1
      · exact Or.inl (Or.inl hz)
      · have hw := ndN_w hz
        have ef : (((ndN s l i).toNat : Nat) : Int) = ndN s l i := by omega
        have h1 := hb (ndN s l i).toNat (by omega) (by omega) (by rw [ef]; exact hw.1) (by rw [ef]; exact hw.2)
        unfold bfr at h1
        rw [ef] at h1
        rcases h1 with h1 | ⟨h1, h2⟩
        · exact Or.inl (Or.inr h1)
        · exact Or.inr ⟨hz, h1, by omega⟩
    · have ii := ih (fun c h1 => hb c (by omega)) (by omega)
      simp only [ndN]
      rw [ii]
      rw [if_neg]
      rintro ⟨h1, h2, h3⟩
      have h4 := hb n (by omega) (fun z => e z.symm) h1 h2
      unfold bfr at h4
      rcases h3 with (h3 | h3) | h3
      · omega
      · have h5 := h3.1
        have h6 := h3.2
        omega
      · have h5 := h3.2.1
        have h6 := h3.2.2
        omega
/-- what has come before turn t, tier r and booking i -/
def befP (s : am_Z) (t r i : Int) (c : Nat) : Prop := 1 - rA s 51 c < t ∨ (1 - rA s 51 c = t ∧ (tierS s (rA s 46 c) < r ∨ (tierS s (rA s 46 c) = r ∧ i < c)))
def am_MK (s : am_Z) (l t r i : Int) : Prop := ∀ c : Nat, (c : Int) < rI s 44 → cfS s c l ≠ -1 → (rA s 67 c ≠ 0 ↔ befP s t r i c)
theorem tier_b {s : am_Z} (B : in_S s) (P : am_PN s) (b : Nat) : 0 ≤ tierS s (rA s 46 b) ∧ tierS s (rA s 46 b) ≤ 3 := by
  have h46 := B.1 46 b (-1) 4 rfl
  unfold tierS
  split
  · omega
  · have h := P (rA s 46 b) (by omega) (by omega)
    have e : 0 ≤ iDiv (rA s 69 (rA s 46 b)) 500 := by
      unfold iDiv
      rw [zI_divn ⟨h.1, by omega⟩ (by omega), zI_toInt (by unfold in32; omega)]
      omega
    omega
theorem tier_s {s s' : am_Z} (h : ∀ x, rA s' 69 x = rA s 69 x) (v : Int) : tierS s' v = tierS s v := by
  unfold tierS
  rw [h]
section MKS
variable {s : am_Z} {l t r i : Int}
theorem MK_no (M : am_MK s l t r i) (h : ∀ c : Nat, (c : Int) = i → ¬ (cfS s c l ≠ -1 ∧ rA s 51 c = 1 - t ∧ tierS s (rA s 46 c) = r)) : am_MK s l t r (i - 1) := fun c h1 h2 => by
  have m := M c h1 h2
  have z : (c : Int) = i → ¬ (rA s 51 c = 1 - t ∧ tierS s (rA s 46 c) = r) := fun y x => h c y ⟨h2, x⟩
  rw [m]
  unfold befP
  omega
theorem MK_tier (M : am_MK s l t r (-1)) : am_MK s l t (r + 1) (rI s 44 - 1) := fun c h1 h2 => by
  rw [M c h1 h2]
  unfold befP
  omega
theorem MK_turn (B : in_S s) (P : am_PN s) (M : am_MK s l t 4 (rI s 44 - 1)) : am_MK s l (t + 1) 0 (rI s 44 - 1) := fun c h1 h2 => by
  have b := tier_b B P c
  rw [M c h1 h2]
  unfold befP
  omega
theorem MK_0 (B : in_S s) (P : am_PN s) (h : ∀ c : Nat, (c : Int) < rI s 44 → rA s 67 c = 0) : am_MK s l 0 0 (rI s 44 - 1) := fun c h1 h2 => by
  have b := tier_b B P c
  have b51 := B.1 51 c 0 1 rfl
  have h0 := h c h1
  unfold befP
  omega
theorem MK_i (B : in_S s) {k : Nat} (hk : (k : Int) < rI s 44) (ht : t = 0 ∨ t = 1) (hc : cfS s k l ≠ -1) (h1 : rA s 51 k = 1 - t) (h2 : tierS s (rA s 46 k) = r) (M : am_MK s l t r k) : rA s 67 k = 0 ∧ ndN s l (rI s 44).toNat = k := by
  have h0 : rA s 67 k = 0 := Classical.byContradiction (fun z => by
    have m := (M k hk hc).mp z
    unfold befP at m
    omega)
  refine ⟨h0, ndN_is hc h0 _ (fun c c1 c2 c3 c4 => ?_) (by omega)⟩
  have m : ¬ befP s t r k c := fun z => (M c (by omega) c3).mpr z c4
  have b51 := B.1 51 c 0 1 rfl
  have d51 := B.1 51 k 0 1 rfl
  unfold befP at m
  unfold bfr
  omega
theorem dn_t {d n v : Int} : tierS (dnS s d n) v = tierS s v := tier_s (fun x => dn_A s d n (by omega) (by omega) x) v
theorem MK_yes {k : Nat} {n : Int} (h1 : rA s 51 k = 1 - t) (h2 : tierS s (rA s 46 k) = r) (M : am_MK s l t r k) : am_MK (dnS s k n) l t r (k - 1) := fun c c1 c2 => by
  rw [dn_cf] at c2
  rw [dn_I s _ _ (by omega)] at c1
  have m := M c c1 c2
  rw [dn_67]
  unfold befP at m ⊢
  rw [dn_A s _ _ (by omega) (by omega), dn_A s _ _ (by omega) (by omega), dn_t]
  by_cases e : (c : Int) = k
  · rw [if_pos e, e]
    omega
  · rw [if_neg e]
    omega
end MKS
/-- the class has gone as far as the reference -/
def am_DS (l : Int) (s0 s1 : am_Z) (a0 a n : Int) : Prop := gdS l ((rI s0 44).toNat + 1) s0 a0 0 = gdS l (cntD s1 (rI s0 44).toNat + 1) s1 a n ∧ (0 ≤ n ∧ n + cntD s1 (rI s0 44).toNat = rI s0 44) ∧ a = sumI 0 (rI s0 44).toNat (fLv s1 l) ∧ am_HO s1 l (rI s0 44) n ∧ ((∀ j i, j ≠ 67 → j ≠ 71 → rA s1 j i = rA s0 j i) ∧ ∀ j, j ≠ 68 → rI s1 j = rI s0 j) ∧ ∀ b : Nat, (b : Int) < rI s0 44 → rA s1 67 b ≠ 0 → cfS s1 b l ≠ -1
section DSS
variable {l : Int} {s0 s1 : am_Z} {a0 a n : Int}
theorem DS_end (D : am_DS l s0 s1 a0 a n) (h : a ≤ rA s0 9 (l / 100)) : gdS l ((rI s0 44).toNat + 1) s0 a0 0 = (s1, n) := by
  rw [D.1, gdS, if_neg]
  rw [D.2.2.2.2.1.1 9 _ (by omega) (by omega)]
  omega
theorem DS_step (D : am_DS l s0 s1 a0 a n) {k : Nat} (hk : (k : Int) < rI s0 44) (hc : cfS s1 k l ≠ -1) (h0 : rA s1 67 k = 0) (hn : ndN s1 l (rI s1 44).toNat = k) (h : rA s0 9 (l / 100) < a) : am_DS l s0 (dnS s1 k n) a0 (a - rA s1 45 k) (n + 1) := by
  obtain ⟨d1, d2, d3, d4, d5, d6⟩ := D
  have e44 : rI s1 44 = rI s0 44 := d5.2 44 (by omega)
  have hupd : sumI 0 (rI s0 44).toNat (fLv (dnS s1 k n) l) = sumI 0 (rI s0 44).toNat (fLv s1 l) - rA s1 45 k := by
    rw [sumI_upd (f := fLv s1 l) (g := fLv (dnS s1 k n) l) (i0 := (k : Int)) (by omega) (fun i hi => by { unfold fLv; rw [dn_67, if_neg hi, dn_cf, dn_A s1 _ _ (by omega) (by omega) i] })]
    have y1 : fLv s1 l (k : Int) = rA s1 45 (k : Int) := by unfold fLv; rw [if_pos h0, if_pos hc]
    have y2 : fLv (dnS s1 k n) l (k : Int) = 0 := by unfold fLv; rw [dn_67, if_pos rfl, if_neg (by omega)]
    rw [y1, y2]; omega
  have hcnt : cntD (dnS s1 k n) (rI s0 44).toNat + 1 = cntD s1 (rI s0 44).toNat := by
    have e := sumI_upd (a := 0) (n := (rI s0 44).toNat) (f := fDone s1) (g := fDone (dnS s1 k n)) (i0 := (k : Int)) (by omega) (fun i hi => by { unfold fDone; rw [dn_67, if_neg hi] })
    have e1 : fDone s1 (k : Int) = 1 := if_pos h0
    have e2 : fDone (dnS s1 k n) (k : Int) = 0 := by unfold fDone; rw [dn_67, if_pos rfl]; rfl
    have hb := sumI_b (a := 0) (n := (rI s0 44).toNat) (f := fDone (dnS s1 k n)) (M := 1) (fun i => by { unfold fDone; split <;> omega })
    unfold cntD
    omega
  refine ⟨?_, ⟨by omega, by omega⟩, by rw [hupd]; omega, HO_s d4 d2.1 ⟨by omega, hk⟩ h0 hc, ⟨fun j i j1 j2 => (dn_A s1 _ _ j1 j2 i).trans (d5.1 j i j1 j2), fun j j1 => (dn_I s1 _ _ j1).trans (d5.2 j j1)⟩, fun b hb z => ?_⟩
  · rw [d1, gdS, if_pos (by rw [d5.1 9 _ (by omega) (by omega)]; exact h), hn, hcnt]
  · rw [dn_cf]
    rw [dn_67] at z
    by_cases e : (b : Int) = k
    · rw [e]; exact hc
    · rw [if_neg e] at z
      exact d6 b hb z
theorem DS_all (D : am_DS l s0 s1 a0 a n) (B : in_S s1) (M : am_MK s1 l 2 0 (rI s1 44 - 1)) : a = 0 := by
  obtain ⟨d1, d2, d3, d4, d5, d6⟩ := D
  have e44 : rI s1 44 = rI s0 44 := d5.2 44 (by omega)
  rw [d3]
  refine sumI_zero _ (fun t h1 h2 => ?_)
  unfold fLv
  by_cases h67 : rA s1 67 t = 0
  · rw [if_pos h67, if_neg]
    intro hc
    have et : ((t.toNat : Nat) : Int) = t := by omega
    have b51 := B.1 51 t 0 1 rfl
    have m := (M t.toNat (by omega) (by rw [et]; exact hc)).mpr (Or.inl (by rw [et]; omega))
    rw [et] at m
    exact m h67
  · exact if_neg h67
theorem DS_0 (h0 : ∀ i : Int, 0 ≤ i → i < rI s0 44 → rA s0 67 i = 0) (b44 : 0 ≤ rI s0 44) : am_DS l s0 s0 (sumI 0 (rI s0 44).toNat (fLv s0 l)) (sumI 0 (rI s0 44).toNat (fLv s0 l)) 0 := by
  have hc0 : cntD s0 (rI s0 44).toNat = (rI s0 44).toNat := cntD_all (fun i h1 h2 => h0 i h1 (by omega))
  refine ⟨by rw [hc0], ⟨by omega, by rw [hc0]; omega⟩, rfl, ⟨fun i h1 h2 => by omega, fun i j h1 h2 h3 => by omega⟩, ⟨fun _ _ _ _ => rfl, fun _ _ => rfl⟩, fun b hb z => absurd (h0 b (by omega) hb) z⟩
end DSS
end

noncomputable section
theorem wRem_ok {s : am_Z} {n : Int} (hA : 0 ≤ rI s 20 ∧ rI s 20 ≤ 16) {sub : Int → am_wP → List am_wP} (hsub : ∀ p w, okP w → pLen w = p → ∀ x ∈ sub p w, okP x ∧ pLen x = rI s 35) : ∀ (k : Nat) (p : Int) (w : am_wP) (c f : Int), okP w → pLen w = p → 1 ≤ c → -1 ≤ f → f ≤ rI s 20 - 1 → ∀ x ∈ wRem s n sub k p w c f, okP x ∧ pLen x = rI s 35 := by
  intro k
  induction k with
  | zero => intro p w c f _ _ _ _ _ x hx; simp [wRem] at hx
  | succ k ih =>
    intro p w c f hw hp hc hf hf2 x hx
    have hnx := nx_c s c f
    rw [wRem] at hx
    by_cases h1 : rI s 35 < p + nxC s c f ∨ rI s 20 = 0
    · rw [if_pos h1] at hx; cases hx
    · rw [if_neg h1] at hx
      have ho : okP (w ++ [(nxF s f, nxC s c f)]) := okP_app hw ⟨by dsimp only; omega, by dsimp only; omega⟩
      have hl : pLen (w ++ [(nxF s f, nxC s c f)]) = p + nxC s c f := by rw [pLen_app, hp]
      rcases List.mem_append.mp hx with h2 | h2
      · unfold wNode at h2
        by_cases h3 : canH s p (nxC s c f) (nxF s f) n ≠ 0
        · rw [if_pos h3] at h2
          by_cases h4 : p + nxC s c f = rI s 35
          · rw [if_pos h4] at h2
            rw [List.mem_singleton.mp h2]
            exact ⟨ho, hl.trans h4⟩
          · rw [if_neg h4] at h2
            exact hsub _ _ ho hl x h2
        · rw [if_neg h3] at h2; cases h2
      · exact ih p w _ _ hw hp (by omega) (by omega) (by omega) x h2
theorem wSub_ok {s : am_Z} {n : Int} (hA : 0 ≤ rI s 20 ∧ rI s 20 ≤ 16) (D : Nat) : ∀ p w, okP w → pLen w = p → ∀ x ∈ wSub s n D p w, okP x ∧ pLen x = rI s 35 := by
  induction D with
  | zero => intro p w _ _ x hx; simp [wSub] at hx
  | succ D ih =>
    intro p w hw hp x hx
    rw [wSub] at hx
    exact wRem_ok hA ih 100 p w 1 (-1) hw hp (by omega) (by omega) (by omega) x hx
theorem tk_mem {s : am_Z} {P : am_wQ → Prop} (l : List am_wP) (W : am_wQ) (h0 : P W) (h : ∀ x ∈ l, P (pSum s x, x)) : P (l.foldl (tk s) W) := by
  induction l generalizing W with
  | nil => exact h0
  | cons x l ih =>
    refine ih (tk s W x) ?_ (fun y hy => h y (List.mem_cons_of_mem _ hy))
    unfold tk
    split
    · exact h x List.mem_cons_self
    · exact h0
theorem bestW_ok {s : am_Z} (B : in_S s) (n : Int) : (bestW s n).1 ≠ -1 → okP (bestW s n).2 ∧ pLen (bestW s n).2 = rI s 35 ∧ (bestW s n).1 = pSum s (bestW s n).2 := by
  have hA := B.2.1 20 0 16 rfl
  unfold bestW
  split
  · intro h; exact absurd rfl h
  · exact tk_mem (P := fun W => W.1 ≠ -1 → okP W.2 ∧ pLen W.2 = rI s 35 ∧ W.1 = pSum s W.2) _ _ (fun h => absurd rfl h) (fun x hx _ => by
      have := wSub_ok hA 4 0 [] (fun y hy => absurd hy (by simp)) rfl x hx
      exact ⟨this.1, this.2, rfl⟩)
theorem pLen_cat (a b : am_wP) : pLen (a ++ b) = pLen a + pLen b := by
  induction a with
  | nil => simp [pLen]
  | cons x a ih => simp only [List.cons_append, pLen, ih]; omega
theorem pLen_take {w : am_wP} {i : Nat} (hi : i ≤ w.length) : pLen (w.take i) = sumI 0 i (fun k => pC w k.toNat) := by
  induction i with
  | zero => rfl
  | succ i ih =>
    rw [List.take_succ_eq_append_getElem (by omega), pLen_app, ih (by omega), sumI_s]
    have e : pC w ((0 : Int) + i).toNat = (w[i]'(by omega)).2 := by
      rw [show ((0 : Int) + i).toNat = i by omega]
      unfold pC
      rw [List.getD_eq_getElem?_getD, List.getElem?_eq_getElem (by omega)]
      rfl
    rw [e]
theorem pLen_part {w : am_wP} (h : okP w) {i : Nat} (hi : i ≤ w.length) : 0 ≤ sumI 0 i (fun k => pC w k.toNat) ∧ sumI 0 i (fun k => pC w k.toNat) ≤ pLen w := by
  have h1 : pLen w = pLen (w.take i) + pLen (w.drop i) := by rw [← pLen_cat, List.take_append_drop]
  have h2 := pLen_b (w := w.take i) (fun x hx => h x (List.mem_of_mem_take hx))
  have h3 := pLen_b (w := w.drop i) (fun x hx => h x (List.mem_of_mem_drop hx))
  rw [pLen_take hi] at h1 h2
  omega
theorem wq_bk {s1 : am_Z} {W : am_wQ} {L : Int} (hW : am_WQ s1 W) (hok : okP W.2) (hL : pLen W.2 = L) (hL4 : L ≤ 4) :
    (∀ i, 0 ≤ i → i < rI s1 38 → (0 ≤ rA s1 40 i ∧ rA s1 40 i < 16) ∧ 1 ≤ rA s1 39 i) ∧ (∀ i : Nat, (i : Int) < rI s1 38 → 0 ≤ sumI 0 i (rA s1 39) ∧ sumI 0 i (rA s1 39) + rA s1 39 i ≤ L) := by
  have e38 := hW.2.1
  constructor
  · intro i h1 h2
    have h3 := hW.2.2.2 i.toNat (by omega)
    rw [show ((i.toNat : Nat) : Int) = i by omega] at h3
    have h4 := okP_F hok (i := i.toNat) (by omega)
    rw [h3.1, h3.2]
    exact h4
  · intro i h1
    have e : ∀ m : Nat, m ≤ W.2.length → sumI 0 m (rA s1 39) = sumI 0 m (fun k => pC W.2 k.toNat) := fun m hm => sumI_c (fun k h2 h3 => by
      have h4 := (hW.2.2.2 k.toNat (by omega)).2
      rw [show ((k.toNat : Nat) : Int) = k by omega] at h4
      exact h4)
    have h5 := pLen_part hok (i := i) (by omega)
    have h6 := pLen_part hok (i := i + 1) (by omega)
    rw [← e i (by omega)] at h5
    rw [← e (i + 1) (by omega), sumI_s, Int.zero_add] at h6
    omega
def kHold (s : am_Z) (n m h : Int) : Int := if ¬ (-1 ≤ m ∧ m ≤ 4) then 1 else if ¬ ((1 ≤ n ∧ n ≤ 9) ∧ 1 ≤ h ∧ h ≤ 72) then 2 else if (bestW (jrn s) n).1 = -1 ∨ rI s 44 = 40 then 3 else 0
theorem jrn_in {s : am_Z} (B : in_S s) : in_S (jrn s) := by
  refine ⟨fun j i lo hi h => ?_, fun j lo hi h => ?_, fun j i h => ?_⟩
  · show lo ≤ (if j = 36 ∧ 0 ≤ i ∧ i < 0 + _ then rA s 34 i else s.1 j i) ∧ (if j = 36 ∧ 0 ≤ i ∧ i < 0 + _ then rA s 34 i else s.1 j i) ≤ hi
    split
    · rename_i hc
      rw [hc.1] at h
      cases h
      exact B.1 34 i 0 1160 rfl
    · exact B.1 j i lo hi h
  · show lo ≤ (if j = 35 then rI s 33 else s.2 j) ∧ (if j = 35 then rI s 33 else s.2 j) ≤ hi
    split
    · rename_i hc
      rw [hc] at h
      cases h
      exact B.2.1 33 0 4 rfl
    · exact B.2.1 j lo hi h
  · show (if j = 36 ∧ 0 ≤ i ∧ i < 0 + _ then rA s 34 i else s.1 j i) % 100 ≤ 60
    split
    · exact B.2.2 34 i rfl
    · exact B.2.2 j i h
end


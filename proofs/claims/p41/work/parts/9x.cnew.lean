noncomputable section
/-- nothing is there yet -/
def am_E0 (s : am_Z) : Prop := (rI s 0 = 0 ∧ rI s 3 = 0 ∧ rI s 20 = 0 ∧ rI s 33 = 0 ∧ rI s 44 = 0 ∧ rI s 61 = 0 ∧ rI s 68 = 0) ∧ (∀ x, rA s 1 x = 0 ∧ rA s 2 x = 0 ∧ rA s 69 x = 0 ∧ rA s 70 x = 0) ∧ in_S s
def ixF : Nat → Bool := (fun x => ((((((((((((((((((((((false || Nat.beq x 800) || Nat.beq x 801) || Nat.beq x 802) || Nat.beq x 803) || Nat.beq x 804) || Nat.beq x 6) || Nat.beq x 600) || Nat.beq x 601) || Nat.beq x 602) || Nat.beq x 603) || Nat.beq x 604) || Nat.beq x 605) || Nat.beq x 606) || Nat.beq x 805) || Nat.beq x 806) || Nat.beq x 807) || Nat.beq x 808) || Nat.beq x 809) || Nat.beq x 2) || Nat.beq x 810) || Nat.beq x 811) || Nat.beq x 812))
theorem IX_CI {q0 q : am_A} {e l e' : Nat} {s : am_Z} (H : am_IX q0 q ixF e l) (Z : am_E0 s) (B0 : ∀ t, (t = 0 ∨ t = 1 ∨ t = 3 ∨ t = 4 ∨ t = 5 ∨ t = 7 ∨ t = 1003 ∨ t = 1004 ∨ t = 1005 ∨ t = 1407 ∨ t = 1408 ∨ t = 1702) → qCN q0 t = 0) (C0 : ∀ r : am_R, (r.1 = 1003 ∨ r.1 = 1702) → qCP q0 r = 0) (h1 : qCE q0 + e ≤ e') (h2 : qSL q0 + l ≤ 64 * e') : am_CI e' q s := by
  obtain ⟨a1, a2, a3, a4, a5, a6, a7, a8, a9, a10, a11, a12⟩ := H
  obtain ⟨⟨z0, z3, z20, z33, z44, z61, z68⟩, zA, B⟩ := Z
  have cn : ∀ t, (t = 0 ∨ t = 1 ∨ t = 3 ∨ t = 4 ∨ t = 5 ∨ t = 7 ∨ t = 1003 ∨ t = 1004 ∨ t = 1005 ∨ t = 1407 ∨ t = 1408 ∨ t = 1702) → qCN q t = 0 := fun t ht => by
    rw [a4 t (by omega) (by omega) (by omega) (fun z y => by
      have : t = 1702 := by omega
      subst this
      rfl)]
    exact B0 t ht
  have hcp : ∀ r : am_R, (r.1 = 1003 ∨ r.1 = 1702) → qCP q r = 0 := fun r hr => (a9 r hr).trans (C0 r hr)
  have tC : am_all cRef (fun f r => ixF f = true ∧ (600 ≤ f ∧ f < 900) ∧ (ixC f, 0) = ((8, 0) : am_R) ∧ some ((ixT f, 0) : am_R) = some r) := (am_nd_ok (am_nd_ok (am_nd_ok (am_lf_ok (by decide)) (am_nd_ok (am_lf_ok (by decide)) (am_lf_ok (by decide)))) (am_nd_ok (am_lf_ok (by decide)) (am_nd_ok (am_lf_ok (by decide)) (am_lf_ok (by decide))))) (am_nd_ok (am_nd_ok (am_lf_ok (by decide)) (am_nd_ok (am_lf_ok (by decide)) (am_lf_ok (by decide)))) (am_nd_ok (am_nd_ok (am_lf_ok (by decide)) (am_lf_ok (by decide))) (am_nd_ok (am_lf_ok (by decide)) (am_lf_ok (by decide))))))
  have tP : am_all pRef (fun f r => ixF f = true ∧ (600 ≤ f ∧ f < 900) ∧ (ixC f, 0) = ((6, 0) : am_R) ∧ some ((ixT f, 0) : am_R) = some r) := (am_nd_ok (am_nd_ok (am_lf_ok (by decide)) (am_lf_ok (by decide))) (am_nd_ok (am_lf_ok (by decide)) (am_nd_ok (am_lf_ok (by decide)) (am_lf_ok (by decide)))))
  have tL : am_all cLen (fun k _ => ixF (k - 1000) = true ∧ (1600 ≤ k ∧ k < 1900)) := (am_nd_ok (am_nd_ok (am_lf_ok (by decide)) (am_nd_ok (am_lf_ok (by decide)) (am_lf_ok (by decide)))) (am_nd_ok (am_nd_ok (am_lf_ok (by decide)) (am_lf_ok (by decide))) (am_nd_ok (am_lf_ok (by decide)) (am_lf_ok (by decide)))))
  have tS : am_all cLst (fun k _ => ixF (k - 1000) = true ∧ (1600 ≤ k ∧ k < 1900)) := (am_nd_ok (am_nd_ok (am_nd_ok (am_lf_ok (by decide)) (am_lf_ok (by decide))) (am_nd_ok (am_lf_ok (by decide)) (am_lf_ok (by decide)))) (am_nd_ok (am_nd_ok (am_lf_ok (by decide)) (am_lf_ok (by decide))) (am_nd_ok (am_lf_ok (by decide)) (am_nd_ok (am_lf_ok (by decide)) (am_lf_ok (by decide))))))
  have fS : ∀ k, cLst k = some () → qLS q (k, 0) = [] ∧ qCP q (k, 0) = 0 ∧ 0 < qCN q k := fun k hk => by
    have z := tS k () hk
    have y := a3 (k - 1000) z.1 (by omega) (by omega) (by rw [show 1000 + (k - 1000) = k by omega]; exact hk)
    rw [show 1000 + (k - 1000) = k by omega] at y
    exact y
  have fL : ∀ k c, cLen k = some c → qAL q (k, 0) = c ∧ ∀ i, qAI q (k, 0) i = 0 := fun k c hk => by
    have z := tL k c hk
    have y := a2 (k - 1000) c z.1 (by omega) (by omega) (by rw [show 1000 + (k - 1000) = k by omega]; exact hk)
    rw [show 1000 + (k - 1000) = k by omega] at y
    exact y
  refine ⟨⟨⟨fun f r h => ?_, fun f r h => ?_, fun k c h => (fL k c h).1, fun k h => (fS k h).2.2⟩, ⟨fun i _ _ => ((fL 1800 6 rfl).2 _).trans (zA i).1.symm, fun i _ _ => ((fL 1801 6 rfl).2 _).trans (zA i).2.1.symm, fun i _ _ => ((fL 1811 5 rfl).2 _).trans (zA i).2.2.1.symm, fun i _ _ => ((fL 1812 9 rfl).2 _).trans (zA i).2.2.2.symm, (a5 813).trans z0.symm, (a5 814).trans z68.symm⟩, ?_, ?_, ?_, ?_, ?_, ?_, fun k h => by rw [(fS k h).2.1]; omega, B⟩, ?_, ?_⟩
  · have z := tC f r h
    rw [← z.2.2.1]
    exact (a1 f z.1 z.2.1.1 z.2.1.2).trans z.2.2.2
  · have z := tP f r h
    rw [← z.2.2.1]
    exact (a1 f z.1 z.2.1.1 z.2.1.2).trans z.2.2.2
  · refine ⟨?_, ?_, fun i hi => by omega, fun i h1 h2 => by omega⟩
    · rw [(fS 1802 rfl).1, z3]
      rfl
    · rw [z3, cn 4 (by omega), cn 1407 (by omega), cn 1408 (by omega)]
      exact ⟨rfl, rfl, rfl⟩
  · exact ⟨fun l h => by have := h.2.1; have := h.1; omega, fun l h1 h2 => by omega⟩
  · refine ⟨?_, ?_, fun i hi => by omega⟩
    · rw [(fS 1803 rfl).1, z20]
      rfl
    · rw [z20, cn 3 (by omega)]
      rfl
  · refine ⟨?_, fun k hk => by omega⟩
    rw [(fS 1804 rfl).1, z33]
    rfl
  · refine ⟨?_, ?_, fun b hb => by omega, fun b k hb => by omega, fun b k b' k' hb => by omega⟩
    · rw [(fS 1806 rfl).1, z44]
      rfl
    · rw [z44]
      exact ⟨Nat.zero_le _, Nat.zero_le _, Nat.zero_le _, Nat.zero_le _⟩
  · refine ⟨?_, ?_, fun w hw => by omega⟩
    · rw [(fS 1807 rfl).1, z61]
      rfl
    · rw [z61]
      exact ⟨Nat.zero_le _, Nat.zero_le _⟩
  · refine ⟨?_, ?_, ?_, ?_, fun b hb => hcp _ (Or.inl rfl), fun w hw => hcp _ (Or.inr rfl), fun b => Or.inl (hcp _ (Or.inl rfl))⟩
    · rw [z44, cn 0 (by omega), cn 1003 (by omega), cn 1004 (by omega), cn 1005 (by omega)]
      exact ⟨rfl, rfl, rfl, rfl⟩
    · rw [z61, cn 7 (by omega), cn 1702 (by omega)]
      exact ⟨rfl, rfl⟩
    · rw [z44, cn 1 (by omega)]
      rfl
    · rw [z3, cn 5 (by omega)]
      show ((0 : Nat) : Int) ≤ 61 * 0
      omega
  · exact ⟨by omega, by omega⟩
theorem E0_s90 {k : Int} (hk : 0 ≤ k ∧ k ≤ 3) : am_E0 (wI s90 74 k) := by
  have h0 : ∀ j x, j ≠ 15 → rA (wI s90 74 k) j x = 0 := fun j x hj => by
    show (if j = 15 ∧ 0 ≤ x ∧ x < 0 + (12 : Int) then (-1 : Int) else 0) = 0
    rw [if_neg (fun z => hj z.1)]
  refine ⟨⟨rfl, rfl, rfl, rfl, rfl, rfl, rfl⟩, fun x => ⟨h0 1 x (by omega), h0 2 x (by omega), h0 69 x (by omega), h0 70 x (by omega)⟩, ?_⟩
  · refine in_S_I (s := s90) ⟨fun j i lo hi h => ?_, fun j lo hi h => s9z_in.2.1 j lo hi h, fun j i h => ?_⟩ (fun lo hi h => by cases h; omega)
    · show lo ≤ (if j = 15 ∧ 0 ≤ i ∧ i < 0 + (12 : Int) then (-1 : Int) else 0) ∧ (if j = 15 ∧ 0 ≤ i ∧ i < 0 + (12 : Int) then (-1 : Int) else 0) ≤ hi
      split
      · rename_i z
        rw [z.1] at h
        cases h
        omega
      · exact s9z_in.1 j i lo hi h
    · show (if j = 15 ∧ 0 ≤ i ∧ i < 0 + (12 : Int) then (-1 : Int) else 0) % 100 ≤ 60
      split
      · rename_i z
        rw [z.1] at h
        cases h
      · omega
end

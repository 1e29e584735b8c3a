noncomputable section
/-- pricing has begun: a journey of n legs f (a list of legs r), p persons; am is the best sum so far -/
def am_PB (q : am_A) (s : am_Z) (r : am_R) (n : Int) (f : Int → Int) (p am : Int) : Prop := (am_kc r.1 = some 10 ∧ r.1 ≠ 30 ∧ r.2 < qCN q r.1) ∧ (am_LL q s r n f ∧ 0 ≤ n ∧ n ≤ 4) ∧ (qFR q 605 (6, 0) = some (1803, 0) ∧ qFR q 606 (6, 0) = some r ∧ qFI q 607 (6, 0) = p ∧ qFI q 608 (6, 0) = rI s 0 ∧ qFI q 610 (6, 0) = am) ∧ (1 ≤ p ∧ p ≤ 9) ∧ (-1 ≤ am ∧ am ≤ 20000) ∧ ∀ i b : Int, 0 ≤ i → i < n → 0 ≤ b → b < 4 → qAI q (1600, 0) (4 * i + b).toNat = openS s (f i) b
abbrev chpP (am x : Int) : Prop := am = -1 ∨ x < am
theorem cs_isCheaper {d : Nat} {q : am_A} {s : am_Z} (V : am_CV q s) {t i : Nat} {n p am : Int} {f : Int → Int} (H : am_PB q s (t, i) n f p am) {x : Int} (bx : in32 x) : am_C2 d m_Pr_isCheaper [aR 6 0, aI (zI x)] q (am_is2 (aI (zI (if chpP am x then 1 else 0))) q) := by
  refine am_C2_i (ls := [some (aR 6 0), some (aI (zI x))]) rfl ?_
  obtain ⟨⟨hk, h30, hn⟩, ⟨L, n0, n4⟩, ⟨r605, r606, r607, r608, r610⟩, bp, bam, hop⟩ := H
  have B := CV_B V
  refine ar_aload_n rfl rfl ?_
  refine ar_gfIv rfl rfl rfl (by omega) (r610) ?_
  refine ar_iconst rfl ?_
  refine ar_icmp_eq rfl rfl (by omega) (by omega) (fun h5 => ?_) (fun h5 => ?_)
  · refine ar_iconst rfl ?_
    refine ar_goto rfl rfl ?_
    exact ar_iret rfl (Or.inr ⟨rfl, by first | omega | (split <;> omega)⟩) (cq_eB (by first | omega | (split <;> omega) | simp_all))
  · refine ar_iload_n rfl rfl ?_
    refine ar_aload_n rfl rfl ?_
    refine ar_gfIv rfl rfl rfl (by omega) (r610) ?_
    refine ar_icmp_ge rfl rfl (by omega) (by omega) (fun h13 => ?_) (fun h13 => ?_)
    · refine ar_iconst rfl ?_
      exact ar_iret rfl (Or.inr ⟨rfl, by first | omega | (split <;> omega)⟩) (cq_eB (by first | omega | (split <;> omega) | simp_all))
    · refine ar_iconst rfl ?_
      refine ar_goto rfl rfl ?_
      exact ar_iret rfl (Or.inr ⟨rfl, by first | omega | (split <;> omega)⟩) (cq_eB (by first | omega | (split <;> omega) | simp_all))
end

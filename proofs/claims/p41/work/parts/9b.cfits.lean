noncomputable section
abbrev tkQ (s : am_Z) (n : Int) (f : Int → Int) (p : Int) (fa : Nat) (k : Int) : Prop := k < n ∧ (rA s 21 fa = -1 ∨ rA s 4 (f k / 100) = rA s 21 fa) ∧ p ≤ openS s (f k) (rA s 24 fa)
abbrev nrQ (s : am_Z) (n : Int) (f : Int → Int) (k : Int) : Prop := (1 ≤ k ∧ k < n) ∧ dep s (f k) - arv s (f (k - 1)) < 24
abbrev enQ (s : am_Z) (n : Int) (f : Int → Int) (fa : Nat) (k : Int) : Prop := (1 ≤ k ∧ k ≤ n) ∧ rA s 23 fa = rA s 6 (f (k - 1) / 100)
def fitQ (s : am_Z) (n : Int) (f : Int → Int) (p : Int) (fa : Nat) (b c : Int) : Prop := bgP s fa (f b) (rI s 0) ∧ enQ s n f fa (b + c) ∧ ∀ k : Int, b ≤ k → k < b + c → tkQ s n f p fa k ∧ (k ≤ b ∨ nrQ s n f k)
theorem lp_fit {d : Nat} {q : am_A} {Q : am_O → am_A → Prop} {s : am_Z} (V : am_CV q s) {t i : Nat} {n p am : Int} {f : Int → Int} (H : am_PB q s (t, i) n f p am) {fa : Nat} (hfa : (fa : Int) < rI s 20) {b c : Int} (hb : 0 ≤ b ∧ b < n) (hc : 1 ≤ c ∧ b + c ≤ n) (KF : (∃ k : Int, b ≤ k ∧ k < b + c ∧ ¬ (tkQ s n f p fa k ∧ (k ≤ b ∨ nrQ s n f k))) → Q (.inl (some (aI (zI 0)))) q) (KT : (∀ k : Int, b ≤ k → k < b + c → tkQ s n f p fa k ∧ (k ≤ b ∨ nrQ s n f k)) → Q (.inl (some (aI (zI 1)))) q) : ∀ (m : Nat) (j : Int), (b + c + 1 - j).toNat < m → ((b ≤ j ∧ j ≤ b + c) ∧ ∀ k : Int, b ≤ k → k < j → tkQ s n f p fa k ∧ (k ≤ b ∨ nrQ s n f k)) → (True) → am_W2 (d + 5) m_Pr_fits 57 [some (aR 6 0), some (aR 3 fa), some (aI (zI b)), some (aI (zI c)), some (aI (zI j))] [] (q) Q := by
  intro m
  induction m with
  | zero => intro j hm; exact absurd hm (Nat.not_lt_zero _)
  | succ m ih =>
    intro j hm ⟨hj, hA⟩ K
    obtain ⟨n0, n4⟩ : 0 ≤ n ∧ n ≤ 4 := H.2.1.2
    refine ar_iload rfl rfl ?_
    refine ar_iload_n rfl rfl ?_
    refine ar_iload_n rfl rfl ?_
    refine ar_iadd rfl ?_
    refine ar_icmp_ge rfl rfl (by omega) (by omega) (fun h62 => ?_) (fun h62 => ?_)
    · refine ar_iconst rfl ?_
      exact ar_iret rfl (Or.inr ⟨rfl, by first | omega | (split <;> omega)⟩) (KT (fun k k1 k2 => hA k k1 (by omega)))
    · refine ar_aload_n rfl rfl ?_
      refine ar_aload_n rfl rfl ?_
      refine ar_iload rfl rfl ?_
      refine ar_cv2 rfl rfl rfl (Nat.le_of_ble_eq_true rfl) (cs_takes (d := 0) V H hfa (by omega)) (by omega) (fun o q69 hq => am_B2_is ?_ hq)
      refine ar_if_eqB rfl rfl (fun h72 => ?_) (fun h72 => ?_)
      · refine ar_iconst rfl ?_
        exact ar_iret rfl (Or.inr ⟨rfl, by first | omega | (split <;> omega)⟩) (KF ⟨j, by omega, by omega, by first | exact fun z => h72 z.1 | exact fun z => z.2.elim (fun y => by omega) h87⟩)
      · refine ar_iload rfl rfl ?_
        refine ar_iload_n rfl rfl ?_
        refine ar_icmp_le rfl rfl (by omega) (by omega) (fun h78 => ?_) (fun h78 => ?_)
        · refine ar_inc4 rfl ?_
          refine ar_goto rfl rfl ?_
          exact ih (j + 1) (by omega) ⟨by omega, fun k k1 k2 => by { by_cases e : k = j; rw [e]; exact ⟨h72, by first | exact Or.inl (by omega) | exact Or.inr h87⟩; exact hA k k1 (by omega) }⟩ K
        · refine ar_aload_n rfl rfl ?_
          refine ar_iload rfl rfl ?_
          refine ar_cv1 rfl rfl rfl (Nat.le_of_ble_eq_true rfl) (cs_isNear (d := 0) V H (by omega)) (by omega) (fun o q84 hq => am_B2_is ?_ hq)
          refine ar_if_neB rfl rfl (fun h87 => ?_) (fun h87 => ?_)
          · refine ar_inc4 rfl ?_
            refine ar_goto rfl rfl ?_
            exact ih (j + 1) (by omega) ⟨by omega, fun k k1 k2 => by { by_cases e : k = j; rw [e]; exact ⟨h72, by first | exact Or.inl (by omega) | exact Or.inr h87⟩; exact hA k k1 (by omega) }⟩ K
          · refine ar_iconst rfl ?_
            exact ar_iret rfl (Or.inr ⟨rfl, by first | omega | (split <;> omega)⟩) (KF ⟨j, by omega, by omega, by first | exact fun z => h72 z.1 | exact fun z => z.2.elim (fun y => by omega) h87⟩)
theorem cs_fits {d : Nat} {q : am_A} {s : am_Z} (V : am_CV q s) {t i : Nat} {n p am : Int} {f : Int → Int} (H : am_PB q s (t, i) n f p am) {fa : Nat} (hfa : (fa : Int) < rI s 20) {b c : Int} (hb : 0 ≤ b ∧ b < n) (hc : 1 ≤ c ∧ b + c ≤ n)  : am_C2 (d + 5) m_Pr_fits [aR 6 0, aR 3 fa, aI (zI b), aI (zI c)] q (fun o q' => q' = q ∧ ((fitQ s n f p fa b c ∧ o = .inl (some (aI (zI 1)))) ∨ (¬ fitQ s n f p fa b c ∧ o = .inl (some (aI (zI 0)))))) := by
  refine am_C2_i (ls := [some (aR 6 0), some (aR 3 fa), some (aI (zI b)), some (aI (zI c)), none]) rfl ?_
  have H' := H
  obtain ⟨⟨hk, h30, hn⟩, ⟨L, n0, n4⟩, ⟨r605, r606, r607, r608, r610⟩, bp, bam, hop, hr16⟩ := H'
  have B := CV_B V
  have b0 := B.2.1 0 0 60000 rfl
  have hL := (L.2 b.toNat (by omega)).2
  rw [show ((b.toNat : Nat) : Int) = b by omega] at hL
  refine ar_iload_n rfl rfl ?_
  refine ar_if_lt rfl rfl (by omega) (fun ht => by omega) (fun h1 => ?_)
  refine ar_iload_n rfl rfl ?_
  refine ar_aload_n rfl rfl ?_
  refine ar_gfR rfl rfl rfl (by omega) (r606) ?_
  refine ar_cv0 rfl hk rfl (Nat.le_of_ble_eq_true rfl) (cl_szL (d := 0) hk h30 hn L) (by omega) (fun o q9 hq => am_B2_is ?_ hq)
  refine ar_icmp_ge rfl rfl (by omega) (by omega) (fun ht => by omega) (fun h14 => ?_)
  refine ar_aload_n rfl rfl ?_
  refine ar_aload_n rfl rfl ?_
  refine ar_gfR rfl rfl rfl (by omega) (r606) ?_
  refine ar_iload_n rfl rfl ?_
  refine ar_cv1 rfl hk rfl (Nat.le_of_ble_eq_true rfl) (cl_getL (d := 0) hk h30 hn L hb) (by omega) (fun o q23 hq => am_B2_is ?_ hq)
  refine ar_cast rfl rfl rfl ?_
  refine ar_aload_n rfl rfl ?_
  refine ar_gfIv rfl rfl rfl (by omega) (r608) ?_
  refine ar_cv2 rfl rfl rfl (Nat.le_of_ble_eq_true rfl) (cs_beginsWith (d := 0) V (f := (fa : Int)) ⟨by omega, hfa⟩ hL b0) (by omega) (fun o q35 hq => am_B2_is ?_ hq)
  refine ar_if_eqB rfl rfl (fun h38 => ?_) (fun h38 => ?_)
  · refine ar_iconst rfl ?_
    exact ar_iret rfl (Or.inr ⟨rfl, by first | omega | (split <;> omega)⟩) (⟨rfl, Or.inr ⟨by first | exact fun z => h38 z.1 | exact fun z => h49 z.2.1, rfl⟩⟩)
  · refine ar_aload_n rfl rfl ?_
    refine ar_aload_n rfl rfl ?_
    refine ar_iload_n rfl rfl ?_
    refine ar_iload_n rfl rfl ?_
    refine ar_iadd rfl ?_
    refine ar_cv2 rfl rfl rfl (Nat.le_of_ble_eq_true rfl) (cs_endsAhead (d := 0) V H hfa (k := b + c) (by omega)) (by omega) (fun o q46 hq => am_B2_is ?_ hq)
    refine ar_if_neB rfl rfl (fun h49 => ?_) (fun h49 => ?_)
    · refine ar_iload_n rfl rfl ?_
      refine ar_stI4 rfl ?_
      exact lp_fit (d := d) (q := q) V H hfa hb hc (fun ⟨k, k1, k2, k3⟩ => ⟨rfl, Or.inr ⟨fun z => k3 (z.2.2 k k1 k2), rfl⟩⟩) (fun z => ⟨rfl, Or.inl ⟨⟨h38, h49, z⟩, rfl⟩⟩) ((b + c + 1 - b).toNat + 1) b (by omega) ⟨⟨by omega, by omega⟩, fun k k1 k2 => by omega⟩ trivial
    · refine ar_iconst rfl ?_
      exact ar_iret rfl (Or.inr ⟨rfl, by first | omega | (split <;> omega)⟩) (⟨rfl, Or.inr ⟨by first | exact fun z => h38 z.1 | exact fun z => h49 z.2.1, rfl⟩⟩)
end

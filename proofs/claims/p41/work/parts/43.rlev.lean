noncomputable section
theorem tkF_A (t : am_Z) (n : Nat) : (∀ j i, j ≠ 39 → j ≠ 40 → rA (itS tkF n t) j i = rA t j i) ∧ (∀ i : Nat, i < n → rA (itS tkF n t) 40 i = rA t 42 i ∧ rA (itS tkF n t) 39 i = rA t 41 i) := by
  induction n with
  | zero => exact ⟨fun _ _ _ _ => rfl, fun i hi => absurd hi (Nat.not_lt_zero i)⟩
  | succ n ih =>
    rw [itS_s]
    unfold tkF
    refine ⟨fun j i h1 h2 => ?_, fun i hi => ?_⟩
    · rw [wA_A, if_neg (fun z => h2 z.1), wA_A, if_neg (fun z => h1 z.1)]
      exact ih.1 j i h1 h2
    · by_cases hin : i = n
      · subst hin
        constructor
        · rw [wA_A, if_pos ⟨rfl, rfl⟩]
          exact ih.1 42 _ (by omega) (by omega)
        · rw [wA_A, if_neg (fun z => by cases z.1), wA_A, if_pos ⟨rfl, rfl⟩]
          exact ih.1 41 _ (by omega) (by omega)
      · have h3 := ih.2 i (by omega)
        constructor
        · rw [wA_A, if_neg (fun z => hin (by have := z.2; omega)), wA_A, if_neg (fun z => by cases z.1)]
          exact h3.1
        · rw [wA_A, if_neg (fun z => by cases z.1), wA_A, if_neg (fun z => hin (by have := z.2; omega))]
          exact h3.2
theorem takeS_Q {s s1 : am_Z} {w : am_wP} {W : am_wQ} (hB : am_BR s s1) (hP : am_PQ s1 w) (hW : am_WQ s1 W) (hl : w.length ≤ 4) :
    am_WQ (takeS s1 w.length) (tk s W w) ∧ am_BR s (takeS s1 w.length) ∧ (∀ j i, (j = 41 ∨ j = 42 ∨ j = 43) → rA (takeS s1 w.length) j i = rA s1 j i) := by
  have e1 : tkSum s1 w.length = pSum s w := by
    unfold tkSum pSum
    refine sumI_c (fun i h1 h2 => ?_)
    have h3 := (hP i.toNat (by omega)).1
    rw [show ((i.toNat : Nat) : Int) = i by omega] at h3
    rw [h3, hB.1 25 _ rfl]
  have e2 : gtN s1 w.length w.length = gtV s w := by
    unfold gtV
    refine gtN_cg (s := pPut s w) (s' := s1) (fun j i hj => ?_) (fun i hi => ?_) (fun h2 => ?_) (hB.2 35 (by omega) (by omega)) _ (Nat.le_refl _)
    · rw [hB.1 j i hj]
      show s.1 j i = if j = 42 then _ else if j = 41 then _ else s.1 j i
      rw [if_neg (fun z => by rw [z] at hj; cases hj), if_neg (fun z => by rw [z] at hj; cases hj)]
    · exact (hP i hi).1
    · exact (hP 0 (by omega)).2
  have eT : ((w.length : Int)).toNat = w.length := Int.toNat_natCast _
  unfold takeS tk
  by_cases hc : (W.1 = -1 ∨ pSum s w < W.1) ∧ gtV s w ≠ 0
  · rw [if_pos hc, if_pos (by unfold tkP; rw [eT, e1, e2, hW.1]; exact hc), eT, e1]
    have h := tkF_A (wI (wI s1 37 (pSum s w)) 38 w.length) w.length
    have hI : ∀ j, rI (itS tkF w.length (wI (wI s1 37 (pSum s w)) 38 w.length)) j = rI (wI (wI s1 37 (pSum s w)) 38 w.length) j := fun j => congrFun (itS_I (f := tkF) (fun _ _ => rfl) _ _) j
    refine ⟨⟨?_, ?_, hl, fun i hi => ?_⟩, ⟨fun j i hj => ?_, fun j h1 h2 => ?_⟩, fun j i hj => ?_⟩
    · rw [hI]; rfl
    · rw [hI]; rfl
    · exact ⟨((h.2 i hi).1).trans (hP i hi).1, ((h.2 i hi).2).trans (hP i hi).2⟩
    · rw [h.1 j i (fun z => by rw [z] at hj; cases hj) (fun z => by rw [z] at hj; cases hj)]
      exact hB.1 j i hj
    · rw [hI, wI_I, if_neg h2, wI_I, if_neg h1]
      exact hB.2 j h1 h2
    · exact h.1 j i (by omega) (by omega)
  · rw [if_neg hc, if_neg (by unfold tkP; rw [eT, e1, e2, hW.1]; exact hc)]
    exact ⟨hW, hB, fun _ _ _ => rfl⟩
theorem am_BR_w {s s1 : am_Z} (h : am_BR s s1) {j : Nat} {i v : Int} (hj : scr j = true) : am_BR s (wA s1 j i v) := by
  refine ⟨fun j' i' h' => ?_, h.2⟩
  rw [wA_A, if_neg (fun z => by rw [z.1, hj] at h'; cases h')]
  exact h.1 j' i' h'
theorem nx_c (s : am_Z) (c f : Int) : (nxC s c f = c ∧ nxF s f = f + 1 ∧ f + 1 ≠ rI s 20) ∨ (nxC s c f = c + 1 ∧ nxF s f = 0 ∧ f + 1 = rI s 20) := by
  unfold nxC nxF
  by_cases h : f + 1 = rI s 20
  · rw [if_pos h, if_pos h]; omega
  · rw [if_neg h, if_neg h]; omega
end


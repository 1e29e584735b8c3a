noncomputable section
theorem DF_FP {q q1 : am_A} (F : am_DFh q) (G : am_FP q q1) : am_DFh q1 := fun j h => by
  have g := G j h
  have f := F j (fun z => h (g.1.trans z))
  exact ⟨g.1.trans f.1, g.2 f.2⟩
section LPG
variable {e e' : Nat} {q q1 q2 : am_A} {s s1 s2 sR : am_Z} {L : Nat} {X : Nat → Int}
end LPG
section B2X
variable {d y pc p : Nat} {ls : List (Option am_V)} {r : List am_V} {q q1 : am_A} {Q : am_O → am_A → Prop} {o : am_O} {e : Nat} {k : Int} {kd : Int → Nat} {v : Option am_V} {s1 : am_Z}
theorem B2_H {hp k9 p' x : Nat} (h1 : am_hnd (am_hh y) pc x = some hp) (h2 : am_hs y hp = some (k9, p')) (h3 : k9 < ls.length) (kk : am_W2 d y p' (ls.set k9 none) [] q1 Q) : am_B2 d y pc p ls r Q (.inr x) q1 := by
  unfold am_B2
  dsimp only
  rw [h1]
  dsimp only
  rw [h2]
  exact ⟨h3, kk⟩
/-- behind an operation of the class -/
def am_OQ (e : Nat) (k : Int) (kd : Int → Nat) (v : Option am_V) (q : am_A) (s1 : am_Z) : am_O → am_A → Prop := fun o q' => (k = 0 → o = .inl v) ∧ (k ≠ 0 → o = .inr (kd k)) ∧ am_CI (e + 1) q' s1 ∧ am_CY q q' ∧ am_DFh q'
theorem B2_OQ (h : am_OQ e k kd v q s1 o q1) (ks : k = 0 → am_CI (e + 1) q1 s1 → am_CY q q1 → am_DFh q1 → am_W2 d y p ls (am_psh v r) q1 Q) (kx : k ≠ 0 → am_CI (e + 1) q1 s1 → am_CY q q1 → am_DFh q1 → am_B2 d y pc p ls r Q (.inr (kd k)) q1) : am_B2 d y pc p ls r Q o q1 := by
  obtain ⟨h1, h2, h3, h4, h5⟩ := h
  by_cases hk : k = 0
  · rw [h1 hk]
    cases v with
    | none => exact ks hk h3 h4 h5
    | some x => exact ks hk h3 h4 h5
  · rw [h2 hk]
    exact kx hk h3 h4 h5
theorem OQ_OP (F : am_DFh q) (h : am_OP e k kd v q s1 o q1) : am_OQ e k kd v q s1 o q1 := ⟨h.1, h.2.1, h.2.2.1, h.2.2.2.1, DF_FP F h.2.2.2.2⟩
def kd0 (_ : Int) : Nat := 13
theorem OQ_T2 {P : Prop} {s : am_Z} (F : am_DFh q) (I : am_CI e q s) (hk : k = 0 ↔ P) (h : am_T2 P 13 v q o q1) : am_OQ e k kd0 v q s o q1 := by
  by_cases hP : P
  · obtain ⟨rfl, rfl⟩ := h.1 hP
    exact ⟨fun _ => rfl, fun z => absurd (hk.mpr hP) z, CI_le I (by omega), CY_r, F⟩
  · obtain ⟨rfl, rfl⟩ := h.2 hP
    exact ⟨fun z => absurd (hk.mp z) hP, fun _ => rfl, CI_EX I (by omega), CY_NO CY_r (by show cK 13; omega), DF_FP F (CG_NO CG_r (by show cK 13; omega)).2⟩
theorem OQ_is {x : am_V} {s : am_Z} (F : am_DFh q) (I : am_CI e q s) (h : am_is2 x q o q1) : am_OQ e 0 kd0 (some x) q s o q1 := by
  obtain ⟨rfl, rfl⟩ := h
  exact ⟨fun _ => rfl, fun z => absurd rfl z, CI_le I (by omega), CY_r, F⟩
end B2X
end


noncomputable section
theorem RV_CY {q0 q q1 : am_A} {s : am_Z} (R : am_RV q0 q s) (Y : am_CY q q1) : am_RV q1 q1 s := by
  obtain ⟨r1, r2, r3, r4, r5, _⟩ := R
  have y9 := Y.1 (9, 0) (by show ¬ cK 9; unfold cK; omega)
  have h19 : am_all rLn (fun j _ => j < 100) := (am_nd_ok (am_nd_ok (am_nd_ok (am_nd_ok (am_nd_ok (am_lf_ok (by decide)) (am_nd_ok (am_lf_ok (by decide)) (am_lf_ok (by decide)))) (am_nd_ok (am_nd_ok (am_lf_ok (by decide)) (am_lf_ok (by decide))) (am_nd_ok (am_lf_ok (by decide)) (am_lf_ok (by decide))))) (am_nd_ok (am_nd_ok (am_nd_ok (am_lf_ok (by decide)) (am_lf_ok (by decide))) (am_nd_ok (am_lf_ok (by decide)) (am_lf_ok (by decide)))) (am_nd_ok (am_nd_ok (am_lf_ok (by decide)) (am_lf_ok (by decide))) (am_nd_ok (am_lf_ok (by decide)) (am_lf_ok (by decide)))))) (am_nd_ok (am_nd_ok (am_nd_ok (am_nd_ok (am_lf_ok (by decide)) (am_lf_ok (by decide))) (am_nd_ok (am_lf_ok (by decide)) (am_lf_ok (by decide)))) (am_nd_ok (am_nd_ok (am_lf_ok (by decide)) (am_lf_ok (by decide))) (am_nd_ok (am_lf_ok (by decide)) (am_lf_ok (by decide))))) (am_nd_ok (am_nd_ok (am_nd_ok (am_lf_ok (by decide)) (am_lf_ok (by decide))) (am_nd_ok (am_lf_ok (by decide)) (am_lf_ok (by decide)))) (am_nd_ok (am_nd_ok (am_lf_ok (by decide)) (am_lf_ok (by decide))) (am_nd_ok (am_lf_ok (by decide)) (am_lf_ok (by decide))))))) (am_nd_ok (am_nd_ok (am_nd_ok (am_nd_ok (am_lf_ok (by decide)) (am_nd_ok (am_lf_ok (by decide)) (am_lf_ok (by decide)))) (am_nd_ok (am_nd_ok (am_lf_ok (by decide)) (am_lf_ok (by decide))) (am_nd_ok (am_lf_ok (by decide)) (am_lf_ok (by decide))))) (am_nd_ok (am_nd_ok (am_nd_ok (am_lf_ok (by decide)) (am_lf_ok (by decide))) (am_nd_ok (am_lf_ok (by decide)) (am_lf_ok (by decide)))) (am_nd_ok (am_nd_ok (am_lf_ok (by decide)) (am_lf_ok (by decide))) (am_nd_ok (am_lf_ok (by decide)) (am_lf_ok (by decide)))))) (am_nd_ok (am_nd_ok (am_nd_ok (am_nd_ok (am_lf_ok (by decide)) (am_lf_ok (by decide))) (am_nd_ok (am_lf_ok (by decide)) (am_lf_ok (by decide)))) (am_nd_ok (am_nd_ok (am_lf_ok (by decide)) (am_lf_ok (by decide))) (am_nd_ok (am_lf_ok (by decide)) (am_lf_ok (by decide))))) (am_nd_ok (am_nd_ok (am_nd_ok (am_lf_ok (by decide)) (am_lf_ok (by decide))) (am_nd_ok (am_lf_ok (by decide)) (am_lf_ok (by decide)))) (am_nd_ok (am_nd_ok (am_lf_ok (by decide)) (am_lf_ok (by decide))) (am_nd_ok (am_lf_ok (by decide)) (am_lf_ok (by decide))))))))
  have yA : ∀ j, j < 100 → ¬ cK (1900 + j) := fun j hj => by unfold cK; omega
  refine ⟨fun j hj => (y9.2.1 _).trans (r1 j hj), fun j c hc => ?_, fun j i hi => ?_, fun j hj => (y9.1 _).trans (r4 j hj), r5, fun _ _ _ => rfl, fun _ _ _ => rfl, rfl, rfl⟩
  · have := Y.1 (1900 + j, 0) (yA j (h19 j c hc))
    exact this.2.2.2.2.2.2.1.trans (r2 j c hc)
  · by_cases h : cK (1900 + j)
    · unfold cK at h
      omega
    · exact ((Y.1 (1900 + j, 0) h).2.2.1 _).trans (r3 j i hi)
theorem RV_CI {e : Nat} {q0 q : am_A} {s s2 : am_Z} (R : am_RV q0 q s2) (I : am_CI e q0 s) : am_CI e q s := by
  obtain ⟨_, _, _, _, _, kf, ka, e1, e2⟩ := R
  obtain ⟨a, b, c, r⟩ := q
  obtain ⟨a0, b0, c0, r0⟩ := q0
  dsimp only at e1 e2
  subst e1
  subst e2
  obtain ⟨⟨v1, v2, v3, v4, v5, v6, v7, v8, v9, B⟩, X, RM⟩ := I
  refine ⟨⟨v1, ⟨fun x h1 h2 => (ka _ _ (by show ¬ (1800 : Nat) / 100 = 19; omega)).trans (v2.1 x h1 h2), fun x h1 h2 => (ka _ _ (by show ¬ (1801 : Nat) / 100 = 19; omega)).trans (v2.2.1 x h1 h2), fun x h1 h2 => (ka _ _ (by show ¬ (1811 : Nat) / 100 = 19; omega)).trans (v2.2.2.1 x h1 h2), fun x h1 h2 => (ka _ _ (by show ¬ (1812 : Nat) / 100 = 19; omega)).trans (v2.2.2.2.1 x h1 h2), (kf 813 _ (by omega)).trans v2.2.2.2.2.1, (kf 814 _ (by omega)).trans v2.2.2.2.2.2⟩, ?_, ?_, ?_, ?_, ?_, ?_, v9, B⟩, X, RM⟩
  · exact CF_cg v3 rfl (fun _ _ => rfl) (fun f i h1 h2 => kf f _ (by omega)) (fun _ _ _ _ => rfl) (fun _ => ⟨rfl, rfl⟩) (fun i k => ka _ _ (by show ¬ (1407 : Nat) / 100 = 19; omega)) (fun _ _ _ => rfl) rfl
  · exact CL_cg v4 (fun _ _ => rfl) (Nat.le_refl _) (fun f j h1 h2 _ => ⟨kf f _ (by omega), rfl⟩) (fun _ _ _ => rfl) rfl
  · exact CA_cg v5 rfl rfl (fun f i h1 h2 => kf f _ (by omega)) (fun _ _ _ => rfl) rfl
  · exact LL_cg v6 rfl (fun _ _ => rfl) rfl (fun _ _ _ => rfl) (fun _ _ _ => rfl) rfl
  · exact CB_cg v7 rfl (fun _ _ => rfl) (fun _ _ => Nat.le_refl _) (Nat.le_refl _) (fun f b h1 _ => ⟨kf f _ (by omega), rfl⟩) (fun _ _ => ⟨rfl, id⟩) (fun t b ht _ => ⟨rfl, fun k => ka _ _ (by show ¬ t / 100 = 19; omega)⟩) (fun f j h1 h2 _ => ⟨kf f _ (by omega), rfl⟩) (fun _ _ _ => rfl) (fun _ _ _ => rfl) rfl rfl
  · exact CW_cg v8 rfl (fun _ _ => rfl) (fun _ _ => Nat.le_refl _) (fun f w h1 h2 _ => ⟨kf f _ (by omega), rfl⟩) (fun _ _ => rfl) (fun _ _ _ => rfl) (fun _ _ _ => rfl) rfl rfl
theorem DF_FP {q q1 : am_A} (F : am_DFh q) (G : am_FP q q1) : am_DFh q1 := fun j h => by
  have g := G j h
  have f := F j (fun z => h (g.1.trans z))
  exact ⟨g.1.trans f.1, g.2 f.2⟩
/-- class, reference and the law's own arrays -/
def am_LP (e : Nat) (q : am_A) (s sR : am_Z) (L : Nat) (X : Nat → Int) : Prop := am_CI e q s ∧ am_RV q q sR ∧ am_DFh q ∧ (qAL q (26, 0) = 1 ∧ qAL q (27, 0) = 1 ∧ qAL q (31, 0) = L) ∧ ∀ k, qAI q (31, 0) k = X k
section LPG
variable {e e' : Nat} {q q1 q2 : am_A} {s s1 s2 sR : am_Z} {L : Nat} {X : Nat → Int}
theorem LP_CY (P : am_LP e q s sR L X) (I : am_CI e' q1 s1) (Y : am_CY q q1) (F : am_DFh q1) : am_LP e' q1 s1 sR L X := by
  have y : ∀ t, 26 ≤ t → t ≤ 31 → qAL q1 (t, 0) = qAL q (t, 0) := fun t h1 h2 => (Y.1 (t, 0) (by show ¬ cK t; unfold cK; omega)).2.2.2.2.2.2.1
  refine ⟨I, RV_CY P.2.1 Y, F, ⟨(y 26 (by omega) (by omega)).trans P.2.2.2.1.1, (y 27 (by omega) (by omega)).trans P.2.2.2.1.2.1, (y 31 (by omega) (by omega)).trans P.2.2.2.1.2.2⟩, fun k => ?_⟩
  exact ((Y.1 (31, 0) (by show ¬ cK 31; unfold cK; omega)).2.2.1 k).trans (P.2.2.2.2 k)
theorem LP_CG (P : am_LP e q s sR L X) (I : am_CI e' q1 s1) (G : am_CG q q1) : am_LP e' q1 s1 sR L X := LP_CY P I G.1 (DF_FP P.2.2.1 G.2)
theorem LP_J {r : am_R} {k : Nat} {v : Int64} (P : am_LP e q s sR L X) : am_LP e (uAJ q r k v) s sR L X := ⟨P.1, ⟨P.2.1.1, P.2.1.2.1, P.2.1.2.2.1, P.2.1.2.2.2.1, P.2.1.2.2.2.2.1, fun _ _ _ => rfl, fun _ _ _ => rfl, rfl, rfl⟩, P.2.2⟩
theorem LP_D {r : am_R} {k : Nat} {v : UInt64} (P : am_LP e q s sR L X) : am_LP e (uAD q r k v) s sR L X := ⟨P.1, ⟨P.2.1.1, P.2.1.2.1, P.2.1.2.2.1, P.2.1.2.2.2.1, P.2.1.2.2.2.2.1, fun _ _ _ => rfl, fun _ _ _ => rfl, rfl, rfl⟩, P.2.2⟩
theorem LP_RV (P : am_LP e q s sR L X) (R : am_RV q q2 s2) : am_LP e q2 s s2 L X := by
  have I := RV_CI R P.1
  have R2 : am_RV q2 q2 s2 := ⟨R.1, R.2.1, R.2.2.1, R.2.2.2.1, R.2.2.2.2.1, fun _ _ _ => rfl, fun _ _ _ => rfl, rfl, rfl⟩
  have e2 := R.2.2.2.2.2.2.2.2
  have eL : qAL q2 = qAL q := congrArg (fun x : (am_R → Nat → Option am_R) × (am_R → Nat → Int64) × (am_R → Nat → UInt64) × (am_R → Nat) × (Nat → Nat) × (am_R → List am_R) × (am_R → Nat) × Nat × Nat => x.2.2.2.1) e2
  refine ⟨I, R2, fun j h => ?_, ?_, fun k => ?_⟩
  · have k6 := R.2.2.2.2.2.1 106 (1, j) (by omega)
    have k5 := R.2.2.2.2.2.1 105 (1, j) (by omega)
    rw [k6] at h
    rw [k6, k5]
    exact P.2.2.1 j h
  · rw [eL]
    exact P.2.2.2.1
  · exact (R.2.2.2.2.2.2.1 (31, 0) k (by show ¬ (31 : Nat) / 100 = 19; omega)).trans (P.2.2.2.2 k)
theorem LP_s (P : am_LP e q s sR L X) (m : ∀ j x, usA j → rA s1 j x = rA s j x) (n : ∀ j, usI j → rI s1 j = rI s j) (B : in_S s1) : am_LP e q s1 sR L X := ⟨CI_s P.1 m n B, P.2⟩
end LPG
section B2X
variable {d y pc p : Nat} {ls : List (Option am_V)} {r : List am_V} {q q1 : am_A} {Q : am_O → am_A → Prop} {o : am_O} {e : Nat} {k : Int} {kd : Int → Nat} {v : Option am_V} {s1 : am_Z}
theorem B2_H {hp k9 p' x : Nat} (h1 : am_hnd (am_hh y) pc x = some hp) (h2 : am_hs y hp = some (k9, p')) (h3 : k9 < ls.length) (kk : am_W2 d y p' (ls.set k9 none) [] q1 Q) : am_B2 d y pc p ls r Q (.inr x) q1 := by
  unfold am_B2
  dsimp only
  rw [h1]
  dsimp only
  rw [h2]
  exact ⟨h3, kk⟩
/-- behind an operation of the class -/
def am_OQ (e : Nat) (k : Int) (kd : Int → Nat) (v : Option am_V) (q : am_A) (s1 : am_Z) : am_O → am_A → Prop := fun o q' => (k = 0 → o = .inl v) ∧ (k ≠ 0 → o = .inr (kd k)) ∧ am_CI (e + 1) q' s1 ∧ am_CY q q' ∧ am_DFh q'
theorem B2_OQ (h : am_OQ e k kd v q s1 o q1) (ks : k = 0 → am_CI (e + 1) q1 s1 → am_CY q q1 → am_DFh q1 → am_W2 d y p ls (am_psh v r) q1 Q) (kx : k ≠ 0 → am_CI (e + 1) q1 s1 → am_CY q q1 → am_DFh q1 → am_B2 d y pc p ls r Q (.inr (kd k)) q1) : am_B2 d y pc p ls r Q o q1 := by
  obtain ⟨h1, h2, h3, h4, h5⟩ := h
  by_cases hk : k = 0
  · rw [h1 hk]
    cases v with
    | none => exact ks hk h3 h4 h5
    | some x => exact ks hk h3 h4 h5
  · rw [h2 hk]
    exact kx hk h3 h4 h5
theorem OQ_OP (F : am_DFh q) (h : am_OP e k kd v q s1 o q1) : am_OQ e k kd v q s1 o q1 := ⟨h.1, h.2.1, h.2.2.1, h.2.2.2.1, DF_FP F h.2.2.2.2⟩
def kd0 (_ : Int) : Nat := 13
theorem OQ_T2 {P : Prop} {s : am_Z} (F : am_DFh q) (I : am_CI e q s) (hk : k = 0 ↔ P) (h : am_T2 P 13 v q o q1) : am_OQ e k kd0 v q s o q1 := by
  by_cases hP : P
  · obtain ⟨rfl, rfl⟩ := h.1 hP
    exact ⟨fun _ => rfl, fun z => absurd (hk.mpr hP) z, CI_le I (by omega), CY_r, F⟩
  · obtain ⟨rfl, rfl⟩ := h.2 hP
    exact ⟨fun z => absurd (hk.mp z) hP, fun _ => rfl, CI_EX I (by omega), CY_NO CY_r (by show cK 13; omega), DF_FP F (CG_NO CG_r (by show cK 13; omega)).2⟩
theorem OQ_is {x : am_V} {s : am_Z} (F : am_DFh q) (I : am_CI e q s) (h : am_is2 x q o q1) : am_OQ e 0 kd0 (some x) q s o q1 := by
  obtain ⟨rfl, rfl⟩ := h
  exact ⟨fun _ => rfl, fun z => absurd rfl z, CI_le I (by omega), CY_r, F⟩
end B2X
end

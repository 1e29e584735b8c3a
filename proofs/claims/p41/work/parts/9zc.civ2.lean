noncomputable section
/-- bookings that end: what could be flown of them is void -/
def am_VB (s s' : am_Z) : Prop := rI s' 44 = rI s 44 ∧ (∀ j x, ((45 ≤ j ∧ j ≤ 60 ∧ j ≠ 51 ∧ j ≠ 47 ∧ j ≠ 55) ∨ j = 69) → rA s' j x = rA s j x) ∧ (∀ x, rA s' 55 x = rA s 55 x ∨ (rA s 55 x ≤ 1 ∧ rA s' 55 x = 5)) ∧ ∀ b : Nat, (b : Int) < rI s 44 → (rA s' 47 b = rA s 47 b ∧ ∀ k : Nat, (k : Int) < rA s 52 b → rA s' 55 (10 * b + k) = rA s 55 (10 * b + k)) ∨ (2 ≤ rA s' 47 b ∧ ∀ k : Nat, (k : Int) < rA s 52 b → 2 ≤ rA s' 55 (10 * b + k))
abbrev h52P (s : am_Z) : Prop := ∀ x, 0 ≤ rA s 52 x ∧ rA s 52 x ≤ 10
section VB
variable {s s' s2 : am_Z}
theorem VB_r : am_VB s s := ⟨rfl, fun _ _ _ => rfl, fun _ => Or.inl rfl, fun _ _ => Or.inl ⟨rfl, fun _ _ => rfl⟩⟩
theorem VB_t (a : am_VB s s') (b : am_VB s' s2) : am_VB s s2 := by
  obtain ⟨a1, a2, a3, a4⟩ := a
  obtain ⟨b1, b2, b3, b4⟩ := b
  refine ⟨b1.trans a1, fun j x h => (b2 j x h).trans (a2 j x h), fun x => ?_, fun c hc => ?_⟩
  · have y := a3 x
    have z := b3 x
    omega
  · have e52 := a2 52 c (by omega)
    rcases b4 c (by omega) with z | z
    · rcases a4 c hc with y | y
      · exact Or.inl ⟨z.1.trans y.1, fun k hk => (z.2 k (by omega)).trans (y.2 k hk)⟩
      · exact Or.inr ⟨by omega, fun k hk => by rw [z.2 k (by omega)]; exact y.2 k hk⟩
    · exact Or.inr ⟨z.1, fun k hk => z.2 k (by omega)⟩
theorem VB_s {t : am_Z} (m : ∀ j x, ((45 ≤ j ∧ j ≤ 60 ∧ j ≠ 51) ∨ j = 69) → rA t j x = rA s j x) (n : rI t 44 = rI s 44) : am_VB s t := ⟨n, fun j x h => m j x (by omega), fun x => Or.inl (m 55 x (by omega)), fun b _ => Or.inl ⟨m 47 _ (by omega), fun k _ => m 55 _ (by omega)⟩⟩
theorem VB_void (h52 : h52P s) {b v : Int} (hv : 2 ≤ v) : am_VB s (voidS (wA s 47 b v) b) := by
  have e55 : ∀ x, rA (voidS (wA s 47 b v) b) 55 x = if 10 * b ≤ x ∧ x < 10 * b + rA s 52 b then (if rA s 55 x ≤ 1 then 5 else rA s 55 x) else rA s 55 x := fun x => by
    have z := h52 b
    have g : gVoid (wA s 47 b v) x = if rA s 55 x ≤ 1 then 5 else rA s 55 x := rfl
    unfold voidS
    rw [wB_A, g]
    by_cases h : 10 * b ≤ x ∧ x < 10 * b + rA s 52 b
    · rw [if_pos h]
      exact if_pos ⟨rfl, h.1, by show x < 10 * b + ((rA s 52 b).toNat : Int); omega⟩
    · rw [if_neg h]
      exact if_neg (fun y => h ⟨y.2.1, by have y3 : x < 10 * b + ((rA s 52 b).toNat : Int) := y.2.2; omega⟩)
  have eo : ∀ j x, j ≠ 47 → j ≠ 55 → rA (voidS (wA s 47 b v) b) j x = rA s j x := fun j x h1 h2 => by
    unfold voidS
    rw [wB_A, if_neg (fun y => h2 y.1), wA_A, if_neg (fun y => h1 y.1)]
  have e47 : ∀ x, rA (voidS (wA s 47 b v) b) 47 x = if x = b then v else rA s 47 x := fun x => by
    unfold voidS
    rw [wB_A, if_neg (fun y => absurd y.1 (by omega)), wA_A]
    by_cases h : x = b
    · rw [if_pos ⟨rfl, h⟩, if_pos h]
    · rw [if_neg (fun y => h y.2), if_neg h]
  refine ⟨rfl, fun j x h => eo j x (by omega) (by omega), fun x => ?_, fun c hc => ?_⟩
  · rw [e55]
    split
    · split
      · rename_i h; exact Or.inr ⟨h, rfl⟩
      · exact Or.inl rfl
    · exact Or.inl rfl
  · have z := h52 c
    by_cases h : (c : Int) = b
    · refine Or.inr ⟨by rw [e47, if_pos h]; exact hv, fun k hk => ?_⟩
      rw [h] at hk
      rw [e55, if_pos (by omega)]
      split <;> omega
    · refine Or.inl ⟨by rw [e47, if_neg h], fun k hk => ?_⟩
      have y := h52 b
      rw [e55, if_neg (by omega)]
theorem IB_VB (I : am_IB s) (V : am_VB s s') : am_IB s' := by
  obtain ⟨a, b, c, d, e, f, g, h⟩ := I
  obtain ⟨n44, m, v55, vb⟩ := V
  refine ⟨fun i hi => ?_, fun c' k hb h0 hk => ?_, UQ_cg n44 (fun x => m 52 x (by omega)) (fun x => m 53 x (by omega)) (fun x hx => by have := v55 x; omega) c, fun c' k hb hk hh => ?_, PE_s e (fun x => m 45 x (by omega)) n44, PT_s f (fun x => m 69 x (by omega)) (fun x => m 52 x (by omega)) (fun x hx => by have := v55 x; omega) n44, fun c' hb h0 => ?_, fun c' hb t t0 t4 hk => ?_⟩
  · rw [m 59 _ (by omega), m 60 _ (by omega)]
    exact a i (by omega)
  · rw [m 52 _ (by omega)] at hk
    rcases vb c' (by omega) with z | z
    · rw [z.2 k hk]
      exact b c' k (by omega) (z.1.symm.trans h0) hk
    · omega
  · rw [m 52 _ (by omega)] at hk
    rcases vb c' (by omega) with z | z
    · rw [z.1]
      exact d c' k (by omega) hk ((z.2 k hk).symm.trans hh)
    · have := z.2 k hk
      omega
  · rcases vb c' (by omega) with z | z
    · rw [m 49 _ (by omega), pfo_cg (fun j x hj => m j x (by omega)) (m 52 _ (by omega))]
      exact g c' (by omega) (z.1.symm.trans h0)
    · omega
  · rw [m 60 _ (by omega)]
    refine h c' (by omega) t t0 t4 (fun k hk2 => ?_)
    have z := hk k (by rw [m 52 _ (by omega)]; exact hk2)
    rw [m 56 _ (by omega)] at z
    exact z
/-- delays and cancellations of legs that are there -/
abbrev am_LQ (s : am_Z) (l : Int) : Prop := 0 ≤ l ∧ l % 100 < 61 ∧ thereP s (l / 100) (l % 100)
theorem IN_leg {l : Int} (I : am_IN s) (Q : am_LQ s l) (m : ∀ j x, ((8 ≤ j ∧ j ≤ 13) ∨ (15 ≤ j ∧ j ≤ 16) ∨ (28 ≤ j ∧ j ≤ 31) ∨ ((j = 17 ∨ j = 18) ∧ x ≠ 61 * (l / 100) + l % 100)) → rA s' j x = rA s j x) (n3 : rI s' 3 = rI s 3) (n20 : rI s' 20 = rI s 20) : am_IN s' := by
  obtain ⟨a, b, c, d⟩ := I
  refine ⟨fun f h1 h2 => ?_, fun i h1 h2 => ?_, fun f t h1 h2 h3 h4 h5 => ?_, fun i h1 => ?_⟩
  · rw [m 8 _ (by omega), m 9 _ (by omega)]
    exact a f h1 (by omega)
  · rw [m 10 _ (by omega), m 15 _ (by omega), m 16 _ (by omega)]
    exact b i (by omega) h2
  · have h6 : ¬ thereP s f t := fun z => h5 (by
      unfold thereP at z ⊢
      rw [m 10 _ (by omega), m 11 _ (by omega), m 12 _ (by omega), m 13 _ (by omega)]
      exact z)
    have hx : 61 * f + t ≠ 61 * (l / 100) + l % 100 := fun z => by
      have e1 : f = l / 100 := by omega
      have e2 : t = l % 100 := by omega
      rw [e1, e2] at h6
      exact h6 Q.2.2
    rw [m 17 _ (by omega), m 18 _ (by omega)]
    exact c f t h1 h2 h3 h4 h6
  · rw [m 28 _ (by omega), m 29 _ (by omega), m 30 _ (by omega), m 31 _ (by omega)]
    exact d i (by omega)
theorem cnN_V {l : Int} (h52 : h52P s) : ∀ n : Nat, am_VB s (itS (cancF l) n s) ∧ (∀ j x, j ≠ 47 → j ≠ 55 → rA (itS (cancF l) n s) j x = rA s j x) ∧ ∀ j, rI (itS (cancF l) n s) j = rI s j := by
  intro n
  induction n with
  | zero => exact ⟨VB_r, fun _ _ _ _ => rfl, fun _ => rfl⟩
  | succ n ih =>
    obtain ⟨i1, i2, i3⟩ := ih
    refine ⟨VB_t i1 ?_, fun j x h1 h2 => (cnF_m ⟨h1, h2⟩).trans (i2 j x h1 h2), fun j => cnF_I.trans (i3 j)⟩
    have h : h52P (itS (cancF l) n s) := fun x => by rw [i2 52 x (by omega) (by omega)]; exact h52 x
    show am_VB _ (cancF l n (itS (cancF l) n s))
    unfold cancF
    split
    · exact VB_void h (by omega)
    · exact VB_r
theorem cancS_p {l : Int} (h52 : h52P s) : am_VB s (cancS s l) ∧ (∀ j x, j ≠ 47 → j ≠ 55 → (j ≠ 18 ∨ x ≠ 61 * (l / 100) + l % 100) → rA (cancS s l) j x = rA s j x) ∧ ∀ j, rI (cancS s l) j = rI s j := by
  have z := cnN_V (s := wA s 18 (61 * (l / 100) + l % 100) 1) (l := l) h52 (rI s 44).toNat
  refine ⟨VB_t (VB_s (t := wA s 18 (61 * (l / 100) + l % 100) 1) (fun j x h => by rw [wA_A, if_neg (fun y => by have := y.1; omega)]) rfl) z.1, fun j x h1 h2 h3 => (z.2.1 j x h1 h2).trans (by rw [wA_A, if_neg (by omega)]), fun j => z.2.2 j⟩
theorem INV_cancS {l : Int} (I : am_INV s) (h52 : h52P s) (Q : am_LQ s l) : am_INV (cancS s l) := by
  have p := cancS_p (l := l) h52
  exact ⟨IN_leg I.1 Q (fun j x h => p.2.1 j x (by omega) (by omega) (by omega)) (p.2.2 3) (p.2.2 20), IB_VB I.2.1 p.1, WO_cg I.2.2 (fun j x h => p.2.1 j x (by omega) (by omega) (by omega)) (p.2.2 61) (p.2.2 33)⟩
theorem INV_dlS {l h : Int} (I : am_INV s) (h52 : h52P s) (Q : am_LQ s l) : am_INV (dlS s l h) ∧ h52P (dlS s l h) ∧ (∀ j x, j ≠ 47 → j ≠ 55 → j ≠ 17 → j ≠ 18 → j ≠ 19 → rA (dlS s l h) j x = rA s j x) ∧ ∀ j, rI (dlS s l h) j = rI s j := by
  unfold dlS
  split
  · have m : ∀ j x, j ≠ 19 → (j ≠ 17 ∨ x ≠ 61 * (l / 100) + l % 100) → rA (wA (wA s 19 (61 * (l / 100) + l % 100) 1) 17 (61 * (l / 100) + l % 100) (rA s 17 (61 * (l / 100) + l % 100) + h)) j x = rA s j x := fun j x h1 h2 => by
      rw [wA_A, if_neg (by omega), wA_A, if_neg (by omega)]
    exact ⟨⟨IN_leg I.1 Q (fun j x h => m j x (by omega) (by omega)) rfl rfl, IB_cg I.2.1 (fun j x h => m j x (by omega) (by omega)) rfl, WO_cg I.2.2 (fun j x h => m j x (by omega) (by omega)) rfl rfl⟩, h52, fun j x h1 h2 h3 h4 h5 => m j x h5 (by omega), fun _ => rfl⟩
  · have I2 : am_INV (wA s 19 (61 * (l / 100) + l % 100) 1) := INV_A I (by omega)
    have p := cancS_p (s := wA s 19 (61 * (l / 100) + l % 100) 1) (l := l) h52
    refine ⟨INV_cancS I2 h52 Q, fun x => ?_, fun j x h1 h2 h3 h4 h5 => ?_, fun j => p.2.2 j⟩
    · rw [p.2.1 52 x (by omega) (by omega) (by omega)]
      exact h52 x
    · exact (p.2.1 j x h1 h2 (Or.inl h4)).trans (by rw [wA_A, if_neg (fun z => h5 z.1)])
theorem INV_dlR : ∀ (n : Nat) (s : am_Z) (l h : Int), am_INV s → h52P s → (∀ x, (-1 ≤ rA s 15 x ∧ rA s 15 x ≤ 11) ∧ 0 ≤ rA s 16 x) → am_LQ s l → am_INV (dlR n s l h) ∧ ∀ j, rI (dlR n s l h) j = rI s j := by
  intro n
  induction n with
  | zero => intro s l h I _ _ _; exact ⟨I, fun _ => rfl⟩
  | succ n ih =>
    intro s l h I h52 B Q
    obtain ⟨i1, i2, i3, i4⟩ := INV_dlS (h := h) I h52 Q
    by_cases hg : rA s 17 (61 * (l / 100) + l % 100) + h ≤ 8 ∧ goesP (dlS s l h) l
    · rw [dlR_y hg.1 hg.2]
      have b15 := B (l / 100)
      have e15 := i3 15 (l / 100) (by omega) (by omega) (by omega) (by omega) (by omega)
      have e16 := i3 16 (l / 100) (by omega) (by omega) (by omega) (by omega) (by omega)
      have Q2 : am_LQ (dlS s l h) (othL (dlS s l h) l) := by
        have e := hg.2.1
        unfold othL at e ⊢
        split at e
        · exact absurd rfl e
        · rename_i hz
          rw [if_neg hz]
          have q1 := Q.1
          have h1 : rA (dlS s l h) 15 (l / 100) ≠ -1 := fun y => hz (Or.inl y)
          have h2 : ¬ 61 ≤ l % 100 + rA (dlS s l h) 16 (l / 100) := fun y => hz (Or.inr (Or.inl y))
          have h3 : thereP (dlS s l h) (rA (dlS s l h) 15 (l / 100)) (l % 100 + rA (dlS s l h) 16 (l / 100)) := Classical.byContradiction (fun y => hz (Or.inr (Or.inr y)))
          refine ⟨by omega, by omega, ?_⟩
          rw [show (100 * rA (dlS s l h) 15 (l / 100) + (l % 100 + rA (dlS s l h) 16 (l / 100))) / 100 = rA (dlS s l h) 15 (l / 100) by omega, show (100 * rA (dlS s l h) 15 (l / 100) + (l % 100 + rA (dlS s l h) 16 (l / 100))) % 100 = l % 100 + rA (dlS s l h) 16 (l / 100) by omega]
          exact h3
      have z := ih (dlS s l h) (othL (dlS s l h) l) (arv (dlS s l h) l + 1 - dep (dlS s l h) (othL (dlS s l h) l)) i1 i2 (fun x => by rw [i3 15 x (by omega) (by omega) (by omega) (by omega) (by omega), i3 16 x (by omega) (by omega) (by omega) (by omega) (by omega)]; exact B x) Q2
      exact ⟨z.1, fun j => (z.2 j).trans (i4 j)⟩
    · rw [dlR_n hg]
      exact ⟨i1, i4⟩
theorem LQ_leg {l : Int} (h : legP s l) : am_LQ s l := ⟨h.1, h.2.2.1, h.2.2.2⟩
theorem INV_delay {l h : Int} (I : am_INV s) (B : in_S s) (Q : legP s l) : am_INV (delayS s l h) ∧ ∀ j, rI (delayS s l h) j = rI s j := by
  have m : ∀ j x, j ≠ 19 → rA (wB s 19 0 732 (fun _ => 0)) j x = rA s j x := fun j x h => by rw [wB_A, if_neg (fun z => h z.1)]
  have I2 : am_INV (wB s 19 0 732 (fun _ => 0)) := INV_cg I (fun j x h => m j x (by omega)) (fun _ _ => rfl)
  exact INV_dlR 7 (wB s 19 0 732 (fun _ => 0)) l h I2 (fun x => B.1 52 x 0 10 rfl) (fun x => ⟨B.1 15 x (-1) 11 rfl, (B.1 16 x 0 1 rfl).1⟩) ⟨Q.1, Q.2.2.1, Q.2.2.2⟩
theorem INV_cancel {b : Int} (I : am_INV s) (B : in_S s) : am_INV (voidS (wA s 47 b 3) b) := by
  have eo : ∀ j x, j ≠ 47 → j ≠ 55 → rA (voidS (wA s 47 b 3) b) j x = rA s j x := fun j x h1 h2 => by
    unfold voidS
    rw [wB_A, if_neg (fun y => h2 y.1), wA_A, if_neg (fun y => h1 y.1)]
  exact ⟨IN_cg I.1 (fun j x h => eo j x (by omega) (by omega)) rfl rfl, IB_VB I.2.1 (VB_void (fun x => B.1 52 x 0 10 rfl) (by omega)), WO_cg I.2.2 (fun j x h => eo j x (by omega) (by omega)) rfl rfl⟩
theorem INV_check {b c : Int} (I : am_INV s) (B : in_S s) (hb : 0 ≤ b) (hc : 0 ≤ c ∧ c < rA s 52 b) (h47 : rA s 47 b = 1) (h55 : rA s 55 (10 * b + c) = 0) : am_INV (wA s 55 (10 * b + c) 1) := by
  have m : ∀ j x, j ≠ 55 → rA (wA s 55 (10 * b + c) 1) j x = rA s j x := fun j x h => if_neg (fun z => h z.1)
  have e55 : ∀ x, rA (wA s 55 (10 * b + c) 1) 55 x = if x = 10 * b + c then 1 else rA s 55 x := fun x => by
    rw [wA_A]
    by_cases e : x = 10 * b + c
    · rw [if_pos ⟨rfl, e⟩, if_pos e]
    · rw [if_neg (fun z => e z.2), if_neg e]
  have b52 := fun x => B.1 52 x 0 10 rfl
  obtain ⟨a, hb', c', d, e, f, g, h⟩ := I.2.1
  refine ⟨IN_cg I.1 (fun j x h => m j x (by omega)) rfl rfl, ⟨a, fun x k h1 h2 h3 => ?_, UQ_cg (s := s) rfl (fun _ => rfl) (fun _ => rfl) (fun x hx => ?_) c', fun x k h1 h2 h3 => ?_, e, PT_s f (fun _ => rfl) (fun _ => rfl) (fun x hx => ?_) rfl, g, h⟩, WO_cg I.2.2 (fun j x h => m j x (by omega)) rfl rfl⟩
  · rw [e55]
    have z1 := b52 x
    have z2 := b52 b
    have h2' : rA s 47 x = 0 := h2
    have h3' : (k : Int) < rA s 52 x := h3
    by_cases ex : (x : Int) = b
    · rw [ex] at h2'
      omega
    · rw [if_neg (by omega)]
      exact hb' x k h1 h2 h3
  · rw [e55] at hx
    split at hx
    · rename_i y
      rw [y, h55]
      omega
    · exact hx
  · rw [e55] at h3
    have z1 := b52 x
    have z2 := b52 b
    have h2' : (k : Int) < rA s 52 x := h2
    split at h3
    · rename_i y
      have ex : (x : Int) = b := by omega
      show rA s 47 x = 1
      rw [ex]
      exact h47
    · exact d x k h1 h2 h3
  · rw [e55]
    split
    · rename_i y
      rw [y, h55] at hx
      omega
    · exact hx
end VB
end


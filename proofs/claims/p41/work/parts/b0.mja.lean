noncomputable section
/-! What is asked of the state beyond am_INV: every booking's coupons, the sums of what is flown. -/
abbrev am_U : Type := Int → Int → Int → Int → Int
def fw (s : am_Z) (u : am_U) (b x : Int) : Int := if rA s 55 x = 2 then rA s 45 b * u (rA s 46 b) (rA s 50 b) (rA s 53 x) (rA s 57 x) else 0
def fB (s : am_Z) (u : am_U) (b : Int) : Int := sumI (10 * b) (rA s 52 b).toNat (fw s u b)
def fF (s : am_Z) (u : am_U) : Int := sumI 0 (rI s 44).toNat (fB s u)
def uO (c : Int → Int) (i : Int) : am_U := fun _ sl l sh => if 3 * sl + c (l / 100) = i then sh else 0
def uP (w : Int → Int) (m : Int) : am_U := fun mb _ l _ => if mb = m then 10 * w (l / 100) else 0
def am_ja (s : am_Z) (b : Int) : Prop := (1 ≤ rA s 52 b ∧ rA s 46 b ≤ 3 ∧ rA s 50 b = rA s 4 (rA s 53 (10 * b) / 100)) ∧ sumI (10 * b) (rA s 52 b).toNat (rA s 57) = sumI (4 * b) 4 (rA s 59) ∧ ∀ k : Int, 0 ≤ k → k < rA s 52 b → rA s 53 (10 * b + k) / 100 < rI s 3 ∧ (2 ≤ rA s 47 b → 2 ≤ rA s 55 (10 * b + k)) ∧ (rA s 55 (10 * b + k) = 4 → rA s 57 (10 * b + k) = 0)
def am_jb (s : am_Z) : Prop := ∀ b : Int, 0 ≤ b → b < rI s 44 → am_ja s b
def am_js (s : am_Z) : Prop := (∀ i : Int, 0 ≤ i → i < 9 → rA s 70 i = fF s (uO (rA s 4) i)) ∧ ∀ m : Int, 0 ≤ m → m < 5 → rA s 69 m = fF s (uP (rA s 8) m)
def am_jw (s : am_Z) : Prop := ∀ w : Int, 0 ≤ w → w < rI s 61 → rA s 63 w ≤ 3 ∧ (rA s 66 w = -1 ∨ (0 ≤ rA s 66 w ∧ rA s 66 w < rI s 44 ∧ rA s 46 (rA s 66 w) = rA s 63 w))
def am_jl (s : am_Z) : Prop := (∀ i : Int, 0 ≤ i → i < rI s 33 → rA s 34 i / 100 < rI s 3) ∧ ∀ w i : Int, 0 ≤ w → w < rI s 61 → 0 ≤ i → i < rA s 64 w → rA s 65 (4 * w + i) / 100 < rI s 3
def am_JA (s : am_Z) : Prop := am_jb s ∧ am_js s ∧ am_jw s ∧ am_jl s
/-- what is flown, or missed, is gone -/
def am_JG (s : am_Z) : Prop := ∀ x : Int, rA s 55 x = 2 ∨ rA s 55 x = 3 → rA s 53 x / 100 < rI s 3 ∧ goneP s (rA s 53 x)
section JA
variable {s s' : am_Z}
theorem fF_cg {u u' : am_U} (n44 : rI s' 44 = rI s 44) (h : ∀ b : Int, 0 ≤ b → b < rI s 44 → rA s' 52 b = rA s 52 b ∧ ∀ k : Int, 0 ≤ k → k < rA s 52 b → fw s' u' b (10 * b + k) = fw s u b (10 * b + k)) : fF s' u' = fF s u := by
  unfold fF
  rw [n44]
  refine sumI_c (fun b h1 h2 => ?_)
  have z := h b h1 (by omega)
  unfold fB
  rw [z.1]
  refine sumI_c (fun x x1 x2 => ?_)
  have y := z.2 (x - 10 * b) (by omega) (by omega)
  rw [show 10 * b + (x - 10 * b) = x by omega] at y
  exact y
theorem jw_cg (J : am_jw s) (m : ∀ j x, (j = 46 ∨ j = 63 ∨ j = 66) → rA s' j x = rA s j x) (n : rI s' 61 = rI s 61) (n44 : rI s' 44 = rI s 44) : am_jw s' := fun w h1 h2 => by
  rw [m 63 _ (by omega), m 66 _ (by omega), m 46 _ (by omega), n44]
  exact J w h1 (by omega)
theorem jl_cg (J : am_jl s) (m : ∀ j x, (j = 34 ∨ j = 64 ∨ j = 65) → rA s' j x = rA s j x) (n : rI s' 61 = rI s 61) (n33 : rI s' 33 = rI s 33) (n3 : rI s 3 ≤ rI s' 3) : am_jl s' := by
  refine ⟨fun i h1 h2 => ?_, fun w i h1 h2 h3 h4 => ?_⟩
  · rw [m 34 _ (by omega)]
    have := J.1 i h1 (by omega)
    omega
  · rw [m 64 _ (by omega)] at h4
    rw [m 65 _ (by omega)]
    have := J.2 w i h1 (by omega) h3 h4
    omega
/-- steps that fly nothing and move nothing -/
theorem JA_w (J : am_JA s) (n44 : rI s' 44 = rI s 44) (n3 : rI s 3 ≤ rI s' 3) (m : ∀ j x, (j = 45 ∨ j = 46 ∨ j = 50 ∨ j = 52 ∨ j = 53 ∨ j = 57 ∨ j = 59 ∨ j = 69 ∨ j = 70) → rA s' j x = rA s j x) (m4 : ∀ f : Int, f < rI s 3 → rA s' 4 f = rA s 4 f ∧ rA s' 8 f = rA s 8 f) (v : ∀ x, rA s' 55 x = rA s 55 x ∨ (rA s 55 x ≤ 1 ∧ rA s' 55 x ≠ 2 ∧ rA s' 55 x ≠ 4)) (e : ∀ b k : Int, 0 ≤ b → b < rI s 44 → 0 ≤ k → k < rA s 52 b → 2 ≤ rA s' 47 b → 2 ≤ rA s' 55 (10 * b + k)) (w : am_jw s') (l : am_jl s') : am_JA s' := by
  obtain ⟨jb, js, _, _⟩ := J
  refine ⟨fun b h1 h2 => ?_, ⟨fun i h1 h2 => ?_, fun i h1 h2 => ?_⟩, w, l⟩
  · obtain ⟨⟨a1, a2, a3⟩, a4, a5⟩ := jb b h1 (by omega)
    have l0 := (a5 0 (by omega) (by omega)).1
    rw [Int.add_zero] at l0
    refine ⟨⟨by rw [m 52 _ (by omega)]; exact a1, by rw [m 46 _ (by omega)]; exact a2, by rw [m 50 _ (by omega), m 53 _ (by omega), (m4 _ l0).1]; exact a3⟩, ?_, fun k k1 k2 => ?_⟩
    · rw [m 52 _ (by omega), show rA s' 57 = rA s 57 from funext (fun x => m 57 x (by omega)), show rA s' 59 = rA s 59 from funext (fun x => m 59 x (by omega))]
      exact a4
    · rw [m 52 _ (by omega)] at k2
      have z := a5 k k1 k2
      have y := v (10 * b + k)
      rw [m 53 _ (by omega), m 57 _ (by omega)]
      exact ⟨by omega, fun h => e b k h1 (by omega) k1 k2 h, fun h => z.2.2 (by omega)⟩
  · rw [m 70 _ (by omega), js.1 i h1 h2]
    refine (fF_cg n44 (fun b b1 b2 => ⟨m 52 _ (by omega), fun k k1 k2 => ?_⟩)).symm
    have z := ((jb b b1 b2).2.2 k k1 k2).1
    have y := v (10 * b + k)
    unfold fw uO
    rw [m 45 _ (by omega), m 50 _ (by omega), m 53 _ (by omega), m 57 _ (by omega), (m4 _ z).1]
    by_cases h : rA s 55 (10 * b + k) = 2
    · rw [if_pos h, if_pos (by omega)]
    · rw [if_neg h, if_neg (by omega)]
  · rw [m 69 _ (by omega), js.2 i h1 h2]
    refine (fF_cg n44 (fun b b1 b2 => ⟨m 52 _ (by omega), fun k k1 k2 => ?_⟩)).symm
    have z := ((jb b b1 b2).2.2 k k1 k2).1
    have y := v (10 * b + k)
    unfold fw uP
    rw [m 45 _ (by omega), m 46 _ (by omega), m 53 _ (by omega), (m4 _ z).2]
    by_cases h : rA s 55 (10 * b + k) = 2
    · rw [if_pos h, if_pos (by omega)]
    · rw [if_neg h, if_neg (by omega)]
/-- the arrays that JA speaks of -/
abbrev jaA (j : Nat) : Prop := j = 4 ∨ j = 8 ∨ j = 34 ∨ (45 ≤ j ∧ j ≤ 59 ∧ j ≠ 48 ∧ j ≠ 49 ∧ j ≠ 51 ∧ j ≠ 54 ∧ j ≠ 56 ∧ j ≠ 58) ∨ (63 ≤ j ∧ j ≤ 66) ∨ j = 69 ∨ j = 70
abbrev jaI (j : Nat) : Prop := j = 3 ∨ j = 33 ∨ j = 44 ∨ j = 61
theorem JA_cg (J : am_JA s) (m : ∀ j x, jaA j → rA s' j x = rA s j x) (n : ∀ j, jaI j → rI s' j = rI s j) : am_JA s' := by
  refine JA_w J (n 44 (by omega)) (by rw [n 3 (by omega)]; exact Int.le_refl _) (fun j x h => m j x (by omega)) (fun f _ => ⟨m 4 _ (by omega), m 8 _ (by omega)⟩) (fun x => Or.inl (m 55 _ (by omega))) (fun b k h1 h2 h3 h4 h5 => ?_) (jw_cg J.2.2.1 (fun j x h => m j x (by omega)) (n 61 (by omega)) (n 44 (by omega))) (jl_cg J.2.2.2 (fun j x h => m j x (by omega)) (n 61 (by omega)) (n 33 (by omega)) (by rw [n 3 (by omega)]; exact Int.le_refl _))
  rw [m 47 _ (by omega)] at h5
  rw [m 55 _ (by omega)]
  exact (((J.1 b h1 h2).2.2 k h3 h4).2.1 h5)
theorem JG_w (J : am_JG s) (m : ∀ x, rA s' 53 x = rA s 53 x) (v : ∀ x, rA s' 55 x = rA s 55 x ∨ (rA s' 55 x ≠ 2 ∧ rA s' 55 x ≠ 3)) (n3 : rI s 3 ≤ rI s' 3) (g : ∀ l : Int, l / 100 < rI s 3 → goneP s l → goneP s' l) : am_JG s' := fun x hx => by
  have z := v x
  have y := J x (by omega)
  rw [m]
  exact ⟨by omega, g _ y.1 y.2⟩
/-- bookings that end -/
theorem JA_VB (J : am_JA s) (V : am_VB s s') (m : ∀ j x, (j = 4 ∨ j = 8 ∨ j = 34 ∨ (63 ≤ j ∧ j ≤ 66) ∨ j = 70) → rA s' j x = rA s j x) (n : ∀ j, (j = 3 ∨ j = 33 ∨ j = 61) → rI s' j = rI s j) : am_JA s' := by
  obtain ⟨v44, vm, v55, vb⟩ := V
  refine JA_w J v44 (by rw [n 3 (by omega)]; exact Int.le_refl _) (fun j x h => ?_) (fun f _ => ⟨m 4 _ (by omega), m 8 _ (by omega)⟩) (fun x => ?_) (fun b k h1 h2 h3 h4 h5 => ?_) (jw_cg J.2.2.1 (fun j x h => ?_) (n 61 (by omega)) v44) (jl_cg J.2.2.2 (fun j x h => m j x (by omega)) (n 61 (by omega)) (n 33 (by omega)) (by rw [n 3 (by omega)]; exact Int.le_refl _))
  · by_cases e : j = 70
    · exact m j x (by omega)
    · exact vm j x (by omega)
  · have := v55 x
    omega
  · have y := vb b.toNat (by omega)
    rw [show ((b.toNat : Nat) : Int) = b by omega] at y
    rcases y with ⟨y1, y2⟩ | ⟨_, y2⟩
    · have z := y2 k.toNat (by omega)
      rw [show ((k.toNat : Nat) : Int) = k by omega] at z
      rw [z]
      exact ((J.1 b h1 h2).2.2 k h3 h4).2.1 (by omega)
    · have z := y2 k.toNat (by omega)
      rw [show ((k.toNat : Nat) : Int) = k by omega] at z
      exact z
  · by_cases e : j = 46
    · exact vm j x (by omega)
    · exact m j x (by omega)
theorem JG_VB (J : am_JG s) (V : am_VB s s') (n3 : rI s 3 ≤ rI s' 3) (g : ∀ l : Int, l / 100 < rI s 3 → goneP s l → goneP s' l) : am_JG s' := JG_w J (fun x => V.2.1 53 x (by omega)) (fun x => by have := V.2.2.1 x; omega) n3 g
/-- one coupon flies -/
theorem fF_fly {u : am_U} (h52 : h52P s) {b k : Int} (hb : 0 ≤ b ∧ b < rI s 44) (hk : 0 ≤ k ∧ k < rA s 52 b) (h55 : rA s 55 (10 * b + k) ≠ 2) (n44 : rI s' 44 = rI s 44) (m : ∀ j x, (j = 45 ∨ j = 46 ∨ j = 50 ∨ j = 52 ∨ j = 53 ∨ j = 57) → rA s' j x = rA s j x) (v : ∀ x, x ≠ 10 * b + k → rA s' 55 x = rA s 55 x) (v2 : rA s' 55 (10 * b + k) = 2) : fF s' u = fF s u + rA s 45 b * u (rA s 46 b) (rA s 50 b) (rA s 53 (10 * b + k)) (rA s 57 (10 * b + k)) := by
  have ew : ∀ b' x, x ≠ 10 * b + k → fw s u b' x = fw s' u b' x := fun b' x hx => by
    unfold fw
    rw [v x hx, m 45 _ (by omega), m 46 _ (by omega), m 50 _ (by omega), m 53 _ (by omega), m 57 _ (by omega)]
  have c52 := h52 b
  have e1 : fB s' u b = fB s u b + rA s 45 b * u (rA s 46 b) (rA s 50 b) (rA s 53 (10 * b + k)) (rA s 57 (10 * b + k)) := by
    have z := sumI_upd (a := 10 * b) (n := (rA s 52 b).toNat) (f := fw s u b) (g := fw s' u b) (i0 := 10 * b + k) (by omega) (fun x hx => ew b x hx)
    have y1 : fw s u b (10 * b + k) = 0 := if_neg h55
    have y2 : fw s' u b (10 * b + k) = rA s 45 b * u (rA s 46 b) (rA s 50 b) (rA s 53 (10 * b + k)) (rA s 57 (10 * b + k)) := by
      unfold fw
      rw [if_pos v2, m 45 _ (by omega), m 46 _ (by omega), m 50 _ (by omega), m 53 _ (by omega), m 57 _ (by omega)]
    unfold fB
    rw [m 52 _ (by omega), z, y1, y2]
    omega
  have z := sumI_upd (a := 0) (n := (rI s 44).toNat) (f := fB s u) (g := fB s' u) (i0 := b) (by omega) (fun b' hb' => by
    have c := h52 b'
    unfold fB
    rw [m 52 _ (by omega)]
    exact sumI_c (fun x x1 x2 => ew b' x (by omega)))
  unfold fF
  rw [n44, z, e1]
  omega
end JA
end

noncomputable section
section BK7
variable {b t f a n al : Int} {X : am_X}
theorem itC_57 {m : Nat} (hm : (m : Int) = a) : ∀ k : Nat, (k : Int) ≤ n → sumI (10 * b) (m + k) (rA (itX (bkC b t f a n al) k X).1 57) + (itX (bkC b t f a n al) k X).2 = sumI (10 * b) m (rA X.1 57) + X.2 ∧ ((k : Int) = n → 1 ≤ k → (itX (bkC b t f a n al) k X).2 = 0)
  | 0, _ => ⟨rfl, fun _ h => absurd h (by omega)⟩
  | k + 1, hk => by
    have ih := (itC_57 hm k (by omega)).1
    have e : itX (bkC b t f a n al) (k + 1) X = bkC b t f a n al k (itX (bkC b t f a n al) k X) := rfl
    rw [e]
    generalize itX (bkC b t f a n al) k X = Y at ih ⊢
    have v := (bkC_v (b := b) (t := t) (fa := f) (a := a) (c := n) (al := al) (i := k) (X := Y)).2.2.2.2.1
    have e2 : (bkC b t f a n al k Y).2 = Y.2 - (if a + k = a + n - 1 then Y.2 else rA Y.1 25 f * fLen Y.1 (a + k) / al) := rfl
    have es : sumI (10 * b) (m + k) (rA (bkC b t f a n al k Y).1 57) = sumI (10 * b) (m + k) (rA Y.1 57) := sumI_c (fun x x1 x2 => bkC_c (by omega) (Or.inl (by omega)))
    refine ⟨?_, fun h1 h2 => ?_⟩
    · rw [show m + (k + 1) = m + k + 1 by omega, sumI_s, es, show 10 * b + ((m + k : Nat) : Int) = 10 * b + (a + k) by omega, v, e2]
      omega
    · rw [e2, if_pos (by omega)]
      omega
theorem cp_bkC {i : Nat} : am_cp X.1 (bkC b t f a n al i X).1 := fun x hx => by
  by_cases e : x = 10 * b + (a + i)
  · have v := (bkC_v (b := b) (t := t) (fa := f) (a := a) (c := n) (al := al) (i := i) (X := X)).2.2.1
    rw [← e] at v
    omega
  · exact ⟨x, bkC_c (by omega) (Or.inl e), bkC_c (by omega) (Or.inl e)⟩
theorem cp_itX {g : Nat → am_X → am_X} (h : ∀ i X, am_cp X.1 (g i X).1) : ∀ n : Nat, am_cp X.1 (itX g n X).1
  | 0 => cp_o (fun _ => rfl) (fun _ => rfl)
  | n + 1 => cp_t (cp_itX h n) (h n _)
theorem cp_bkB {i : Nat} : am_cp X.1 (bkB b i X).1 := cp_t (cp_o (s' := bkS X.1 b i) (fun x => bkS_o (by omega)) (fun x => bkS_o (by omega))) (cp_itX (X := (bkS X.1 b i, rA X.1 25 (rA X.1 40 i))) (fun i X => cp_bkC) _)
theorem bk0_o {s : am_Z} {b n m h x : Int} {j : Nat} (hj : j < 45 ∨ 52 < j) : rA (bk0 s b n m h) j x = rA s j x := by
  unfold bk0
  rw [wA_ne (by omega), wA_ne (by omega), wA_ne (by omega), wA_ne (by omega), wA_ne (by omega), wA_ne (by omega), wA_ne (by omega), wA_ne (by omega)]
  rfl
theorem cp_bkT {s : am_Z} {n m h : Int} : am_cp s (bkT s n m h) := cp_t (cp_o (s' := bk0 s (rI s 44) n m h) (fun x => bk0_o (by omega)) (fun x => bk0_o (by omega))) (cp_itX (X := (bk0 s (rI s 44) n m h, 0)) (fun i X => cp_bkB) _)
/-- the shares of the first j stretches -/
theorem B7_s {s : am_Z} {b : Int} {j : Nat} {X : am_X} (H : am_BS s b j X) (h7 : sumI (10 * b) X.2.toNat (rA X.1 57) = sumI 0 j (fun t => rA s 25 (rA s 40 t))) (h0 : 0 ≤ sumI 0 j (rA s 39)) (h1 : 1 ≤ rA s 39 j) : sumI (10 * b) (bkB b j X).2.toNat (rA (bkB b j X).1 57) = sumI 0 (j + 1) (fun t => rA s 25 (rA s 40 t)) := by
  obtain ⟨U, h2, _⟩ := H
  have e40 : rA X.1 40 j = rA s 40 j := U 40 _ (by omega)
  have e39 : rA X.1 39 j = rA s 39 j := U 39 _ (by omega)
  have e25 : rA X.1 25 (rA s 40 j) = rA s 25 (rA s 40 j) := U 25 _ (by omega)
  have hx : (bkB b j X).2 = X.2 + rA s 39 j := by
    show X.2 + rA X.1 39 j = _
    rw [e39]
  have z := itC_57 (X := (bkS X.1 b j, rA X.1 25 (rA X.1 40 j))) (b := b) (t := j) (f := rA X.1 40 j) (a := X.2) (n := rA X.1 39 j) (al := sumI X.2 (rA X.1 39 j).toNat (fLen X.1)) (m := X.2.toNat) (by omega) (rA X.1 39 j).toNat (by omega)
  have z2 := z.2 (by omega) (by omega)
  have z1 := z.1
  rw [z2] at z1
  have en : (bkB b j X).2.toNat = X.2.toNat + (rA X.1 39 j).toNat := by omega
  rw [en, sumI_s, Int.zero_add, ← h7]
  have e7 : sumI (10 * b) X.2.toNat (rA (bkS X.1 b j) 57) = sumI (10 * b) X.2.toNat (rA X.1 57) := sumI_c (fun x _ _ => bkS_o (by omega))
  have z1' : sumI (10 * b) (X.2.toNat + (rA X.1 39 j).toNat) (rA (bkB b j X).1 57) + 0 = sumI (10 * b) X.2.toNat (rA (bkS X.1 b j) 57) + rA X.1 25 (rA X.1 40 j) := z1
  rw [e7, e40, e25] at z1'
  omega
end BK7
section BKT
variable {s : am_Z} {W : am_wQ} {n p mb hh : Int}
theorem bkT_7 (Q : am_WQ s W) (hok : okP W.2) (hl : pLen W.2 = n) (V4 : am_V4 s) (h0 : 0 ≤ rI s 44) : sumI (10 * rI s 44) n.toNat (rA (bkT s p mb hh) 57) = sumI (4 * rI s 44) 4 (rA (bkT s p mb hh) 59) ∧ sumI (4 * rI s 44) 4 (rA (bkT s p mb hh) 59) = sumI 0 W.2.length (fun t => rA s 25 (pF W.2 t.toNat)) := by
  have w := wq_S Q hok hl
  have h38 := Q.2.1
  have e39 : rA (bk0 s (rI s 44) p mb hh) 39 = rA s 39 := funext (fun x => bk0_39 39 x (by omega))
  have key : ∀ k : Nat, k ≤ W.2.length → am_BS s (rI s 44) k (itX (bkB (rI s 44)) k (bk0 s (rI s 44) p mb hh, 0)) ∧ sumI (10 * rI s 44) (itX (bkB (rI s 44)) k (bk0 s (rI s 44) p mb hh, 0)).2.toNat (rA (itX (bkB (rI s 44)) k (bk0 s (rI s 44) p mb hh, 0)).1 57) = sumI 0 k (fun t => rA s 25 (rA s 40 t)) := fun k hk => by
    induction k with
    | zero =>
      refine ⟨⟨ZU_0, rfl, ⟨fun k hk => absurd hk (Nat.not_lt_zero k), ?_⟩, fun t ht => absurd ht (Nat.not_lt_zero t), fun t ht => absurd ht (Nat.not_lt_zero t), fun t _ ht => ?_⟩, rfl⟩
      · show rA (bk0 s (rI s 44) p mb hh) 49 (rI s 44) = rI s 37 + 0
        unfold bk0
        rw [wA_A, if_neg (fun z => by have := z.1; omega), wA_A, if_neg (fun z => by have := z.1; omega), wA_A, if_neg (fun z => by have := z.1; omega), wA_A, if_pos ⟨rfl, rfl⟩]
        omega
      · show rA (bk0 s (rI s 44) p mb hh) 59 _ = 0 ∧ rA (bk0 s (rI s 44) p mb hh) 60 _ = 0
        rw [bk0_39 59 _ (by omega), bk0_39 60 _ (by omega)]
        exact V4 _ (by omega)
    | succ k ih =>
      have ih2 := ih (by omega)
      exact ⟨BS_s ih2.1 (w.2.1 k (by omega)).1 (w.1 k (by omega)), B7_s ih2.1 ih2.2 (w.2.1 k (by omega)).1 (w.1 k (by omega))⟩
  obtain ⟨z, z7⟩ := key W.2.length (Nat.le_refl _)
  have e1 : (itX (bkB (rI s 44)) W.2.length (bk0 s (rI s 44) p mb hh, 0)).1 = bkT s p mb hh := by
    unfold bkT
    rw [show (rI s 38).toNat = W.2.length by omega]
  have e2 : (itX (bkB (rI s 44)) W.2.length (bk0 s (rI s 44) p mb hh, 0)).2 = n := by
    rw [z.2.1]
    exact w.2.2
  rw [e1, e2] at z7
  have z59 := z.2.2.2.2.1
  have z60 := z.2.2.2.2.2
  rw [e1] at z59 z60
  have e4 := sum4 (f := rA (bkT s p mb hh) 59) (x := 4 * rI s 44) W.2.length (fun t => rA s 25 (rA s 40 t)) Q.2.2.1 (fun t ht => z59 t ht) (fun t h1 h2 => (z60 t h1 h2).1)
  refine ⟨z7.trans e4.symm, e4.trans (sumI_c (fun i i1 i2 => ?_))⟩
  have y := (Q.2.2.2 i.toNat (by omega)).1
  rw [show ((i.toNat : Nat) : Int) = i by omega] at y
  rw [y]
/-- a new booking: what it is, and what stays -/
theorem bkT_n (Q : am_WQ s W) (hok : okP W.2) (hl : pLen W.2 = n) (V4 : am_V4 s) (h0 : 0 ≤ rI s 44) (e35 : rI s 35 = n) : (rA (bkT s p mb hh) 45 (rI s 44) = p ∧ rA (bkT s p mb hh) 46 (rI s 44) = mb ∧ rA (bkT s p mb hh) 47 (rI s 44) = 0 ∧ rA (bkT s p mb hh) 50 (rI s 44) = rA s 4 (rA s 36 0 / 100) ∧ rA (bkT s p mb hh) 52 (rI s 44) = n) ∧ ∀ k : Int, 0 ≤ k → k < n → rA (bkT s p mb hh) 55 (10 * rI s 44 + k) = 0 ∧ rA (bkT s p mb hh) 53 (10 * rI s 44 + k) = rA s 36 k := by
  have hu := (itX_u (g := bkB (rI s 44)) (fun i X => bkB_u) (rI s 38).toNat (bk0 s (rI s 44) p mb hh, 0)).1
  have u : ∀ j x, unT j = true → rA (bkT s p mb hh) j x = rA (bk0 s (rI s 44) p mb hh) j x := hu
  refine ⟨⟨?_, ?_, ?_, ?_, by rw [bkT_52, e35]⟩, fun k h1 h2 => ?_⟩
  · rw [u 45 _ rfl]; unfold bk0; simp [wA_A]
  · rw [u 46 _ rfl]; unfold bk0; simp [wA_A]
  · rw [u 47 _ rfl]; unfold bk0; simp [wA_A]
  · rw [u 50 _ rfl]; unfold bk0; simp [wA_A]
  · have z := (BS_T (p := p) (mb := mb) (hh := hh) Q hok hl V4 h0).2.2.1.1 k.toNat (by show k.toNat < n.toNat; omega)
    rw [show ((k.toNat : Nat) : Int) = k by omega] at z
    exact z
theorem JA_bkT (J : am_JA s) (B : in_S s) (V4 : am_V4 s) (Q : am_WQ s W) (hok : okP W.2) (hl : pLen W.2 = n) (e35 : rI s 35 = n) (n4 : 1 ≤ n ∧ n ≤ 4) (bm : mb ≤ 3) (hL : ∀ i : Int, 0 ≤ i → i < n → rA s 36 i / 100 < rI s 3) : am_JA (bkT s p mb hh) := by
  have b44 := B.2.1 44 0 40 rfl
  have w := wq_S Q hok hl
  have hS : ∀ i : Nat, (i : Int) < rI s 38 → 0 ≤ sumI 0 i (rA s 39) := fun i hi => (w.2.1 i hi).1
  obtain ⟨⟨t45, t46, t47, t50, t52⟩, tc⟩ := bkT_n (p := p) (mb := mb) (hh := hh) Q hok hl V4 b44.1 e35
  have t7 := (bkT_7 (p := p) (mb := mb) (hh := hh) Q hok hl V4 b44.1).1
  have n44 : rI (bkT s p mb hh) 44 = rI s 44 + 1 := (bkT_I 44).trans (if_pos rfl)
  have un : ∀ j, j ≠ 44 → rI (bkT s p mb hh) j = rI s j := fun j h => (bkT_I j).trans (if_neg h)
  have u0 : ∀ j x, (j < 45 ∨ 60 < j) → rA (bkT s p mb hh) j x = rA s j x := fun j x h => bkT_U hS (Or.inl h)
  have u1 : ∀ j b, 45 ≤ j → j ≤ 52 → b ≠ rI s 44 → rA (bkT s p mb hh) j b = rA s j b := fun j b h1 h2 h3 => bkT_U hS (Or.inr (Or.inl ⟨h1, h2, h3⟩))
  have u2 : ∀ j x, 53 ≤ j → j ≤ 58 → x < 10 * rI s 44 → rA (bkT s p mb hh) j x = rA s j x := fun j x h1 h2 h3 => bkT_U hS (Or.inr (Or.inr (Or.inl ⟨h1, h2, h3⟩)))
  have u3 : ∀ j x, j = 59 ∨ j = 60 → x < 4 * rI s 44 → rA (bkT s p mb hh) j x = rA s j x := fun j x h1 h2 => bkT_U hS (Or.inr (Or.inr (Or.inr ⟨h1, h2⟩)))
  have b52 := fun b => B.1 52 b 0 10 rfl
  obtain ⟨jb, js, jw, jl⟩ := J
  have ef : ∀ u : am_U, fF (bkT s p mb hh) u = fF s u := fun u => by
    unfold fF
    rw [n44, show (rI s 44 + 1).toNat = (rI s 44).toNat + 1 by omega, sumI_s, show (0 : Int) + ((rI s 44).toNat : Int) = rI s 44 by omega]
    have e0 : fB (bkT s p mb hh) u (rI s 44) = 0 := by
      unfold fB
      refine sumI_z _ (fun x x1 x2 => ?_)
      rw [t52] at x2
      have z := (tc (x - 10 * rI s 44) (by omega) (by omega)).1
      rw [show 10 * rI s 44 + (x - 10 * rI s 44) = x by omega] at z
      exact if_neg (by omega)
    rw [e0, sumI_c (g := fB s u) (fun b b1 b2 => ?_)]
    · omega
    · have y := b52 b
      unfold fB
      rw [u1 52 _ (by omega) (by omega) (by omega)]
      refine sumI_c (fun x x1 x2 => ?_)
      unfold fw
      rw [u2 55 _ (by omega) (by omega) (by omega), u2 53 _ (by omega) (by omega) (by omega), u2 57 _ (by omega) (by omega) (by omega), u1 45 _ (by omega) (by omega) (by omega), u1 46 _ (by omega) (by omega) (by omega), u1 50 _ (by omega) (by omega) (by omega)]
  refine ⟨fun b h1 h2 => ?_, ⟨fun i h1 h2 => ?_, fun i h1 h2 => ?_⟩, fun v h1 h2 => ?_, jl_cg jl (fun j x h => u0 j x (by omega)) (un 61 (by omega)) (un 33 (by omega)) (by rw [un 3 (by omega)]; exact Int.le_refl _)⟩
  · rw [n44] at h2
    by_cases e : b = rI s 44
    · rw [e]
      have z0 := (tc 0 (by omega) (by omega)).2
      rw [Int.add_zero] at z0
      refine ⟨⟨by rw [t52]; omega, by rw [t46]; exact bm, by rw [t50, z0, u0 4 _ (by omega)]⟩, by rw [t52]; exact t7, fun k k1 k2 => ?_⟩
      rw [t52] at k2
      have z := tc k k1 k2
      rw [z.1, z.2, t47, un 3 (by omega)]
      exact ⟨hL k k1 k2, fun y => absurd y (by omega), fun y => absurd y (by omega)⟩
    · obtain ⟨⟨a1, a2, a3⟩, a4, a5⟩ := jb b h1 (by omega)
      have y := b52 b
      refine ⟨⟨by rw [u1 52 _ (by omega) (by omega) e]; exact a1, by rw [u1 46 _ (by omega) (by omega) e]; exact a2, by rw [u1 50 _ (by omega) (by omega) e, u2 53 _ (by omega) (by omega) (by omega), u0 4 _ (by omega)]; exact a3⟩, ?_, fun k k1 k2 => ?_⟩
      · rw [u1 52 _ (by omega) (by omega) e, sumI_c (g := rA s 57) (fun x x1 x2 => u2 57 x (by omega) (by omega) (by omega)), sumI_c (f := rA (bkT s p mb hh) 59) (g := rA s 59) (fun x x1 x2 => u3 59 x (Or.inl rfl) (by omega))]
        exact a4
      · rw [u1 52 _ (by omega) (by omega) e] at k2
        rw [u1 47 _ (by omega) (by omega) e, u2 53 _ (by omega) (by omega) (by omega), u2 55 _ (by omega) (by omega) (by omega), u2 57 _ (by omega) (by omega) (by omega), un 3 (by omega)]
        exact a5 k k1 k2
  · rw [u0 70 _ (by omega), js.1 i h1 h2, ef, show rA (bkT s p mb hh) 4 = rA s 4 from funext (fun x => u0 4 x (by omega))]
  · rw [u0 69 _ (by omega), js.2 i h1 h2, ef, show rA (bkT s p mb hh) 8 = rA s 8 from funext (fun x => u0 8 x (by omega))]
  · rw [un 61 (by omega)] at h2
    have z := jw v h1 h2
    rw [u0 63 _ (by omega), u0 66 _ (by omega), n44]
    refine ⟨z.1, z.2.imp id (fun y => ⟨y.1, by omega, ?_⟩)⟩
    rw [u1 46 _ (by omega) (by omega) (by omega)]
    exact y.2.2
theorem JG_bkT (G : am_JG s) (Q : am_WQ s W) (hok : okP W.2) (hl : pLen W.2 = n) : am_JG (bkT s p mb hh) := by
  have w := wq_S Q hok hl
  have hS : ∀ i : Nat, (i : Int) < rI s 38 → 0 ≤ sumI 0 i (rA s 39) := fun i hi => (w.2.1 i hi).1
  exact JG_cp G cp_bkT (fun j x h => bkT_U hS (Or.inl (by omega))) (by rw [bkT_I, if_neg (by omega)]; exact Int.le_refl _) (by rw [bkT_I, if_neg (by omega)]; exact Int.le_refl _)
end BKT
end

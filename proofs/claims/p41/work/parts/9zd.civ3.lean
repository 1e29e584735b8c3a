noncomputable section
/-- the coupons of a booking that is made: the first m -/
def am_BC (s : am_Z) (b v0 : Int) (m : Nat) (Z : am_Z) : Prop := (∀ k : Nat, k < m → rA Z 55 (10 * b + k) = 0 ∧ rA Z 53 (10 * b + k) = rA s 36 k) ∧ rA Z 49 b = v0 + sumI (10 * b) m (rA Z 58)
def am_BT (b : Int) (j m : Nat) (Z : am_Z) : Prop := ∀ t : Nat, t < j → ∃ k : Nat, k < m ∧ rA Z 56 (10 * b + k) = t
section BKI
variable {s : am_Z} {b v0 t f a n al : Int} {i j m : Nat} {X : am_X}
theorem BC_s (H : am_BC s b v0 m X.1) (U : am_ZU s X.1) (hm : (m : Int) = a + i) : am_BC s b v0 (m + 1) (bkC b t f a n al i X).1 := by
  have v := bkC_v (b := b) (t := t) (fa := f) (a := a) (c := n) (al := al) (i := i) (X := X)
  have e49 : rA (bkC b t f a n al i X).1 49 b = rA X.1 49 b + taxAt X.1 (a + i) := by
    unfold bkC
    dsimp only
    rw [wA_A, if_neg (fun z => by have := z.1; omega), wA_A, if_pos ⟨rfl, rfl⟩]
  rw [← hm] at v
  refine ⟨fun k hk => ?_, ?_⟩
  · by_cases e : k = m
    · subst e
      rw [v.2.2.1, v.1]
      exact ⟨rfl, U 36 _ (by omega)⟩
    · rw [bkC_c (by omega) (Or.inl (by omega)), bkC_c (by omega) (Or.inl (by omega))]
      exact H.1 k (by omega)
  · rw [e49, H.2, sumI_s, v.2.2.2.2.2, hm]
    rw [show sumI (10 * b) m (rA (bkC b t f a n al i X).1 58) = sumI (10 * b) m (rA X.1 58) from sumI_c (fun x h1 h2 => bkC_c (by omega) (Or.inl (by omega)))]
    omega
theorem BT_s (H : am_BT b j m X.1) (hm : (m : Int) = a + i) : am_BT b j (m + 1) (bkC b t f a n al i X).1 := fun t' ht => by
  obtain ⟨k, h1, h2⟩ := H t' ht
  exact ⟨k, by omega, by rw [bkC_c (by omega) (Or.inl (by omega))]; exact h2⟩
theorem BT_n (hm : (m : Int) = a + i) : rA (bkC b t f a n al i X).1 56 (10 * b + m) = t := by
  have v := bkC_v (b := b) (t := t) (fa := f) (a := a) (c := n) (al := al) (i := i) (X := X)
  rw [← hm] at v
  exact v.2.2.2.1
/-- all coupons of one stretch -/
theorem itC_K (hm : (m : Int) = a) (U : am_ZU s X.1) (H : am_BC s b v0 m X.1) : ∀ k : Nat, am_BC s b v0 (m + k) (itX (bkC b t f a n al) k X).1 ∧ am_ZU s (itX (bkC b t f a n al) k X).1 ∧ (∀ j, am_BT b j m X.1 → am_BT b j (m + k) (itX (bkC b t f a n al) k X).1) ∧ (1 ≤ k → ∃ x : Nat, x < m + k ∧ rA (itX (bkC b t f a n al) k X).1 56 (10 * b + x) = t) ∧ ∀ j x, j = 59 ∨ j = 60 → rA (itX (bkC b t f a n al) k X).1 j x = rA X.1 j x := by
  intro k
  induction k with
  | zero => exact ⟨H, U, fun _ h => h, fun h => by omega, fun _ _ _ => rfl⟩
  | succ k ih =>
    obtain ⟨i1, i2, i3, i4, i5⟩ := ih
    have hm2 : ((m + k : Nat) : Int) = a + k := by omega
    refine ⟨BC_s i1 i2 hm2, ZU_C i2, fun j h => BT_s (i3 j h) hm2, fun _ => ?_, fun j x h => (bkC_c (by omega) (Or.inr h)).trans (i5 j x h)⟩
    by_cases e : 1 ≤ k
    · obtain ⟨x, x1, x2⟩ := i4 e
      refine ⟨x, by omega, ?_⟩
      show rA (bkC b t f a n al k (itX (bkC b t f a n al) k X)).1 56 (10 * b + x) = t
      rw [bkC_c (by omega) (Or.inl (by omega))]
      exact x2
    · exact ⟨m + k, by omega, BT_n hm2⟩
/-- all of the first j stretches -/
def am_BS (s : am_Z) (b : Int) (j : Nat) (X : am_X) : Prop := am_ZU s X.1 ∧ X.2 = sumI 0 j (rA s 39) ∧ am_BC s b (rI s 37) X.2.toNat X.1 ∧ am_BT b j X.2.toNat X.1 ∧ (∀ t : Nat, t < j → rA X.1 59 (4 * b + t) = rA s 25 (rA s 40 t)) ∧ ∀ t : Nat, j ≤ t → t < 4 → rA X.1 59 (4 * b + t) = 0 ∧ rA X.1 60 (4 * b + t) = 0
theorem BS_s (H : am_BS s b j X) (h0 : 0 ≤ sumI 0 j (rA s 39)) (h1 : 1 ≤ rA s 39 j) : am_BS s b (j + 1) (bkB b j X) := by
  obtain ⟨U, h2, hC, hT, h59, h60⟩ := H
  have e40 : rA X.1 40 j = rA s 40 j := U 40 _ (by omega)
  have e39 : rA X.1 39 j = rA s 39 j := U 39 _ (by omega)
  have hx : (bkB b j X).2 = X.2 + rA s 39 j := by
    show X.2 + rA X.1 39 j = _
    rw [e39]
  have hm : ((X.2.toNat : Nat) : Int) = X.2 := by omega
  have US : am_ZU s (bkS X.1 b j) := ZU_S U
  have HS : am_BC s b (rI s 37) X.2.toNat (bkS X.1 b j) := by
    refine ⟨fun k hk => ?_, ?_⟩
    · rw [bkS_o (by omega), bkS_o (by omega)]
      exact hC.1 k hk
    · rw [bkS_o (by omega), show rA (bkS X.1 b j) 58 = rA X.1 58 from funext (fun x => bkS_o (by omega))]
      exact hC.2
  have K := itC_K (X := (bkS X.1 b j, rA X.1 25 (rA X.1 40 j))) (b := b) (t := j) (f := rA X.1 40 j) (a := X.2) (n := rA X.1 39 j) (al := sumI X.2 (rA X.1 39 j).toNat (fLen X.1)) hm US HS (rA X.1 39 j).toNat
  obtain ⟨k1, k2, k3, k4, k5⟩ := K
  have en : (bkB b j X).2.toNat = X.2.toNat + (rA X.1 39 j).toNat := by omega
  have eS := fun k => bkS_59 (Z := X.1) (b := b) (t := j) (k := k)
  refine ⟨k2, ?_, by rw [en]; exact k1, fun t ht => ?_, fun t ht => ?_, fun t h3 h4 => ?_⟩
  · rw [hx, h2, sumI_s, Int.zero_add]
  · rw [en]
    by_cases e : t = j
    · subst e
      exact k4 (by omega)
    · exact k3 j (fun t' ht' => by
        obtain ⟨k, y1, y2⟩ := hT t' ht'
        exact ⟨k, y1, (bkS_o (by omega)).trans y2⟩) t (by omega)
  · have y := (k5 59 (4 * b + t) (Or.inl rfl)).trans (eS (t : Int)).1
    refine y.trans ?_
    by_cases e : t = j
    · subst e
      rw [if_pos rfl, e40, U 25 _ (by omega)]
    · rw [if_neg (by omega)]
      exact h59 t (by omega)
  · have y := (k5 59 (4 * b + t) (Or.inl rfl)).trans (eS (t : Int)).1
    have y2 := (k5 60 (4 * b + t) (Or.inr rfl)).trans (eS (t : Int)).2
    have z := h60 t (by omega) h4
    exact ⟨y.trans (by rw [if_neg (by omega)]; exact z.1), y2.trans (by rw [if_neg (by omega)]; exact z.2)⟩
end BKI
section IVB
variable {s : am_Z} {W : am_wQ} {n p mb hh : Int}
theorem BS_T (Q : am_WQ s W) (hok : okP W.2) (hl : pLen W.2 = n) (V4 : am_V4 s) (h0 : 0 ≤ rI s 44) : am_BS s (rI s 44) W.2.length (bkT s p mb hh, n) := by
  have w := wq_S Q hok hl
  have h38 := Q.2.1
  have key : ∀ k : Nat, k ≤ W.2.length → am_BS s (rI s 44) k (itX (bkB (rI s 44)) k (bk0 s (rI s 44) p mb hh, 0)) := fun k hk => by
    induction k with
    | zero =>
      refine ⟨ZU_0, rfl, ⟨fun k hk => absurd hk (Nat.not_lt_zero k), ?_⟩, fun t ht => absurd ht (Nat.not_lt_zero t), fun t ht => absurd ht (Nat.not_lt_zero t), fun t _ ht => ?_⟩
      · show rA (bk0 s (rI s 44) p mb hh) 49 (rI s 44) = rI s 37 + 0
        unfold bk0
        rw [wA_A, if_neg (fun z => by have := z.1; omega), wA_A, if_neg (fun z => by have := z.1; omega), wA_A, if_neg (fun z => by have := z.1; omega), wA_A, if_pos ⟨rfl, rfl⟩]
        omega
      · show rA (bk0 s (rI s 44) p mb hh) 59 _ = 0 ∧ rA (bk0 s (rI s 44) p mb hh) 60 _ = 0
        rw [bk0_39 59 _ (by omega), bk0_39 60 _ (by omega)]
        exact V4 _ (by omega)
    | succ k ih =>
      exact BS_s (ih (by omega)) (w.2.1 k (by omega)).1 (w.1 k (by omega))
  have z := key W.2.length (Nat.le_refl _)
  have e1 : (itX (bkB (rI s 44)) W.2.length (bk0 s (rI s 44) p mb hh, 0)).1 = bkT s p mb hh := by
    unfold bkT
    rw [show (rI s 38).toNat = W.2.length by omega]
  have e2 : (itX (bkB (rI s 44)) W.2.length (bk0 s (rI s 44) p mb hh, 0)).2 = n := by
    rw [z.2.1]
    exact w.2.2
  have e3 : itX (bkB (rI s 44)) W.2.length (bk0 s (rI s 44) p mb hh, 0) = (bkT s p mb hh, n) := Prod.ext e1 e2
  rw [e3] at z
  exact z
theorem sum4 {f : Int → Int} {x : Int} : ∀ (l : Nat) (g : Int → Int), l ≤ 4 → (∀ t : Nat, t < l → f (x + t) = g t) → (∀ t : Nat, l ≤ t → t < 4 → f (x + t) = 0) → sumI x 4 f = sumI 0 l g := by
  intro l g hl h1 h2
  have e : ∀ k : Nat, l ≤ k → k ≤ 4 → sumI x k f = sumI 0 l g := fun k => by
    induction k with
    | zero => intro a _; rw [show l = 0 by omega]; rfl
    | succ k ih =>
      intro a b
      by_cases c : l = k + 1
      · rw [c]
        rw [c] at h1
        have : ∀ m : Nat, m ≤ k + 1 → sumI x m f = sumI 0 m g := fun m hm => by
          induction m with
          | zero => rfl
          | succ m ihm => rw [sumI_s, sumI_s, ihm (by omega), h1 m (by omega), Int.zero_add]
        exact this _ (Nat.le_refl _)
      · rw [sumI_s, ih (by omega) (by omega), h2 k (by omega) (by omega)]
        omega
  exact e 4 hl (Nat.le_refl _)
theorem IB_bkT (I : am_IB s) (B : in_S s) (Q : am_WQ s W) (hok : okP W.2) (hl : pLen W.2 = n) (e35 : rI s 35 = n) (n4 : 1 ≤ n ∧ n ≤ 4) (hW : W.1 = pSum s W.2) (bp : 1 ≤ p) (hD : ∀ i j : Int, 0 ≤ i → i < j → j < n → rA s 36 i ≠ rA s 36 j) : am_IB (bkT s p mb hh) := by
  have b44 := B.2.1 44 0 40 rfl
  have w := wq_S Q hok hl
  have h38 := Q.2.1
  have hw4 := Q.2.2.1
  have hS : ∀ i : Nat, (i : Int) < rI s 38 → 0 ≤ sumI 0 i (rA s 39) := fun i hi => (w.2.1 i hi).1
  obtain ⟨V4, HO, UQ, CK, PE, PT, PD, SX⟩ := I
  have z := BS_T (p := p) (mb := mb) (hh := hh) Q hok hl V4 b44.1
  obtain ⟨U, _, ⟨zc, z49⟩, zt, z59, z60⟩ := z
  have U' : ∀ j x, (j < 45 ∨ 60 < j) → rA (bkT s p mb hh) j x = rA s j x := U
  have zc' : ∀ k : Nat, k < n.toNat → rA (bkT s p mb hh) 55 (10 * rI s 44 + k) = 0 ∧ rA (bkT s p mb hh) 53 (10 * rI s 44 + k) = rA s 36 k := zc
  have n44 : rI (bkT s p mb hh) 44 = rI s 44 + 1 := (bkT_I 44).trans (if_pos rfl)
  have t52 : rA (bkT s p mb hh) 52 (rI s 44) = n := by rw [bkT_52, e35]
  have u1 : ∀ j b, 45 ≤ j → j ≤ 52 → b ≠ rI s 44 → rA (bkT s p mb hh) j b = rA s j b := fun j b h1 h2 h3 => bkT_U hS (Or.inr (Or.inl ⟨h1, h2, h3⟩))
  have u2 : ∀ j x, 53 ≤ j → j ≤ 58 → x < 10 * rI s 44 → rA (bkT s p mb hh) j x = rA s j x := fun j x h1 h2 h3 => bkT_U hS (Or.inr (Or.inr (Or.inl ⟨h1, h2, h3⟩)))
  have u3 : ∀ j x, j = 59 ∨ j = 60 → x < 4 * rI s 44 → rA (bkT s p mb hh) j x = rA s j x := fun j x h1 h2 => bkT_U hS (Or.inr (Or.inr (Or.inr ⟨h1, h2⟩)))
  have b52 := fun b => B.1 52 b 0 10 rfl
  have i0 : ∀ (f : Nat → Int) (j : Nat), (∀ x, rA (bk0 s (rI s 44) p mb hh) j x = rA (bk0 s (rI s 44) p mb hh) j x) := fun _ _ _ => rfl
  have t45 : rA (bkT s p mb hh) 45 (rI s 44) = p := by
    unfold bkT
    rw [(itX_u (g := bkB (rI s 44)) (fun i X => bkB_u) (rI s 38).toNat (bk0 s (rI s 44) p mb hh, 0)).1 45 _ rfl]
    show rA (bk0 s (rI s 44) p mb hh) 45 (rI s 44) = p
    unfold bk0
    simp [wA_A]
  refine ⟨fun i hi => ?_, fun b k hb h0 hk => ?_, fun b hb0 hb => ?_, fun b k hb hk hh2 => ?_, fun b hb => ?_, ?_, fun b hb h0 => ?_, fun b hb t t0 t4 hk => ?_⟩
  · rw [n44] at hi
    rw [bkT_hi (by omega) (Or.inl rfl) (by omega), bkT_hi (by omega) (Or.inr rfl) (by omega)]
    exact V4 i (by omega)
  · rw [n44] at hb
    by_cases e : (b : Int) = rI s 44
    · rw [e, t52] at hk
      rw [e]
      exact (zc' k (by omega)).1
    · have y := b52 b
      rw [u1 52 _ (by omega) (by omega) e] at hk
      rw [u1 47 _ (by omega) (by omega) e] at h0
      rw [u2 55 _ (by omega) (by omega) (by omega)]
      exact HO b k (by omega) h0 hk
  · rw [n44] at hb
    by_cases e : b = rI s 44
    · intro i j h1 h2 h3 _ _
      rw [e, t52] at h3
      rw [e]
      have y1 := (zc' i.toNat (by omega)).2
      have y2 := (zc' j.toNat (by omega)).2
      rw [show ((i.toNat : Nat) : Int) = i by omega] at y1
      rw [show ((j.toNat : Nat) : Int) = j by omega] at y2
      rw [y1, y2]
      exact hD i j h1 h2 h3
    · intro i j h1 h2 h3 h4 h5
      have y := b52 b
      rw [u1 52 _ (by omega) (by omega) e] at h3
      rw [u2 55 _ (by omega) (by omega) (by omega)] at h4 h5
      rw [u2 53 _ (by omega) (by omega) (by omega), u2 53 _ (by omega) (by omega) (by omega)]
      exact UQ b hb0 (by omega) i j h1 h2 h3 h4 h5
  · rw [n44] at hb
    by_cases e : (b : Int) = rI s 44
    · rw [e, t52] at hk
      rw [e] at hh2
      have := (zc' k (by omega)).1
      omega
    · have y := b52 b
      rw [u1 52 _ (by omega) (by omega) e] at hk
      rw [u2 55 _ (by omega) (by omega) (by omega)] at hh2
      rw [u1 47 _ (by omega) (by omega) e]
      exact CK b k (by omega) hk hh2
  · rw [n44] at hb
    by_cases e : (b : Int) = rI s 44
    · rw [e, t45]
      exact bp
    · rw [u1 45 _ (by omega) (by omega) e]
      exact PE b (by omega)
  · have hn : nF s ≤ nF (bkT s p mb hh) := by
      have e0 : ∀ b : Int, 0 ≤ b → b < rI s 44 → nFb (bkT s p mb hh) b = nFb s b := fun b h1 h2 => by
        have y := b52 b
        unfold nFb
        rw [u1 52 _ (by omega) (by omega) (by omega)]
        refine sumI_c (fun x x1 x2 => ?_)
        unfold nF1
        rw [u2 55 _ (by omega) (by omega) (by omega)]
      unfold nF
      rw [n44, show (rI s 44 + 1).toNat = (rI s 44).toNat + 1 by omega, sumI_s, show (0 : Int) + ((rI s 44).toNat : Int) = rI s 44 by omega]
      rw [show sumI 0 (rI s 44).toNat (nFb (bkT s p mb hh)) = sumI 0 (rI s 44).toNat (nFb s) from sumI_c (fun x x1 x2 => e0 x x1 (by omega))]
      have : 0 ≤ nFb (bkT s p mb hh) (rI s 44) := by
        unfold nFb
        exact (sumI_b (M := 1) (fun i => nF1_b _ i)).1
      omega
    intro i i1 i2
    have y := PT i i1 i2
    rw [U' 69 _ (by omega)]
    omega
  · rw [n44] at hb
    by_cases e : (b : Int) = rI s 44
    · rw [e]
      unfold pfoS
      rw [t52]
      have e4 := sum4 (f := rA (bkT s p mb hh) 59) (x := 4 * rI s 44) W.2.length (fun t => rA s 25 (pF W.2 t.toNat)) Q.2.2.1 (fun t ht => by
        rw [z59 t ht, (Q.2.2.2 t ht).1]
        rfl) (fun t h1 h2 => (z60 t h1 h2).1)
      rw [e4]
      have : sumI 0 W.2.length (fun t => rA s 25 (pF W.2 t.toNat)) = rI s 37 := by
        rw [Q.1, hW]
        rfl
      rw [this]
      exact z49
    · have y := b52 b
      rw [u1 47 _ (by omega) (by omega) e] at h0
      rw [u1 49 _ (by omega) (by omega) e]
      unfold pfoS
      rw [u1 52 _ (by omega) (by omega) e, show sumI (4 * (b : Int)) 4 (rA (bkT s p mb hh) 59) = sumI (4 * (b : Int)) 4 (rA s 59) from sumI_c (fun x x1 x2 => u3 59 _ (Or.inl rfl) (by omega)), show sumI (10 * (b : Int)) (rA s 52 b).toNat (rA (bkT s p mb hh) 58) = sumI (10 * (b : Int)) (rA s 52 b).toNat (rA s 58) from sumI_c (fun x x1 x2 => u2 58 _ (by omega) (by omega) (by omega))]
      exact PD b (by omega) h0
  · rw [n44] at hb
    by_cases e : (b : Int) = rI s 44
    · rw [e] at hk ⊢
      rw [t52] at hk
      have et : ((t.toNat : Nat) : Int) = t := by omega
      by_cases ht : t.toNat < W.2.length
      · obtain ⟨k, k1, k2⟩ := zt t.toNat ht
        have k1' : k < n.toNat := k1
        have := hk k (by omega)
        rw [et] at k2
        exact absurd k2 this
      · have y := (z60 t.toNat (by omega) (by omega)).2
        rw [et] at y
        exact y
    · have y := b52 b
      rw [u3 60 _ (Or.inr rfl) (by omega)]
      refine SX b (by omega) t t0 t4 (fun k hk2 => ?_)
      have x := hk k (by rw [u1 52 _ (by omega) (by omega) e]; exact hk2)
      rw [u2 56 _ (by omega) (by omega) (by omega)] at x
      exact x
end IVB
end


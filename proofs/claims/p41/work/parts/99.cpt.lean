noncomputable section
def nF1 (s : am_Z) (x : Int) : Int := if rA s 55 x = 2 then 1 else 0
def nFb (s : am_Z) (b : Int) : Int := sumI (10 * b) (rA s 52 b).toNat (nF1 s)
/-- how many coupons are flown -/
def nF (s : am_Z) : Int := sumI 0 (rI s 44).toNat (nFb s)
def am_PT (s : am_Z) : Prop := ∀ i : Int, 0 ≤ i → i ≤ 4 → 0 ≤ rA s 69 i ∧ rA s 69 i ≤ 1800 * nF s
theorem sumI_le {a : Int} {n : Nat} {f g : Int → Int} (h : ∀ i, a ≤ i → i < a + n → f i ≤ g i) : sumI a n f ≤ sumI a n g := by
  induction n with
  | zero => exact Int.le_refl _
  | succ n ih =>
    have h1 := ih (fun i h1 h2 => h i h1 (by omega))
    have h2 := h (a + n) (by omega) (by omega)
    rw [sumI_s, sumI_s]
    omega
theorem nF1_b (s : am_Z) (x : Int) : 0 ≤ nF1 s x ∧ nF1 s x ≤ 1 := by
  unfold nF1
  split <;> omega
theorem nFb_b {s : am_Z} (h10 : ∀ b, rA s 52 b ≤ 10) (b : Int) : 0 ≤ nFb s b ∧ nFb s b ≤ 10 := by
  have h := sumI_b (a := 10 * b) (n := (rA s 52 b).toNat) (f := nF1 s) (M := 1) (nF1_b s)
  have := h10 b
  unfold nFb
  omega
theorem nF_b {s : am_Z} (B : in_S s) : 0 ≤ nF s ∧ nF s ≤ 400 := by
  have h := sumI_b (a := 0) (n := (rI s 44).toNat) (f := nFb s) (M := 10) (nFb_b (fun b => (B.1 52 b 0 10 rfl).2))
  have := B.2.1 44 0 40 rfl
  unfold nF
  omega
theorem PT_N {s : am_Z} (B : in_S s) (P : am_PT s) : am_PN s := fun i h1 h2 => by
  have h := P i h1 h2
  have b := nF_b B
  omega
theorem nF_s {t t' : am_Z} (h52 : ∀ x, rA t' 52 x = rA t 52 x) (h55 : ∀ x, rA t 55 x = 2 → rA t' 55 x = 2) (h44 : rI t' 44 = rI t 44) : nF t ≤ nF t' := by
  unfold nF
  rw [h44]
  refine sumI_le (fun b _ _ => ?_)
  unfold nFb
  rw [h52]
  refine sumI_le (fun x _ _ => ?_)
  unfold nF1
  by_cases h : rA t 55 x = 2
  · rw [if_pos h, if_pos (h55 x h)]
    omega
  · rw [if_neg h]
    split <;> omega
theorem PT_s {t t' : am_Z} (P : am_PT t) (h69 : ∀ x, rA t' 69 x = rA t 69 x) (h52 : ∀ x, rA t' 52 x = rA t 52 x) (h55 : ∀ x, rA t 55 x = 2 → rA t' 55 x = 2) (h44 : rI t' 44 = rI t 44) : am_PT t' := fun i h1 h2 => by
  have h := P i h1 h2
  have n := nF_s h52 h55 h44
  rw [h69]
  omega
theorem glX_DS {s : am_Z} (B : in_S s) (U : am_UQ s) (l : Int) : ∃ a2, am_DS l (gl0 s) (glX s l).1 (sumI 0 (rI s 44).toNat (fLv (gl0 s) l)) a2 (glX s l).2 := by
  have b44 := B.2.1 44 0 40 rfl
  have b9 := B.1 9 (l / 100) 0 60 rfl
  have key : ∀ (m : Nat) (s1 : am_Z) (a n : Int), cntD s1 (rI (gl0 s) 44).toNat < m → am_DS l (gl0 s) s1 (sumI 0 (rI s 44).toNat (fLv (gl0 s) l)) a n → ∃ s2 a2 n2, am_DS l (gl0 s) s2 (sumI 0 (rI s 44).toNat (fLv (gl0 s) l)) a2 n2 ∧ a2 ≤ rA (gl0 s) 9 (l / 100) := by
    intro m
    induction m with
    | zero => intro s1 a n h; exact absurd h (Nat.not_lt_zero _)
    | succ m ih =>
      intro s1 a n hm D
      by_cases h : a ≤ rA (gl0 s) 9 (l / 100)
      · exact ⟨s1, a, n, D, h⟩
      · have e44 : rI s1 44 = rI (gl0 s) 44 := D.2.2.2.2.1.2 44 (by omega)
        have e9 : rA (gl0 s) 9 (l / 100) = rA s 9 (l / 100) := (gl0_S s).1 9 _ (by omega)
        have ha := D.2.2.1
        have hne : ndN s1 l (rI s1 44).toNat ≠ -1 := by
          obtain ⟨i, i1, i2, i3⟩ := sumI_pos (a := 0) (n := (rI (gl0 s) 44).toNat) (f := fLv s1 l) (by omega)
          have hi : rA s1 67 i = 0 ∧ cfS s1 i l ≠ -1 := by
            unfold fLv at i3
            by_cases z1 : rA s1 67 i = 0
            · rw [if_pos z1] at i3
              refine ⟨z1, fun z2 => ?_⟩
              rw [if_neg (fun z3 => z3 z2)] at i3
              omega
            · rw [if_neg z1] at i3; omega
          have e : ((i.toNat : Nat) : Int) = i := by omega
          exact ndN_ex (k := i.toNat) (by omega) (by rw [e]; exact hi.2) (by rw [e]; exact hi.1)
        have hw := ndN_w hne
        have hb := ndN_b s1 l (rI s1 44).toNat
        have ek : (((ndN s1 l (rI s1 44).toNat).toNat : Nat) : Int) = ndN s1 l (rI s1 44).toNat := by omega
        have D2 := DS_step D (k := (ndN s1 l (rI s1 44).toNat).toNat) (by omega) (by rw [ek]; exact hw.1) (by rw [ek]; exact hw.2) ek.symm (by omega)
        have c1 := D.2.1
        have c2 := D2.2.1
        exact ih _ _ _ (by omega) D2
  obtain ⟨s2, a2, n2, D, h⟩ := key _ _ _ _ (Nat.lt_succ_self _) (DS_0 (l := l) (s0 := gl0 s) (fun i h1 h2 => if_pos ⟨rfl, h1, by have h3 : i < rI s 44 := h2; omega⟩) b44.1)
  have e1 : glX s l = (s2, n2) := by
    have z := DS_end D h
    unfold glX
    rw [fLv_0 B U]
    exact z
  rw [e1]
  exact ⟨a2, D⟩
theorem mul_pt {x y : Int} (hx : 0 ≤ x ∧ x ≤ 9) (hy : 0 ≤ y ∧ y ≤ 20) : 0 ≤ 10 * x * y ∧ 10 * x * y ≤ 1800 := by
  have h1 : x * y ≤ 9 * 20 := Int.mul_le_mul hx.2 hy.2 hy.1 (by omega)
  have h2 := Int.mul_nonneg hx.1 hy.1
  rw [Int.mul_assoc]
  omega
/-- one more is flown -/
theorem nF_fly {t t' : am_Z} {b i : Nat} (hb : (b : Int) < rI t 44) (hi : (i : Int) < rA t 52 b) (h10 : ∀ b, rA t 52 b ≤ 10) (h1 : rA t 55 (10 * b + i) = 1) (h52 : ∀ x, rA t' 52 x = rA t 52 x) (h44 : rI t' 44 = rI t 44) (h55 : ∀ x, x ≠ 10 * (b : Int) + i → rA t' 55 x = rA t 55 x) (h2 : rA t' 55 (10 * b + i) = 2) : nF t' = nF t + 1 := by
  have e1 : nFb t' b = nFb t b + 1 := by
    unfold nFb
    rw [h52, sumI_upd (f := nF1 t) (g := nF1 t') (i0 := 10 * (b : Int) + i) (by omega) (fun x hx => by unfold nF1; rw [h55 x hx])]
    have y1 : nF1 t (10 * (b : Int) + i) = 0 := by unfold nF1; rw [h1]; rfl
    have y2 : nF1 t' (10 * (b : Int) + i) = 1 := by unfold nF1; rw [h2]; rfl
    rw [y1, y2]
    omega
  unfold nF
  rw [h44, sumI_upd (f := nFb t) (g := nFb t') (i0 := (b : Int)) (by omega) (fun c hc => by
    have := h10 c
    have := h10 b
    unfold nFb
    rw [h52]
    exact sumI_c (fun x x1 x2 => by unfold nF1; rw [h55 x (by omega)]))]
  omega
theorem gc_PT {l : Int} {b i : Nat} {t : am_Z} (hb : (b : Int) < rI t 44) (hi : (i : Int) < rA t 52 b) (h10 : ∀ b, rA t 52 b ≤ 10) (h45 : 0 ≤ rA t 45 b ∧ rA t 45 b ≤ 9) (h8 : 0 ≤ rA t 8 (l / 100) ∧ rA t 8 (l / 100) ≤ 20) (P : am_PT t) : am_PT (glC l b i t) := by
  unfold glC
  split
  · rename_i hc
    have hu := flyS_u t b (10 * b + i) l
    have h2 : rA (flyS t b (10 * b + i) l) 55 (10 * b + i) = 2 := by
      unfold flyS
      split <;> simp [wA_A]
    have hn := nF_fly (t := t) (t' := flyS t b (10 * b + i) l) hb hi h10 hc.2.1 (fun x => hu.1 52 x (by omega) (by omega) (by omega)) (congrFun hu.2.2 44) hu.2.1 h2
    have hm := mul_pt h45 h8
    intro x x1 x2
    have p := P x x1 x2
    rw [hn]
    unfold flyS
    split
    · rw [wA_A, if_neg (fun z => absurd z.1 (by omega)), wA_A, if_neg (fun z => absurd z.1 (by omega))]
      omega
    · rw [wA_A]
      split
      · rename_i z
        rw [← z.2]
        omega
      · rw [wA_A, if_neg (fun z => absurd z.1 (by omega)), wA_A, if_neg (fun z => absurd z.1 (by omega))]
        omega
  · split
    · rename_i hc
      refine PT_s P (fun x => by rw [wA_A, if_neg (fun z => absurd z.1 (by omega))]) (fun x => by rw [wA_A, if_neg (fun z => absurd z.1 (by omega))]) (fun x hx => ?_) rfl
      rw [wA_A, if_neg (fun z => by rw [z.2] at hx; have := hc.2; omega)]
      exact hx
    · exact P
theorem gcN_PT {l : Int} {b : Nat} {t : am_Z} (hb : (b : Int) < rI t 44) (h10 : ∀ b, rA t 52 b ≤ 10) (h45 : 0 ≤ rA t 45 b ∧ rA t 45 b ≤ 9) (h8 : 0 ≤ rA t 8 (l / 100) ∧ rA t 8 (l / 100) ≤ 20) (P : am_PT t) : ∀ n : Nat, (n : Int) ≤ rA t 52 b → am_PT (itS (glC l b) n t)
  | 0, _ => P
  | n + 1, hn => by
    have hu := glI_u l b n t
    have e52 : ∀ x, rA (itS (glC l b) n t) 52 x = rA t 52 x := fun x => hu.1 52 x (by omega) (by omega) (by omega)
    refine gc_PT ?_ ?_ (fun x => by rw [e52]; exact h10 x) ?_ ?_ (gcN_PT hb h10 h45 h8 P n (by omega))
    · rw [show rI (itS (glC l b) n t) 44 = rI t 44 from congrFun hu.2.2.1 44]
      exact hb
    · rw [e52]
      omega
    · rw [hu.1 45 _ (by omega) (by omega) (by omega)]
      exact h45
    · rw [hu.1 8 _ (by omega) (by omega) (by omega)]
      exact h8
theorem gB_PT {l : Int} {b : Nat} {t : am_Z} (hb : (b : Int) < rI t 44) (h10 : ∀ b, rA t 52 b ≤ 10) (h45 : 0 ≤ rA t 45 b ∧ rA t 45 b ≤ 9) (h8 : 0 ≤ rA t 8 (l / 100) ∧ rA t 8 (l / 100) ≤ 20) (h0 : 0 ≤ rA t 52 b) (P : am_PT t) : am_PT (glB l b t) := by
  unfold glB
  split
  · exact gcN_PT hb h10 h45 h8 P _ (by omega)
  · exact P
theorem glN_PT {l : Int} {t : am_Z} (B : in_S t) (P : am_PT t) : ∀ n : Nat, (n : Int) ≤ rI t 44 → am_PT (itS (glB l) n t)
  | 0, _ => P
  | n + 1, hn => by
    have h10 : ∀ b, rA t 52 b ≤ 10 := fun b => (B.1 52 b 0 10 rfl).2
    have hu := glN_u (l := l) h10 n
    have e52 : ∀ x, rA (itS (glB l) n t) 52 x = rA t 52 x := fun x => hu.1 52 x (by omega) (by omega) (by omega)
    have ih := glN_PT (l := l) B P n (by omega)
    have c52 := B.1 52 n 0 10 rfl
    refine gB_PT ?_ (fun x => by rw [e52]; exact h10 x) ?_ ?_ (by rw [e52]; omega) ih
    · rw [show rI (itS (glB l) n t) 44 = rI t 44 from congrFun hu.2.1 44]
      omega
    · rw [hu.1 45 _ (by omega) (by omega) (by omega)]
      exact B.1 45 n 0 9 rfl
    · rw [hu.1 8 _ (by omega) (by omega) (by omega)]
      exact B.1 8 (l / 100) 0 20 rfl
theorem sum_sh {a : Int} {p n : Nat} {f g : Int → Int} (h0 : ∀ i, 0 ≤ g i) (h1 : ∀ i, a ≤ i → i < a + p → g i = f i) (h2 : ∀ i, a + p ≤ i → g (i + n) = f i) : ∀ N : Nat, sumI a (p + N) f ≤ sumI a (p + N + n) g := by
  intro N
  induction N with
  | zero =>
    have e : ∀ k : Nat, sumI a p f ≤ sumI a (p + k) g := by
      intro k
      induction k with
      | zero => exact Int.le_of_eq (sumI_c (fun i i1 i2 => (h1 i i1 i2).symm))
      | succ k ih =>
        have h := h0 (a + ((p + k : Nat) : Int))
        show sumI a p f ≤ sumI a (p + k) g + g (a + ((p + k : Nat) : Int))
        omega
    exact e n
  | succ N ih =>
    have h := h2 (a + ((p + N : Nat) : Int)) (by omega)
    rw [show p + (N + 1) + n = (p + N + n) + 1 by omega]
    show sumI a (p + N) f + f (a + ((p + N : Nat) : Int)) ≤ sumI a (p + N + n) g + g (a + ((p + N + n : Nat) : Int))
    rw [show a + ((p + N + n : Nat) : Int) = a + ((p + N : Nat) : Int) + (n : Int) by omega, h]
    omega
theorem nF1_0 (s : am_Z) (x : Int) : 0 ≤ nF1 s x := (nF1_b s x).1
theorem mv_52 {t : am_Z} (h2 : ∀ b, 0 ≤ rA t 52 b ∧ rA t 52 b ≤ 10) {b c : Int} (hc : 0 ≤ c ∧ c < rA t 52 b) (x : Int) : 0 ≤ rA (moveS t b c) 52 x ∧ rA (moveS t b c) 52 x ≤ 10 := by
  have hx := h2 x
  have hb := h2 b
  by_cases ex : x = b
  · rw [ex]
    by_cases hm : mvP t b c
    · have hr := moveS_r hm hc
      have hw := nWay_12 hm.1
      have hm2 := hm.2
      rw [hr.1]
      omega
    · have e : moveS t b c = wA (findS t b c) 55 (10 * b + c) 5 := by unfold moveS; rw [if_neg hm]
      rw [e]
      exact hb
  · rw [moveS_A hc hb.2 (Or.inr (Or.inr (Or.inl ⟨rfl, ex⟩)))]
    exact hx
theorem mv_PT {t : am_Z} (h52 : ∀ b, 0 ≤ rA t 52 b ∧ rA t 52 b ≤ 10) (P : am_PT t) {b c : Int} (hb : 0 ≤ b) (hc : 0 ≤ c ∧ c < rA t 52 b) (h55 : rA t 55 (10 * b + c) = 1) : am_PT (moveS t b c) := by
  have h10 : ∀ b, rA t 52 b ≤ 10 := fun b => (h52 b).2
  have key : nFb t b ≤ nFb (moveS t b c) b := by
    by_cases hm : mvP t b c
    · have hr := moveS_r hm hc
      have hw := nWay_12 hm.1
      have hm2 := hm.2
      have c52 := h52 b
      unfold nFb
      rw [hr.1, show (rA t 52 b).toNat = c.toNat + ((rA t 52 b).toNat - c.toNat) by omega, show (rA t 52 b + nWay t b c).toNat = c.toNat + ((rA t 52 b).toNat - c.toNat) + (nWay t b c).toNat by omega]
      refine Int.le_trans (sumI_le (g := fun x => if x < 10 * b + rA t 52 b then nF1 t x else nF1 (moveS t b c) (x + ((nWay t b c).toNat : Int))) (fun x x1 x2 => ?_)) (sum_sh (p := c.toNat) (nF1_0 _) (fun x x1 x2 => ?_) (fun x x1 => ?_) _)
      · rw [if_pos (by omega)]
        exact Int.le_refl _
      · rw [if_pos (by omega)]
        have z := hr.2.2 (x - 10 * b) (by omega) (by omega)
        rw [show 10 * b + (x - 10 * b) = x by omega, if_pos (by omega)] at z
        unfold nF1
        rw [z]
      · by_cases y : x < 10 * b + rA t 52 b
        · rw [if_pos y]
          have z := hr.2.2 (x + nWay t b c - 10 * b) (by omega) (by omega)
          rw [show 10 * b + (x + nWay t b c - 10 * b) = x + ((nWay t b c).toNat : Int) by omega, if_neg (by omega), if_neg (by omega)] at z
          by_cases e : x = 10 * b + c
          · rw [if_pos (by omega)] at z
            unfold nF1
            rw [z, e, h55]
            rfl
          · rw [if_neg (by omega), show x + ((nWay t b c).toNat : Int) - nWay t b c = x by omega] at z
            unfold nF1
            rw [z]
        · rw [if_neg y]
    · have e : moveS t b c = wA (findS t b c) 55 (10 * b + c) 5 := by unfold moveS; rw [if_neg hm]
      rw [e]
      show sumI (10 * b) (rA t 52 b).toNat (nF1 t) ≤ sumI (10 * b) (rA t 52 b).toNat (nF1 (wA (findS t b c) 55 (10 * b + c) 5))
      refine sumI_le (fun x _ _ => ?_)
      unfold nF1
      by_cases ex : x = 10 * b + c
      · have y1 : (if rA t 55 x = 2 then (1 : Int) else 0) = 0 := by
          rw [ex, h55]
          rfl
        rw [y1]
        split <;> omega
      · have y2 : rA (wA (findS t b c) 55 (10 * b + c) 5) 55 x = rA t 55 x := if_neg (fun z => ex z.2)
        rw [y2]
        exact Int.le_refl _
  have hn : nF t ≤ nF (moveS t b c) := by
    unfold nF
    rw [show rI (moveS t b c) 44 = rI t 44 from mv_I (by omega)]
    refine sumI_le (fun x x1 _ => ?_)
    by_cases ex : x = b
    · rw [ex]; exact key
    · have := h10 x
      unfold nFb
      rw [moveS_A hc (h10 b) (Or.inr (Or.inr (Or.inl ⟨rfl, ex⟩)))]
      refine Int.le_of_eq (sumI_c (fun y y1 y2 => ?_))
      unfold nF1
      rw [moveS_A hc (h10 b) (Or.inr (Or.inr (Or.inr ⟨by omega, by omega⟩)))]
  intro i i1 i2
  have p := P i i1 i2
  rw [mv_any (by omega)]
  omega
theorem gmN_PT {l n : Int} {s3 : am_Z} (h52 : ∀ b, 0 ≤ rA s3 52 b ∧ rA s3 52 b ≤ 10) (hT : ∀ i : Nat, (i : Int) < n → 0 ≤ rA s3 71 i ∧ cfS s3 (rA s3 71 i) l ≠ -1) (hD : ∀ i i2 : Nat, i < i2 → (i2 : Int) < n → rA s3 71 i ≠ rA s3 71 i2) (P : am_PT s3) : ∀ j : Nat, (j : Int) ≤ n → am_PT (itS (gmF l) j s3) ∧ (∀ i : Nat, j ≤ i → (i : Int) < n → cfS (itS (gmF l) j s3) (rA s3 71 i) l = cfS s3 (rA s3 71 i) l) ∧ (∀ x, rA (itS (gmF l) j s3) 71 x = rA s3 71 x) ∧ ∀ b, 0 ≤ rA (itS (gmF l) j s3) 52 b ∧ rA (itS (gmF l) j s3) 52 b ≤ 10
  | 0, _ => ⟨P, fun _ _ _ => rfl, fun _ => rfl, h52⟩
  | j + 1, hj => by
    have ih := gmN_PT h52 hT hD P j (by omega)
    have hjT := hT j (by omega)
    have e71 := ih.2.2.1
    have e52 := ih.2.2.2
    have ec := ih.2.1 j (Nat.le_refl _) (by omega)
    rw [itS_s]
    have hne : cfS (itS (gmF l) j s3) (rA s3 71 j) l ≠ -1 := by rw [ec]; exact hjT.2
    have hw := cf_w hne
    have eg : gmF l j (itS (gmF l) j s3) = moveS (itS (gmF l) j s3) (rA s3 71 j) (cfS (itS (gmF l) j s3) (rA s3 71 j) l) := by
      rw [show gmF l j (itS (gmF l) j s3) = moveS (itS (gmF l) j s3) (rA (itS (gmF l) j s3) 71 j) (cfS (itS (gmF l) j s3) (rA (itS (gmF l) j s3) 71 j) l) from rfl, e71]
    rw [eg]
    refine ⟨mv_PT e52 ih.1 hjT.1 hw.2.1 hw.2.2.2, fun i i1 i2 => ?_, fun x => (mv_any (by omega)).trans (e71 x), mv_52 e52 hw.2.1⟩
    rw [moveS_cf hw.2.1 (fun b => (e52 b).2) (fun z => hD j i (by omega) i2 z.symm)]
    exact ih.2.1 i (by omega) i2
theorem gd_B {l : Int} : ∀ (m : Nat) (s : am_Z) (a n : Int), in_S s → in_S (gdS l m s a n).1
  | 0, _, _, _, B => B
  | m + 1, s, a, n, B => by
    have b44 := B.2.1 44 0 40 rfl
    have hb := ndN_b s l (rI s 44).toNat
    rw [gdS]
    split
    · refine gd_B m _ _ _ ?_
      exact in_S_I (in_S_A (in_S_A B (fun lo hi h => by cases h; omega) (fun h => by cases h)) (fun lo hi h => by cases h; omega) (fun h => by cases h)) (fun lo hi h => by cases h)
    · exact B
theorem glX_B {s : am_Z} (B : in_S s) {l a0 a2 : Int} (D : am_DS l (gl0 s) (glX s l).1 a0 a2 (glX s l).2) : in_S (glX s l).1 := by
  have h := gd_B (l := l) ((rI s 44).toNat + 1) (gl0 s) (nTc (gl0 s) l) 0 (gl0_B B)
  exact h
theorem go_PT {s : am_Z} (B : in_S s) (U : am_UQ s) {l : Int} (P : am_PT s) : am_PT (goS s l) := by
  obtain ⟨a2, D⟩ := glX_DS B U l
  have b44 := B.2.1 44 0 40 rfl
  have hS := D.2.2.2.2.1
  have hg : ∀ j i, j ≠ 67 → j ≠ 71 → rA (glX s l).1 j i = rA s j i := fun j i h1 h2 => (hS.1 j i h1 h2).trans ((gl0_S s).1 j i h1)
  have e44 : rI (glX s l).1 44 = rI s 44 := hS.2 44 (by omega)
  have B2 : in_S (glX s l).1 := glX_B B D
  have P2 : am_PT (glX s l).1 := PT_s P (fun x => hg 69 x (by omega) (by omega)) (fun x => hg 52 x (by omega) (by omega)) (fun x hx => (hg 55 x (by omega) (by omega)).trans hx) e44
  have P3 := glN_PT (l := l) B2 P2 (rI s 44).toNat (by rw [e44]; omega)
  have h10 : ∀ b, rA (glX s l).1 52 b ≤ 10 := fun b => (B2.1 52 b 0 10 rfl).2
  have hu := glN_u (l := l) h10 (rI s 44).toNat
  have HO := D.2.2.2.1
  have hn := D.2.1.1
  have e71 : ∀ x, rA (itS (glB l) (rI s 44).toNat (glX s l).1) 71 x = rA (glX s l).1 71 x := fun x => hu.1 71 x (by omega) (by omega) (by omega)
  unfold goS
  refine (gmN_PT (n := (glX s l).2) (fun b => ?_) (fun i hi => ?_) (fun i i2 h1 h2 => ?_) P3 (glX s l).2.toNat (by omega)).1
  · rw [hu.1 52 b (by omega) (by omega) (by omega)]
    exact B2.1 52 b 0 10 rfl
  · have ho := HO.1 i (by omega) hi
    rw [e71, glN_cf h10 _ ho.1.1 ho.2.1]
    exact ⟨ho.1.1, ho.2.2⟩
  · rw [e71, e71]
    exact HO.2 i i2 (by omega) (by omega) h2
end

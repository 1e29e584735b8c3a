noncomputable section
theorem mul_b {a b A B : Int} (ha : 0 ≤ a ∧ a ≤ A) (hb : 0 ≤ b ∧ b ≤ B) : 0 ≤ a * b ∧ a * b ≤ A * B := ⟨Int.mul_nonneg ha.1 hb.1, Int.mul_le_mul ha.2 hb.2 hb.1 (Int.le_trans ha.1 ha.2)⟩
theorem div_b {a b A : Int} (ha : 0 ≤ a ∧ a ≤ A) (hb : 0 < b) : 0 ≤ a / b ∧ a / b ≤ A := ⟨Int.ediv_nonneg ha.1 (Int.le_of_lt hb), Int.le_trans (Int.ediv_le_self b ha.1) ha.2⟩
def itX (g : Nat → am_X → am_X) : Nat → am_X → am_X
  | 0, X => X
  | n + 1, X => g n (itX g n X)
def fLen (s : am_Z) (k : Int) : Int := rA s 8 (rA s 36 k / 100)
/-- a coupon is made: stretch t with fare f, legs from a on, n of them, al hours in all -/
def bkC (b t f a n al : Int) (i : Nat) (X : am_X) : am_X :=
  (wA (wA (wA (wA (wA (wA (wA X.1 53 (10 * b + (a + i)) (rA X.1 36 (a + i))) 54 (10 * b + (a + i)) (rA X.1 24 f)) 55 (10 * b + (a + i)) 0) 56 (10 * b + (a + i)) t) 58 (10 * b + (a + i)) (taxAt X.1 (a + i))) 49 b (rA X.1 49 b + taxAt X.1 (a + i))) 57 (10 * b + (a + i)) (if a + i = a + n - 1 then X.2 else rA X.1 25 f * fLen X.1 (a + i) / al),
   X.2 - (if a + i = a + n - 1 then X.2 else rA X.1 25 f * fLen X.1 (a + i) / al))
def bkS (s : am_Z) (b t : Int) : am_Z := wA (wA s 59 (4 * b + t) (rA s 25 (rA s 40 t))) 60 (4 * b + t) (rA s 25 (rA s 40 t) * rA s 32 (rA s 40 t) / 100)
def bkB (b : Int) (i : Nat) (X : am_X) : am_X := ((itX (bkC b i (rA X.1 40 i) X.2 (rA X.1 39 i) (sumI X.2 (rA X.1 39 i).toNat (fLen X.1))) (rA X.1 39 i).toNat (bkS X.1 b i, rA X.1 25 (rA X.1 40 i))).1, X.2 + rA X.1 39 i)
def bk0 (s : am_Z) (b n m h : Int) : am_Z := wA (wA (wA (wA (wA (wA (wA (wA (wI s 44 (b + 1)) 45 b n) 46 b m) 47 b 0) 48 b (rI s 0 + h)) 49 b (rI s 37)) 50 b (rA s 4 (rA s 36 0 / 100))) 51 b 0) 52 b (rI s 35)
def bkT (s : am_Z) (n m h : Int) : am_Z := (itX (bkB (rI s 44)) (rI s 38).toNat (bk0 s (rI s 44) n m h, 0)).1
/-- arrays that are not touched by the coupons' making -/
def unT (j : Nat) : Bool := !(Nat.beq j 49 || Nat.beq j 53 || Nat.beq j 54 || Nat.beq j 55 || Nat.beq j 56 || Nat.beq j 57 || Nat.beq j 58 || Nat.beq j 59 || Nat.beq j 60)
theorem unT_ne {j j' : Nat} (h : unT j = true) (h' : unT j' = false) : j ≠ j' := fun z => by rw [z, h'] at h; cases h
theorem bkC_u {b t f a n al : Int} {i : Nat} {X : am_X} : (∀ j x, unT j = true → rA (bkC b t f a n al i X).1 j x = rA X.1 j x) ∧ (bkC b t f a n al i X).1.2 = X.1.2 := by
  refine ⟨fun j x h => ?_, rfl⟩
  unfold bkC
  dsimp only
  rw [wA_A, if_neg (fun z => unT_ne h rfl z.1), wA_A, if_neg (fun z => unT_ne h rfl z.1), wA_A, if_neg (fun z => unT_ne h rfl z.1), wA_A, if_neg (fun z => unT_ne h rfl z.1), wA_A, if_neg (fun z => unT_ne h rfl z.1), wA_A, if_neg (fun z => unT_ne h rfl z.1), wA_A, if_neg (fun z => unT_ne h rfl z.1)]
theorem taxAt_b {s : am_Z} (B : in_S s) (k : Int) : 0 ≤ taxAt s k ∧ taxAt s k ≤ 500 := by
  have := B.1 2 (rA s 5 (rA s 36 k / 100)) 0 500 rfl
  unfold taxAt
  split <;> omega
theorem fLen_b {s : am_Z} (B : in_S s) (k : Int) : 0 ≤ fLen s k ∧ fLen s k ≤ 20 := B.1 8 _ 0 20 rfl
theorem sumI_p {a : Int} {n : Nat} {f : Int → Int} (h : ∀ i, 0 ≤ i - a → i < a + n → 1 ≤ f i) : (n : Int) ≤ sumI a n f := by
  induction n with
  | zero => simp [sumI]
  | succ n ih =>
    have h1 := ih (fun i h2 h3 => h i h2 (by omega))
    have h2 := h (a + n) (by omega) (by omega)
    rw [sumI_s, Int.natCast_add]
    omega
theorem sr_taxAt_v {d : Nat} {s s0 : am_Z} {k : Int} (h36 : ∀ i, rA s 36 i = rA s0 36 i) (h2 : ∀ i, rA s 2 i = rA s0 2 i) (h5 : ∀ i, rA s 5 i = rA s0 5 i) (h7 : ∀ i, rA s 7 i = rA s0 7 i) (h1 : ∀ i, rA s 1 i = rA s0 1 i) (h17 : ∀ i, rA s 17 i = rA s0 17 i) (h8 : ∀ i, rA s 8 i = rA s0 8 i) (_h : ∀ i, rA s 8 i = rA s0 8 i) (hk : 0 ≤ k ∧ k < 4) : am_CR (d + 3) m_M_taxAt [aR 9 0, aI (zI k)] s (isP s (taxAt s0 k) (0 ≤ taxAt s0 k ∧ taxAt s0 k ≤ 500)) := by
  have e : taxAt s0 k = taxAt s k := by
    unfold taxAt arv dep
    simp only [h36, h2, h5, h7, h1, h17, h8]
  rw [e]
  exact sr_taxAt (d := d) hk
theorem lp_bk1 {d : Nat} {s : am_Z} {q0 : am_A} {Q : Option am_V → am_Z → Prop} {n mb h b a t f : Int} (hb : 0 ≤ b ∧ b < 40) (ht : 0 ≤ t ∧ t < 4) (hf : 0 ≤ f ∧ f < 16) (ha : 0 ≤ a ∧ 1 ≤ rA s 39 t ∧ a + rA s 39 t ≤ 4) {x10 x11 : Option am_V} : ∀ (m : Nat) (j : Nat) (k al : Int), (rA s 39 t).toNat - j < m → (k = a + j ∧ (j : Int) ≤ rA s 39 t ∧ al = sumI a j (fLen s)) → (∀ x9, am_WR d m_M_books 225 [some (aR 9 0), some (aI (zI n)), some (aI (zI mb)), some (aI (zI h)), some (aI (zI b)), some (aI (zI a)), some (aI (zI t)), some (aI (zI f)), some (aI (zI (sumI a (rA s 39 t).toNat (fLen s)))), x9, x10, x11] [] q0 (s) Q) → am_WR d m_M_books 184 [some (aR 9 0), some (aI (zI n)), some (aI (zI mb)), some (aI (zI h)), some (aI (zI b)), some (aI (zI a)), some (aI (zI t)), some (aI (zI f)), some (aI (zI al)), some (aI (zI k)), x10, x11] [] q0 (s) Q := by
  intro m
  induction m with
  | zero => intro j k al hm; exact absurd hm (Nat.not_lt_zero _)
  | succ m ih =>
    intro j k al hm ⟨hj, hj2, hal⟩ K
    subst hj
    subst hal
    refine rr_iload rfl rfl ?_
    refine rr_iload rfl rfl ?_
    refine rr_aload_n rfl rfl ?_
    refine rr_gfA 39 rfl rfl (by omega) rfl ?_
    refine rr_iload rfl rfl ?_
    refine rr_ia 39 4 rfl rfl rfl rfl (by omega) (by omega) (fun b194 => ?_)
    refine rr_iadd rfl ?_
    refine rr_icmp_ge rfl rfl (by omega) (by omega) (fun h196 => ?_) (fun h196 => ?_)
    · rw [show j = (rA s 39 t).toNat by omega]
      exact K _
    · refine rr_iload rfl rfl ?_
      refine rr_aload_n rfl rfl ?_
      refine rr_gfA 8 rfl rfl (by omega) rfl ?_
      refine rr_aload_n rfl rfl ?_
      refine rr_gfA 36 rfl rfl (by omega) rfl ?_
      refine rr_iload rfl rfl ?_
      refine rr_iaL 36 4 (s) (fun _ => rfl) rfl rfl rfl rfl rfl (by omega) (by omega) (fun b211 => ?_)
      refine rr_bipush (x := 100) rfl rfl ?_
      refine rr_idiv rfl (by omega) (by omega) ?_
      refine rr_ia 8 12 rfl rfl rfl rfl (by omega) (by omega) (fun b215 => ?_)
      refine rr_iadd rfl ?_
      refine rr_stI8 rfl ?_
      refine rr_inc9 rfl ?_
      refine rr_goto rfl rfl ?_
      exact ih (j + 1) _ _ (by omega) ⟨by omega, by omega, by rw [sumI_s]; rfl⟩ K
theorem lp_bk2 {d : Nat} {s : am_Z} {q0 : am_A} {Q : Option am_V → am_Z → Prop} {n mb h b a t f : Int} (hb : 0 ≤ b ∧ b < 40) (ht : 0 ≤ t ∧ t < 4) (hf : 0 ≤ f ∧ f < 16) (ha : 0 ≤ a ∧ 1 ≤ rA s 39 t ∧ a + rA s 39 t ≤ 4) {al N : Int} (hal : 1 ≤ al ∧ al ≤ 1000) (hN : rA s 39 t = N) : ∀ (m : Nat) (j : Nat) (k lf : Int) (s1 : am_Z) (x11 : Option am_V), N.toNat - j < m → (k = a + j ∧ (j : Int) ≤ N ∧ (-100000 * (j : Int) ≤ lf ∧ lf ≤ 5000) ∧ (rA s1 39 t = N ∧ -1 ≤ rA s1 49 b ∧ rA s1 49 b ≤ 20000 + 500 * (a + j)) ∧ (s1, lf) = itX (bkC b t f a N al) j (s, rA s 25 f)) → (∀ x9 x10 x11 s2, (rA s2 39 t = N ∧ -1 ≤ rA s2 49 b ∧ rA s2 49 b ≤ 20000 + 500 * (a + N)) → s2 = (itX (bkC b t f a N al) N.toNat (s, rA s 25 f)).1 → am_WR (d + 4) m_M_books 411 [some (aR 9 0), some (aI (zI n)), some (aI (zI mb)), some (aI (zI h)), some (aI (zI b)), some (aI (zI a)), some (aI (zI t)), some (aI (zI f)), some (aI (zI al)), x9, x10, x11] [] q0 (s2) Q) → am_WR (d + 4) m_M_books 238 [some (aR 9 0), some (aI (zI n)), some (aI (zI mb)), some (aI (zI h)), some (aI (zI b)), some (aI (zI a)), some (aI (zI t)), some (aI (zI f)), some (aI (zI al)), some (aI (zI lf)), some (aI (zI k)), x11] [] q0 (s1) Q := by
  intro m
  induction m with
  | zero => intro j k lf s1 x11 hm; exact absurd hm (Nat.not_lt_zero _)
  | succ m ih =>
    intro j k lf s1 x11 hm ⟨hj, hj2, hlf, hpd, hX⟩ K
    subst hj
    refine rr_inS (fun B => ?_)
    obtain ⟨h39, hp1⟩ := hpd
    have hbt := taxAt_b B (a + (j : Int))
    have hfl := fLen_b B (a + (j : Int))
    have hml := mul_b (B.1 25 f 0 5000 rfl) hfl
    have hdv := div_b (b := al) hml (by omega)
    have hml2 : 0 ≤ rA s1 25 f * rA s1 8 (rA s1 36 (a + (j : Int)) / 100) ∧ rA s1 25 f * rA s1 8 (rA s1 36 (a + (j : Int)) / 100) ≤ 5000 * 20 := hml
    refine rr_iload rfl rfl ?_
    refine rr_iload rfl rfl ?_
    refine rr_aload_n rfl rfl ?_
    refine rr_gfA 39 rfl rfl (by omega) rfl ?_
    refine rr_iload rfl rfl ?_
    refine rr_ia 39 4 rfl rfl rfl rfl (by omega) (by omega) (fun b248 => ?_)
    refine rr_iadd rfl ?_
    refine rr_icmp_ge rfl rfl (by omega) (by omega) (fun h250 => ?_) (fun h250 => ?_)
    · have hjN : N.toNat = j := by omega
      exact K _ _ _ s1 ⟨h39, by omega, by omega⟩ (by rw [hjN, ← hX])
    · refine rr_bipush (x := 10) rfl rfl ?_
      refine rr_iload rfl rfl ?_
      refine rr_imul rfl ?_
      refine rr_iload rfl rfl ?_
      refine rr_iadd rfl ?_
      refine rr_stI11 rfl ?_
      refine rr_aload_n rfl rfl ?_
      refine rr_gfA 53 rfl rfl (by omega) rfl ?_
      refine rr_iload rfl rfl ?_
      refine rr_aload_n rfl rfl ?_
      refine rr_gfA 36 rfl rfl (by omega) rfl ?_
      refine rr_iload rfl rfl ?_
      refine rr_iaL 36 4 (s1) (fun _ => rfl) rfl rfl rfl rfl rfl (by omega) (by omega) (fun b275 => ?_)
      refine rr_iasL 53 400 rfl ⟨rfl, by omega⟩ rfl (by omega) (by omega) rfl (by omega) (by omega) ?_
      refine rr_aload_n rfl rfl ?_
      refine rr_gfA 54 rfl rfl (by omega) rfl ?_
      refine rr_iload rfl rfl ?_
      refine rr_aload_n rfl rfl ?_
      refine rr_gfA 24 rfl rfl (by omega) rfl ?_
      refine rr_iload rfl rfl ?_
      refine rr_iav 24 16 (s1) (fun _ => rfl) rfl rfl rfl rfl (by omega) (by omega) (fun b289 => ?_)
      refine rr_ias 54 400 rfl ⟨rfl, by omega⟩ rfl (by omega) (by omega) rfl rfl (by omega) (by omega) ?_
      refine rr_aload_n rfl rfl ?_
      refine rr_gfA 55 rfl rfl (by omega) rfl ?_
      refine rr_iload rfl rfl ?_
      refine rr_iconst rfl ?_
      refine rr_ias 55 400 rfl ⟨rfl, by omega⟩ rfl (by omega) (by omega) rfl rfl (by omega) (by omega) ?_
      refine rr_aload_n rfl rfl ?_
      refine rr_gfA 56 rfl rfl (by omega) rfl ?_
      refine rr_iload rfl rfl ?_
      refine rr_iload rfl rfl ?_
      refine rr_ias 56 400 rfl ⟨rfl, by omega⟩ rfl (by omega) (by omega) rfl rfl (by omega) (by omega) ?_
      refine rr_aload_n rfl rfl ?_
      refine rr_gfA 58 rfl rfl (by omega) rfl ?_
      refine rr_iload rfl rfl ?_
      refine rr_aload_n rfl rfl ?_
      refine rr_iload rfl rfl ?_
      refine rr_cv1P rfl rfl rfl (Nat.le_of_ble_eq_true rfl) (sr_taxAt_v (d := 0) (s0 := s1) (fun _ => rfl) (fun _ => rfl) (fun _ => rfl) (fun _ => rfl) (fun _ => rfl) (fun _ => rfl) (fun _ => rfl) (fun _ => rfl) (by omega)) (by omega) (fun b317 => ?_)
      refine rr_ias 58 400 rfl ⟨rfl, by omega⟩ rfl (by omega) (by omega) rfl rfl (by omega) (by omega) ?_
      refine rr_aload_n rfl rfl ?_
      refine rr_gfA 49 rfl rfl (by omega) rfl ?_
      refine rr_iload rfl rfl ?_
      refine rr_dup2 rfl rfl rfl ?_
      refine rr_iav 49 40 (s1) (fun _ => rfl) rfl rfl rfl rfl (by omega) (by omega) (fun b328 => ?_)
      refine rr_aload_n rfl rfl ?_
      refine rr_gfA 58 rfl rfl (by omega) rfl ?_
      refine rr_iload rfl rfl ?_
      refine rr_ia 58 400 rfl rfl rfl rfl (by omega) (by omega) (fun b335 => ?_)
      rw [show rA (wA (wA (wA (wA (wA s1 53 (10 * b + (a + (j : Int))) (rA s1 36 (a + (j : Int)))) 54 (10 * b + (a + (j : Int))) (rA s1 24 f)) 55 (10 * b + (a + (j : Int))) 0) 56 (10 * b + (a + (j : Int))) t) 58 (10 * b + (a + (j : Int))) (taxAt s1 (a + (j : Int)))) 58 (10 * b + (a + (j : Int))) = taxAt s1 (a + (j : Int)) from if_pos ⟨rfl, rfl⟩]
      refine rr_iadd rfl ?_
      refine rr_ias 49 40 rfl ⟨rfl, by omega⟩ rfl (by omega) (by omega) rfl rfl (by omega) (by omega) ?_
      refine rr_aload_n rfl rfl ?_
      refine rr_gfA 57 rfl rfl (by omega) rfl ?_
      refine rr_iload rfl rfl ?_
      refine rr_join (pc' := 392) (V := (if a + (j : Int) = a + N - 1 then lf else rA s1 25 f * fLen s1 (a + (j : Int)) / al)) ?_ (fun K392 => ?_)
      · refine rr_ias 57 400 rfl ⟨rfl, by omega⟩ rfl (by omega) (by omega) rfl rfl (by omega) (by omega) ?_
        refine rr_iload rfl rfl ?_
        refine rr_aload_n rfl rfl ?_
        refine rr_gfA 57 rfl rfl (by omega) rfl ?_
        refine rr_iload rfl rfl ?_
        refine rr_ia 57 400 rfl rfl rfl rfl (by omega) (by omega) (fun b401 => ?_)
        rw [wA_A, if_pos ⟨rfl, rfl⟩]
        refine rr_isub rfl ?_
        refine rr_stI9 rfl ?_
        refine rr_inc10 rfl ?_
        refine rr_goto rfl rfl ?_
        refine ih (j + 1) _ _ _ _ (by omega) ⟨by omega, by omega, by omega, ⟨h39, ?_⟩, ?_⟩ K
        · rw [wA_A, if_neg (fun z => by cases z.1), wA_A, if_pos ⟨rfl, rfl⟩]; omega
        · rw [itX, ← hX]; rfl
      · refine rr_iload rfl rfl ?_
        refine rr_iload rfl rfl ?_
        refine rr_aload_n rfl rfl ?_
        refine rr_gfA 39 rfl rfl (by omega) rfl ?_
        refine rr_iload rfl rfl ?_
        refine rr_iav 39 4 (s1) (fun _ => rfl) rfl rfl rfl rfl (by omega) (by omega) (fun b354 => ?_)
        refine rr_iadd rfl ?_
        refine rr_iconst rfl ?_
        refine rr_isub rfl ?_
        refine rr_icmp_ne rfl rfl (by omega) (by omega) (fun h358 => ?_) (fun h358 => ?_)
        · refine rr_aload_n rfl rfl ?_
          refine rr_gfA 25 rfl rfl (by omega) rfl ?_
          refine rr_iload rfl rfl ?_
          refine rr_iav 25 16 (s1) (fun _ => rfl) rfl rfl rfl rfl (by omega) (by omega) (fun b372 => ?_)
          refine rr_aload_n rfl rfl ?_
          refine rr_gfA 8 rfl rfl (by omega) rfl ?_
          refine rr_aload_n rfl rfl ?_
          refine rr_gfA 36 rfl rfl (by omega) rfl ?_
          refine rr_iload rfl rfl ?_
          refine rr_iaL 36 4 (s1) (fun _ => rfl) rfl rfl rfl rfl rfl (by omega) (by omega) (fun b383 => ?_)
          refine rr_bipush (x := 100) rfl rfl ?_
          refine rr_idiv rfl (by omega) (by omega) ?_
          refine rr_iav 8 12 (s1) (fun _ => rfl) rfl rfl rfl rfl (by omega) (by omega) (fun b387 => ?_)
          refine rr_imul rfl ?_
          refine rr_iload rfl rfl ?_
          refine rr_idiv rfl (by omega) (by omega) ?_
          exact K392 _ (by first | (rw [if_pos (by omega)]) | (rw [if_neg (by omega)]; rfl))
        · refine rr_iload rfl rfl ?_
          refine rr_goto rfl rfl ?_
          exact K392 _ (by first | (rw [if_pos (by omega)]) | (rw [if_neg (by omega)]; rfl))
theorem itX_u {g : Nat → am_X → am_X} (h : ∀ i X, (∀ j x, unT j = true → rA (g i X).1 j x = rA X.1 j x) ∧ (g i X).1.2 = X.1.2) (n : Nat) (X : am_X) : (∀ j x, unT j = true → rA (itX g n X).1 j x = rA X.1 j x) ∧ (itX g n X).1.2 = X.1.2 := by
  induction n with
  | zero => exact ⟨fun _ _ _ => rfl, rfl⟩
  | succ n ih => exact ⟨fun j x hj => ((h n _).1 j x hj).trans (ih.1 j x hj), (h n _).2.trans ih.2⟩
theorem bkB_u {b : Int} {i : Nat} {X : am_X} : (∀ j x, unT j = true → rA (bkB b i X).1 j x = rA X.1 j x) ∧ (bkB b i X).1.2 = X.1.2 := by
  have h := itX_u (g := bkC b i (rA X.1 40 i) X.2 (rA X.1 39 i) (sumI X.2 (rA X.1 39 i).toNat (fLen X.1))) (fun _ _ => bkC_u) (rA X.1 39 i).toNat (bkS X.1 b i, rA X.1 25 (rA X.1 40 i))
  refine ⟨fun j x hj => (h.1 j x hj).trans ?_, h.2⟩
  show rA (bkS X.1 b i) j x = rA X.1 j x
  unfold bkS
  rw [wA_A, if_neg (fun z => unT_ne hj rfl z.1), wA_A, if_neg (fun z => unT_ne hj rfl z.1)]
theorem lp_bk3 {d : Nat} {s : am_Z} {q0 : am_A} {Q : Option am_V → am_Z → Prop} {n mb h b : Int} (hb : 0 ≤ b ∧ b < 40) (hq : ∀ i, 0 ≤ i → i < rI s 38 → (0 ≤ rA s 40 i ∧ rA s 40 i < 16) ∧ 1 ≤ rA s 39 i) (hS : ∀ i : Nat, (i : Int) < rI s 38 → 0 ≤ sumI 0 i (rA s 39) ∧ sumI 0 i (rA s 39) + rA s 39 i ≤ 4) (hF : ∀ k, 0 ≤ k → k < 4 → (∃ i : Nat, (i : Int) < rI s 38 ∧ k < sumI 0 i (rA s 39) + rA s 39 i) → 1 ≤ fLen s k) : ∀ (m : Nat) (j : Nat) (t a : Int) (s1 : am_Z) (x7 x8 x9 x10 x11 : Option am_V), (rI s 38).toNat - j < m → (t = j ∧ (j : Int) ≤ rI s 38 ∧ a = sumI 0 j (rA s 39) ∧ (-1 ≤ rA s1 49 b ∧ rA s1 49 b ≤ 20000 + 500 * a) ∧ ((∀ j x, unT j = true → rA s1 j x = rA s j x) ∧ s1.2 = s.2) ∧ (s1, a) = itX (bkB b) j (s, 0)) → (∀ x5 x6 x7 x8 x9 x10 x11, am_WR (d + 4) m_M_books 429 [some (aR 9 0), some (aI (zI n)), some (aI (zI mb)), some (aI (zI h)), some (aI (zI b)), x5, x6, x7, x8, x9, x10, x11] [] q0 ((itX (bkB b) (rI s 38).toNat (s, 0)).1) Q) → am_WR (d + 4) m_M_books 110 [some (aR 9 0), some (aI (zI n)), some (aI (zI mb)), some (aI (zI h)), some (aI (zI b)), some (aI (zI a)), some (aI (zI t)), x7, x8, x9, x10, x11] [] q0 (s1) Q := by
  intro m
  induction m with
  | zero => intro j t a s1 x7 x8 x9 x10 x11 hm; exact absurd hm (Nat.not_lt_zero _)
  | succ m ih =>
    intro j t a s1 x7 x8 x9 x10 x11 hm ⟨ht, hj2, ha, hp, hu, hX⟩ K
    subst ht
    refine rr_inS (fun B => ?_)
    have e38 : rI s1 38 = rI s 38 := congrFun hu.2 38
    have e39 : rA s1 39 (j : Int) = rA s 39 (j : Int) := hu.1 39 _ rfl
    have e40 : rA s1 40 (j : Int) = rA s 40 (j : Int) := hu.1 40 _ rfl
    have b38 : rI s 38 ≤ 4 := by { have := B.2.1 38 0 4 rfl; omega }
    refine rr_iload rfl rfl ?_
    refine rr_aload_n rfl rfl ?_
    refine rr_gfI 38 rfl rfl (by omega) rfl (fun b113 => ?_)
    refine rr_icmp_ge rfl rfl (by omega) (by omega) (fun h116 => ?_) (fun h116 => ?_)
    · have hjn : (rI s 38).toNat = j := by omega
      rw [hjn, ← hX] at K
      exact K _ _ _ _ _ _ _
    · have hqj := hq (j : Int) (by omega) (by omega)
      have hSj := hS j (by omega)
      have hmb := mul_b (B.1 25 (rA s1 40 (j : Int)) 0 5000 rfl) (B.1 32 (rA s1 40 (j : Int)) 0 100 rfl)
      have hdb := div_b (b := 100) hmb (by omega)
      refine rr_aload_n rfl rfl ?_
      refine rr_gfA 40 rfl rfl (by omega) rfl ?_
      refine rr_iload rfl rfl ?_
      refine rr_ia 40 4 rfl rfl rfl rfl (by omega) (by omega) (fun b125 => ?_)
      refine rr_stI7 rfl ?_
      refine rr_aload_n rfl rfl ?_
      refine rr_gfA 59 rfl rfl (by omega) rfl ?_
      refine rr_iconst rfl ?_
      refine rr_iload rfl rfl ?_
      refine rr_imul rfl ?_
      refine rr_iload rfl rfl ?_
      refine rr_iadd rfl ?_
      refine rr_aload_n rfl rfl ?_
      refine rr_gfA 25 rfl rfl (by omega) rfl ?_
      refine rr_iload rfl rfl ?_
      refine rr_ia 25 16 rfl rfl rfl rfl (by omega) (by omega) (fun b145 => ?_)
      refine rr_ias 59 160 rfl ⟨rfl, by omega⟩ rfl (by omega) (by omega) rfl rfl (by omega) (by omega) ?_
      refine rr_aload_n rfl rfl ?_
      refine rr_gfA 60 rfl rfl (by omega) rfl ?_
      refine rr_iconst rfl ?_
      refine rr_iload rfl rfl ?_
      refine rr_imul rfl ?_
      refine rr_iload rfl rfl ?_
      refine rr_iadd rfl ?_
      refine rr_aload_n rfl rfl ?_
      refine rr_gfA 25 rfl rfl (by omega) rfl ?_
      refine rr_iload rfl rfl ?_
      refine rr_iav 25 16 (s1) (fun _ => rfl) rfl rfl rfl rfl (by omega) (by omega) (fun b164 => ?_)
      refine rr_aload_n rfl rfl ?_
      refine rr_gfA 32 rfl rfl (by omega) rfl ?_
      refine rr_iload rfl rfl ?_
      refine rr_iav 32 16 (s1) (fun _ => rfl) rfl rfl rfl rfl (by omega) (by omega) (fun b171 => ?_)
      refine rr_imul rfl ?_
      refine rr_bipush (x := 100) rfl rfl ?_
      refine rr_idiv rfl (by omega) (by omega) ?_
      refine rr_ias 60 160 rfl ⟨rfl, by omega⟩ rfl (by omega) (by omega) rfl rfl (by omega) (by omega) ?_
      refine rr_iconst rfl ?_
      refine rr_stI8 rfl ?_
      refine rr_iload rfl rfl ?_
      refine rr_stI9 rfl ?_
      refine lp_bk1 (d := d + 4) (s := bkS s1 b (j : Int)) hb (by omega) (by omega) (by show 0 ≤ a ∧ 1 ≤ rA s1 39 (j : Int) ∧ a + rA s1 39 (j : Int) ≤ 4; omega) ((rA s1 39 (j : Int)).toNat + 1) 0 _ 0 (by show (rA s1 39 (j : Int)).toNat - 0 < _; omega) ⟨by omega, by show ((0 : Nat) : Int) ≤ rA s1 39 (j : Int); omega, rfl⟩ (fun x9 => ?_)
      have hal0 : sumI a (rA (bkS s1 b (j : Int)) 39 (j : Int)).toNat (fLen (bkS s1 b (j : Int))) = sumI a (rA s1 39 (j : Int)).toNat (fLen s1) := rfl
      rw [hal0]
      have hal1 := sumI_p (a := a) (n := (rA s1 39 (j : Int)).toNat) (f := fLen s1) (fun i h1 h2 => by { have z := hF i (by omega) (by omega) ⟨j, by omega, by omega⟩; unfold fLen at z ⊢; rw [hu.1 36 _ rfl, hu.1 8 _ rfl]; exact z })
      have hal2 := sumI_b (a := a) (n := (rA s1 39 (j : Int)).toNat) (f := fLen s1) (M := 20) (fun i => fLen_b B i)
      refine rr_aload_n rfl rfl ?_
      refine rr_gfA 25 rfl rfl (by omega) rfl ?_
      refine rr_iload rfl rfl ?_
      refine rr_ia 25 16 rfl rfl rfl rfl (by omega) (by omega) (fun b231 => ?_)
      refine rr_stI9 rfl ?_
      refine rr_iload rfl rfl ?_
      refine rr_stI10 rfl ?_
      refine lp_bk2 (d := d) (s := bkS s1 b (j : Int)) hb (by omega) (by omega) (by show 0 ≤ a ∧ 1 ≤ rA s1 39 (j : Int) ∧ a + rA s1 39 (j : Int) ≤ 4; omega) (al := sumI a (rA s1 39 (j : Int)).toNat (fLen s1)) (N := rA s1 39 (j : Int)) (by omega) rfl ((rA s1 39 (j : Int)).toNat + 1) 0 _ _ _ _ (by omega) ⟨by omega, by omega, by have z := B.1 25 (rA s1 40 (j : Int)) 0 5000 rfl; constructor <;> (show _ ≤ _) <;> first | (show -100000 * ((0 : Nat) : Int) ≤ rA s1 25 (rA s1 40 (j : Int)); omega) | (show rA s1 25 (rA s1 40 (j : Int)) ≤ 5000; omega), ⟨rfl, by show -1 ≤ rA s1 49 b; omega, by show rA s1 49 b ≤ _; omega⟩, rfl⟩ (fun x9 x10 x11 s3 hpd3 hX3 => ?_)
      refine rr_iload rfl rfl ?_
      refine rr_aload_n rfl rfl ?_
      refine rr_gfA 39 rfl rfl (by omega) rfl ?_
      refine rr_iload rfl rfl ?_
      refine rr_ia 39 4 rfl rfl rfl rfl (by omega) (by omega) (fun b419 => ?_)
      rw [hpd3.1]
      refine rr_iadd rfl ?_
      refine rr_stI5 rfl ?_
      refine rr_inc6 rfl ?_
      refine rr_goto rfl rfl ?_
      refine ih (j + 1) _ _ s3 _ _ _ _ _ (by omega) ⟨by omega, by omega, ?_, ?_, ?_, ?_⟩ K
      · rw [sumI_s, Int.zero_add]; omega
      · omega
      · have z : (s3, a + rA s1 39 (j : Int)) = bkB b j (s1, a) := by rw [hX3]; rfl
        have z1 : s3 = (bkB b j (s1, a)).1 := congrArg Prod.fst z
        rw [z1]
        exact ⟨fun j2 x hj2 => (bkB_u.1 j2 x hj2).trans (hu.1 j2 x hj2), bkB_u.2.trans hu.2⟩
      · rw [itX, ← hX, hX3]; rfl
theorem sr_books {d : Nat} {s : am_Z} {n m h : Int}  (hn : 0 ≤ n ∧ n ≤ 9) (hm : -1 ≤ m ∧ m ≤ 4) (hh : 1 ≤ h ∧ h ≤ 72) (hb : rI s 44 < 40) (hq : ∀ i, 0 ≤ i → i < rI s 38 → (0 ≤ rA s 40 i ∧ rA s 40 i < 16) ∧ 1 ≤ rA s 39 i) (hS : ∀ i : Nat, (i : Int) < rI s 38 → 0 ≤ sumI 0 i (rA s 39) ∧ sumI 0 i (rA s 39) + rA s 39 i ≤ 4) (hF : ∀ k, 0 ≤ k → k < 4 → (∃ i : Nat, (i : Int) < rI s 38 ∧ k < sumI 0 i (rA s 39) + rA s 39 i) → 1 ≤ fLen s k) : am_CR (d + 4) m_M_books [aR 9 0, aI (zI n), aI (zI m), aI (zI h)] s (isP (bkT s n m h) (rI s 44) (True)) := by
  refine am_CR_i (ls := [some (aR 9 0), some (aI (zI n)), some (aI (zI m)), some (aI (zI h)), none, none, none, none, none, none, none, none]) rfl (fun q0 => ?_)
  refine rr_inS (fun B => ?_)
  have b38 := B.2.1 38 0 4 rfl
  have b37 := B.2.1 37 (-1) 20000 rfl
  refine rr_aload_n rfl rfl ?_
  refine rr_gfI 44 rfl rfl (by omega) rfl (fun b1 => ?_)
  refine rr_stI4 rfl ?_
  refine rr_aload_n rfl rfl ?_
  refine rr_dup rfl rfl ?_
  refine rr_gfI 44 rfl rfl (by omega) rfl (fun b8 => ?_)
  refine rr_iconst rfl ?_
  refine rr_iadd rfl ?_
  refine rr_pfI 44 rfl rfl rfl rfl (by omega) rfl (by omega) ?_
  refine rr_aload_n rfl rfl ?_
  refine rr_gfA 45 rfl rfl (by omega) rfl ?_
  refine rr_iload rfl rfl ?_
  refine rr_iload_n rfl rfl ?_
  refine rr_ias 45 40 rfl ⟨rfl, by omega⟩ rfl (by omega) (by omega) rfl rfl (by omega) (by omega) ?_
  refine rr_aload_n rfl rfl ?_
  refine rr_gfA 46 rfl rfl (by omega) rfl ?_
  refine rr_iload rfl rfl ?_
  refine rr_iload_n rfl rfl ?_
  refine rr_ias 46 40 rfl ⟨rfl, by omega⟩ rfl (by omega) (by omega) rfl rfl (by omega) (by omega) ?_
  refine rr_aload_n rfl rfl ?_
  refine rr_gfA 47 rfl rfl (by omega) rfl ?_
  refine rr_iload rfl rfl ?_
  refine rr_iconst rfl ?_
  refine rr_ias 47 40 rfl ⟨rfl, by omega⟩ rfl (by omega) (by omega) rfl rfl (by omega) (by omega) ?_
  refine rr_aload_n rfl rfl ?_
  refine rr_gfA 48 rfl rfl (by omega) rfl ?_
  refine rr_iload rfl rfl ?_
  refine rr_aload_n rfl rfl ?_
  refine rr_gfIv 0 (s) rfl rfl rfl (by omega) rfl (fun b47 => ?_)
  refine rr_iload_n rfl rfl ?_
  refine rr_iadd rfl ?_
  refine rr_ias 48 40 rfl ⟨rfl, by omega⟩ rfl (by omega) (by omega) rfl rfl (by omega) (by omega) ?_
  refine rr_aload_n rfl rfl ?_
  refine rr_gfA 49 rfl rfl (by omega) rfl ?_
  refine rr_iload rfl rfl ?_
  refine rr_aload_n rfl rfl ?_
  refine rr_gfIv 37 (s) rfl rfl rfl (by omega) rfl (fun b60 => ?_)
  refine rr_ias 49 40 rfl ⟨rfl, by omega⟩ rfl (by omega) (by omega) rfl rfl (by omega) (by omega) ?_
  refine rr_aload_n rfl rfl ?_
  refine rr_gfA 50 rfl rfl (by omega) rfl ?_
  refine rr_iload rfl rfl ?_
  refine rr_aload_n rfl rfl ?_
  refine rr_gfA 4 rfl rfl (by omega) rfl ?_
  refine rr_aload_n rfl rfl ?_
  refine rr_gfA 36 rfl rfl (by omega) rfl ?_
  refine rr_iconst rfl ?_
  refine rr_iaL 36 4 (s) (fun _ => rfl) rfl rfl rfl rfl rfl (by omega) (by omega) (fun b79 => ?_)
  refine rr_bipush (x := 100) rfl rfl ?_
  refine rr_idiv rfl (by omega) (by omega) ?_
  refine rr_iav 4 12 (s) (fun _ => rfl) rfl rfl rfl rfl (by omega) (by omega) (fun b83 => ?_)
  refine rr_ias 50 40 rfl ⟨rfl, by omega⟩ rfl (by omega) (by omega) rfl rfl (by omega) (by omega) ?_
  refine rr_aload_n rfl rfl ?_
  refine rr_gfA 51 rfl rfl (by omega) rfl ?_
  refine rr_iload rfl rfl ?_
  refine rr_iconst rfl ?_
  refine rr_bas 51 40 rfl rfl rfl (by omega) (by omega) rfl rfl (by omega) (by omega) ?_
  refine rr_aload_n rfl rfl ?_
  refine rr_gfA 52 rfl rfl (by omega) rfl ?_
  refine rr_iload rfl rfl ?_
  refine rr_aload_n rfl rfl ?_
  refine rr_gfIv 35 (s) rfl rfl rfl (by omega) rfl (fun b100 => ?_)
  refine rr_ias 52 40 rfl ⟨rfl, by omega⟩ rfl (by omega) (by omega) rfl rfl (by omega) (by omega) ?_
  refine rr_iconst rfl ?_
  refine rr_stI5 rfl ?_
  refine rr_iconst rfl ?_
  refine rr_stI6 rfl ?_
  refine lp_bk3 (d := d) (s := bk0 s (rI s 44) n m h) (by omega) hq hS hF ((rI s 38).toNat + 1) 0 0 0 _ _ _ _ _ _ (by show (rI s 38).toNat - 0 < _; omega) ⟨rfl, by show (0 : Int) ≤ rI s 38; omega, rfl, by { show -1 ≤ rA (bk0 s (rI s 44) n m h) 49 (rI s 44) ∧ rA (bk0 s (rI s 44) n m h) 49 (rI s 44) ≤ _; rw [show rA (bk0 s (rI s 44) n m h) 49 (rI s 44) = rI s 37 from if_pos ⟨rfl, rfl⟩]; omega }, ⟨fun _ _ _ => rfl, rfl⟩, rfl⟩ (fun x5 x6 x7 x8 x9 x10 x11 => ?_)
  refine rr_iload rfl rfl ?_
  refine rr_iret rfl (Or.inl rfl) ?_
  exact rr_eP rfl trivial
end

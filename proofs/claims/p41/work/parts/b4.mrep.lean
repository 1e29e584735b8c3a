noncomputable section
section RPJ
variable {s : am_Z}
theorem RJ_3 {b : Int} : ∀ (m : Nat) (k : Int) (X : am_X), 0 ≤ k → am_RP s X.1 → am_JA X.1 → (0 ≤ b ∧ b < rI X.1 44) → rA X.1 47 b = 1 → am_RP s (rpr3 b m k X).1 ∧ am_JA (rpr3 b m k X).1
  | 0, _, _, _, H, J, _, _ => ⟨H, J⟩
  | m + 1, k, X, hk, H, J, hb, h47 => by
    rw [rpr3]
    split
    · rename_i hl
      split
      · rename_i hr
        refine RJ_3 m (k + 1) _ (by omega) (RP_move H hb h47 ⟨hk, hl⟩ hr.1) (JA_move J H.1 hb h47 ⟨hk, hl⟩ hr.1) ?_ ?_
        · show 0 ≤ b ∧ b < rI (moveS X.1 b k) 44
          rw [mv_I (by omega)]
          exact hb
        · show rA (moveS X.1 b k) 47 b = 1
          rw [mv_any (by omega)]
          exact h47
      · exact RJ_3 m (k + 1) _ (by omega) H J hb h47
    · exact ⟨H, J⟩
theorem RJ_2 {t : Int} : ∀ (n : Nat) (X : am_X), (n : Int) ≤ rI s 44 → am_RP s X.1 → am_JA X.1 → am_RP s (rpr2 t n X).1 ∧ am_JA (rpr2 t n X).1
  | 0, _, _, H, J => ⟨H, J⟩
  | n + 1, X, hn, H, J => by
    have ih := RJ_2 (t := t) n X (by omega) H J
    rw [rpr2]
    unfold rprB
    split
    · rename_i h
      exact RJ_3 12 0 _ (by omega) ih.1 ih.2 ⟨by omega, by rw [ih.1.2.2.2.2.2.2 44 (by omega) (by omega)]; omega⟩ h.1
    · exact ih
theorem RJ_1 {nb : Nat} (hn : (nb : Int) ≤ rI s 44) : ∀ (i : Nat) (X : am_X), am_RP s X.1 → am_JA X.1 → am_RP s (rpr1 nb i X).1 ∧ am_JA (rpr1 nb i X).1
  | 0, _, H, J => ⟨H, J⟩
  | i + 1, X, H, J => by
    rw [rpr1]
    have ih := RJ_1 hn i X H J
    exact RJ_2 nb _ hn ih.1 ih.2
abbrev rprS (s : am_Z) : am_Z := (rpr1 (rI s 44).toNat 4 (s, 0)).1
theorem RP_0 (I : am_INV s) (B : in_S s) : am_RP s s := ⟨fun x => B.1 52 x 0 10 rfl, TB_r, I.2.1.2.2.1, I.2.1.2.2.2.1, I.2.1.2.2.2.2.2.1, fun _ _ _ => rfl, fun _ _ _ => rfl⟩
theorem rpr_RP (I : am_INV s) (B : in_S s) : am_RP s (rprS s) := by
  have b44 := B.2.1 44 0 40 rfl
  exact RP_1 (s := s) (nb := (rI s 44).toNat) (by omega) 4 (s, 0) (RP_0 I B)
theorem rpr_JA (I : am_INV s) (B : in_S s) (J : am_JA s) : am_JA (rprS s) := by
  have b44 := B.2.1 44 0 40 rfl
  exact (RJ_1 (s := s) (nb := (rI s 44).toNat) (by omega) 4 (s, 0) (RP_0 I B) J).2
theorem rpr_JG (J : am_JG s) : am_JG (rprS s) := rpr_P (P := am_JG) (fun t b c h => JG_move h) 4 (s, 0) J
theorem rpr_KF : am_KF s (rprS s) := rpr_P (P := am_KF s) (fun t b c h => KF_t h KF_move) 4 (s, 0) KF_r
theorem rpr_v {nb : Nat} : ∀ (i : Nat) (X : am_X), 0 ≤ X.2 → 0 ≤ (rpr1 nb i X).2 := by
  have h3 : ∀ (b : Int) (m : Nat) (k : Int) (X : am_X), 0 ≤ X.2 → 0 ≤ (rpr3 b m k X).2 := fun b m => by
    induction m with
    | zero => intro k X hX; exact hX
    | succ m ih =>
      intro k X hX
      rw [rpr3]
      split
      · split
        · refine ih _ _ ?_
          show 0 ≤ X.2 + (if mvP X.1 b k then 100 else 1)
          split <;> omega
        · exact ih _ _ hX
      · exact hX
  have h2 : ∀ (t : Int) (n : Nat) (X : am_X), 0 ≤ X.2 → 0 ≤ (rpr2 t n X).2 := fun t n => by
    induction n with
    | zero => intro X hX; exact hX
    | succ n ih =>
      intro X hX
      rw [rpr2]
      unfold rprB
      split
      · exact h3 _ _ _ _ (ih X hX)
      · exact ih X hX
  intro i
  induction i with
  | zero => intro X hX; exact hX
  | succ i ih =>
    intro X hX
    rw [rpr1]
    exact h2 _ _ _ (ih X hX)
end RPJ
/-! Behind a repair nothing is to be repaired. -/
def am_nb (X : am_Z) (b : Int) : Prop := ∀ c : Int, 0 ≤ c → c < rA X 52 b → ¬ brkP X b c
theorem nbR_le {s : am_Z} {b : Int} : ∀ (n : Nat) (k : Int), nbR s b (-1) n k = -1 ∨ nbR s b (-1) n k ≤ k
  | 0, _ => Or.inl rfl
  | n + 1, k => by
    rw [nbR]
    split
    · split
      · have := nbR_le (s := s) (b := b) n (k + -1)
        omega
      · exact Or.inr (Int.le_refl _)
    · exact Or.inl rfl
theorem nbR_cg {s s' : am_Z} {b : Int} : ∀ (n : Nat) (k : Int), (∀ i : Int, 0 ≤ i → i ≤ k → rA s' 55 (10 * b + i) = rA s 55 (10 * b + i)) → k < rA s 52 b → k < rA s' 52 b → nbR s' b (-1) n k = nbR s b (-1) n k
  | 0, _, _, _, _ => rfl
  | n + 1, k, h, h1, h2 => by
    have e : ∀ z : am_Z, nbR z b (-1) (n + 1) k = if 0 ≤ k ∧ k < rA z 52 b then (if 4 ≤ rA z 55 (10 * b + k) then nbR z b (-1) n (k + -1) else k) else -1 := fun _ => rfl
    rw [e, e]
    by_cases hk : 0 ≤ k
    · rw [nbR_cg n (k + -1) (fun i i1 i2 => h i i1 (by omega)) (by omega) (by omega), if_pos (show 0 ≤ k ∧ k < rA s' 52 b from ⟨hk, h2⟩), if_pos (show 0 ≤ k ∧ k < rA s 52 b from ⟨hk, h1⟩), h k hk (Int.le_refl _)]
    · rw [if_neg (fun z => hk z.1), if_neg (fun z => hk z.1)]
theorem brk_cg {s s' : am_Z} {b c : Int} (h : ∀ i : Int, 0 ≤ i → i ≤ c → rA s' 55 (10 * b + i) = rA s 55 (10 * b + i) ∧ rA s' 53 (10 * b + i) = rA s 53 (10 * b + i)) (h0 : 0 ≤ c) (h1 : c < rA s 52 b) (h2 : c < rA s' 52 b) (m : ∀ j x, (j = 1 ∨ j = 5 ∨ j = 7 ∨ j = 8 ∨ j = 17 ∨ j = 18) → rA s' j x = rA s j x) (k : brkP s' b c) : brkP s b c := by
  have en : nbS s' b c (-1) = nbS s b c (-1) := nbR_cg 12 (c + -1) (fun i i1 i2 => (h i i1 (by omega)).1) (by omega) (by omega)
  have hl := nbR_le (s := s) (b := b) 12 (c + -1)
  have hb := nbR_b s b (-1) 12 (c + -1)
  have hc := h c h0 (Int.le_refl _)
  unfold brkP at k ⊢
  unfold lateP at k ⊢
  rw [hc.1, hc.2, m 18 _ (by omega), dep_m (fun j x hj => m j x (by omega)), en] at k
  refine ⟨k.1, k.2.imp id (fun z => ⟨z.1, ?_⟩)⟩
  have z2 := z.2
  have y : nbS s b c (-1) ≠ -1 := z.1
  have y2 : 0 ≤ nbS s b c (-1) ∧ nbS s b c (-1) ≤ c := by
    unfold nbS at y ⊢
    omega
  have e : arv s' (rA s' 53 (10 * b + nbS s b c (-1))) = arv s (rA s 53 (10 * b + nbS s b c (-1))) := by
    rw [(h _ y2.1 y2.2).2]
    unfold arv
    rw [dep_m (fun j x hj => m j x (by omega)), m 8 _ (by omega)]
  rw [e] at z2
  exact z2
section NB
variable {t : am_Z} {b c : Int}
theorem mv_low (hc : 0 ≤ c ∧ c < rA t 52 b) {i : Int} (h0 : 0 ≤ i) (hi : i < c) : rA (moveS t b c) 55 (10 * b + i) = rA t 55 (10 * b + i) ∧ rA (moveS t b c) 53 (10 * b + i) = rA t 53 (10 * b + i) := by
  by_cases hm : mvP t b c
  · have z := mv_lo hm hc h0 hi
    exact ⟨z.2.1, z.1⟩
  · rw [mv_no hm]
    exact ⟨if_neg (fun z => by have := z.2; omega), wA_ne (by omega)⟩
theorem mv_ge (hc : 0 ≤ c ∧ c < rA t 52 b) : rA t 52 b ≤ rA (moveS t b c) 52 b := by
  by_cases hm : mvP t b c
  · rw [(moveS_r hm hc).1]
    have := mv_n hm
    omega
  · rw [mv_no hm, wA_ne (by omega)]
    exact Int.le_refl _
theorem mv_55c (hc : 0 ≤ c ∧ c < rA t 52 b) : 4 ≤ rA (moveS t b c) 55 (10 * b + c) := by
  by_cases hm : mvP t b c
  · rw [(mv_c hm hc).2.1]
    omega
  · rw [mv_no hm, wA_A, if_pos ⟨rfl, rfl⟩]
    omega
theorem nb_other {b' : Int} (h52 : h52P t) (hc : 0 ≤ c ∧ c < rA t 52 b) (e : b' ≠ b) (h : am_nb t b') : am_nb (moveS t b c) b' := fun k k1 k2 z => by
  have h10 := (h52 b).2
  have c52 := h52 b'
  have e52 : rA (moveS t b c) 52 b' = rA t 52 b' := moveS_A hc h10 (Or.inr (Or.inr (Or.inl ⟨rfl, e⟩)))
  rw [e52] at k2
  refine h k k1 k2 (brk_cg (fun i i1 i2 => ⟨mv_oc hc h10 e (by omega) i1 (by omega), mv_oc hc h10 e (by omega) i1 (by omega)⟩) k1 k2 (by rw [e52]; exact k2) (fun j x hj => mv_any (by omega)) z)
/-- the frame of a repair -/
def am_fq (s X : am_Z) : Prop := h52P X ∧ ∀ j x, (j < 52 ∨ 58 < j) → rA X j x = rA s j x
theorem fq_move {s : am_Z} (F : am_fq s t) (hc : 0 ≤ c ∧ c < rA t 52 b) : am_fq s (moveS t b c) := ⟨fun x => mv_52 F.1 hc x, fun j x h => (mv_any h).trans (F.2 j x h)⟩
theorem nb_3 {s : am_Z} {b : Int} : ∀ (m : Nat) (k : Int) (X : am_X), 0 ≤ k → 10 < k + m → am_fq s X.1 → (∀ c : Int, 0 ≤ c → c < k → c < rA X.1 52 b → ¬ brkP X.1 b c) → am_fq s (rpr3 b m k X).1 ∧ am_nb (rpr3 b m k X).1 b ∧ ∀ b', b' ≠ b → am_nb X.1 b' → am_nb (rpr3 b m k X).1 b'
  | 0, k, X, hk, hm, F, h => ⟨F, fun c c1 c2 => h c c1 (by
      have z : c < rA X.1 52 b := c2
      have := F.1 b
      omega) c2, fun _ _ z => z⟩
  | m + 1, k, X, hk, hm, F, h => by
    rw [rpr3]
    split
    · rename_i hl
      split
      · rename_i hr
        have hc : 0 ≤ k ∧ k < rA X.1 52 b := ⟨hk, hl⟩
        obtain ⟨r1, r2, r3⟩ := nb_3 (s := s) (b := b) m (k + 1) (moveS X.1 b k, X.2 + (if mvP X.1 b k then 100 else 1)) (by omega) (by omega) (fq_move F hc) (fun c c1 c2 c3 z => by
          by_cases e : c = k
          · have y := mv_55c hc
            have z1 : rA (moveS X.1 b k) 55 (10 * b + c) ≤ 1 := z.1
            rw [e] at z1
            omega
          · exact h c c1 (by omega) (by omega) (brk_cg (s' := moveS X.1 b k) (fun i i1 i2 => mv_low hc i1 (by omega)) c1 (by omega) c3 (fun j x hj => mv_any (by omega)) z))
        exact ⟨r1, r2, fun b' e z => r3 b' e (nb_other F.1 hc e z)⟩
      · rename_i hr
        exact nb_3 m (k + 1) X (by omega) (by omega) F (fun c c1 c2 c3 z => by
          by_cases e : c = k
          · rw [e] at z; exact hr z
          · exact h c c1 (by omega) c3 z)
    · rename_i hl
      exact ⟨F, fun c c1 c2 => h c c1 (by omega) c2, fun _ _ z => z⟩
theorem fq_tier {s X : am_Z} (F : am_fq s X) (v : Int) : tierS X v = tierS s v := tier_s (fun x => F.2 69 x (by omega)) v
theorem nb_2 {s : am_Z} {t : Int} : ∀ (n : Nat) (X : am_X), am_fq s X.1 → am_fq s (rpr2 t n X).1 ∧ (∀ b, am_nb X.1 b → am_nb (rpr2 t n X).1 b) ∧ ∀ b : Int, 0 ≤ b → b < n → rA s 47 b = 1 → tierS s (rA s 46 b) = t → am_nb (rpr2 t n X).1 b
  | 0, _, F => ⟨F, fun _ z => z, fun b h1 h2 => absurd h2 (by omega)⟩
  | n + 1, X, F => by
    obtain ⟨i1, i2, i3⟩ := nb_2 (s := s) (t := t) n X F
    rw [rpr2]
    unfold rprB
    by_cases hc : rA (rpr2 t n X).1 47 (n : Int) = 1 ∧ tierS (rpr2 t n X).1 (rA (rpr2 t n X).1 46 (n : Int)) = t
    · rw [if_pos hc]
      obtain ⟨r1, r2, r3⟩ := nb_3 (s := s) (b := n) 12 0 (rpr2 t n X) (by omega) (by omega) i1 (fun c c1 c2 => absurd c2 (by omega))
      refine ⟨r1, fun b z => ?_, fun b h1 h2 h3 h4 => ?_⟩
      · by_cases e : b = n
        · rw [e]; exact r2
        · exact r3 b e (i2 b z)
      · by_cases e : b = n
        · rw [e]; exact r2
        · exact r3 b e (i3 b h1 (by omega) h3 h4)
    · rw [if_neg hc]
      refine ⟨i1, i2, fun b h1 h2 h3 h4 => ?_⟩
      by_cases e : b = n
      · refine absurd ⟨?_, ?_⟩ hc
        · rw [i1.2 47 _ (by omega), ← e]; exact h3
        · rw [fq_tier i1, i1.2 46 _ (by omega), ← e]; exact h4
      · exact i3 b h1 (by omega) h3 h4
theorem nb_1 {s : am_Z} {nb : Nat} : ∀ (i : Nat) (X : am_X), i ≤ 4 → am_fq s X.1 → am_fq s (rpr1 nb i X).1 ∧ ∀ b : Int, 0 ≤ b → b < nb → rA s 47 b = 1 → tierS s (rA s 46 b) ≤ 3 → 4 - i ≤ tierS s (rA s 46 b) → am_nb (rpr1 nb i X).1 b
  | 0, _, _, F => ⟨F, fun b h1 h2 h3 h4 h5 => absurd h5 (by omega)⟩
  | i + 1, X, hi, F => by
    obtain ⟨i1, i2⟩ := nb_1 (s := s) (nb := nb) i X (by omega) F
    rw [rpr1]
    obtain ⟨r1, r2, r3⟩ := nb_2 (s := s) (t := 3 - i) nb (rpr1 nb i X) i1
    refine ⟨r1, fun b h1 h2 h3 h4 h5 => ?_⟩
    by_cases e : tierS s (rA s 46 b) = 3 - i
    · exact r3 b h1 h2 h3 e
    · exact r2 b (i2 b h1 h2 h3 h4 (by omega))
theorem rpr_nb {s : am_Z} (I : am_INV s) (B : in_S s) : ∀ b : Int, 0 ≤ b → b < rI s 44 → rA (rprS s) 47 b = 1 → am_nb (rprS s) b := fun b h1 h2 h3 => by
  obtain ⟨r1, r2⟩ := nb_1 (s := s) (nb := (rI s 44).toNat) 4 (s, 0) (Nat.le_refl _) ⟨fun x => B.1 52 x 0 10 rfl, fun _ _ _ => rfl⟩
  have z := tier_b B (PT_N B I.2.1.2.2.2.2.2.1) b.toNat
  rw [show ((b.toNat : Nat) : Int) = b by omega] at z
  exact r2 b h1 (by omega) ((r1.2 47 b (by omega)).symm.trans h3) z.2 (by omega)
theorem rpr_0 {X : am_X} {nb : Nat} (h : ∀ b : Int, 0 ≤ b → b < nb → rA X.1 47 b = 1 → am_nb X.1 b) : ∀ i : Nat, rpr1 nb i X = X := by
  have h3 : ∀ (b : Int), am_nb X.1 b → ∀ (m : Nat) (k : Int), 0 ≤ k → rpr3 b m k X = X := fun b hb m => by
    induction m with
    | zero => intro k _; rfl
    | succ m ih =>
      intro k hk
      rw [rpr3]
      by_cases hl : k < rA X.1 52 b
      · rw [if_pos hl, if_neg (hb k hk hl)]
        exact ih _ (by omega)
      · rw [if_neg hl]
  have h2 : ∀ (t : Int) (n : Nat), n ≤ nb → rpr2 t n X = X := fun t n => by
    induction n with
    | zero => intro _; rfl
    | succ n ih =>
      intro hn
      rw [rpr2, ih (by omega)]
      unfold rprB
      by_cases hc : rA X.1 47 (n : Int) = 1 ∧ tierS X.1 (rA X.1 46 (n : Int)) = t
      · rw [if_pos hc]
        exact h3 _ (h n (by omega) (by omega) hc.1) _ _ (by omega)
      · rw [if_neg hc]
  intro i
  induction i with
  | zero => rfl
  | succ i ih =>
    rw [rpr1, ih]
    exact h2 _ _ (Nat.le_refl _)
theorem rpr_twice {s : am_Z} (I : am_INV s) (B : in_S s) : (rpr1 (rI (rprS s) 44).toNat 4 (rprS s, 0)).2 = 0 := by
  have e : rI (rprS s) 44 = rI s 44 := rpr_KF.1 44 (by omega)
  rw [rpr_0 (X := (rprS s, 0)) (fun b h1 h2 h3 => rpr_nb I B b h1 (by omega) h3)]
end NB
end

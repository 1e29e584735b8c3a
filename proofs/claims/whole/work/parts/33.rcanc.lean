noncomputable section
def itS (f : Nat → am_Z → am_Z) : Nat → am_Z → am_Z
  | 0, s => s
  | n + 1, s => f n (itS f n s)
theorem itS_s (f : Nat → am_Z → am_Z) (n : Nat) (s : am_Z) : itS f (n + 1) s = f n (itS f n s) := rfl
theorem wB_n (s : am_Z) (j : Nat) (a : Int) (n : Nat) (g : Int → Int) : rA (wB s j a n g) j (a + n) = rA s j (a + n) := if_neg (fun h => by have := h.2.2; omega)
def gVoid (s : am_Z) (i : Int) : Int := if rA s 55 i ≤ 1 then 5 else rA s 55 i
def voidS (s : am_Z) (b : Int) : am_Z := wB s 55 (10 * b) (rA s 52 b).toNat (gVoid s)
def hasN (s : am_Z) (l b : Int) : Nat → Int
  | 0 => 0
  | n + 1 => if hasN s l b n ≠ 0 ∨ rA s 53 (10 * b + n) = l then 1 else 0
theorem hasN_b (s : am_Z) (l b : Int) (n : Nat) : 0 ≤ hasN s l b n ∧ hasN s l b n ≤ 1 := by
  cases n with
  | zero => simp [hasN]
  | succ n => simp only [hasN]; split <;> omega
def cancF (l : Int) (b : Nat) (t : am_Z) : am_Z := if hasN t l b (rA t 52 b).toNat ≠ 0 ∧ rA t 47 b = 0 then voidS (wA t 47 b 3) b else t
def cancS (s : am_Z) (l : Int) : am_Z := itS (cancF l) (rI s 44).toNat (wA s 18 (61 * (l / 100) + l % 100) 1)
theorem lp_voids {d : Nat} {s : am_Z} {q0 : am_A} {Q : Option am_V → am_Z → Prop} {b : Int} (hb : 0 ≤ b ∧ b < 40) : ∀ (m : Nat) (j : Nat) (k : Int) (s1 : am_Z), (rA s 52 b).toNat - j < m → (k = 10 * b + j ∧ (j : Int) ≤ rA s 52 b ∧ s1 = wB s 55 (10 * b) j (gVoid s)) → (∀ x2, am_WR d m_M_voids 52 [some (aR 9 0), some (aI (zI b)), x2] [] q0 (voidS s b) Q) → am_WR d m_M_voids 5 [some (aR 9 0), some (aI (zI b)), some (aI (zI k))] [] q0 (s1) Q := by
  intro m
  induction m with
  | zero => intro j k s1 hm; exact absurd hm (Nat.not_lt_zero _)
  | succ m ih =>
    intro j k s1 hm ⟨hj, hj2, hs1⟩ K
    subst hj
    subst hs1
    refine rr_inS (fun B => ?_)
    have e55 := wB_n s 55 (10 * b) j (gVoid s)
    have b55 := B.1 55 (10 * b + (j : Int)) 0 5 rfl
    have b52 := B.1 52 b 0 10 rfl
    have e52 : rA (wB s 55 (10 * b) j (gVoid s)) 52 b = rA s 52 b := rfl
    have eg : gVoid s (10 * b + (j : Int)) = if rA s 55 (10 * b + (j : Int)) ≤ 1 then 5 else rA s 55 (10 * b + (j : Int)) := rfl
    refine rr_iload_n rfl rfl ?_
    refine rr_bipush (x := 10) rfl rfl ?_
    refine rr_iload_n rfl rfl ?_
    refine rr_imul rfl ?_
    refine rr_aload_n rfl rfl ?_
    refine rr_gfA 52 rfl rfl (by omega) rfl ?_
    refine rr_iload_n rfl rfl ?_
    refine rr_iav 52 40 (s) (fun _ => rfl) rfl rfl rfl rfl (by omega) (by omega) (fun b15 => ?_)
    refine rr_iadd rfl ?_
    refine rr_icmp_ge rfl rfl (by omega) (by omega) (fun h17 => ?_) (fun h17 => ?_)
    · rw [show j = (rA s 52 b).toNat by omega]
      exact K _
    · refine rr_aload_n rfl rfl ?_
      refine rr_gfA 55 rfl rfl (by omega) rfl ?_
      refine rr_iload_n rfl rfl ?_
      refine rr_join (pc' := 45) (V := gVoid s (10 * b + (j : Int))) ?_ (fun K45 => ?_)
      · refine rr_ias 55 400 rfl ⟨rfl, by omega⟩ rfl (by omega) (by omega) rfl rfl (by omega) (by omega) ?_
        refine rr_inc2 rfl ?_
        refine rr_goto rfl rfl ?_
        exact ih (j + 1) _ _ (by omega) ⟨by omega, by omega, wB_s s 55 (10 * b) j (gVoid s)⟩ K
      · refine rr_aload_n rfl rfl ?_
        refine rr_gfA 55 rfl rfl (by omega) rfl ?_
        refine rr_iload_n rfl rfl ?_
        refine rr_ia 55 400 rfl rfl rfl rfl (by omega) (by omega) (fun b30 => ?_)
        refine rr_iconst rfl ?_
        refine rr_icmp_gt rfl rfl (by omega) (by omega) (fun h32 => ?_) (fun h32 => ?_)
        · refine rr_aload_n rfl rfl ?_
          refine rr_gfA 55 rfl rfl (by omega) rfl ?_
          refine rr_iload_n rfl rfl ?_
          refine rr_ia 55 400 rfl rfl rfl rfl (by omega) (by omega) (fun b44 => ?_)
          exact K45 _ (by omega)
        · refine rr_iconst rfl ?_
          refine rr_goto rfl rfl ?_
          exact K45 _ (by omega)
theorem sr_voids {d : Nat} {s : am_Z} {b : Int}  (hb : 0 ≤ b ∧ b < 40) : am_CR d m_M_voids [aR 9 0, aI (zI b)] s (isW (voidS s b)) := by
  refine am_CR_i (ls := [some (aR 9 0), some (aI (zI b)), none]) rfl (fun q0 => ?_)
  refine rr_inS (fun B => ?_)
  have b52 := B.1 52 b 0 10 rfl
  refine rr_bipush (x := 10) rfl rfl ?_
  refine rr_iload_n rfl rfl ?_
  refine rr_imul rfl ?_
  refine rr_stI2 rfl ?_
  refine lp_voids (d := d) (s := s) hb ((rA s 52 b).toNat + 1) 0 (10 * b) s (by omega) ⟨by omega, by omega, (wB_0 ..).symm⟩ (fun x2 => ?_)
  exact rr_ret rfl rfl ⟨rfl, rfl⟩
theorem lp_has {d : Nat} {s : am_Z} {q0 : am_A} {Q : Option am_V → am_Z → Prop} {l b : Int} (hl : in32 l) (hb : 0 ≤ b ∧ b < 40) : ∀ (m : Nat) (j : Nat) (k h : Int), (rA s 52 b).toNat - j < m → (k = 10 * b + j ∧ (j : Int) ≤ rA s 52 b ∧ h = hasN s l b j) → (∀ x4, am_WR d m_M_cancels 71 [some (aR 9 0), some (aI (zI l)), some (aI (zI b)), some (aI (zI (hasN s l b (rA s 52 b).toNat))), x4] [] q0 (s) Q) → am_WR d m_M_cancels 28 [some (aR 9 0), some (aI (zI l)), some (aI (zI b)), some (aI (zI h)), some (aI (zI k))] [] q0 (s) Q := by
  intro m
  induction m with
  | zero => intro j k h hm; exact absurd hm (Nat.not_lt_zero _)
  | succ m ih =>
    intro j k h hm ⟨hj, hj2, hh⟩ K
    subst hj
    subst hh
    have bh := hasN_b s l b j
    refine rr_iload rfl rfl ?_
    refine rr_bipush (x := 10) rfl rfl ?_
    refine rr_iload_n rfl rfl ?_
    refine rr_imul rfl ?_
    refine rr_aload_n rfl rfl ?_
    refine rr_gfA 52 rfl rfl (by omega) rfl ?_
    refine rr_iload_n rfl rfl ?_
    refine rr_ia 52 40 rfl rfl rfl rfl (by omega) (by omega) (fun b39 => ?_)
    refine rr_iadd rfl ?_
    refine rr_icmp_ge rfl rfl (by omega) (by omega) (fun h41 => ?_) (fun h41 => ?_)
    · rw [show j = (rA s 52 b).toNat by omega]
      exact K _
    · refine rr_join (pc' := 64) (V := (if hasN s l b j ≠ 0 ∨ rA s 53 (10 * b + (j : Int)) = l then 1 else 0)) ?_ (fun K64 => ?_)
      · refine rr_stI3 rfl ?_
        refine rr_inc4 rfl ?_
        refine rr_goto rfl rfl ?_
        exact ih (j + 1) _ _ (by omega) ⟨by omega, by omega, rfl⟩ K
      · refine rr_iload_n rfl rfl ?_
        refine rr_if_ne rfl rfl (by omega) (fun h45 => ?_) (fun h45 => ?_)
        · refine rr_iconst rfl ?_
          refine rr_goto rfl rfl ?_
          exact K64 _ (by first | omega | (simp_all) | (split <;> omega))
        · refine rr_aload_n rfl rfl ?_
          refine rr_gfA 53 rfl rfl (by omega) rfl ?_
          refine rr_iload rfl rfl ?_
          refine rr_iaL 53 400 (s) (fun _ => rfl) rfl rfl rfl rfl rfl (by omega) (by omega) (fun b54 => ?_)
          refine rr_iload_n rfl rfl ?_
          refine rr_icmp_ne rfl rfl (by omega) (by omega) (fun h56 => ?_) (fun h56 => ?_)
          · refine rr_iconst rfl ?_
            exact K64 _ (by first | omega | (simp_all) | (split <;> omega))
          · refine rr_iconst rfl ?_
            refine rr_goto rfl rfl ?_
            exact K64 _ (by first | omega | (simp_all) | (split <;> omega))
theorem lp_canc {d : Nat} {s : am_Z} {q0 : am_A} {Q : Option am_V → am_Z → Prop} {l nb : Int} (hl : in32 l) (hnb : 0 ≤ nb ∧ nb ≤ 40) : ∀ (m : Nat) (j : Nat) (b : Int) (s1 : am_Z) (x3 x4 : Option am_V), nb.toNat - j < m → (b = j ∧ (j : Int) ≤ nb ∧ rI s1 44 = nb ∧ s1 = itS (cancF l) j s) → (∀ x2 x3 x4, am_WR (d + 1) m_M_cancels 102 [some (aR 9 0), some (aI (zI l)), x2, x3, x4] [] q0 (itS (cancF l) nb.toNat s) Q) → am_WR (d + 1) m_M_cancels 12 [some (aR 9 0), some (aI (zI l)), some (aI (zI b)), x3, x4] [] q0 (s1) Q := by
  intro m
  induction m with
  | zero => intro j b s1 x3 x4 hm; exact absurd hm (Nat.not_lt_zero _)
  | succ m ih =>
    intro j b s1 x3 x4 hm ⟨hj, hj2, hI, hs1⟩ K
    subst hj
    refine rr_inS (fun B => ?_)
    have b52 := B.1 52 (j : Int) 0 10 rfl
    refine rr_iload_n rfl rfl ?_
    refine rr_aload_n rfl rfl ?_
    refine rr_gfI 44 rfl rfl (by omega) rfl (fun b14 => ?_)
    refine rr_icmp_ge rfl rfl (by omega) (by omega) (fun h17 => ?_) (fun h17 => ?_)
    · rw [hs1, show j = nb.toNat by omega]
      exact K _ _ _
    · refine rr_iconst rfl ?_
      refine rr_stI3 rfl ?_
      refine rr_bipush (x := 10) rfl rfl ?_
      refine rr_iload_n rfl rfl ?_
      refine rr_imul rfl ?_
      refine rr_stI4 rfl ?_
      refine lp_has (d := d + 1) (s := s1) hl (b := (j : Int)) (by omega) ((rA s1 52 (j : Int)).toNat + 1) 0 (10 * (j : Int)) 0 (by omega) ⟨by omega, by omega, rfl⟩ (fun x4 => ?_)
      have bh := hasN_b s1 l (j : Int) (rA s1 52 (j : Int)).toNat
      refine rr_iload_n rfl rfl ?_
      refine rr_if_eq rfl rfl (by omega) (fun h72 => ?_) (fun h72 => ?_)
      · refine rr_inc2 rfl ?_
        refine rr_goto rfl rfl ?_
        exact ih (j + 1) _ _ _ _ (by omega) ⟨by omega, by omega, by exact hI, by rw [itS_s, ← hs1]; unfold cancF; first | rw [if_pos ⟨by omega, by omega⟩] | rw [if_neg (by omega)]⟩ K
      · refine rr_aload_n rfl rfl ?_
        refine rr_gfA 47 rfl rfl (by omega) rfl ?_
        refine rr_iload_n rfl rfl ?_
        refine rr_ia 47 40 rfl rfl rfl rfl (by omega) (by omega) (fun b80 => ?_)
        refine rr_if_ne rfl rfl (by omega) (fun h81 => ?_) (fun h81 => ?_)
        · refine rr_inc2 rfl ?_
          refine rr_goto rfl rfl ?_
          exact ih (j + 1) _ _ _ _ (by omega) ⟨by omega, by omega, by exact hI, by rw [itS_s, ← hs1]; unfold cancF; first | rw [if_pos ⟨by omega, by omega⟩] | rw [if_neg (by omega)]⟩ K
        · refine rr_aload_n rfl rfl ?_
          refine rr_gfA 47 rfl rfl (by omega) rfl ?_
          refine rr_iload_n rfl rfl ?_
          refine rr_iconst rfl ?_
          refine rr_ias 47 40 rfl ⟨rfl, by omega⟩ rfl (by omega) (by omega) rfl rfl (by omega) (by omega) ?_
          refine rr_aload_n rfl rfl ?_
          refine rr_iload_n rfl rfl ?_
          refine rr_cv1W rfl rfl rfl (Nat.le_of_ble_eq_true rfl) (sr_voids (d := 0) (by omega)) (by omega) ?_
          refine rr_inc2 rfl ?_
          refine rr_goto rfl rfl ?_
          exact ih (j + 1) _ _ _ _ (by omega) ⟨by omega, by omega, by exact hI, by rw [itS_s, ← hs1]; unfold cancF; first | rw [if_pos ⟨by omega, by omega⟩] | rw [if_neg (by omega)]⟩ K
theorem sr_cancels {d : Nat} {s : am_Z} {l : Int}  (hl : legR l) : am_CR (d + 1) m_M_cancels [aR 9 0, aI (zI l)] s (isW (cancS s l)) := by
  refine am_CR_i (ls := [some (aR 9 0), some (aI (zI l)), none, none, none]) rfl (fun q0 => ?_)
  refine rr_inS (fun B => ?_)
  have b44 := B.2.1 44 0 40 rfl
  refine rr_aload_n rfl rfl ?_
  refine rr_gfA 18 rfl rfl (by omega) rfl ?_
  refine rr_iload_n rfl rfl ?_
  refine rr_cs1P rfl rfl (Nat.le_of_ble_eq_true rfl) (sr_at (d := 0) (by omega)) (by omega) (fun b5 => ?_)
  refine rr_iconst rfl ?_
  refine rr_bas 18 732 rfl rfl rfl (by omega) (by omega) rfl rfl (by omega) (by omega) ?_
  refine rr_iconst rfl ?_
  refine rr_stI2 rfl ?_
  refine lp_canc (d := d) (s := wA s 18 (61 * (l / 100) + l % 100) 1) (nb := rI s 44) (by omega) (by omega) ((rI s 44).toNat + 1) 0 0 _ _ _ (by omega) ⟨rfl, by omega, rfl, rfl⟩ (fun x2 x3 x4 => ?_)
  exact rr_ret rfl rfl ⟨rfl, rfl⟩
end

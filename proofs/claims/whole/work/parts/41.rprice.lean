noncomputable section
abbrev canH0 (s : am_Z) (p c f : Int) : Prop := rA s 22 f = rA s 5 (rA s 36 p / 100) ∧ rA s 23 f = rA s 6 (rA s 36 (p + c - 1) / 100) ∧ (rA s 26 f ≤ (dep s (rA s 36 p) + rA s 1 (rA s 5 (rA s 36 p / 100))) / 24 ∧ (dep s (rA s 36 p) + rA s 1 (rA s 5 (rA s 36 p / 100))) / 24 ≤ rA s 27 f) ∧ 24 * rA s 28 f ≤ dep s (rA s 36 p) - rI s 0
abbrev canK (s : am_Z) (p f n k : Int) : Prop := (rA s 21 f = -1 ∨ rA s 4 (rA s 36 k / 100) = rA s 21 f) ∧ n ≤ openS s (rA s 36 k) (rA s 24 f) ∧ (k = p ∨ dep s (rA s 36 k) - arv s (rA s 36 (k - 1)) < 24)
def fCh (s : am_Z) (p f n : Int) (k : Nat) : Int := if canK s p f n (p + k) then 1 else 0
def canH (s : am_Z) (p c f n : Int) : Int := andN (if canH0 s p c f then 1 else 0) (fCh s p f n) c.toNat
theorem andN_0 {f : Nat → Int} {n : Nat} : andN 0 f n = 0 := by
  induction n with
  | zero => rfl
  | succ n ih => simp only [andN, ih]; rw [if_neg (fun z => z.1 rfl)]
theorem andN_z {g : Int} {f : Nat → Int} {n m : Nat} (h : andN g f n = 0) (hm : n ≤ m) : andN g f m = 0 := by
  induction m with
  | zero => rw [show n = 0 by omega] at h; exact h
  | succ m ih =>
    by_cases hn : n = m + 1
    · rw [← hn]; exact h
    · simp only [andN]
      rw [if_neg (fun z => z.1 (ih (by omega)))]
abbrev rndP (s : am_Z) (n : Int) : Prop := n = 2 ∧ rA s 5 (rA s 36 0 / 100) = rA s 6 (rA s 36 (rI s 35 - 1) / 100)
abbrev rest (s : am_Z) : Int := dep s (rA s 36 (rA s 41 0)) - arv s (rA s 36 (rA s 41 0 - 1))
def fGt (s : am_Z) (f : Int) (j : Nat) : Int := if (rA s 31 f = 0 ∨ rA s 21 (rA s 42 j) = rA s 21 f) ∧ (rA s 29 f = 0 ∨ rA s 29 (rA s 42 j) ≠ 0) then 1 else 0
def gtN (s : am_Z) (n : Int) : Nat → Int
  | 0 => 1
  | k + 1 => if rA s 29 (rA s 42 k) = 0 then andN (gtN s n k) (fGt s (rA s 42 k)) n.toNat else if andN (gtN s n k) (fGt s (rA s 42 k)) n.toNat ≠ 0 ∧ rndP s n ∧ 24 * rA s 30 (rA s 42 k) ≤ rest s then 1 else 0
theorem gtN_b (s : am_Z) (n : Int) (k : Nat) : 0 ≤ gtN s n k ∧ gtN s n k ≤ 1 := by
  induction k with
  | zero => simp [gtN]
  | succ k ih =>
    simp only [gtN]
    split
    · exact andN_b ih _ _
    · split <;> omega
def tkSum (s : am_Z) (n : Nat) : Int := sumI 0 n (fun k => rA s 25 (rA s 42 k))
def tkF (i : Nat) (t : am_Z) : am_Z := wA (wA t 39 i (rA t 41 i)) 40 i (rA t 42 i)
abbrev tkP (s : am_Z) (n : Int) : Prop := (rI s 37 = -1 ∨ tkSum s n.toNat < rI s 37) ∧ gtN s n n.toNat ≠ 0
def takeS (s : am_Z) (n : Int) : am_Z := if tkP s n then itS tkF n.toNat (wI (wI s 37 (tkSum s n.toNat)) 38 n) else s
theorem lp_canH {d : Nat} {s : am_Z} {q0 : am_A} {Q : Option am_V → am_Z → Prop} {p c f n g0 : Int} {x5 x6 x7 x8 : Option am_V} (hp : 0 ≤ p ∧ 1 ≤ c ∧ p + c ≤ 4) (hf : 0 ≤ f ∧ f < 16) (hn : in32 n) (hg0 : 0 ≤ g0 ∧ g0 ≤ 1) : ∀ (m : Nat) (j : Nat) (k g : Int), c.toNat - j < m → (k = p + j ∧ (j : Int) ≤ c ∧ g = andN g0 (fCh s p f n) j) → (∀ x10, am_WR (d + 4) m_M_canHave 269 [some (aR 9 0), some (aI (zI p)), some (aI (zI c)), some (aI (zI f)), some (aI (zI n)), x5, x6, x7, x8, some (aI (zI (andN g0 (fCh s p f n) c.toNat))), x10] [] q0 (s) Q) → am_WR (d + 4) m_M_canHave 139 [some (aR 9 0), some (aI (zI p)), some (aI (zI c)), some (aI (zI f)), some (aI (zI n)), x5, x6, x7, x8, some (aI (zI g)), some (aI (zI k))] [] q0 (s) Q := by
  intro m
  induction m with
  | zero => intro j k g hm; exact absurd hm (Nat.not_lt_zero _)
  | succ m ih =>
    intro j k g hm ⟨hj, hj2, hg⟩ K
    subst hj
    subst hg
    have bg := andN_b hg0 (fCh s p f n) j
    refine rr_iload rfl rfl ?_
    refine rr_iload_n rfl rfl ?_
    refine rr_iload_n rfl rfl ?_
    refine rr_iadd rfl ?_
    refine rr_icmp_ge rfl rfl (by omega) (by omega) (fun h144 => ?_) (fun h144 => ?_)
    · first
        | (rw [show j = c.toNat by omega]; exact K _)
        | (have hz : andN g0 (fCh s p f n) j = 0 := by omega
           rw [hz, show (0 : Int) = andN g0 (fCh s p f n) c.toNat from (andN_z hz (by omega)).symm]; exact K _)
    · refine rr_iload rfl rfl ?_
      refine rr_if_eq rfl rfl (by omega) (fun h149 => ?_) (fun h149 => ?_)
      · first
          | (rw [show j = c.toNat by omega]; exact K _)
          | (have hz : andN g0 (fCh s p f n) j = 0 := by omega
             rw [hz, show (0 : Int) = andN g0 (fCh s p f n) c.toNat from (andN_z hz (by omega)).symm]; exact K _)
      · refine rr_join (pc' := 213) (V := if (rA s 21 f = -1 ∨ rA s 4 (rA s 36 (p + (j : Int)) / 100) = rA s 21 f) ∧ n ≤ openS s (rA s 36 (p + (j : Int))) (rA s 24 f) then 1 else 0) ?_ (fun K213 => ?_)
        · refine rr_stI9 rfl ?_
          refine rr_join (pc' := 261) (V := (if canK s p f n (p + (j : Int)) then 1 else 0)) ?_ (fun K261 => ?_)
          · refine rr_stI9 rfl ?_
            refine rr_inc10 rfl ?_
            refine rr_goto rfl rfl ?_
            exact ih (j + 1) _ _ (by omega) ⟨by omega, by omega, by simp only [andN, fCh]; omega⟩ K
          · refine rr_iload rfl rfl ?_
            refine rr_if_eqB rfl rfl (fun h217 => ?_) (fun h217 => ?_)
            · refine rr_iconst rfl ?_
              exact K261 _ (by first | omega | (simp_all) | (split <;> omega))
            · refine rr_iload rfl rfl ?_
              refine rr_iload_n rfl rfl ?_
              refine rr_icmp_eq rfl rfl (by omega) (by omega) (fun h223 => ?_) (fun h223 => ?_)
              · refine rr_iconst rfl ?_
                refine rr_goto rfl rfl ?_
                exact K261 _ (by first | omega | (simp_all) | (split <;> omega))
              · refine rr_aload_n rfl rfl ?_
                refine rr_aload_n rfl rfl ?_
                refine rr_gfA 36 rfl rfl (by omega) rfl ?_
                refine rr_iload rfl rfl ?_
                refine rr_iaL 36 4 (s) (fun _ => rfl) rfl rfl rfl rfl rfl (by omega) (by omega) (fun b233 => ?_)
                refine rr_cv1P rfl rfl rfl (Nat.le_of_ble_eq_true rfl) (sr_departs (d := 0) (by omega)) (by omega) (fun b234 => ?_)
                refine rr_aload_n rfl rfl ?_
                refine rr_aload_n rfl rfl ?_
                refine rr_gfA 36 rfl rfl (by omega) rfl ?_
                refine rr_iload rfl rfl ?_
                refine rr_iconst rfl ?_
                refine rr_isub rfl ?_
                refine rr_iaL 36 4 (s) (fun _ => rfl) rfl rfl rfl rfl rfl (by omega) (by omega) (fun b246 => ?_)
                refine rr_cv1P rfl rfl rfl (Nat.le_of_ble_eq_true rfl) (sr_arrives (d := 0) (by omega)) (by omega) (fun b247 => ?_)
                refine rr_isub rfl ?_
                refine rr_bipush (x := 24) rfl rfl ?_
                refine rr_icmp_ge rfl rfl (by omega) (by omega) (fun h253 => ?_) (fun h253 => ?_)
                · refine rr_iconst rfl ?_
                  exact K261 _ (by first | omega | (simp_all) | (split <;> omega))
                · refine rr_iconst rfl ?_
                  refine rr_goto rfl rfl ?_
                  exact K261 _ (by first | omega | (simp_all) | (split <;> omega))
        · refine rr_aload_n rfl rfl ?_
          refine rr_gfA 21 rfl rfl (by omega) rfl ?_
          refine rr_iload_n rfl rfl ?_
          refine rr_ia 21 16 rfl rfl rfl rfl (by omega) (by omega) (fun b157 => ?_)
          refine rr_iconst rfl ?_
          refine rr_icmp_eq rfl rfl (by omega) (by omega) (fun h159 => ?_) (fun h159 => ?_)
          · refine rr_aload_n rfl rfl ?_
            refine rr_aload_n rfl rfl ?_
            refine rr_gfA 36 rfl rfl (by omega) rfl ?_
            refine rr_iload rfl rfl ?_
            refine rr_iaL 36 4 (s) (fun _ => rfl) rfl rfl rfl rfl rfl (by omega) (by omega) (fun b193 => ?_)
            refine rr_aload_n rfl rfl ?_
            refine rr_gfA 24 rfl rfl (by omega) rfl ?_
            refine rr_iload_n rfl rfl ?_
            refine rr_ia 24 16 rfl rfl rfl rfl (by omega) (by omega) (fun b199 => ?_)
            refine rr_cv2P rfl rfl rfl (Nat.le_of_ble_eq_true rfl) (sr_openIn (d := 0) (by omega) (by omega)) (by omega) (fun b200 => ?_)
            refine rr_iload rfl rfl ?_
            refine rr_icmp_lt rfl rfl (by omega) (by omega) (fun h205 => ?_) (fun h205 => ?_)
            · refine rr_iconst rfl ?_
              exact K213 _ (by first | omega | (simp_all) | (split <;> omega))
            · refine rr_iconst rfl ?_
              refine rr_goto rfl rfl ?_
              exact K213 _ (by first | omega | (simp_all) | (split <;> omega))
          · refine rr_aload_n rfl rfl ?_
            refine rr_gfA 4 rfl rfl (by omega) rfl ?_
            refine rr_aload_n rfl rfl ?_
            refine rr_gfA 36 rfl rfl (by omega) rfl ?_
            refine rr_iload rfl rfl ?_
            refine rr_iaL 36 4 (s) (fun _ => rfl) rfl rfl rfl rfl rfl (by omega) (by omega) (fun b172 => ?_)
            refine rr_bipush (x := 100) rfl rfl ?_
            refine rr_idiv rfl (by omega) (by omega) ?_
            refine rr_ia 4 12 rfl rfl rfl rfl (by omega) (by omega) (fun b176 => ?_)
            refine rr_aload_n rfl rfl ?_
            refine rr_gfA 21 rfl rfl (by omega) rfl ?_
            refine rr_iload_n rfl rfl ?_
            refine rr_ia 21 16 rfl rfl rfl rfl (by omega) (by omega) (fun b182 => ?_)
            refine rr_icmp_ne rfl rfl (by omega) (by omega) (fun h183 => ?_) (fun h183 => ?_)
            · refine rr_iconst rfl ?_
              exact K213 _ (by first | omega | (simp_all) | (split <;> omega))
            · refine rr_aload_n rfl rfl ?_
              refine rr_aload_n rfl rfl ?_
              refine rr_gfA 36 rfl rfl (by omega) rfl ?_
              refine rr_iload rfl rfl ?_
              refine rr_iaL 36 4 (s) (fun _ => rfl) rfl rfl rfl rfl rfl (by omega) (by omega) (fun b193 => ?_)
              refine rr_aload_n rfl rfl ?_
              refine rr_gfA 24 rfl rfl (by omega) rfl ?_
              refine rr_iload_n rfl rfl ?_
              refine rr_ia 24 16 rfl rfl rfl rfl (by omega) (by omega) (fun b199 => ?_)
              refine rr_cv2P rfl rfl rfl (Nat.le_of_ble_eq_true rfl) (sr_openIn (d := 0) (by omega) (by omega)) (by omega) (fun b200 => ?_)
              refine rr_iload rfl rfl ?_
              refine rr_icmp_lt rfl rfl (by omega) (by omega) (fun h205 => ?_) (fun h205 => ?_)
              · refine rr_iconst rfl ?_
                exact K213 _ (by first | omega | (simp_all) | (split <;> omega))
              · refine rr_iconst rfl ?_
                refine rr_goto rfl rfl ?_
                exact K213 _ (by first | omega | (simp_all) | (split <;> omega))
theorem sr_canHave {d : Nat} {s : am_Z} {p c f n : Int}  (hp : 0 ≤ p ∧ 1 ≤ c ∧ p + c ≤ 4) (hf : 0 ≤ f ∧ f < 16) (hn : in32 n) : am_CR (d + 4) m_M_canHave [aR 9 0, aI (zI p), aI (zI c), aI (zI f), aI (zI n)] s (isB (s) (canH s p c f n ≠ 0)) := by
  refine am_CR_i (ls := [some (aR 9 0), some (aI (zI p)), some (aI (zI c)), some (aI (zI f)), some (aI (zI n)), none, none, none, none, none, none]) rfl (fun q0 => ?_)
  refine rr_inS (fun B => ?_)
  have bg := andN_b (g := if canH0 s p c f then 1 else 0) (by split <;> omega) (fCh s p f n) c.toNat
  refine rr_aload_n rfl rfl ?_
  refine rr_gfA 36 rfl rfl (by omega) rfl ?_
  refine rr_iload_n rfl rfl ?_
  refine rr_iaL 36 4 (s) (fun _ => rfl) rfl rfl rfl rfl rfl (by omega) (by omega) (fun b5 => ?_)
  refine rr_bipush (x := 100) rfl rfl ?_
  refine rr_idiv rfl (by omega) (by omega) ?_
  refine rr_stI5 rfl ?_
  refine rr_aload_n rfl rfl ?_
  refine rr_gfA 36 rfl rfl (by omega) rfl ?_
  refine rr_iload_n rfl rfl ?_
  refine rr_iload_n rfl rfl ?_
  refine rr_iadd rfl ?_
  refine rr_iconst rfl ?_
  refine rr_isub rfl ?_
  refine rr_iaL 36 4 (s) (fun _ => rfl) rfl rfl rfl rfl rfl (by omega) (by omega) (fun b20 => ?_)
  refine rr_bipush (x := 100) rfl rfl ?_
  refine rr_idiv rfl (by omega) (by omega) ?_
  refine rr_stI6 rfl ?_
  refine rr_aload_n rfl rfl ?_
  refine rr_aload_n rfl rfl ?_
  refine rr_gfA 36 rfl rfl (by omega) rfl ?_
  refine rr_iload_n rfl rfl ?_
  refine rr_iaL 36 4 (s) (fun _ => rfl) rfl rfl rfl rfl rfl (by omega) (by omega) (fun b32 => ?_)
  refine rr_cv1P rfl rfl rfl (Nat.le_of_ble_eq_true rfl) (sr_departs (d := 0) (by omega)) (by omega) (fun b33 => ?_)
  refine rr_stI7 rfl ?_
  refine rr_iload rfl rfl ?_
  refine rr_aload_n rfl rfl ?_
  refine rr_gfA 1 rfl rfl (by omega) rfl ?_
  refine rr_aload_n rfl rfl ?_
  refine rr_gfA 5 rfl rfl (by omega) rfl ?_
  refine rr_iload rfl rfl ?_
  refine rr_ia 5 12 rfl rfl rfl rfl (by omega) (by omega) (fun b50 => ?_)
  refine rr_ia 1 6 rfl rfl rfl rfl (by omega) (by omega) (fun b51 => ?_)
  refine rr_iadd rfl ?_
  have hdz : 0 ≤ dep s (rA s 36 p) + rA s 1 (rA s 5 (rA s 36 p / 100)) := by { have z1 := B.1 7 (rA s 36 p / 100) 0 23 rfl; have z2 := B.1 17 (61 * (rA s 36 p / 100) + rA s 36 p % 100) 0 8 rfl; unfold dep; omega }
  refine rr_bipush (x := 24) rfl rfl ?_
  refine rr_idiv rfl (by omega) (by omega) ?_
  refine rr_stI8 rfl ?_
  refine rr_join (pc' := 134) (V := if canH0 s p c f then 1 else 0) ?_ (fun K134 => ?_)
  · refine rr_stI9 rfl ?_
    refine rr_iload_n rfl rfl ?_
    refine rr_stI10 rfl ?_
    refine lp_canH (d := d) (s := s) (g0 := if canH0 s p c f then 1 else 0) hp hf hn (by split <;> omega) (c.toNat + 1) 0 p _ (by omega) ⟨by omega, by omega, rfl⟩ (fun x10 => ?_)
    refine rr_iload rfl rfl ?_
    refine rr_iret rfl (Or.inr ⟨rfl, by omega⟩) ?_
    exact rr_eB (by unfold canH; omega)
  · refine rr_aload_n rfl rfl ?_
    refine rr_gfA 22 rfl rfl (by omega) rfl ?_
    refine rr_iload_n rfl rfl ?_
    refine rr_ia 22 16 rfl rfl rfl rfl (by omega) (by omega) (fun b63 => ?_)
    refine rr_aload_n rfl rfl ?_
    refine rr_gfA 5 rfl rfl (by omega) rfl ?_
    refine rr_iload rfl rfl ?_
    refine rr_ia 5 12 rfl rfl rfl rfl (by omega) (by omega) (fun b70 => ?_)
    refine rr_icmp_ne rfl rfl (by omega) (by omega) (fun h71 => ?_) (fun h71 => ?_)
    · refine rr_iconst rfl ?_
      exact K134 _ (by first | omega | (simp_all) | (split <;> omega))
    · refine rr_aload_n rfl rfl ?_
      refine rr_gfA 23 rfl rfl (by omega) rfl ?_
      refine rr_iload_n rfl rfl ?_
      refine rr_ia 23 16 rfl rfl rfl rfl (by omega) (by omega) (fun b79 => ?_)
      refine rr_aload_n rfl rfl ?_
      refine rr_gfA 6 rfl rfl (by omega) rfl ?_
      refine rr_iload rfl rfl ?_
      refine rr_ia 6 12 rfl rfl rfl rfl (by omega) (by omega) (fun b86 => ?_)
      refine rr_icmp_ne rfl rfl (by omega) (by omega) (fun h87 => ?_) (fun h87 => ?_)
      · refine rr_iconst rfl ?_
        exact K134 _ (by first | omega | (simp_all) | (split <;> omega))
      · refine rr_iload rfl rfl ?_
        refine rr_aload_n rfl rfl ?_
        refine rr_gfA 26 rfl rfl (by omega) rfl ?_
        refine rr_iload_n rfl rfl ?_
        refine rr_ia 26 16 rfl rfl rfl rfl (by omega) (by omega) (fun b97 => ?_)
        refine rr_aload_n rfl rfl ?_
        refine rr_gfA 27 rfl rfl (by omega) rfl ?_
        refine rr_iload_n rfl rfl ?_
        refine rr_ia 27 16 rfl rfl rfl rfl (by omega) (by omega) (fun b103 => ?_)
        refine rr_cs3B rfl rfl (Nat.le_of_ble_eq_true rfl) (sr_isIn (d := 0) (by omega) (by omega) (by omega)) (by omega) ?_
        refine rr_if_eqB rfl rfl (fun h107 => ?_) (fun h107 => ?_)
        · refine rr_iconst rfl ?_
          exact K134 _ (by first | omega | (simp_all) | (split <;> omega))
        · refine rr_iload rfl rfl ?_
          refine rr_aload_n rfl rfl ?_
          refine rr_gfI 0 rfl rfl (by omega) rfl (fun b113 => ?_)
          refine rr_isub rfl ?_
          refine rr_bipush (x := 24) rfl rfl ?_
          refine rr_aload_n rfl rfl ?_
          refine rr_gfA 28 rfl rfl (by omega) rfl ?_
          refine rr_iload_n rfl rfl ?_
          refine rr_ia 28 16 rfl rfl rfl rfl (by omega) (by omega) (fun b124 => ?_)
          refine rr_imul rfl ?_
          refine rr_icmp_lt rfl rfl (by omega) (by omega) (fun h126 => ?_) (fun h126 => ?_)
          · refine rr_iconst rfl ?_
            exact K134 _ (by first | omega | (simp_all) | (split <;> omega))
          · refine rr_iconst rfl ?_
            refine rr_goto rfl rfl ?_
            exact K134 _ (by first | omega | (simp_all) | (split <;> omega))
theorem lp_gt1 {d : Nat} {s : am_Z} {q0 : am_A} {Q : Option am_V → am_Z → Prop} {n f k g0 : Int} {x6 : Option am_V} (hn : 0 ≤ n ∧ n ≤ 4) (hf : 0 ≤ f ∧ f < 16) (hq : ∀ i, 0 ≤ i → i < n → 0 ≤ rA s 42 i ∧ rA s 42 i < 16) (hg0 : 0 ≤ g0 ∧ g0 ≤ 1) : ∀ (m : Nat) (j : Nat) (i g : Int), n.toNat - j < m → (i = j ∧ (j : Int) ≤ n ∧ g = andN g0 (fGt s f) j) → (∀ x5, am_WR d m_M_goTogether 109 [some (aR 9 0), some (aI (zI n)), some (aI (zI (andN g0 (fGt s f) n.toNat))), some (aI (zI k)), some (aI (zI f)), x5, x6] [] q0 (s) Q) → am_WR d m_M_goTogether 20 [some (aR 9 0), some (aI (zI n)), some (aI (zI g)), some (aI (zI k)), some (aI (zI f)), some (aI (zI i)), x6] [] q0 (s) Q := by
  intro m
  induction m with
  | zero => intro j i g hm; exact absurd hm (Nat.not_lt_zero _)
  | succ m ih =>
    intro j i g hm ⟨hj, hj2, hg⟩ K
    subst hj
    subst hg
    have bg := andN_b hg0 (fGt s f) j
    refine rr_iload rfl rfl ?_
    refine rr_iload_n rfl rfl ?_
    refine rr_icmp_ge rfl rfl (by omega) (by omega) (fun h23 => ?_) (fun h23 => ?_)
    · rw [show j = n.toNat by omega]
      exact K _
    · have hqj := hq (j : Int) (by omega) (by omega)
      refine rr_join (pc' := 67) (V := (if andN g0 (fGt s f) j ≠ 0 ∧ (rA s 31 f = 0 ∨ rA s 21 (rA s 42 (j : Int)) = rA s 21 f) then 1 else 0)) ?_ (fun K67 => ?_)
      · refine rr_stI2 rfl ?_
        refine rr_join (pc' := 102) (V := (if andN g0 (fGt s f) j ≠ 0 ∧ (rA s 31 f = 0 ∨ rA s 21 (rA s 42 (j : Int)) = rA s 21 f) ∧ (rA s 29 f = 0 ∨ rA s 29 (rA s 42 (j : Int)) ≠ 0) then 1 else 0)) ?_ (fun K102 => ?_)
        · refine rr_stI2 rfl ?_
          refine rr_inc5 rfl ?_
          refine rr_goto rfl rfl ?_
          exact ih (j + 1) _ _ (by omega) ⟨by omega, by omega, by simp only [andN, fGt]; omega⟩ K
        · refine rr_iload_n rfl rfl ?_
          refine rr_if_eq rfl rfl (by omega) (fun h69 => ?_) (fun h69 => ?_)
          · refine rr_iconst rfl ?_
            exact K102 _ (by first | omega | (simp_all) | (split <;> omega))
          · refine rr_aload_n rfl rfl ?_
            refine rr_gfA 29 rfl rfl (by omega) rfl ?_
            refine rr_iload rfl rfl ?_
            refine rr_ba 29 16 rfl rfl rfl rfl (by omega) (by omega) (fun b78 => ?_)
            refine rr_if_eq rfl rfl (by omega) (fun h79 => ?_) (fun h79 => ?_)
            · refine rr_iconst rfl ?_
              refine rr_goto rfl rfl ?_
              exact K102 _ (by first | omega | (simp_all) | (split <;> omega))
            · refine rr_aload_n rfl rfl ?_
              refine rr_gfA 29 rfl rfl (by omega) rfl ?_
              refine rr_aload_n rfl rfl ?_
              refine rr_gfA 42 rfl rfl (by omega) rfl ?_
              refine rr_iload rfl rfl ?_
              refine rr_ia 42 5 rfl rfl rfl rfl (by omega) (by omega) (fun b92 => ?_)
              refine rr_ba 29 16 rfl rfl rfl rfl (by omega) (by omega) (fun b93 => ?_)
              refine rr_if_eq rfl rfl (by omega) (fun h94 => ?_) (fun h94 => ?_)
              · refine rr_iconst rfl ?_
                exact K102 _ (by first | omega | (simp_all) | (split <;> omega))
              · refine rr_iconst rfl ?_
                refine rr_goto rfl rfl ?_
                exact K102 _ (by first | omega | (simp_all) | (split <;> omega))
      · refine rr_iload_n rfl rfl ?_
        refine rr_if_eq rfl rfl (by omega) (fun h27 => ?_) (fun h27 => ?_)
        · refine rr_iconst rfl ?_
          exact K67 _ (by first | omega | (simp_all) | (split <;> omega))
        · refine rr_aload_n rfl rfl ?_
          refine rr_gfA 31 rfl rfl (by omega) rfl ?_
          refine rr_iload rfl rfl ?_
          refine rr_ba 31 16 rfl rfl rfl rfl (by omega) (by omega) (fun b36 => ?_)
          refine rr_if_eq rfl rfl (by omega) (fun h37 => ?_) (fun h37 => ?_)
          · refine rr_iconst rfl ?_
            refine rr_goto rfl rfl ?_
            exact K67 _ (by first | omega | (simp_all) | (split <;> omega))
          · refine rr_aload_n rfl rfl ?_
            refine rr_gfA 21 rfl rfl (by omega) rfl ?_
            refine rr_aload_n rfl rfl ?_
            refine rr_gfA 42 rfl rfl (by omega) rfl ?_
            refine rr_iload rfl rfl ?_
            refine rr_ia 42 5 rfl rfl rfl rfl (by omega) (by omega) (fun b50 => ?_)
            refine rr_ia 21 16 rfl rfl rfl rfl (by omega) (by omega) (fun b51 => ?_)
            refine rr_aload_n rfl rfl ?_
            refine rr_gfA 21 rfl rfl (by omega) rfl ?_
            refine rr_iload rfl rfl ?_
            refine rr_ia 21 16 rfl rfl rfl rfl (by omega) (by omega) (fun b58 => ?_)
            refine rr_icmp_ne rfl rfl (by omega) (by omega) (fun h59 => ?_) (fun h59 => ?_)
            · refine rr_iconst rfl ?_
              exact K67 _ (by first | omega | (simp_all) | (split <;> omega))
            · refine rr_iconst rfl ?_
              refine rr_goto rfl rfl ?_
              exact K67 _ (by first | omega | (simp_all) | (split <;> omega))
theorem lp_gt2 {d : Nat} {s : am_Z} {q0 : am_A} {Q : Option am_V → am_Z → Prop} {n : Int} (hn : 0 ≤ n ∧ n ≤ 4) (hL : 1 ≤ rI s 35) (hq : ∀ i, 0 ≤ i → i < n → 0 ≤ rA s 42 i ∧ rA s 42 i < 16) (h0 : n = 2 → 1 ≤ rA s 41 0 ∧ rA s 41 0 ≤ 3) : ∀ (m : Nat) (j : Nat) (k g : Int) (x4 x5 x6 : Option am_V), n.toNat - j < m → (k = j ∧ (j : Int) ≤ n ∧ g = gtN s n j) → (∀ x3 x4 x5 x6, am_WR (d + 3) m_M_goTogether 247 [some (aR 9 0), some (aI (zI n)), some (aI (zI (gtN s n n.toNat))), x3, x4, x5, x6] [] q0 (s) Q) → am_WR (d + 3) m_M_goTogether 4 [some (aR 9 0), some (aI (zI n)), some (aI (zI g)), some (aI (zI k)), x4, x5, x6] [] q0 (s) Q := by
  intro m
  induction m with
  | zero => intro j k g x4 x5 x6 hm; exact absurd hm (Nat.not_lt_zero _)
  | succ m ih =>
    intro j k g x4 x5 x6 hm ⟨hj, hj2, hg⟩ K
    subst hj
    subst hg
    have bg := gtN_b s n j
    refine rr_inS (fun B => ?_)
    refine rr_iload_n rfl rfl ?_
    refine rr_iload_n rfl rfl ?_
    refine rr_icmp_ge rfl rfl (by omega) (by omega) (fun h6 => ?_) (fun h6 => ?_)
    · rw [show j = n.toNat by omega]
      exact K _ _ _ _
    · have hqj := hq (j : Int) (by omega) (by omega)
      refine rr_aload_n rfl rfl ?_
      refine rr_gfA 42 rfl rfl (by omega) rfl ?_
      refine rr_iload_n rfl rfl ?_
      refine rr_ia 42 5 rfl rfl rfl rfl (by omega) (by omega) (fun b14 => ?_)
      refine rr_stI4 rfl ?_
      refine rr_iconst rfl ?_
      refine rr_stI5 rfl ?_
      refine lp_gt1 (d := d + 3) (s := s) hn (by omega) hq (by omega) (n.toNat + 1) 0 0 _ (by omega) ⟨rfl, by omega, rfl⟩ (fun x5 => ?_)
      have bg2 := andN_b bg (fGt s (rA s 42 (j : Int))) n.toNat
      refine rr_aload_n rfl rfl ?_
      refine rr_gfA 29 rfl rfl (by omega) rfl ?_
      refine rr_iload rfl rfl ?_
      refine rr_ba 29 16 rfl rfl rfl rfl (by omega) (by omega) (fun b115 => ?_)
      refine rr_if_eq rfl rfl (by omega) (fun h116 => ?_) (fun h116 => ?_)
      · refine rr_inc3 rfl ?_
        refine rr_goto rfl rfl ?_
        exact ih (j + 1) _ _ _ _ _ (by omega) ⟨by omega, by omega, by simp only [gtN]; first | exact (if_pos (by assumption)).symm | exact (if_neg (by assumption)).symm⟩ K
      · refine rr_join (pc' := 165) (V := if rndP s n then 1 else 0) ?_ (fun K165 => ?_)
        · refine rr_stI5 rfl ?_
          refine rr_join (pc' := 209) (V := (if rndP s n then rest s else 0)) ?_ (fun K209 => ?_)
          · refine rr_stI6 rfl ?_
            have hrs : in32 (if rndP s n then rest s else 0) := by { have z1 := B.1 36 (rA s 41 0) 0 1160 rfl; have z2 := B.2.2 36 (rA s 41 0) rfl; have z3 := dep_b B (l := rA s 36 (rA s 41 0)) ⟨z1.1, z1.2, z2⟩; have y1 := B.1 36 (rA s 41 0 - 1) 0 1160 rfl; have y2 := B.2.2 36 (rA s 41 0 - 1) rfl; have y3 := dep_b B (l := rA s 36 (rA s 41 0 - 1)) ⟨y1.1, y1.2, y2⟩; have y4 := B.1 8 (rA s 36 (rA s 41 0 - 1) / 100) 0 20 rfl; simp only [rest, arv]; split <;> omega }
            refine rr_join (pc' := 240) (V := (if andN (gtN s n j) (fGt s (rA s 42 (j : Int))) n.toNat ≠ 0 ∧ rndP s n ∧ 24 * rA s 30 (rA s 42 (j : Int)) ≤ rest s then 1 else 0)) ?_ (fun K240 => ?_)
            · refine rr_stI2 rfl ?_
              refine rr_inc3 rfl ?_
              refine rr_goto rfl rfl ?_
              exact ih (j + 1) _ _ _ _ _ (by omega) ⟨by omega, by omega, by simp only [gtN]; first | exact (if_pos (by assumption)).symm | exact (if_neg (by assumption)).symm⟩ K
            · refine rr_iload_n rfl rfl ?_
              refine rr_if_eq rfl rfl (by omega) (fun h212 => ?_) (fun h212 => ?_)
              · refine rr_iconst rfl ?_
                exact K240 _ (by first | omega | (simp_all) | (split <;> omega))
              · refine rr_iload rfl rfl ?_
                refine rr_if_eqB rfl rfl (fun h217 => ?_) (fun h217 => ?_)
                · refine rr_iconst rfl ?_
                  exact K240 _ (by first | omega | (simp_all) | (split <;> omega))
                · refine rr_iload rfl rfl ?_
                  refine rr_bipush (x := 24) rfl rfl ?_
                  refine rr_aload_n rfl rfl ?_
                  refine rr_gfA 30 rfl rfl (by omega) rfl ?_
                  refine rr_iload rfl rfl ?_
                  refine rr_ia 30 16 rfl rfl rfl rfl (by omega) (by omega) (fun b230 => ?_)
                  refine rr_imul rfl ?_
                  refine rr_icmp_lt rfl rfl (by omega) (by omega) (fun h232 => ?_) (fun h232 => ?_)
                  · refine rr_iconst rfl ?_
                    exact K240 _ (by first | omega | (simp_all) | (split <;> omega))
                  · refine rr_iconst rfl ?_
                    refine rr_goto rfl rfl ?_
                    exact K240 _ (by first | omega | (simp_all) | (split <;> omega))
          · refine rr_iload rfl rfl ?_
            refine rr_if_eqB rfl rfl (fun h169 => ?_) (fun h169 => ?_)
            · refine rr_iconst rfl ?_
              exact K209 _ (by first | omega | (simp_all) | (split <;> omega))
            · have h0z := h0 (by omega)
              refine rr_aload_n rfl rfl ?_
              refine rr_aload_n rfl rfl ?_
              refine rr_gfA 36 rfl rfl (by omega) rfl ?_
              refine rr_aload_n rfl rfl ?_
              refine rr_gfA 41 rfl rfl (by omega) rfl ?_
              refine rr_iconst rfl ?_
              refine rr_ia 41 5 rfl rfl rfl rfl (by omega) (by omega) (fun b182 => ?_)
              refine rr_iaL 36 4 (s) (fun _ => rfl) rfl rfl rfl rfl rfl (by omega) (by omega) (fun b183 => ?_)
              refine rr_cv1P rfl rfl rfl (Nat.le_of_ble_eq_true rfl) (sr_departs (d := 0) (by omega)) (by omega) (fun b184 => ?_)
              refine rr_aload_n rfl rfl ?_
              refine rr_aload_n rfl rfl ?_
              refine rr_gfA 36 rfl rfl (by omega) rfl ?_
              refine rr_aload_n rfl rfl ?_
              refine rr_gfA 41 rfl rfl (by omega) rfl ?_
              refine rr_iconst rfl ?_
              refine rr_ia 41 5 rfl rfl rfl rfl (by omega) (by omega) (fun b197 => ?_)
              refine rr_iconst rfl ?_
              refine rr_isub rfl ?_
              refine rr_iaL 36 4 (s) (fun _ => rfl) rfl rfl rfl rfl rfl (by omega) (by omega) (fun b200 => ?_)
              refine rr_cv1P rfl rfl rfl (Nat.le_of_ble_eq_true rfl) (sr_arrives (d := 0) (by omega)) (by omega) (fun b201 => ?_)
              refine rr_isub rfl ?_
              refine rr_goto rfl rfl ?_
              exact K209 _ (by first | omega | (simp_all) | (split <;> omega))
        · refine rr_iload_n rfl rfl ?_
          refine rr_iconst rfl ?_
          refine rr_icmp_ne rfl rfl (by omega) (by omega) (fun h121 => ?_) (fun h121 => ?_)
          · refine rr_iconst rfl ?_
            exact K165 _ (by first | omega | (simp_all) | (split <;> omega))
          · refine rr_aload_n rfl rfl ?_
            refine rr_gfA 5 rfl rfl (by omega) rfl ?_
            refine rr_aload_n rfl rfl ?_
            refine rr_gfA 36 rfl rfl (by omega) rfl ?_
            refine rr_iconst rfl ?_
            refine rr_iaL 36 4 (s) (fun _ => rfl) rfl rfl rfl rfl rfl (by omega) (by omega) (fun b133 => ?_)
            refine rr_bipush (x := 100) rfl rfl ?_
            refine rr_idiv rfl (by omega) (by omega) ?_
            refine rr_ia 5 12 rfl rfl rfl rfl (by omega) (by omega) (fun b137 => ?_)
            refine rr_aload_n rfl rfl ?_
            refine rr_gfA 6 rfl rfl (by omega) rfl ?_
            refine rr_aload_n rfl rfl ?_
            refine rr_gfA 36 rfl rfl (by omega) rfl ?_
            refine rr_aload_n rfl rfl ?_
            refine rr_gfI 35 rfl rfl (by omega) rfl (fun b147 => ?_)
            refine rr_iconst rfl ?_
            refine rr_isub rfl ?_
            refine rr_iaL 36 4 (s) (fun _ => rfl) rfl rfl rfl rfl rfl (by omega) (by omega) (fun b152 => ?_)
            refine rr_bipush (x := 100) rfl rfl ?_
            refine rr_idiv rfl (by omega) (by omega) ?_
            refine rr_ia 6 12 rfl rfl rfl rfl (by omega) (by omega) (fun b156 => ?_)
            refine rr_icmp_ne rfl rfl (by omega) (by omega) (fun h157 => ?_) (fun h157 => ?_)
            · refine rr_iconst rfl ?_
              exact K165 _ (by first | omega | (simp_all) | (split <;> omega))
            · refine rr_iconst rfl ?_
              refine rr_goto rfl rfl ?_
              exact K165 _ (by first | omega | (simp_all) | (split <;> omega))
theorem sr_goTogether {d : Nat} {s : am_Z} {n : Int}  (hn : 0 ≤ n ∧ n ≤ 4) (hL : 1 ≤ rI s 35) (hq : ∀ i, 0 ≤ i → i < n → 0 ≤ rA s 42 i ∧ rA s 42 i < 16) (h0 : n = 2 → 1 ≤ rA s 41 0 ∧ rA s 41 0 ≤ 3) : am_CR (d + 3) m_M_goTogether [aR 9 0, aI (zI n)] s (isB (s) (gtN s n n.toNat ≠ 0)) := by
  refine am_CR_i (ls := [some (aR 9 0), some (aI (zI n)), none, none, none, none, none]) rfl (fun q0 => ?_)
  have bg := gtN_b s n n.toNat
  refine rr_iconst rfl ?_
  refine rr_stI2 rfl ?_
  refine rr_iconst rfl ?_
  refine rr_stI3 rfl ?_
  refine lp_gt2 (d := d) (s := s) hn hL hq h0 (n.toNat + 1) 0 0 _ _ _ _ (by omega) ⟨rfl, by omega, rfl⟩ (fun x3 x4 x5 x6 => ?_)
  refine rr_iload_n rfl rfl ?_
  refine rr_iret rfl (Or.inr ⟨rfl, by omega⟩) ?_
  exact rr_eB (by omega)
theorem lp_tk1 {d : Nat} {s : am_Z} {q0 : am_A} {Q : Option am_V → am_Z → Prop} {n : Int} (hn : 0 ≤ n ∧ n ≤ 4) (hq : ∀ i, 0 ≤ i → i < n → 0 ≤ rA s 42 i ∧ rA s 42 i < 16) : ∀ (m : Nat) (j : Nat) (k a : Int), n.toNat - j < m → (k = j ∧ (j : Int) ≤ n ∧ a = tkSum s j) → (∀ x3, am_WR d m_M_takes 29 [some (aR 9 0), some (aI (zI n)), some (aI (zI (tkSum s n.toNat))), x3] [] q0 (s) Q) → am_WR d m_M_takes 4 [some (aR 9 0), some (aI (zI n)), some (aI (zI a)), some (aI (zI k))] [] q0 (s) Q := by
  intro m
  induction m with
  | zero => intro j k a hm; exact absurd hm (Nat.not_lt_zero _)
  | succ m ih =>
    intro j k a hm ⟨hj, hj2, ha⟩ K
    subst hj
    subst ha
    refine rr_iload_n rfl rfl ?_
    refine rr_iload_n rfl rfl ?_
    refine rr_icmp_ge rfl rfl (by omega) (by omega) (fun h6 => ?_) (fun h6 => ?_)
    · rw [show j = n.toNat by omega]
      exact K _
    · have hqj := hq (j : Int) (by omega) (by omega)
      refine rr_iload_n rfl rfl ?_
      refine rr_aload_n rfl rfl ?_
      refine rr_gfA 25 rfl rfl (by omega) rfl ?_
      refine rr_aload_n rfl rfl ?_
      refine rr_gfA 42 rfl rfl (by omega) rfl ?_
      refine rr_iload_n rfl rfl ?_
      refine rr_ia 42 5 rfl rfl rfl rfl (by omega) (by omega) (fun b19 => ?_)
      refine rr_ia 25 16 rfl rfl rfl rfl (by omega) (by omega) (fun b20 => ?_)
      refine rr_iadd rfl ?_
      refine rr_stI2 rfl ?_
      refine rr_inc3 rfl ?_
      refine rr_goto rfl rfl ?_
      exact ih (j + 1) _ _ (by omega) ⟨by omega, by omega, by unfold tkSum; rw [sumI_s, Int.zero_add]⟩ K
theorem lp_tk2 {d : Nat} {s : am_Z} {q0 : am_A} {Q : Option am_V → am_Z → Prop} {n a : Int} (hn : 0 ≤ n ∧ n ≤ 4) : ∀ (m : Nat) (j : Nat) (k : Int) (s1 : am_Z), n.toNat - j < m → (k = j ∧ (j : Int) ≤ n ∧ (∀ i, 0 ≤ i → i < n → 0 ≤ rA s1 42 i ∧ rA s1 42 i < 16) ∧ s1 = itS tkF j s) → (∀ x3, am_WR d m_M_takes 100 [some (aR 9 0), some (aI (zI n)), some (aI (zI a)), x3] [] q0 (itS tkF n.toNat s) Q) → am_WR d m_M_takes 65 [some (aR 9 0), some (aI (zI n)), some (aI (zI a)), some (aI (zI k))] [] q0 (s1) Q := by
  intro m
  induction m with
  | zero => intro j k s1 hm; exact absurd hm (Nat.not_lt_zero _)
  | succ m ih =>
    intro j k s1 hm ⟨hj, hj2, hq, hs1⟩ K
    subst hj
    refine rr_iload_n rfl rfl ?_
    refine rr_iload_n rfl rfl ?_
    refine rr_icmp_ge rfl rfl (by omega) (by omega) (fun h67 => ?_) (fun h67 => ?_)
    · rw [hs1, show j = n.toNat by omega]
      exact K _
    · have hqj := hq (j : Int) (by omega) (by omega)
      refine rr_aload_n rfl rfl ?_
      refine rr_gfA 39 rfl rfl (by omega) rfl ?_
      refine rr_iload_n rfl rfl ?_
      refine rr_aload_n rfl rfl ?_
      refine rr_gfA 41 rfl rfl (by omega) rfl ?_
      refine rr_iload_n rfl rfl ?_
      refine rr_ia 41 5 rfl rfl rfl rfl (by omega) (by omega) (fun b80 => ?_)
      refine rr_ias 39 4 rfl ⟨rfl, by omega⟩ rfl (by omega) (by omega) rfl rfl (by omega) (by omega) ?_
      refine rr_aload_n rfl rfl ?_
      refine rr_gfA 40 rfl rfl (by omega) rfl ?_
      refine rr_iload_n rfl rfl ?_
      refine rr_aload_n rfl rfl ?_
      refine rr_gfA 42 rfl rfl (by omega) rfl ?_
      refine rr_iload_n rfl rfl ?_
      refine rr_iav 42 5 (s1) (fun _ => rfl) rfl rfl rfl rfl (by omega) (by omega) (fun b92 => ?_)
      refine rr_ias 40 4 rfl ⟨rfl, by omega⟩ rfl (by omega) (by omega) rfl rfl (by omega) (by omega) ?_
      refine rr_inc3 rfl ?_
      refine rr_goto rfl rfl ?_
      exact ih (j + 1) _ _ (by omega) ⟨by omega, by omega, hq, by rw [itS_s, ← hs1]; rfl⟩ K
theorem tkSum_b {s : am_Z} (B : in_S s) {n : Nat} (hn : n ≤ 4) : 0 ≤ tkSum s n ∧ tkSum s n ≤ 20000 := by
  have := sumI_b (a := 0) (n := n) (f := fun k => rA s 25 (rA s 42 k)) (M := 5000) (fun i => B.1 25 _ 0 5000 rfl)
  unfold tkSum
  omega
theorem sr_takes {d : Nat} {s : am_Z} {n : Int}  (hn : 0 ≤ n ∧ n ≤ 4) (hL : 1 ≤ rI s 35) (hq : ∀ i, 0 ≤ i → i < n → 0 ≤ rA s 42 i ∧ rA s 42 i < 16) (h0 : n = 2 → 1 ≤ rA s 41 0 ∧ rA s 41 0 ≤ 3) : am_CR (d + 4) m_M_takes [aR 9 0, aI (zI n)] s (isW (takeS s n)) := by
  refine am_CR_i (ls := [some (aR 9 0), some (aI (zI n)), none, none]) rfl (fun q0 => ?_)
  refine rr_inS (fun B => ?_)
  have bt := tkSum_b B (n := n.toNat) (by omega)
  refine rr_iconst rfl ?_
  refine rr_stI2 rfl ?_
  refine rr_iconst rfl ?_
  refine rr_stI3 rfl ?_
  refine lp_tk1 (d := d + 4) (s := s) hn hq (n.toNat + 1) 0 0 0 (by omega) ⟨rfl, by omega, rfl⟩ (fun x3 => ?_)
  refine rr_aload_n rfl rfl ?_
  refine rr_gfI 37 rfl rfl (by omega) rfl (fun b30 => ?_)
  refine rr_iconst rfl ?_
  refine rr_icmp_eq rfl rfl (by omega) (by omega) (fun h34 => ?_) (fun h34 => ?_)
  · refine rr_aload_n rfl rfl ?_
    refine rr_iload_n rfl rfl ?_
    refine rr_cv1B rfl rfl rfl (Nat.le_of_ble_eq_true rfl) (sr_goTogether (d := 0) (by omega) (by omega) (by assumption) (by assumption)) (by omega) ?_
    refine rr_if_eqB rfl rfl (fun h50 => ?_) (fun h50 => ?_)
    · exact rr_ret rfl rfl ⟨rfl, by unfold takeS; first | rw [if_pos ⟨by omega, by assumption⟩] | rw [if_neg (fun z => absurd z.2 (by assumption))] | rw [if_neg (fun z => by omega)]⟩
    · refine rr_aload_n rfl rfl ?_
      refine rr_iload_n rfl rfl ?_
      refine rr_pfI 37 rfl rfl rfl rfl (by omega) rfl (by omega) ?_
      refine rr_aload_n rfl rfl ?_
      refine rr_iload_n rfl rfl ?_
      refine rr_pfI 38 rfl rfl rfl rfl (by omega) rfl (by omega) ?_
      refine rr_iconst rfl ?_
      refine rr_stI3 rfl ?_
      refine lp_tk2 (d := d + 4) (s := wI (wI s 37 (tkSum s n.toNat)) 38 n) hn (n.toNat + 1) 0 0 _ (by omega) ⟨rfl, by omega, hq, rfl⟩ (fun x3 => ?_)
      exact rr_ret rfl rfl ⟨rfl, by unfold takeS; first | rw [if_pos ⟨by omega, by assumption⟩] | rw [if_neg (fun z => absurd z.2 (by assumption))] | rw [if_neg (fun z => by omega)]⟩
  · refine rr_iload_n rfl rfl ?_
    refine rr_aload_n rfl rfl ?_
    refine rr_gfI 37 rfl rfl (by omega) rfl (fun b39 => ?_)
    refine rr_icmp_ge rfl rfl (by omega) (by omega) (fun h42 => ?_) (fun h42 => ?_)
    · exact rr_ret rfl rfl ⟨rfl, by unfold takeS; first | rw [if_pos ⟨by omega, by assumption⟩] | rw [if_neg (fun z => absurd z.2 (by assumption))] | rw [if_neg (fun z => by omega)]⟩
    · refine rr_aload_n rfl rfl ?_
      refine rr_iload_n rfl rfl ?_
      refine rr_cv1B rfl rfl rfl (Nat.le_of_ble_eq_true rfl) (sr_goTogether (d := 0) (by omega) (by omega) (by assumption) (by assumption)) (by omega) ?_
      refine rr_if_eqB rfl rfl (fun h50 => ?_) (fun h50 => ?_)
      · exact rr_ret rfl rfl ⟨rfl, by unfold takeS; first | rw [if_pos ⟨by omega, by assumption⟩] | rw [if_neg (fun z => absurd z.2 (by assumption))] | rw [if_neg (fun z => by omega)]⟩
      · refine rr_aload_n rfl rfl ?_
        refine rr_iload_n rfl rfl ?_
        refine rr_pfI 37 rfl rfl rfl rfl (by omega) rfl (by omega) ?_
        refine rr_aload_n rfl rfl ?_
        refine rr_iload_n rfl rfl ?_
        refine rr_pfI 38 rfl rfl rfl rfl (by omega) rfl (by omega) ?_
        refine rr_iconst rfl ?_
        refine rr_stI3 rfl ?_
        refine lp_tk2 (d := d + 4) (s := wI (wI s 37 (tkSum s n.toNat)) 38 n) hn (n.toNat + 1) 0 0 _ (by omega) ⟨rfl, by omega, hq, rfl⟩ (fun x3 => ?_)
        exact rr_ret rfl rfl ⟨rfl, by unfold takeS; first | rw [if_pos ⟨by omega, by assumption⟩] | rw [if_neg (fun z => absurd z.2 (by assumption))] | rw [if_neg (fun z => by omega)]⟩
end

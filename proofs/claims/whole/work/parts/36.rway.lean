noncomputable section
def andN (g : Int) (f : Nat → Int) : Nat → Int
  | 0 => g
  | n + 1 => if andN g f n ≠ 0 ∧ f n ≠ 0 then 1 else 0
def orN (f : Nat → Int) : Nat → Int
  | 0 => 0
  | n + 1 => if orN f n ≠ 0 ∨ f n ≠ 0 then 1 else 0
theorem andN_b {g : Int} (hg : 0 ≤ g ∧ g ≤ 1) (f : Nat → Int) (n : Nat) : 0 ≤ andN g f n ∧ andN g f n ≤ 1 := by
  cases n with
  | zero => exact hg
  | succ n => simp only [andN]; split <;> omega
theorem orN_b (f : Nat → Int) (n : Nat) : 0 ≤ orN f n ∧ orN f n ≤ 1 := by
  cases n with
  | zero => simp [orN]
  | succ n => simp only [orN]; split <;> omega
theorem andN_iff {g : Int} {f : Nat → Int} {n : Nat} : andN g f n ≠ 0 ↔ g ≠ 0 ∧ ∀ k, k < n → f k ≠ 0 := by
  induction n with
  | zero => exact ⟨fun h => ⟨h, fun k hk => absurd hk (Nat.not_lt_zero k)⟩, fun h => h.1⟩
  | succ n ih =>
    simp only [andN]
    constructor
    · intro h
      have h2 : andN g f n ≠ 0 ∧ f n ≠ 0 := Classical.byContradiction fun z => h (if_neg z)
      refine ⟨(ih.mp h2.1).1, fun k hk => ?_⟩
      by_cases hk2 : k = n
      · rw [hk2]; exact h2.2
      · exact (ih.mp h2.1).2 k (by omega)
    · intro h
      rw [if_pos ⟨ih.mpr ⟨h.1, fun k hk => h.2 k (by omega)⟩, h.2 n (by omega)⟩]
      omega
theorem orN_iff {f : Nat → Int} {n : Nat} : orN f n ≠ 0 ↔ ∃ k, k < n ∧ f k ≠ 0 := by
  induction n with
  | zero => exact ⟨fun h => absurd rfl h, fun ⟨k, h, _⟩ => absurd h (Nat.not_lt_zero k)⟩
  | succ n ih =>
    simp only [orN]
    constructor
    · intro h
      have h2 : orN f n ≠ 0 ∨ f n ≠ 0 := Classical.byContradiction fun z => h (if_neg z)
      rcases h2 with h2 | h2
      · obtain ⟨k, h3, h4⟩ := ih.mp h2
        exact ⟨k, by omega, h4⟩
      · exact ⟨n, by omega, h2⟩
    · rintro ⟨k, h1, h2⟩
      rw [if_pos]
      · omega
      · by_cases hk2 : k = n
        · exact Or.inr (hk2 ▸ h2)
        · exact Or.inl (ih.mpr ⟨k, by omega, h2⟩)
def fDrf (s : am_Z) (l : Int) (k : Nat) : Int := if rA s 34 k ≠ l then 1 else 0
abbrev connP (s : am_Z) (l : Int) : Prop := rA s 5 (l / 100) = rA s 6 (rA s 34 (rI s 33 - 1) / 100) ∧ arv s (rA s 34 (rI s 33 - 1)) + 1 ≤ dep s l
def canL (s : am_Z) (l : Int) : Int := andN (if rI s 33 < 4 ∧ (rI s 33 = 0 ∨ connP s l) then 1 else 0) (fDrf s l) (rI s 33).toNat
def kLegA (s : am_Z) (l : Int) : Int := if ¬ legP s l then 1 else if canL s l ≠ 0 then 0 else 2
/-- refunds -/
def fHas (s : am_Z) (b t : Int) (k : Nat) : Int := if rA s 56 (10 * b + k) = t then 1 else 0
def fNot (s : am_Z) (b t : Int) (k : Nat) : Int := if rA s 56 (10 * b + k) ≠ t ∨ (rA s 55 (10 * b + k) ≠ 2 ∧ rA s 55 (10 * b + k) ≠ 3) then 1 else 0
def gbS (s : am_Z) (b t : Int) : Int := if orN (fHas s b t) (rA s 52 b).toNat ≠ 0 ∧ andN 1 (fNot s b t) (rA s 52 b).toNat ≠ 0 then rA s 60 (4 * b + t) else 0
def gbT (s : am_Z) (i : Int) : Int := if rA s 55 i ≤ 1 ∨ rA s 55 i = 5 then rA s 58 i else 0
def gbV (s : am_Z) (b : Int) : Int := sumI 0 4 (gbS s b) + sumI (10 * b) (rA s 52 b).toNat (gbT s)
def taxAt (s : am_Z) (k : Int) : Int := if k = 0 ∨ 6 ≤ dep s (rA s 36 k) - arv s (rA s 36 (k - 1)) then rA s 2 (rA s 5 (rA s 36 k / 100)) else 0
def taxD (s : am_Z) (k : Int) : Int := if k = 0 ∨ 6 ≤ dep s (rA s 34 k) - arv s (rA s 34 (k - 1)) then rA s 2 (rA s 5 (rA s 34 k / 100)) else 0
def fCan (s : am_Z) (l b : Int) (k : Nat) : Int := if rA s 53 (10 * b + k) ≠ l ∨ 4 ≤ rA s 55 (10 * b + k) then 1 else 0
def canGo (s : am_Z) (l b own : Int) : Int := andN (if l ≠ own ∧ freeP s l ∧ rA s 45 b ≤ openS s l 0 then 1 else 0) (fCan s l b) (rA s 52 b).toNat
def nbR (s : am_Z) (b t : Int) : Nat → Int → Int
  | 0, _ => -1
  | n + 1, k => if 0 ≤ k ∧ k < rA s 52 b then (if 4 ≤ rA s 55 (10 * b + k) then nbR s b t n (k + t) else k) else -1
def nbS (s : am_Z) (b c t : Int) : Int := nbR s b t 12 (c + t)
theorem nbR_b (s : am_Z) (b t : Int) (n : Nat) (k : Int) : nbR s b t n k = -1 ∨ (0 ≤ nbR s b t n k ∧ nbR s b t n k < rA s 52 b) := by
  induction n generalizing k with
  | zero => exact Or.inl rfl
  | succ n ih =>
    rw [nbR]
    split
    · split
      · exact ih _
      · omega
    · exact Or.inl rfl
abbrev betP (s : am_Z) (w t a b : Int) : Prop := rI s 72 = -1 ∨ w < t ∨ (w = t ∧ ((b = -1 ∧ rI s 73 ≠ -1) ∨ ((b = -1 ↔ rI s 73 = -1) ∧ (a < rI s 72 ∨ (a = rI s 72 ∧ b < rI s 73)))))
abbrev lateP (s : am_Z) (b c : Int) : Prop := nbS s b c (-1) ≠ -1 ∧ dep s (rA s 53 (10 * b + c)) < arv s (rA s 53 (10 * b + nbS s b c (-1))) + 1
abbrev brkP (s : am_Z) (b c : Int) : Prop := rA s 55 (10 * b + c) ≤ 1 ∧ (rA s 18 (61 * (rA s 53 (10 * b + c) / 100) + rA s 53 (10 * b + c) % 100) ≠ 0 ∨ lateP s b c)
def cfN (s : am_Z) (b l : Int) : Nat → Int
  | 0 => -1
  | n + 1 => if rA s 53 (10 * b + n) = l ∧ rA s 55 (10 * b + n) = 1 then n else cfN s b l n
def cfS (s : am_Z) (b l : Int) : Int := if rA s 47 b = 1 then cfN s b l (rA s 52 b).toNat else -1
theorem cfN_b (s : am_Z) (b l : Int) (n : Nat) : -1 ≤ cfN s b l n ∧ cfN s b l n < n := by
  induction n with
  | zero => simp [cfN]
  | succ n ih => simp only [cfN]; split <;> omega
def flyS (s : am_Z) (b k l : Int) : am_Z :=
  if rA s 46 b = -1 then wA (wA s 55 k 2) 70 (3 * rA s 50 b + rA s 4 (l / 100)) (rA s 70 (3 * rA s 50 b + rA s 4 (l / 100)) + rA s 45 b * rA s 57 k)
  else wA (wA (wA s 55 k 2) 70 (3 * rA s 50 b + rA s 4 (l / 100)) (rA s 70 (3 * rA s 50 b + rA s 4 (l / 100)) + rA s 45 b * rA s 57 k)) 69 (rA s 46 b) (rA s 69 (rA s 46 b) + 10 * rA s 45 b * rA s 8 (l / 100))
def nwN (s : am_Z) : Nat → Int
  | 0 => -1
  | n + 1 => if (waitP s n ∧ rA s 67 n = 0) ∧ (nwN s n = -1 ∨ tierS s (rA s 63 (nwN s n)) < tierS s (rA s 63 n)) then n else nwN s n
theorem nwN_b (s : am_Z) (n : Nat) : -1 ≤ nwN s n ∧ nwN s n < n := by
  induction n with
  | zero => simp [nwN]
  | succ n ih => simp only [nwN]; split <;> omega
abbrev ndP (s : am_Z) (f b : Int) : Prop := (f = -1 ∨ (rA s 51 b ≠ 0 ∧ rA s 51 f = 0)) ∨ (f ≠ -1 ∧ rA s 51 b = rA s 51 f ∧ tierS s (rA s 46 b) ≤ tierS s (rA s 46 f))
def ndN (s : am_Z) (l : Int) : Nat → Int
  | 0 => -1
  | n + 1 => if cfS s n l ≠ -1 ∧ rA s 67 n = 0 ∧ ndP s (ndN s l n) n then n else ndN s l n
theorem ndN_b (s : am_Z) (l : Int) (n : Nat) : -1 ≤ ndN s l n ∧ ndN s l n < n := by
  induction n with
  | zero => simp [ndN]
  | succ n ih => simp only [ndN]; split <;> omega
theorem sr_dropLegs {d : Nat} {s : am_Z}   : am_CR d m_M_dropLegs [aR 9 0] s (isP (wI (wI s 74 0) 33 0) (rI s 33) (True)) := by
  refine am_CR_i (ls := [some (aR 9 0), none]) rfl (fun q0 => ?_)
  refine rr_aload_n rfl rfl ?_
  refine rr_iconst rfl ?_
  refine rr_pfI 74 rfl rfl rfl rfl (by omega) rfl (by omega) ?_
  refine rr_aload_n rfl rfl ?_
  refine rr_gfIv 33 (s) rfl rfl rfl (by omega) rfl (fun b6 => ?_)
  refine rr_stI1 rfl ?_
  refine rr_aload_n rfl rfl ?_
  refine rr_iconst rfl ?_
  refine rr_pfI 33 rfl rfl rfl rfl (by omega) rfl (by omega) ?_
  refine rr_iload_n rfl rfl ?_
  refine rr_iret rfl (Or.inl rfl) ?_
  exact rr_eP rfl trivial
theorem lp_leg {d : Nat} {s : am_Z} {q0 : am_A} {Q : Option am_V → am_Z → Prop} {l : Int} {x2 : Option am_V} (hl : in32 l) : ∀ (m : Nat) (j : Nat) (k c : Int), (rI s 33).toNat - j < m → (k = j ∧ (j : Int) ≤ rI s 33 ∧ (0 ≤ c ∧ c ≤ 1) ∧ (legP s l → c = andN (if rI s 33 < 4 ∧ (rI s 33 = 0 ∨ connP s l) then 1 else 0) (fDrf s l) j)) → (∀ v x4, (0 ≤ v ∧ v ≤ 1) → (legP s l → v = canL s l) → am_WR d m_M_leg 131 [some (aR 9 0), some (aI (zI l)), x2, some (aI (zI v)), x4] [] q0 (s) Q) → am_WR d m_M_leg 95 [some (aR 9 0), some (aI (zI l)), x2, some (aI (zI c)), some (aI (zI k))] [] q0 (s) Q := by
  intro m
  induction m with
  | zero => intro j k c hm; exact absurd hm (Nat.not_lt_zero _)
  | succ m ih =>
    intro j k c hm ⟨hj, hj2, hb, hc⟩ K
    subst hj
    refine rr_iload rfl rfl ?_
    refine rr_aload_n rfl rfl ?_
    refine rr_gfI 33 rfl rfl (by omega) rfl (fun b98 => ?_)
    refine rr_icmp_ge rfl rfl (by omega) (by omega) (fun h101 => ?_) (fun h101 => ?_)
    · exact K _ _ hb (fun z => by rw [hc z]; unfold canL; rw [show j = (rI s 33).toNat by omega])
    · refine rr_join (pc' := 124) (V := (if c ≠ 0 ∧ rA s 34 (j : Int) ≠ l then 1 else 0)) ?_ (fun K124 => ?_)
      · refine rr_stI3 rfl ?_
        refine rr_inc4 rfl ?_
        refine rr_goto rfl rfl ?_
        exact ih (j + 1) _ _ (by omega) ⟨by omega, by omega, by omega, fun z => by have e := hc z; simp only [andN, fDrf]; omega⟩ K
      · refine rr_iload_n rfl rfl ?_
        refine rr_if_eq rfl rfl (by omega) (fun h105 => ?_) (fun h105 => ?_)
        · refine rr_iconst rfl ?_
          exact K124 _ (by first | omega | (simp_all) | (split <;> omega))
        · refine rr_aload_n rfl rfl ?_
          refine rr_gfA 34 rfl rfl (by omega) rfl ?_
          refine rr_iload rfl rfl ?_
          refine rr_iaL 34 4 (s) (fun _ => rfl) rfl rfl rfl rfl rfl (by omega) (by omega) (fun b114 => ?_)
          refine rr_iload_n rfl rfl ?_
          refine rr_icmp_eq rfl rfl (by omega) (by omega) (fun h116 => ?_) (fun h116 => ?_)
          · refine rr_iconst rfl ?_
            exact K124 _ (by first | omega | (simp_all) | (split <;> omega))
          · refine rr_iconst rfl ?_
            refine rr_goto rfl rfl ?_
            exact K124 _ (by first | omega | (simp_all) | (split <;> omega))
theorem sr_leg {d : Nat} {s : am_Z} {l : Int}  (hl : in32 l) : am_CR (d + 3) m_M_leg [aR 9 0, aI (zI l)] s (isP (if kLegA s l = 0 then wI (wA (wI s 74 (kLegA s l)) 34 (rI s 33) l) 33 (rI s 33 + 1) else wI s 74 (kLegA s l)) (if kLegA s l = 0 then rI s 33 + 1 else 0) (True)) := by
  refine am_CR_i (ls := [some (aR 9 0), some (aI (zI l)), none, none, none]) rfl (fun q0 => ?_)
  refine rr_inS (fun B => ?_)
  have b3 := B.2.1 3 0 12 rfl
  have b20 := B.2.1 20 0 16 rfl
  have b44 := B.2.1 44 0 40 rfl
  have b61 := B.2.1 61 0 20 rfl
  have b33 := B.2.1 33 0 4 rfl
  refine rr_aload_n rfl rfl ?_
  refine rr_iload_n rfl rfl ?_
  refine rr_cv1B rfl rfl rfl (Nat.le_of_ble_eq_true rfl) (sr_isLeg (d := 0) (by omega)) (by omega) ?_
  refine rr_stI2 rfl ?_
  refine rr_join (pc' := 23) (V := if legP s l ∧ rI s 33 < 4 then 1 else 0) ?_ (fun K23 => ?_)
  · refine rr_stI3 rfl ?_
    refine rr_iload_n rfl rfl ?_
    refine rr_if_eqB rfl rfl (fun h25 => ?_) (fun h25 => ?_)
    · refine rr_iconst rfl ?_
      refine rr_stI4 rfl ?_
      refine lp_leg (d := d + 3) (s := s) (by omega) ((rI s 33).toNat + 1) 0 0 _ (by omega) ⟨rfl, by omega, by split <;> omega, fun z => by show _ = if rI s 33 < 4 ∧ (rI s 33 = 0 ∨ connP s l) then 1 else 0; omega⟩ (fun v x4 hb hv => ?_)
      refine rr_aload_n rfl rfl ?_
      refine rr_join (pc' := 149) (V := kLegA s l) ?_ (fun K149 => ?_)
      · refine rr_cv1B rfl rfl rfl (Nat.le_of_ble_eq_true rfl) (sr_fails (d := 0) (by unfold kLegA; first | omega | (by_cases hq : legP s l; have e := hv hq; omega; omega))) (by omega) ?_
        refine rr_if_eqB rfl rfl (fun h152 => ?_) (fun h152 => ?_)
        · have hk : kLegA s l = 0 := by have z : 0 ≤ kLegA s l := by { unfold kLegA; omega }; omega
          have hk2 := hk
          unfold kLegA at hk2
          have hd : rI s 33 < 4 := by { have z := (andN_iff.mp (show canL s l ≠ 0 by omega)).1; omega }
          refine rr_aload_n rfl rfl ?_
          refine rr_gfA 34 rfl rfl (by omega) rfl ?_
          refine rr_aload_n rfl rfl ?_
          refine rr_gfIv 33 (s) rfl rfl rfl (by omega) rfl (fun b162 => ?_)
          refine rr_iload_n rfl rfl ?_
          refine rr_iasL 34 4 rfl ⟨rfl, by omega⟩ rfl (by omega) (by omega) rfl (by omega) (by omega) ?_
          refine rr_aload_n rfl rfl ?_
          refine rr_dup rfl rfl ?_
          refine rr_gfIv 33 (s) rfl rfl rfl (by omega) rfl (fun b169 => ?_)
          refine rr_iconst rfl ?_
          refine rr_iadd rfl ?_
          refine rr_pfI 33 rfl rfl rfl rfl (by omega) rfl (by omega) ?_
          refine rr_aload_n rfl rfl ?_
          refine rr_gfI 33 rfl rfl (by omega) rfl (fun b178 => ?_)
          refine rr_iret rfl (Or.inl rfl) ?_
          first | exact rr_eP' (if_pos hk).symm (if_pos hk).symm trivial | exact rr_eP' (if_neg (by omega)).symm (if_neg (by omega)).symm trivial | exact False.elim (by omega)
        · refine rr_iconst rfl ?_
          refine rr_iret rfl (Or.inl rfl) ?_
          first | exact rr_eP' (if_pos hk).symm (if_pos hk).symm trivial | exact rr_eP' (if_neg (by omega)).symm (if_neg (by omega)).symm trivial | exact False.elim (by omega)
      · refine rr_iload_n rfl rfl ?_
        refine rr_if_neB rfl rfl (fun h133 => ?_) (fun h133 => ?_)
        · refine rr_iload_n rfl rfl ?_
          refine rr_if_eq rfl rfl (by omega) (fun h141 => ?_) (fun h141 => ?_)
          · refine rr_iconst rfl ?_
            exact K149 _ (by unfold kLegA; first | omega | (by_cases hq : legP s l; have e := hv hq; omega; omega))
          · refine rr_iconst rfl ?_
            refine rr_goto rfl rfl ?_
            exact K149 _ (by unfold kLegA; first | omega | (by_cases hq : legP s l; have e := hv hq; omega; omega))
        · refine rr_iconst rfl ?_
          refine rr_goto rfl rfl ?_
          exact K149 _ (by unfold kLegA; first | omega | (by_cases hq : legP s l; have e := hv hq; omega; omega))
    · refine rr_aload_n rfl rfl ?_
      refine rr_gfI 33 rfl rfl (by omega) rfl (fun b29 => ?_)
      refine rr_if_le rfl rfl (by omega) (fun h32 => ?_) (fun h32 => ?_)
      · refine rr_iconst rfl ?_
        refine rr_stI4 rfl ?_
        refine lp_leg (d := d + 3) (s := s) (by omega) ((rI s 33).toNat + 1) 0 0 _ (by omega) ⟨rfl, by omega, by split <;> omega, fun z => by show _ = if rI s 33 < 4 ∧ (rI s 33 = 0 ∨ connP s l) then 1 else 0; omega⟩ (fun v x4 hb hv => ?_)
        refine rr_aload_n rfl rfl ?_
        refine rr_join (pc' := 149) (V := kLegA s l) ?_ (fun K149 => ?_)
        · refine rr_cv1B rfl rfl rfl (Nat.le_of_ble_eq_true rfl) (sr_fails (d := 0) (by unfold kLegA; first | omega | (by_cases hq : legP s l; have e := hv hq; omega; omega))) (by omega) ?_
          refine rr_if_eqB rfl rfl (fun h152 => ?_) (fun h152 => ?_)
          · have hk : kLegA s l = 0 := by have z : 0 ≤ kLegA s l := by { unfold kLegA; omega }; omega
            have hk2 := hk
            unfold kLegA at hk2
            have hd : rI s 33 < 4 := by { have z := (andN_iff.mp (show canL s l ≠ 0 by omega)).1; omega }
            refine rr_aload_n rfl rfl ?_
            refine rr_gfA 34 rfl rfl (by omega) rfl ?_
            refine rr_aload_n rfl rfl ?_
            refine rr_gfIv 33 (s) rfl rfl rfl (by omega) rfl (fun b162 => ?_)
            refine rr_iload_n rfl rfl ?_
            refine rr_iasL 34 4 rfl ⟨rfl, by omega⟩ rfl (by omega) (by omega) rfl (by omega) (by omega) ?_
            refine rr_aload_n rfl rfl ?_
            refine rr_dup rfl rfl ?_
            refine rr_gfIv 33 (s) rfl rfl rfl (by omega) rfl (fun b169 => ?_)
            refine rr_iconst rfl ?_
            refine rr_iadd rfl ?_
            refine rr_pfI 33 rfl rfl rfl rfl (by omega) rfl (by omega) ?_
            refine rr_aload_n rfl rfl ?_
            refine rr_gfI 33 rfl rfl (by omega) rfl (fun b178 => ?_)
            refine rr_iret rfl (Or.inl rfl) ?_
            first | exact rr_eP' (if_pos hk).symm (if_pos hk).symm trivial | exact rr_eP' (if_neg (by omega)).symm (if_neg (by omega)).symm trivial | exact False.elim (by omega)
          · refine rr_iconst rfl ?_
            refine rr_iret rfl (Or.inl rfl) ?_
            first | exact rr_eP' (if_pos hk).symm (if_pos hk).symm trivial | exact rr_eP' (if_neg (by omega)).symm (if_neg (by omega)).symm trivial | exact False.elim (by omega)
        · refine rr_iload_n rfl rfl ?_
          refine rr_if_neB rfl rfl (fun h133 => ?_) (fun h133 => ?_)
          · refine rr_iload_n rfl rfl ?_
            refine rr_if_eq rfl rfl (by omega) (fun h141 => ?_) (fun h141 => ?_)
            · refine rr_iconst rfl ?_
              exact K149 _ (by unfold kLegA; first | omega | (by_cases hq : legP s l; have e := hv hq; omega; omega))
            · refine rr_iconst rfl ?_
              refine rr_goto rfl rfl ?_
              exact K149 _ (by unfold kLegA; first | omega | (by_cases hq : legP s l; have e := hv hq; omega; omega))
          · refine rr_iconst rfl ?_
            refine rr_goto rfl rfl ?_
            exact K149 _ (by unfold kLegA; first | omega | (by_cases hq : legP s l; have e := hv hq; omega; omega))
      · refine rr_aload_n rfl rfl ?_
        refine rr_gfA 34 rfl rfl (by omega) rfl ?_
        refine rr_aload_n rfl rfl ?_
        refine rr_gfI 33 rfl rfl (by omega) rfl (fun b40 => ?_)
        refine rr_iconst rfl ?_
        refine rr_isub rfl ?_
        refine rr_iaL 34 4 (s) (fun _ => rfl) rfl rfl rfl rfl rfl (by omega) (by omega) (fun b45 => ?_)
        refine rr_stI4 rfl ?_
        refine rr_join (pc' := 91) (V := if connP s l then 1 else 0) ?_ (fun K91 => ?_)
        · refine rr_stI3 rfl ?_
          refine rr_iconst rfl ?_
          refine rr_stI4 rfl ?_
          refine lp_leg (d := d + 3) (s := s) (by omega) ((rI s 33).toNat + 1) 0 0 _ (by omega) ⟨rfl, by omega, by split <;> omega, fun z => by show _ = if rI s 33 < 4 ∧ (rI s 33 = 0 ∨ connP s l) then 1 else 0; omega⟩ (fun v x4 hb hv => ?_)
          refine rr_aload_n rfl rfl ?_
          refine rr_join (pc' := 149) (V := kLegA s l) ?_ (fun K149 => ?_)
          · refine rr_cv1B rfl rfl rfl (Nat.le_of_ble_eq_true rfl) (sr_fails (d := 0) (by unfold kLegA; first | omega | (by_cases hq : legP s l; have e := hv hq; omega; omega))) (by omega) ?_
            refine rr_if_eqB rfl rfl (fun h152 => ?_) (fun h152 => ?_)
            · have hk : kLegA s l = 0 := by have z : 0 ≤ kLegA s l := by { unfold kLegA; omega }; omega
              have hk2 := hk
              unfold kLegA at hk2
              have hd : rI s 33 < 4 := by { have z := (andN_iff.mp (show canL s l ≠ 0 by omega)).1; omega }
              refine rr_aload_n rfl rfl ?_
              refine rr_gfA 34 rfl rfl (by omega) rfl ?_
              refine rr_aload_n rfl rfl ?_
              refine rr_gfIv 33 (s) rfl rfl rfl (by omega) rfl (fun b162 => ?_)
              refine rr_iload_n rfl rfl ?_
              refine rr_iasL 34 4 rfl ⟨rfl, by omega⟩ rfl (by omega) (by omega) rfl (by omega) (by omega) ?_
              refine rr_aload_n rfl rfl ?_
              refine rr_dup rfl rfl ?_
              refine rr_gfIv 33 (s) rfl rfl rfl (by omega) rfl (fun b169 => ?_)
              refine rr_iconst rfl ?_
              refine rr_iadd rfl ?_
              refine rr_pfI 33 rfl rfl rfl rfl (by omega) rfl (by omega) ?_
              refine rr_aload_n rfl rfl ?_
              refine rr_gfI 33 rfl rfl (by omega) rfl (fun b178 => ?_)
              refine rr_iret rfl (Or.inl rfl) ?_
              first | exact rr_eP' (if_pos hk).symm (if_pos hk).symm trivial | exact rr_eP' (if_neg (by omega)).symm (if_neg (by omega)).symm trivial | exact False.elim (by omega)
            · refine rr_iconst rfl ?_
              refine rr_iret rfl (Or.inl rfl) ?_
              first | exact rr_eP' (if_pos hk).symm (if_pos hk).symm trivial | exact rr_eP' (if_neg (by omega)).symm (if_neg (by omega)).symm trivial | exact False.elim (by omega)
          · refine rr_iload_n rfl rfl ?_
            refine rr_if_neB rfl rfl (fun h133 => ?_) (fun h133 => ?_)
            · refine rr_iload_n rfl rfl ?_
              refine rr_if_eq rfl rfl (by omega) (fun h141 => ?_) (fun h141 => ?_)
              · refine rr_iconst rfl ?_
                exact K149 _ (by unfold kLegA; first | omega | (by_cases hq : legP s l; have e := hv hq; omega; omega))
              · refine rr_iconst rfl ?_
                refine rr_goto rfl rfl ?_
                exact K149 _ (by unfold kLegA; first | omega | (by_cases hq : legP s l; have e := hv hq; omega; omega))
            · refine rr_iconst rfl ?_
              refine rr_goto rfl rfl ?_
              exact K149 _ (by unfold kLegA; first | omega | (by_cases hq : legP s l; have e := hv hq; omega; omega))
        · refine rr_aload_n rfl rfl ?_
          refine rr_gfA 5 rfl rfl (by omega) rfl ?_
          refine rr_iload_n rfl rfl ?_
          refine rr_bipush (x := 100) rfl rfl ?_
          refine rr_idiv rfl (by omega) (by omega) ?_
          refine rr_ia 5 12 rfl rfl rfl rfl (by omega) (by omega) (fun b56 => ?_)
          refine rr_aload_n rfl rfl ?_
          refine rr_gfA 6 rfl rfl (by omega) rfl ?_
          refine rr_iload rfl rfl ?_
          refine rr_bipush (x := 100) rfl rfl ?_
          refine rr_idiv rfl (by omega) (by omega) ?_
          refine rr_ia 6 12 rfl rfl rfl rfl (by omega) (by omega) (fun b66 => ?_)
          refine rr_icmp_ne rfl rfl (by omega) (by omega) (fun h67 => ?_) (fun h67 => ?_)
          · refine rr_iconst rfl ?_
            exact K91 _ (by first | omega | (simp_all) | (split <;> omega))
          · refine rr_aload_n rfl rfl ?_
            refine rr_iload_n rfl rfl ?_
            refine rr_cv1P rfl rfl rfl (Nat.le_of_ble_eq_true rfl) (sr_departs (d := 0) (by omega)) (by omega) (fun b72 => ?_)
            refine rr_aload_n rfl rfl ?_
            refine rr_iload rfl rfl ?_
            refine rr_cv1P rfl rfl rfl (Nat.le_of_ble_eq_true rfl) (sr_arrives (d := 0) (by omega)) (by omega) (fun b78 => ?_)
            refine rr_iconst rfl ?_
            refine rr_iadd rfl ?_
            refine rr_icmp_lt rfl rfl (by omega) (by omega) (fun h83 => ?_) (fun h83 => ?_)
            · refine rr_iconst rfl ?_
              exact K91 _ (by first | omega | (simp_all) | (split <;> omega))
            · refine rr_iconst rfl ?_
              refine rr_goto rfl rfl ?_
              exact K91 _ (by first | omega | (simp_all) | (split <;> omega))
  · refine rr_iload_n rfl rfl ?_
    refine rr_if_eqB rfl rfl (fun h7 => ?_) (fun h7 => ?_)
    · refine rr_iconst rfl ?_
      exact K23 _ (by first | omega | (simp_all) | (split <;> omega))
    · refine rr_aload_n rfl rfl ?_
      refine rr_gfI 33 rfl rfl (by omega) rfl (fun b11 => ?_)
      refine rr_iconst rfl ?_
      refine rr_icmp_ge rfl rfl (by omega) (by omega) (fun h15 => ?_) (fun h15 => ?_)
      · refine rr_iconst rfl ?_
        exact K23 _ (by first | omega | (simp_all) | (split <;> omega))
      · refine rr_iconst rfl ?_
        refine rr_goto rfl rfl ?_
        exact K23 _ (by first | omega | (simp_all) | (split <;> omega))
theorem lp_gb1 {d : Nat} {s : am_Z} {q0 : am_A} {Q : Option am_V → am_Z → Prop} {b t : Int} {x2 : Option am_V} (hb : 0 ≤ b ∧ b < 40) (ht : 0 ≤ t ∧ t < 4) : ∀ (m : Nat) (j : Nat) (k h g : Int), (rA s 52 b).toNat - j < m → (k = 10 * b + j ∧ (j : Int) ≤ rA s 52 b ∧ h = orN (fHas s b t) j ∧ g = andN 1 (fNot s b t) j) → (∀ x6, am_WR d m_M_givenBack 111 [some (aR 9 0), some (aI (zI b)), x2, some (aI (zI t)), some (aI (zI (orN (fHas s b t) (rA s 52 b).toNat))), some (aI (zI (andN 1 (fNot s b t) (rA s 52 b).toNat))), x6] [] q0 (s) Q) → am_WR d m_M_givenBack 21 [some (aR 9 0), some (aI (zI b)), x2, some (aI (zI t)), some (aI (zI h)), some (aI (zI g)), some (aI (zI k))] [] q0 (s) Q := by
  intro m
  induction m with
  | zero => intro j k h g hm; exact absurd hm (Nat.not_lt_zero _)
  | succ m ih =>
    intro j k h g hm ⟨hj, hj2, hh, hg⟩ K
    subst hj
    subst hh
    subst hg
    have bh := orN_b (fHas s b t) j
    have bg := andN_b (g := 1) (by omega) (fNot s b t) j
    refine rr_iload rfl rfl ?_
    refine rr_bipush (x := 10) rfl rfl ?_
    refine rr_iload_n rfl rfl ?_
    refine rr_imul rfl ?_
    refine rr_aload_n rfl rfl ?_
    refine rr_gfA 52 rfl rfl (by omega) rfl ?_
    refine rr_iload_n rfl rfl ?_
    refine rr_ia 52 40 rfl rfl rfl rfl (by omega) (by omega) (fun b32 => ?_)
    refine rr_iadd rfl ?_
    refine rr_icmp_ge rfl rfl (by omega) (by omega) (fun h34 => ?_) (fun h34 => ?_)
    · rw [show j = (rA s 52 b).toNat by omega]
      exact K _
    · refine rr_join (pc' := 58) (V := (if orN (fHas s b t) j ≠ 0 ∨ rA s 56 (10 * b + (j : Int)) = t then 1 else 0)) ?_ (fun K58 => ?_)
      · refine rr_stI4 rfl ?_
        refine rr_join (pc' := 103) (V := (if andN 1 (fNot s b t) j ≠ 0 ∧ (rA s 56 (10 * b + (j : Int)) ≠ t ∨ (rA s 55 (10 * b + (j : Int)) ≠ 2 ∧ rA s 55 (10 * b + (j : Int)) ≠ 3)) then 1 else 0)) ?_ (fun K103 => ?_)
        · refine rr_stI5 rfl ?_
          refine rr_inc6 rfl ?_
          refine rr_goto rfl rfl ?_
          exact ih (j + 1) _ _ _ (by omega) ⟨by omega, by omega, by simp only [orN, fHas]; omega, by simp only [andN, fNot]; omega⟩ K
        · refine rr_iload rfl rfl ?_
          refine rr_if_eq rfl rfl (by omega) (fun h62 => ?_) (fun h62 => ?_)
          · refine rr_iconst rfl ?_
            exact K103 _ (by first | omega | (simp_all) | (split <;> omega))
          · refine rr_aload_n rfl rfl ?_
            refine rr_gfA 56 rfl rfl (by omega) rfl ?_
            refine rr_iload rfl rfl ?_
            refine rr_ia 56 400 rfl rfl rfl rfl (by omega) (by omega) (fun b71 => ?_)
            refine rr_iload_n rfl rfl ?_
            refine rr_icmp_ne rfl rfl (by omega) (by omega) (fun h73 => ?_) (fun h73 => ?_)
            · refine rr_iconst rfl ?_
              refine rr_goto rfl rfl ?_
              exact K103 _ (by first | omega | (simp_all) | (split <;> omega))
            · refine rr_aload_n rfl rfl ?_
              refine rr_gfA 55 rfl rfl (by omega) rfl ?_
              refine rr_iload rfl rfl ?_
              refine rr_ia 55 400 rfl rfl rfl rfl (by omega) (by omega) (fun b82 => ?_)
              refine rr_iconst rfl ?_
              refine rr_icmp_eq rfl rfl (by omega) (by omega) (fun h84 => ?_) (fun h84 => ?_)
              · refine rr_iconst rfl ?_
                exact K103 _ (by first | omega | (simp_all) | (split <;> omega))
              · refine rr_aload_n rfl rfl ?_
                refine rr_gfA 55 rfl rfl (by omega) rfl ?_
                refine rr_iload rfl rfl ?_
                refine rr_ia 55 400 rfl rfl rfl rfl (by omega) (by omega) (fun b93 => ?_)
                refine rr_iconst rfl ?_
                refine rr_icmp_eq rfl rfl (by omega) (by omega) (fun h95 => ?_) (fun h95 => ?_)
                · refine rr_iconst rfl ?_
                  exact K103 _ (by first | omega | (simp_all) | (split <;> omega))
                · refine rr_iconst rfl ?_
                  refine rr_goto rfl rfl ?_
                  exact K103 _ (by first | omega | (simp_all) | (split <;> omega))
      · refine rr_iload rfl rfl ?_
        refine rr_if_ne rfl rfl (by omega) (fun h39 => ?_) (fun h39 => ?_)
        · refine rr_iconst rfl ?_
          refine rr_goto rfl rfl ?_
          exact K58 _ (by first | omega | (simp_all) | (split <;> omega))
        · refine rr_aload_n rfl rfl ?_
          refine rr_gfA 56 rfl rfl (by omega) rfl ?_
          refine rr_iload rfl rfl ?_
          refine rr_ia 56 400 rfl rfl rfl rfl (by omega) (by omega) (fun b48 => ?_)
          refine rr_iload_n rfl rfl ?_
          refine rr_icmp_ne rfl rfl (by omega) (by omega) (fun h50 => ?_) (fun h50 => ?_)
          · refine rr_iconst rfl ?_
            exact K58 _ (by first | omega | (simp_all) | (split <;> omega))
          · refine rr_iconst rfl ?_
            refine rr_goto rfl rfl ?_
            exact K58 _ (by first | omega | (simp_all) | (split <;> omega))
theorem lp_gb2 {d : Nat} {s : am_Z} {q0 : am_A} {Q : Option am_V → am_Z → Prop} {b : Int} (hb : 0 ≤ b ∧ b < 40) : ∀ (m : Nat) (j : Nat) (t acc : Int) (x4 x5 x6 : Option am_V), 4 - j < m → (t = j ∧ j ≤ 4 ∧ acc = sumI 0 j (gbS s b)) → (∀ x3 x4 x5 x6, am_WR d m_M_givenBack 144 [some (aR 9 0), some (aI (zI b)), some (aI (zI (sumI 0 4 (gbS s b)))), x3, x4, x5, x6] [] q0 (s) Q) → am_WR d m_M_givenBack 4 [some (aR 9 0), some (aI (zI b)), some (aI (zI acc)), some (aI (zI t)), x4, x5, x6] [] q0 (s) Q := by
  intro m
  induction m with
  | zero => intro j t acc x4 x5 x6 hm; exact absurd hm (Nat.not_lt_zero _)
  | succ m ih =>
    intro j t acc x4 x5 x6 hm ⟨hj, hj2, hacc⟩ K
    subst hj
    subst hacc
    refine rr_inS (fun B => ?_)
    have b52 := B.1 52 b 0 10 rfl
    have bh := orN_b (fHas s b (j : Int)) (rA s 52 b).toNat
    have bg := andN_b (g := 1) (by omega) (fNot s b (j : Int)) (rA s 52 b).toNat
    refine rr_iload_n rfl rfl ?_
    refine rr_iconst rfl ?_
    refine rr_icmp_ge rfl rfl (by omega) (by omega) (fun h6 => ?_) (fun h6 => ?_)
    · rw [show j = 4 by omega]
      exact K _ _ _ _
    · refine rr_iconst rfl ?_
      refine rr_stI4 rfl ?_
      refine rr_iconst rfl ?_
      refine rr_stI5 rfl ?_
      refine rr_bipush (x := 10) rfl rfl ?_
      refine rr_iload_n rfl rfl ?_
      refine rr_imul rfl ?_
      refine rr_stI6 rfl ?_
      refine lp_gb1 (d := d) (s := s) hb (t := (j : Int)) (by omega) ((rA s 52 b).toNat + 1) 0 (10 * b) _ _ (by omega) ⟨by omega, by omega, rfl, rfl⟩ (fun x6 => ?_)
      refine rr_iload_n rfl rfl ?_
      refine rr_join (pc' := 136) (V := gbS s b (j : Int)) ?_ (fun K136 => ?_)
      · refine rr_iadd rfl ?_
        refine rr_stI2 rfl ?_
        refine rr_inc3 rfl ?_
        refine rr_goto rfl rfl ?_
        exact ih (j + 1) _ _ _ _ _ (by omega) ⟨by omega, by omega, by rw [sumI_s, Int.zero_add]⟩ K
      · refine rr_iload rfl rfl ?_
        refine rr_if_eq rfl rfl (by omega) (fun h114 => ?_) (fun h114 => ?_)
        · refine rr_iconst rfl ?_
          exact K136 _ (by unfold gbS; first | rw [if_pos ⟨by omega, by omega⟩] | rw [if_neg (by omega)])
        · refine rr_iload rfl rfl ?_
          refine rr_if_eq rfl rfl (by omega) (fun h119 => ?_) (fun h119 => ?_)
          · refine rr_iconst rfl ?_
            exact K136 _ (by unfold gbS; first | rw [if_pos ⟨by omega, by omega⟩] | rw [if_neg (by omega)])
          · refine rr_aload_n rfl rfl ?_
            refine rr_gfA 60 rfl rfl (by omega) rfl ?_
            refine rr_iconst rfl ?_
            refine rr_iload_n rfl rfl ?_
            refine rr_imul rfl ?_
            refine rr_iload_n rfl rfl ?_
            refine rr_iadd rfl ?_
            refine rr_ia 60 160 rfl rfl rfl rfl (by omega) (by omega) (fun b131 => ?_)
            refine rr_goto rfl rfl ?_
            exact K136 _ (by unfold gbS; first | rw [if_pos ⟨by omega, by omega⟩] | rw [if_neg (by omega)])
theorem lp_gb3 {d : Nat} {s : am_Z} {q0 : am_A} {Q : Option am_V → am_Z → Prop} {b a0 : Int} {x5 x6 : Option am_V} (hb : 0 ≤ b ∧ b < 40) : ∀ (m : Nat) (j : Nat) (k acc : Int) (x4 : Option am_V), (rA s 52 b).toNat - j < m → (k = 10 * b + j ∧ (j : Int) ≤ rA s 52 b ∧ acc = a0 + sumI (10 * b) j (gbT s)) → (∀ x3 x4, am_WR d m_M_givenBack 215 [some (aR 9 0), some (aI (zI b)), some (aI (zI (a0 + sumI (10 * b) (rA s 52 b).toNat (gbT s)))), x3, x4, x5, x6] [] q0 (s) Q) → am_WR d m_M_givenBack 149 [some (aR 9 0), some (aI (zI b)), some (aI (zI acc)), some (aI (zI k)), x4, x5, x6] [] q0 (s) Q := by
  intro m
  induction m with
  | zero => intro j k acc x4 hm; exact absurd hm (Nat.not_lt_zero _)
  | succ m ih =>
    intro j k acc x4 hm ⟨hj, hj2, hacc⟩ K
    subst hj
    subst hacc
    refine rr_iload_n rfl rfl ?_
    refine rr_bipush (x := 10) rfl rfl ?_
    refine rr_iload_n rfl rfl ?_
    refine rr_imul rfl ?_
    refine rr_aload_n rfl rfl ?_
    refine rr_gfA 52 rfl rfl (by omega) rfl ?_
    refine rr_iload_n rfl rfl ?_
    refine rr_ia 52 40 rfl rfl rfl rfl (by omega) (by omega) (fun b159 => ?_)
    refine rr_iadd rfl ?_
    refine rr_icmp_ge rfl rfl (by omega) (by omega) (fun h161 => ?_) (fun h161 => ?_)
    · rw [show j = (rA s 52 b).toNat by omega]
      exact K _ _
    · refine rr_join (pc' := 189) (V := if rA s 55 (10 * b + (j : Int)) ≤ 1 ∨ rA s 55 (10 * b + (j : Int)) = 5 then 1 else 0) ?_ (fun K189 => ?_)
      · refine rr_stI4 rfl ?_
        refine rr_iload_n rfl rfl ?_
        refine rr_iload rfl rfl ?_
        refine rr_if_eqB rfl rfl (fun h194 => ?_) (fun h194 => ?_)
        · refine rr_iconst rfl ?_
          refine rr_iadd rfl ?_
          refine rr_stI2 rfl ?_
          refine rr_inc3 rfl ?_
          refine rr_goto rfl rfl ?_
          exact ih (j + 1) _ _ _ (by omega) ⟨by omega, by omega, by simp only [sumI_s, gbT]; omega⟩ K
        · refine rr_aload_n rfl rfl ?_
          refine rr_gfA 58 rfl rfl (by omega) rfl ?_
          refine rr_iload_n rfl rfl ?_
          refine rr_ia 58 400 rfl rfl rfl rfl (by omega) (by omega) (fun b202 => ?_)
          refine rr_goto rfl rfl ?_
          refine rr_iadd rfl ?_
          refine rr_stI2 rfl ?_
          refine rr_inc3 rfl ?_
          refine rr_goto rfl rfl ?_
          exact ih (j + 1) _ _ _ (by omega) ⟨by omega, by omega, by simp only [sumI_s, gbT]; omega⟩ K
      · refine rr_aload_n rfl rfl ?_
        refine rr_gfA 55 rfl rfl (by omega) rfl ?_
        refine rr_iload_n rfl rfl ?_
        refine rr_ia 55 400 rfl rfl rfl rfl (by omega) (by omega) (fun b169 => ?_)
        refine rr_iconst rfl ?_
        refine rr_icmp_le rfl rfl (by omega) (by omega) (fun h171 => ?_) (fun h171 => ?_)
        · refine rr_iconst rfl ?_
          refine rr_goto rfl rfl ?_
          exact K189 _ (by first | omega | (simp_all) | (split <;> omega))
        · refine rr_aload_n rfl rfl ?_
          refine rr_gfA 55 rfl rfl (by omega) rfl ?_
          refine rr_iload_n rfl rfl ?_
          refine rr_ia 55 400 rfl rfl rfl rfl (by omega) (by omega) (fun b179 => ?_)
          refine rr_iconst rfl ?_
          refine rr_icmp_ne rfl rfl (by omega) (by omega) (fun h181 => ?_) (fun h181 => ?_)
          · refine rr_iconst rfl ?_
            exact K189 _ (by first | omega | (simp_all) | (split <;> omega))
          · refine rr_iconst rfl ?_
            refine rr_goto rfl rfl ?_
            exact K189 _ (by first | omega | (simp_all) | (split <;> omega))
theorem sr_givenBack {d : Nat} {s : am_Z} {b : Int}  (hb : 0 ≤ b ∧ b < 40) : am_CR d m_M_givenBack [aR 9 0, aI (zI b)] s (isP (s) (gbV s b) (True)) := by
  refine am_CR_i (ls := [some (aR 9 0), some (aI (zI b)), none, none, none, none, none]) rfl (fun q0 => ?_)
  refine rr_inS (fun B => ?_)
  have b52 := B.1 52 b 0 10 rfl
  refine rr_iconst rfl ?_
  refine rr_stI2 rfl ?_
  refine rr_iconst rfl ?_
  refine rr_stI3 rfl ?_
  refine lp_gb2 (d := d) (s := s) hb 5 0 0 0 _ _ _ (by omega) ⟨rfl, by omega, rfl⟩ (fun x3 x4 x5 x6 => ?_)
  refine rr_bipush (x := 10) rfl rfl ?_
  refine rr_iload_n rfl rfl ?_
  refine rr_imul rfl ?_
  refine rr_stI3 rfl ?_
  refine lp_gb3 (d := d) (s := s) (a0 := sumI 0 4 (gbS s b)) hb ((rA s 52 b).toNat + 1) 0 (10 * b) _ _ (by omega) ⟨by omega, by omega, by simp only [sumI]; omega⟩ (fun x3 x4 => ?_)
  refine rr_iload_n rfl rfl ?_
  refine rr_iret rfl (Or.inl rfl) ?_
  exact rr_eP rfl trivial
theorem sr_cancel {d : Nat} {s : am_Z} {b : Int}  (hb : in32 b) : am_CR (d + 2) m_M_cancel [aR 9 0, aI (zI b)] s (isP (if kCancel s b = 0 then voidS (wA (wI s 74 (kCancel s b)) 47 b 3) b else wI s 74 (kCancel s b)) (if kCancel s b = 0 then (if rA s 47 b = 0 then 0 else rA s 45 b * gbV (wI s 74 (kCancel s b)) b) else 0) (True)) := by
  refine am_CR_i (ls := [some (aR 9 0), some (aI (zI b)), none, none]) rfl (fun q0 => ?_)
  refine rr_inS (fun B => ?_)
  have b3 := B.2.1 3 0 12 rfl
  have b20 := B.2.1 20 0 16 rfl
  have b44 := B.2.1 44 0 40 rfl
  have b61 := B.2.1 61 0 20 rfl
  refine rr_aload_n rfl rfl ?_
  refine rr_iload_n rfl rfl ?_
  refine rr_cv1B rfl rfl rfl (Nat.le_of_ble_eq_true rfl) (sr_isBooking (d := 0) (by omega)) (by omega) ?_
  refine rr_stI2 rfl ?_
  refine rr_aload_n rfl rfl ?_
  refine rr_join (pc' := 30) (V := kCancel s b) ?_ (fun K30 => ?_)
  · refine rr_cv1B rfl rfl rfl (Nat.le_of_ble_eq_true rfl) (sr_fails (d := 0) (by unfold kCancel; omega)) (by omega) ?_
    refine rr_if_eqB rfl rfl (fun h33 => ?_) (fun h33 => ?_)
    · have hk : kCancel s b = 0 := by have z : 0 ≤ kCancel s b := by { unfold kCancel; omega }; omega
      have hk2 := hk
      unfold kCancel at hk2
      refine rr_join (pc' := 63) (V := (if rA s 47 b = 0 then 0 else rA s 45 b * gbV (wI s 74 (kCancel s b)) b)) ?_ (fun K63 => ?_)
      · refine rr_stI3 rfl ?_
        refine rr_aload_n rfl rfl ?_
        refine rr_gfA 47 rfl rfl (by omega) rfl ?_
        refine rr_iload_n rfl rfl ?_
        refine rr_iconst rfl ?_
        refine rr_ias 47 40 rfl ⟨rfl, by omega⟩ rfl (by omega) (by omega) rfl rfl (by omega) (by omega) ?_
        refine rr_aload_n rfl rfl ?_
        refine rr_iload_n rfl rfl ?_
        refine rr_cv1W rfl rfl rfl (Nat.le_of_ble_eq_true rfl) (sr_voids (d := 0) (by omega)) (by omega) ?_
        refine rr_iload_n rfl rfl ?_
        refine rr_iret rfl (Or.inl rfl) ?_
        first | exact rr_eP' (if_pos hk).symm (if_pos hk).symm trivial | exact rr_eP' (if_neg (by omega)).symm (if_neg (by omega)).symm trivial | exact False.elim (by omega)
      · refine rr_aload_n rfl rfl ?_
        refine rr_gfA 47 rfl rfl (by omega) rfl ?_
        refine rr_iload_n rfl rfl ?_
        refine rr_iav 47 40 (s) (fun _ => rfl) rfl rfl rfl rfl (by omega) (by omega) (fun b43 => ?_)
        refine rr_if_ne rfl rfl (by omega) (fun h44 => ?_) (fun h44 => ?_)
        · refine rr_aload_n rfl rfl ?_
          refine rr_gfA 45 rfl rfl (by omega) rfl ?_
          refine rr_iload_n rfl rfl ?_
          refine rr_iav 45 40 (s) (fun _ => rfl) rfl rfl rfl rfl (by omega) (by omega) (fun b56 => ?_)
          refine rr_aload_n rfl rfl ?_
          refine rr_iload_n rfl rfl ?_
          refine rr_cv1P rfl rfl rfl (Nat.le_of_ble_eq_true rfl) (sr_givenBack (d := 0) (by omega)) (by omega) (fun b59 => ?_)
          refine rr_imul rfl ?_
          exact K63 _ (by first | rw [if_pos (by omega)] | rw [if_neg (by omega)])
        · refine rr_iconst rfl ?_
          refine rr_goto rfl rfl ?_
          exact K63 _ (by first | rw [if_pos (by omega)] | rw [if_neg (by omega)])
    · refine rr_iconst rfl ?_
      refine rr_iret rfl (Or.inl rfl) ?_
      first | exact rr_eP' (if_pos hk).symm (if_pos hk).symm trivial | exact rr_eP' (if_neg (by omega)).symm (if_neg (by omega)).symm trivial | exact False.elim (by omega)
  · refine rr_iload_n rfl rfl ?_
    refine rr_if_neB rfl rfl (fun h8 => ?_) (fun h8 => ?_)
    · refine rr_aload_n rfl rfl ?_
      refine rr_gfA 47 rfl rfl (by omega) rfl ?_
      refine rr_iload_n rfl rfl ?_
      refine rr_ia 47 40 rfl rfl rfl rfl (by omega) (by omega) (fun b20 => ?_)
      refine rr_iconst rfl ?_
      refine rr_icmp_le rfl rfl (by omega) (by omega) (fun h22 => ?_) (fun h22 => ?_)
      · refine rr_iconst rfl ?_
        exact K30 _ (by unfold kCancel; omega)
      · refine rr_iconst rfl ?_
        refine rr_goto rfl rfl ?_
        exact K30 _ (by unfold kCancel; omega)
    · refine rr_iconst rfl ?_
      refine rr_goto rfl rfl ?_
      exact K30 _ (by unfold kCancel; omega)
theorem sr_taxAt {d : Nat} {s : am_Z} {k : Int}  (hk : 0 ≤ k ∧ k < 4) : am_CR (d + 3) m_M_taxAt [aR 9 0, aI (zI k)] s (isP (s) (taxAt s k) (0 ≤ taxAt s k ∧ taxAt s k ≤ 500)) := by
  refine am_CR_i (ls := [some (aR 9 0), some (aI (zI k)), none]) rfl (fun q0 => ?_)
  refine rr_join (pc' := 37) (V := if k = 0 ∨ 6 ≤ dep s (rA s 36 k) - arv s (rA s 36 (k - 1)) then 1 else 0) ?_ (fun K37 => ?_)
  · refine rr_stI2 rfl ?_
    refine rr_iload_n rfl rfl ?_
    refine rr_if_eqB rfl rfl (fun h39 => ?_) (fun h39 => ?_)
    · refine rr_iconst rfl ?_
      refine rr_iret rfl (Or.inl rfl) ?_
      exact rr_eP (by unfold taxAt; first | rw [if_pos (by assumption)] | rw [if_neg (by assumption)]) (by unfold taxAt; first | (rw [if_pos (by assumption)]; omega) | (rw [if_neg (by assumption)]; omega))
    · refine rr_aload_n rfl rfl ?_
      refine rr_gfA 2 rfl rfl (by omega) rfl ?_
      refine rr_aload_n rfl rfl ?_
      refine rr_gfA 5 rfl rfl (by omega) rfl ?_
      refine rr_aload_n rfl rfl ?_
      refine rr_gfA 36 rfl rfl (by omega) rfl ?_
      refine rr_iload_n rfl rfl ?_
      refine rr_iaL 36 4 (s) (fun _ => rfl) rfl rfl rfl rfl rfl (by omega) (by omega) (fun b55 => ?_)
      refine rr_bipush (x := 100) rfl rfl ?_
      refine rr_idiv rfl (by omega) (by omega) ?_
      refine rr_ia 5 12 rfl rfl rfl rfl (by omega) (by omega) (fun b59 => ?_)
      refine rr_ia 2 6 rfl rfl rfl rfl (by omega) (by omega) (fun b60 => ?_)
      refine rr_goto rfl rfl ?_
      refine rr_iret rfl (Or.inl rfl) ?_
      exact rr_eP (by unfold taxAt; first | rw [if_pos (by assumption)] | rw [if_neg (by assumption)]) (by unfold taxAt; first | (rw [if_pos (by assumption)]; omega) | (rw [if_neg (by assumption)]; omega))
  · refine rr_iload_n rfl rfl ?_
    refine rr_if_eq rfl rfl (by omega) (fun h1 => ?_) (fun h1 => ?_)
    · refine rr_iconst rfl ?_
      refine rr_goto rfl rfl ?_
      exact K37 _ (by first | omega | (simp_all) | (split <;> omega))
    · refine rr_aload_n rfl rfl ?_
      refine rr_aload_n rfl rfl ?_
      refine rr_gfA 36 rfl rfl (by omega) rfl ?_
      refine rr_iload_n rfl rfl ?_
      refine rr_iaL 36 4 (s) (fun _ => rfl) rfl rfl rfl rfl rfl (by omega) (by omega) (fun b10 => ?_)
      refine rr_cv1P rfl rfl rfl (Nat.le_of_ble_eq_true rfl) (sr_departs (d := 0) (by omega)) (by omega) (fun b11 => ?_)
      refine rr_aload_n rfl rfl ?_
      refine rr_aload_n rfl rfl ?_
      refine rr_gfA 36 rfl rfl (by omega) rfl ?_
      refine rr_iload_n rfl rfl ?_
      refine rr_iconst rfl ?_
      refine rr_isub rfl ?_
      refine rr_iaL 36 4 (s) (fun _ => rfl) rfl rfl rfl rfl rfl (by omega) (by omega) (fun b22 => ?_)
      refine rr_cv1P rfl rfl rfl (Nat.le_of_ble_eq_true rfl) (sr_arrives (d := 0) (by omega)) (by omega) (fun b23 => ?_)
      refine rr_isub rfl ?_
      refine rr_bipush (x := 6) rfl rfl ?_
      refine rr_icmp_lt rfl rfl (by omega) (by omega) (fun h29 => ?_) (fun h29 => ?_)
      · refine rr_iconst rfl ?_
        exact K37 _ (by first | omega | (simp_all) | (split <;> omega))
      · refine rr_iconst rfl ?_
        refine rr_goto rfl rfl ?_
        exact K37 _ (by first | omega | (simp_all) | (split <;> omega))
theorem taxAt_D {s : am_Z} {n : Nat} {k : Int} (h0 : 0 ≤ k) (hk : k < n) : taxAt (wB s 36 0 n (fun i => rA s 34 i)) k = taxD s k := by
  have e : ∀ i : Int, 0 ≤ i → i < n → rA (wB s 36 0 n (fun i => rA s 34 i)) 36 i = rA s 34 i := fun i h1 h2 => if_pos ⟨rfl, h1, by omega⟩
  have ed : ∀ l, dep (wB s 36 0 n (fun i => rA s 34 i)) l = dep s l := fun l => rfl
  have ea : ∀ l, arv (wB s 36 0 n (fun i => rA s 34 i)) l = arv s l := fun l => rfl
  have e2 : ∀ i, rA (wB s 36 0 n (fun i => rA s 34 i)) 2 i = rA s 2 i := fun _ => rfl
  have e5 : ∀ i, rA (wB s 36 0 n (fun i => rA s 34 i)) 5 i = rA s 5 i := fun _ => rfl
  unfold taxAt taxD
  rw [e k h0 hk, ed, ea, e2, e5]
  by_cases hz : k = 0
  · rw [if_pos (Or.inl hz), if_pos (Or.inl hz)]
  · rw [e (k - 1) (by omega) (by omega)]
theorem lp_taxes {d : Nat} {s : am_Z} {q0 : am_A} {Q : Option am_V → am_Z → Prop}  : ∀ (m : Nat) (j : Nat) (k acc : Int) (s1 : am_Z), (rI s 33).toNat - j < m → (k = j ∧ (j : Int) ≤ rI s 33 ∧ acc = sumI 0 j (taxD s) ∧ s1 = wB s 36 0 j (fun i => rA s 34 i)) → (∀ x2, am_WR (d + 4) m_M_taxes 51 [some (aR 9 0), some (aI (zI (sumI 0 (rI s 33).toNat (taxD s)))), x2] [] q0 (wB s 36 0 (rI s 33).toNat (fun i => rA s 34 i)) Q) → am_WR (d + 4) m_M_taxes 17 [some (aR 9 0), some (aI (zI acc)), some (aI (zI k))] [] q0 (s1) Q := by
  intro m
  induction m with
  | zero => intro j k acc s1 hm; exact absurd hm (Nat.not_lt_zero _)
  | succ m ih =>
    intro j k acc s1 hm ⟨hj, hj2, hacc, hs1⟩ K
    subst hj
    subst hacc
    subst hs1
    refine rr_inS (fun B => ?_)
    have b33 := B.2.1 33 0 4 rfl
    have e33 : rI (wB s 36 0 j (fun i => rA s 34 i)) 33 = rI s 33 := rfl
    refine rr_iload_n rfl rfl ?_
    refine rr_aload_n rfl rfl ?_
    refine rr_gfIv 33 (s) rfl rfl rfl (by omega) rfl (fun b19 => ?_)
    refine rr_icmp_ge rfl rfl (by omega) (by omega) (fun h22 => ?_) (fun h22 => ?_)
    · rw [show j = (rI s 33).toNat by omega]
      exact K _
    · refine rr_aload_n rfl rfl ?_
      refine rr_gfA 36 rfl rfl (by omega) rfl ?_
      refine rr_iload_n rfl rfl ?_
      refine rr_aload_n rfl rfl ?_
      refine rr_gfA 34 rfl rfl (by omega) rfl ?_
      refine rr_iload_n rfl rfl ?_
      refine rr_iaL 34 4 (s) (fun _ => rfl) rfl rfl rfl rfl rfl (by omega) (by omega) (fun b35 => ?_)
      refine rr_iasL 36 4 rfl ⟨rfl, by omega⟩ rfl (by omega) (by omega) rfl (by omega) (by omega) ?_
      refine rr_iload_n rfl rfl ?_
      refine rr_aload_n rfl rfl ?_
      refine rr_iload_n rfl rfl ?_
      refine rr_cv1P rfl rfl rfl (Nat.le_of_ble_eq_true rfl) (sr_taxAt (d := 0) (by omega)) (by omega) (fun b40 => ?_)
      refine rr_iadd rfl ?_
      refine rr_stI1 rfl ?_
      refine rr_inc2 rfl ?_
      refine rr_goto rfl rfl ?_
      have e := wB_s s 36 0 j (fun i => rA s 34 i)
      rw [Int.zero_add] at e
      rw [e, taxAt_D (by omega) (by omega)]
      exact ih (j + 1) _ _ _ (by omega) ⟨by omega, by omega, by rw [sumI_s, Int.zero_add], rfl⟩ K
theorem sr_taxes {d : Nat} {s : am_Z}   : am_CR (d + 4) m_M_taxes [aR 9 0] s (isP (wB (wI (wI s 74 0) 35 (rI s 33)) 36 0 (rI s 33).toNat (fun i => rA s 34 i)) (sumI 0 (rI s 33).toNat (taxD (wI (wI s 74 0) 35 (rI s 33)))) (True)) := by
  refine am_CR_i (ls := [some (aR 9 0), none, none]) rfl (fun q0 => ?_)
  refine rr_inS (fun B => ?_)
  have b33 := B.2.1 33 0 4 rfl
  refine rr_aload_n rfl rfl ?_
  refine rr_iconst rfl ?_
  refine rr_pfI 74 rfl rfl rfl rfl (by omega) rfl (by omega) ?_
  refine rr_aload_n rfl rfl ?_
  refine rr_aload_n rfl rfl ?_
  refine rr_gfIv 33 (s) rfl rfl rfl (by omega) rfl (fun b7 => ?_)
  refine rr_pfI 35 rfl rfl rfl rfl (by omega) rfl (by omega) ?_
  refine rr_iconst rfl ?_
  refine rr_stI1 rfl ?_
  refine rr_iconst rfl ?_
  refine rr_stI2 rfl ?_
  refine lp_taxes (d := d) (s := (wI (wI s 74 0) 35 (rI s 33))) ((rI s 33).toNat + 1) 0 0 _ _ (by show (rI s 33).toNat - 0 < (rI s 33).toNat + 1; omega) ⟨rfl, by show (0 : Int) ≤ rI s 33; omega, rfl, (wB_0 ..).symm⟩ (fun x2 => ?_)
  refine rr_iload_n rfl rfl ?_
  refine rr_iret rfl (Or.inl rfl) ?_
  exact rr_eP rfl trivial
end

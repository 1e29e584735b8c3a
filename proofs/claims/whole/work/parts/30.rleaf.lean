noncomputable section
/-! The reference: what its small methods answer, as functions of its state. -/
abbrev legR (l : Int) : Prop := 0 ≤ l ∧ l ≤ 1160 ∧ l % 100 ≤ 60
abbrev atL (l : Int) : Int := 61 * (l / 100) + l % 100
abbrev thereP (s : am_Z) (f d : Int) : Prop := rA s 10 f ≠ 0 ∧ rA s 11 f ≤ d ∧ d ≤ rA s 12 f ∧ iAnd (iShr (rA s 13 f) (d % 7)) 1 = 1
abbrev legP (s : am_Z) (l : Int) : Prop := 0 ≤ l ∧ l / 100 < rI s 3 ∧ l % 100 < 61 ∧ thereP s (l / 100) (l % 100)
def dep (s : am_Z) (l : Int) : Int := 24 * (l % 100) + rA s 7 (l / 100) - rA s 1 (rA s 5 (l / 100)) + rA s 17 (61 * (l / 100) + l % 100)
def arv (s : am_Z) (l : Int) : Int := dep s l + rA s 8 (l / 100)
abbrev goneP (s : am_Z) (l : Int) : Prop := rA s 18 (61 * (l / 100) + l % 100) = 0 ∧ dep s l ≤ rI s 0
abbrev freeP (s : am_Z) (l : Int) : Prop := rA s 18 (61 * (l / 100) + l % 100) = 0 ∧ rI s 0 < dep s l
abbrev inR (v : Int) : Prop := -20 ≤ v ∧ v ≤ 1600
theorem sr_isIn {d : Nat} {s : am_Z} {v a b : Int}  (hv : in32 v) (ha : in32 a) (hb : in32 b) : am_CR d m_M_isIn [aI (zI v), aI (zI a), aI (zI b)] s (isB (s) (a ≤ v ∧ v ≤ b)) := by
  refine am_CR_i (ls := [some (aI (zI v)), some (aI (zI a)), some (aI (zI b))]) rfl (fun q0 => ?_)
  refine rr_iload_n rfl rfl ?_
  refine rr_iload_n rfl rfl ?_
  refine rr_icmp_lt rfl rfl (by omega) (by omega) (fun h2 => ?_) (fun h2 => ?_)
  · refine rr_iconst rfl ?_
    refine rr_iret rfl (Or.inr ⟨rfl, by first | omega | (split <;> omega)⟩) ?_
    exact rr_eB (by first | omega | (split <;> first | omega | simp_all) | simp_all)
  · refine rr_iload_n rfl rfl ?_
    refine rr_iload_n rfl rfl ?_
    refine rr_icmp_gt rfl rfl (by omega) (by omega) (fun h7 => ?_) (fun h7 => ?_)
    · refine rr_iconst rfl ?_
      refine rr_iret rfl (Or.inr ⟨rfl, by first | omega | (split <;> omega)⟩) ?_
      exact rr_eB (by first | omega | (split <;> first | omega | simp_all) | simp_all)
    · refine rr_iconst rfl ?_
      refine rr_goto rfl rfl ?_
      refine rr_iret rfl (Or.inr ⟨rfl, by first | omega | (split <;> omega)⟩) ?_
      exact rr_eB (by first | omega | (split <;> first | omega | simp_all) | simp_all)
theorem sr_least {d : Nat} {s : am_Z} {a b : Int}  (ha : in32 a) (hb : in32 b) : am_CR d m_M_least [aI (zI a), aI (zI b)] s (isP (s) (min a b) (in32 (min a b))) := by
  refine am_CR_i (ls := [some (aI (zI a)), some (aI (zI b))]) rfl (fun q0 => ?_)
  refine rr_iload_n rfl rfl ?_
  refine rr_iload_n rfl rfl ?_
  refine rr_icmp_ge rfl rfl (by omega) (by omega) (fun h2 => ?_) (fun h2 => ?_)
  · refine rr_iload_n rfl rfl ?_
    refine rr_iret rfl (Or.inl rfl) ?_
    exact rr_eP (by first | rfl | omega) (by omega)
  · refine rr_iload_n rfl rfl ?_
    refine rr_goto rfl rfl ?_
    refine rr_iret rfl (Or.inl rfl) ?_
    exact rr_eP (by first | rfl | omega) (by omega)
theorem sr_isAirport {d : Nat} {s : am_Z} {v : Int}  (hv : in32 v) : am_CR (d + 1) m_M_isAirport [aI (zI v)] s (isB (s) (0 ≤ v ∧ v ≤ 5)) := by
  refine am_CR_i (ls := [some (aI (zI v))]) rfl (fun q0 => ?_)
  refine rr_iload_n rfl rfl ?_
  refine rr_iconst rfl ?_
  refine rr_iconst rfl ?_
  refine rr_cs3B rfl rfl (Nat.le_of_ble_eq_true rfl) (sr_isIn (d := 0) (by omega) (by omega) (by omega)) (by omega) ?_
  refine rr_iret rfl (Or.inr ⟨rfl, by first | omega | (split <;> omega)⟩) ?_
  exact rr_eB (by first | omega | (split <;> first | omega | simp_all) | simp_all)
theorem sr_isBucket {d : Nat} {s : am_Z} {v : Int}  (hv : in32 v) : am_CR (d + 1) m_M_isBucket [aI (zI v)] s (isB (s) (0 ≤ v ∧ v ≤ 3)) := by
  refine am_CR_i (ls := [some (aI (zI v))]) rfl (fun q0 => ?_)
  refine rr_iload_n rfl rfl ?_
  refine rr_iconst rfl ?_
  refine rr_iconst rfl ?_
  refine rr_cs3B rfl rfl (Nat.le_of_ble_eq_true rfl) (sr_isIn (d := 0) (by omega) (by omega) (by omega)) (by omega) ?_
  refine rr_iret rfl (Or.inr ⟨rfl, by first | omega | (split <;> omega)⟩) ?_
  exact rr_eB (by first | omega | (split <;> first | omega | simp_all) | simp_all)
theorem sr_isMember {d : Nat} {s : am_Z} {v : Int}  (hv : in32 v) : am_CR (d + 1) m_M_isMember [aI (zI v)] s (isB (s) (-1 ≤ v ∧ v ≤ 4)) := by
  refine am_CR_i (ls := [some (aI (zI v))]) rfl (fun q0 => ?_)
  refine rr_iload_n rfl rfl ?_
  refine rr_iconst rfl ?_
  refine rr_iconst rfl ?_
  refine rr_cs3B rfl rfl (Nat.le_of_ble_eq_true rfl) (sr_isIn (d := 0) (by omega) (by omega) (by omega)) (by omega) ?_
  refine rr_iret rfl (Or.inr ⟨rfl, by first | omega | (split <;> omega)⟩) ?_
  exact rr_eB (by first | omega | (split <;> first | omega | simp_all) | simp_all)
theorem sr_isMany {d : Nat} {s : am_Z} {v : Int}  (hv : in32 v) : am_CR (d + 1) m_M_isMany [aI (zI v)] s (isB (s) (1 ≤ v ∧ v ≤ 9)) := by
  refine am_CR_i (ls := [some (aI (zI v))]) rfl (fun q0 => ?_)
  refine rr_iload_n rfl rfl ?_
  refine rr_iconst rfl ?_
  refine rr_bipush (x := 9) rfl rfl ?_
  refine rr_cs3B rfl rfl (Nat.le_of_ble_eq_true rfl) (sr_isIn (d := 0) (by omega) (by omega) (by omega)) (by omega) ?_
  refine rr_iret rfl (Or.inr ⟨rfl, by first | omega | (split <;> omega)⟩) ?_
  exact rr_eB (by first | omega | (split <;> first | omega | simp_all) | simp_all)
theorem sr_isFlight {d : Nat} {s : am_Z} {v : Int}  (hv : in32 v) : am_CR (d + 1) m_M_isFlight [aR 9 0, aI (zI v)] s (isB (s) (0 ≤ v ∧ v < rI s 3)) := by
  refine am_CR_i (ls := [some (aR 9 0), some (aI (zI v))]) rfl (fun q0 => ?_)
  refine rr_iload_n rfl rfl ?_
  refine rr_iconst rfl ?_
  refine rr_aload_n rfl rfl ?_
  refine rr_gfI 3 rfl rfl (by omega) rfl (fun b3 => ?_)
  refine rr_iconst rfl ?_
  refine rr_isub rfl ?_
  refine rr_cs3B rfl rfl (Nat.le_of_ble_eq_true rfl) (sr_isIn (d := 0) (by omega) (by omega) (by omega)) (by omega) ?_
  refine rr_iret rfl (Or.inr ⟨rfl, by first | omega | (split <;> omega)⟩) ?_
  exact rr_eB (by first | omega | (split <;> first | omega | simp_all) | simp_all)
theorem sr_isFare {d : Nat} {s : am_Z} {v : Int}  (hv : in32 v) : am_CR (d + 1) m_M_isFare [aR 9 0, aI (zI v)] s (isB (s) (0 ≤ v ∧ v < rI s 20)) := by
  refine am_CR_i (ls := [some (aR 9 0), some (aI (zI v))]) rfl (fun q0 => ?_)
  refine rr_iload_n rfl rfl ?_
  refine rr_iconst rfl ?_
  refine rr_aload_n rfl rfl ?_
  refine rr_gfI 20 rfl rfl (by omega) rfl (fun b3 => ?_)
  refine rr_iconst rfl ?_
  refine rr_isub rfl ?_
  refine rr_cs3B rfl rfl (Nat.le_of_ble_eq_true rfl) (sr_isIn (d := 0) (by omega) (by omega) (by omega)) (by omega) ?_
  refine rr_iret rfl (Or.inr ⟨rfl, by first | omega | (split <;> omega)⟩) ?_
  exact rr_eB (by first | omega | (split <;> first | omega | simp_all) | simp_all)
theorem sr_isBooking {d : Nat} {s : am_Z} {v : Int}  (hv : in32 v) : am_CR (d + 1) m_M_isBooking [aR 9 0, aI (zI v)] s (isB (s) (0 ≤ v ∧ v < rI s 44)) := by
  refine am_CR_i (ls := [some (aR 9 0), some (aI (zI v))]) rfl (fun q0 => ?_)
  refine rr_iload_n rfl rfl ?_
  refine rr_iconst rfl ?_
  refine rr_aload_n rfl rfl ?_
  refine rr_gfI 44 rfl rfl (by omega) rfl (fun b3 => ?_)
  refine rr_iconst rfl ?_
  refine rr_isub rfl ?_
  refine rr_cs3B rfl rfl (Nat.le_of_ble_eq_true rfl) (sr_isIn (d := 0) (by omega) (by omega) (by omega)) (by omega) ?_
  refine rr_iret rfl (Or.inr ⟨rfl, by first | omega | (split <;> omega)⟩) ?_
  exact rr_eB (by first | omega | (split <;> first | omega | simp_all) | simp_all)
theorem sr_fails {d : Nat} {s : am_Z} {w : Int}  (hw : 0 ≤ w ∧ w ≤ 3) : am_CR d m_M_fails [aR 9 0, aI (zI w)] s (isB (wI s 74 w) (0 < w)) := by
  refine am_CR_i (ls := [some (aR 9 0), some (aI (zI w))]) rfl (fun q0 => ?_)
  refine rr_aload_n rfl rfl ?_
  refine rr_iload_n rfl rfl ?_
  refine rr_pfI 74 rfl rfl rfl rfl (by omega) rfl (by omega) ?_
  refine rr_iload_n rfl rfl ?_
  refine rr_if_le rfl rfl (by omega) (fun h6 => ?_) (fun h6 => ?_)
  · refine rr_iconst rfl ?_
    refine rr_iret rfl (Or.inr ⟨rfl, by first | omega | (split <;> omega)⟩) ?_
    exact rr_eB (by first | omega | (split <;> first | omega | simp_all) | simp_all)
  · refine rr_iconst rfl ?_
    refine rr_goto rfl rfl ?_
    refine rr_iret rfl (Or.inr ⟨rfl, by first | omega | (split <;> omega)⟩) ?_
    exact rr_eB (by first | omega | (split <;> first | omega | simp_all) | simp_all)
theorem sr_tells {d : Nat} {s : am_Z} {v : Int}   : am_CR d m_M_tells [aR 9 0, aI (zI v)] s (isP (wI s 74 0) (v) (True)) := by
  refine am_CR_i (ls := [some (aR 9 0), some (aI (zI v))]) rfl (fun q0 => ?_)
  refine rr_aload_n rfl rfl ?_
  refine rr_iconst rfl ?_
  refine rr_pfI 74 rfl rfl rfl rfl (by omega) rfl (by omega) ?_
  refine rr_iload_n rfl rfl ?_
  refine rr_iret rfl (Or.inl rfl) ?_
  exact rr_eP rfl trivial
theorem sr_thrown {d : Nat} {s : am_Z}   : am_CR d m_M_thrown [aR 9 0] s (isP (s) (rI s 74) (0 ≤ rI s 74 ∧ rI s 74 ≤ 3)) := by
  refine am_CR_i (ls := [some (aR 9 0)]) rfl (fun q0 => ?_)
  refine rr_aload_n rfl rfl ?_
  refine rr_gfI 74 rfl rfl (by omega) rfl (fun b1 => ?_)
  refine rr_iret rfl (Or.inl rfl) ?_
  exact rr_eP (by first | rfl | omega) (by omega)
theorem sr_isThere {d : Nat} {s : am_Z} {f t : Int}  (hf : 0 ≤ f ∧ f < 12) (ht : in32 t) : am_CR (d + 1) m_M_isThere [aR 9 0, aI (zI f), aI (zI t)] s (isB (s) (thereP s f t)) := by
  refine am_CR_i (ls := [some (aR 9 0), some (aI (zI f)), some (aI (zI t))]) rfl (fun q0 => ?_)
  refine rr_aload_n rfl rfl ?_
  refine rr_gfA 10 rfl rfl (by omega) rfl ?_
  refine rr_iload_n rfl rfl ?_
  refine rr_ba 10 12 rfl rfl rfl rfl (by omega) (by omega) (fun b5 => ?_)
  refine rr_if_eq rfl rfl (by omega) (fun h6 => ?_) (fun h6 => ?_)
  · refine rr_iconst rfl ?_
    refine rr_iret rfl (Or.inr ⟨rfl, by first | omega | (split <;> omega)⟩) ?_
    exact rr_eB (by first | omega | (split <;> first | omega | simp_all) | simp_all)
  · refine rr_iload_n rfl rfl ?_
    refine rr_aload_n rfl rfl ?_
    refine rr_gfA 11 rfl rfl (by omega) rfl ?_
    refine rr_iload_n rfl rfl ?_
    refine rr_ia 11 12 rfl rfl rfl rfl (by omega) (by omega) (fun b15 => ?_)
    refine rr_aload_n rfl rfl ?_
    refine rr_gfA 12 rfl rfl (by omega) rfl ?_
    refine rr_iload_n rfl rfl ?_
    refine rr_ia 12 12 rfl rfl rfl rfl (by omega) (by omega) (fun b21 => ?_)
    refine rr_cs3B rfl rfl (Nat.le_of_ble_eq_true rfl) (sr_isIn (d := 0) (by omega) (by omega) (by omega)) (by omega) ?_
    refine rr_if_eqB rfl rfl (fun h25 => ?_) (fun h25 => ?_)
    · refine rr_iconst rfl ?_
      refine rr_iret rfl (Or.inr ⟨rfl, by first | omega | (split <;> omega)⟩) ?_
      exact rr_eB (by first | omega | (split <;> first | omega | simp_all) | simp_all)
    · refine rr_aload_n rfl rfl ?_
      refine rr_gfA 13 rfl rfl (by omega) rfl ?_
      refine rr_iload_n rfl rfl ?_
      refine rr_ia 13 12 rfl rfl rfl rfl (by omega) (by omega) (fun b33 => ?_)
      refine rr_iload_n rfl rfl ?_
      refine rr_bipush (x := 7) rfl rfl ?_
      refine rr_irem rfl (by omega) (by omega) ?_
      refine rr_ishr rfl ?_
      refine rr_iconst rfl ?_
      refine rr_iand rfl ?_
      refine rr_iconst rfl ?_
      have hia := in32_iAnd (iShr (rA s 13 f) (t % 7)) 1
      refine rr_icmp_ne rfl rfl (by omega) (by omega) (fun h42 => ?_) (fun h42 => ?_)
      · refine rr_iconst rfl ?_
        refine rr_iret rfl (Or.inr ⟨rfl, by first | omega | (split <;> omega)⟩) ?_
        exact rr_eB (by first | omega | (split <;> first | omega | simp_all) | simp_all)
      · refine rr_iconst rfl ?_
        refine rr_goto rfl rfl ?_
        refine rr_iret rfl (Or.inr ⟨rfl, by first | omega | (split <;> omega)⟩) ?_
        exact rr_eB (by first | omega | (split <;> first | omega | simp_all) | simp_all)
theorem sr_isLeg {d : Nat} {s : am_Z} {l : Int}  (hl : in32 l) : am_CR (d + 2) m_M_isLeg [aR 9 0, aI (zI l)] s (isB (s) (legP s l)) := by
  refine am_CR_i (ls := [some (aR 9 0), some (aI (zI l))]) rfl (fun q0 => ?_)
  refine rr_inS (fun B => ?_)
  have b3 := B.2.1 3 0 12 rfl
  refine rr_iload_n rfl rfl ?_
  refine rr_if_lt rfl rfl (by omega) (fun h1 => ?_) (fun h1 => ?_)
  · refine rr_iconst rfl ?_
    refine rr_iret rfl (Or.inr ⟨rfl, by first | omega | (split <;> omega)⟩) ?_
    exact rr_eB (by first | omega | (split <;> first | omega | simp_all) | simp_all)
  · refine rr_aload_n rfl rfl ?_
    refine rr_iload_n rfl rfl ?_
    refine rr_bipush (x := 100) rfl rfl ?_
    refine rr_idiv rfl (by omega) (by omega) ?_
    refine rr_cv1B rfl rfl rfl (Nat.le_of_ble_eq_true rfl) (sr_isFlight (d := 0) (by omega)) (by omega) ?_
    refine rr_if_eqB rfl rfl (fun h12 => ?_) (fun h12 => ?_)
    · refine rr_iconst rfl ?_
      refine rr_iret rfl (Or.inr ⟨rfl, by first | omega | (split <;> omega)⟩) ?_
      exact rr_eB (by first | omega | (split <;> first | omega | simp_all) | simp_all)
    · refine rr_iload_n rfl rfl ?_
      refine rr_bipush (x := 100) rfl rfl ?_
      refine rr_irem rfl (by omega) (by omega) ?_
      refine rr_bipush (x := 61) rfl rfl ?_
      refine rr_icmp_ge rfl rfl (by omega) (by omega) (fun h21 => ?_) (fun h21 => ?_)
      · refine rr_iconst rfl ?_
        refine rr_iret rfl (Or.inr ⟨rfl, by first | omega | (split <;> omega)⟩) ?_
        exact rr_eB (by first | omega | (split <;> first | omega | simp_all) | simp_all)
      · refine rr_aload_n rfl rfl ?_
        refine rr_iload_n rfl rfl ?_
        refine rr_bipush (x := 100) rfl rfl ?_
        refine rr_idiv rfl (by omega) (by omega) ?_
        refine rr_iload_n rfl rfl ?_
        refine rr_bipush (x := 100) rfl rfl ?_
        refine rr_irem rfl (by omega) (by omega) ?_
        refine rr_cv2B rfl rfl rfl (Nat.le_of_ble_eq_true rfl) (sr_isThere (d := 0) (by omega) (by omega)) (by omega) ?_
        refine rr_if_eqB rfl rfl (fun h36 => ?_) (fun h36 => ?_)
        · refine rr_iconst rfl ?_
          refine rr_iret rfl (Or.inr ⟨rfl, by first | omega | (split <;> omega)⟩) ?_
          exact rr_eB (by first | omega | (split <;> first | omega | simp_all) | simp_all)
        · refine rr_iconst rfl ?_
          refine rr_goto rfl rfl ?_
          refine rr_iret rfl (Or.inr ⟨rfl, by first | omega | (split <;> omega)⟩) ?_
          exact rr_eB (by first | omega | (split <;> first | omega | simp_all) | simp_all)
theorem sr_at {d : Nat} {s : am_Z} {l : Int}  (hl : 0 ≤ l ∧ l ≤ 2000) : am_CR d m_M_at [aI (zI l)] s (isP (s) (61 * (l / 100) + l % 100) (True)) := by
  refine am_CR_i (ls := [some (aI (zI l))]) rfl (fun q0 => ?_)
  refine rr_bipush (x := 61) rfl rfl ?_
  refine rr_iload_n rfl rfl ?_
  refine rr_bipush (x := 100) rfl rfl ?_
  refine rr_idiv rfl (by omega) (by omega) ?_
  refine rr_imul rfl ?_
  refine rr_iload_n rfl rfl ?_
  refine rr_bipush (x := 100) rfl rfl ?_
  refine rr_irem rfl (by omega) (by omega) ?_
  refine rr_iadd rfl ?_
  refine rr_iret rfl (Or.inl rfl) ?_
  exact rr_eP rfl trivial
theorem sr_departs {d : Nat} {s : am_Z} {l : Int}  (hl : legR l) : am_CR (d + 1) m_M_departs [aR 9 0, aI (zI l)] s (isP (s) (dep s l) (-14 ≤ dep s l ∧ dep s l ≤ 1500)) := by
  refine am_CR_i (ls := [some (aR 9 0), some (aI (zI l)), none]) rfl (fun q0 => ?_)
  refine rr_iload_n rfl rfl ?_
  refine rr_bipush (x := 100) rfl rfl ?_
  refine rr_idiv rfl (by omega) (by omega) ?_
  refine rr_stI2 rfl ?_
  refine rr_bipush (x := 24) rfl rfl ?_
  refine rr_iload_n rfl rfl ?_
  refine rr_bipush (x := 100) rfl rfl ?_
  refine rr_irem rfl (by omega) (by omega) ?_
  refine rr_imul rfl ?_
  refine rr_aload_n rfl rfl ?_
  refine rr_gfA 7 rfl rfl (by omega) rfl ?_
  refine rr_iload_n rfl rfl ?_
  refine rr_ia 7 12 rfl rfl rfl rfl (by omega) (by omega) (fun b17 => ?_)
  refine rr_iadd rfl ?_
  refine rr_aload_n rfl rfl ?_
  refine rr_gfA 1 rfl rfl (by omega) rfl ?_
  refine rr_aload_n rfl rfl ?_
  refine rr_gfA 5 rfl rfl (by omega) rfl ?_
  refine rr_iload_n rfl rfl ?_
  refine rr_ia 5 12 rfl rfl rfl rfl (by omega) (by omega) (fun b28 => ?_)
  refine rr_ia 1 6 rfl rfl rfl rfl (by omega) (by omega) (fun b29 => ?_)
  refine rr_isub rfl ?_
  refine rr_aload_n rfl rfl ?_
  refine rr_gfA 17 rfl rfl (by omega) rfl ?_
  refine rr_iload_n rfl rfl ?_
  refine rr_cs1P rfl rfl (Nat.le_of_ble_eq_true rfl) (sr_at (d := 0) (by omega)) (by omega) (fun b36 => ?_)
  refine rr_ia 17 732 rfl rfl rfl rfl (by omega) (by omega) (fun b39 => ?_)
  refine rr_iadd rfl ?_
  refine rr_iret rfl (Or.inl rfl) ?_
  exact rr_eP rfl (by unfold dep; omega)
theorem sr_arrives {d : Nat} {s : am_Z} {l : Int}  (hl : legR l) : am_CR (d + 2) m_M_arrives [aR 9 0, aI (zI l)] s (isP (s) (arv s l) (inR (arv s l))) := by
  refine am_CR_i (ls := [some (aR 9 0), some (aI (zI l))]) rfl (fun q0 => ?_)
  refine rr_aload_n rfl rfl ?_
  refine rr_iload_n rfl rfl ?_
  refine rr_cv1P rfl rfl rfl (Nat.le_of_ble_eq_true rfl) (sr_departs (d := 0) (by omega)) (by omega) (fun b2 => ?_)
  refine rr_aload_n rfl rfl ?_
  refine rr_gfA 8 rfl rfl (by omega) rfl ?_
  refine rr_iload_n rfl rfl ?_
  refine rr_bipush (x := 100) rfl rfl ?_
  refine rr_idiv rfl (by omega) (by omega) ?_
  refine rr_ia 8 12 rfl rfl rfl rfl (by omega) (by omega) (fun b13 => ?_)
  refine rr_iadd rfl ?_
  refine rr_iret rfl (Or.inl rfl) ?_
  exact rr_eP rfl (by unfold arv; omega)
theorem sr_hasDeparted {d : Nat} {s : am_Z} {l : Int}  (hl : legR l) : am_CR (d + 2) m_M_hasDeparted [aR 9 0, aI (zI l)] s (isB (s) (goneP s l)) := by
  refine am_CR_i (ls := [some (aR 9 0), some (aI (zI l))]) rfl (fun q0 => ?_)
  refine rr_aload_n rfl rfl ?_
  refine rr_gfA 18 rfl rfl (by omega) rfl ?_
  refine rr_iload_n rfl rfl ?_
  refine rr_cs1P rfl rfl (Nat.le_of_ble_eq_true rfl) (sr_at (d := 0) (by omega)) (by omega) (fun b5 => ?_)
  refine rr_ba 18 732 rfl rfl rfl rfl (by omega) (by omega) (fun b8 => ?_)
  refine rr_if_ne rfl rfl (by omega) (fun h9 => ?_) (fun h9 => ?_)
  · refine rr_iconst rfl ?_
    refine rr_iret rfl (Or.inr ⟨rfl, by first | omega | (split <;> omega)⟩) ?_
    exact rr_eB (by first | omega | (split <;> first | omega | simp_all) | simp_all)
  · refine rr_aload_n rfl rfl ?_
    refine rr_gfI 0 rfl rfl (by omega) rfl (fun b13 => ?_)
    refine rr_aload_n rfl rfl ?_
    refine rr_iload_n rfl rfl ?_
    refine rr_cv1P rfl rfl rfl (Nat.le_of_ble_eq_true rfl) (sr_departs (d := 0) (by omega)) (by omega) (fun b18 => ?_)
    refine rr_icmp_lt rfl rfl (by omega) (by omega) (fun h21 => ?_) (fun h21 => ?_)
    · refine rr_iconst rfl ?_
      refine rr_iret rfl (Or.inr ⟨rfl, by first | omega | (split <;> omega)⟩) ?_
      exact rr_eB (by first | omega | (split <;> first | omega | simp_all) | simp_all)
    · refine rr_iconst rfl ?_
      refine rr_goto rfl rfl ?_
      refine rr_iret rfl (Or.inr ⟨rfl, by first | omega | (split <;> omega)⟩) ?_
      exact rr_eB (by first | omega | (split <;> first | omega | simp_all) | simp_all)
theorem sr_isFree {d : Nat} {s : am_Z} {l : Int}  (hl : legR l) : am_CR (d + 2) m_M_isFree [aR 9 0, aI (zI l)] s (isB (s) (freeP s l)) := by
  refine am_CR_i (ls := [some (aR 9 0), some (aI (zI l))]) rfl (fun q0 => ?_)
  refine rr_aload_n rfl rfl ?_
  refine rr_gfA 18 rfl rfl (by omega) rfl ?_
  refine rr_iload_n rfl rfl ?_
  refine rr_cs1P rfl rfl (Nat.le_of_ble_eq_true rfl) (sr_at (d := 0) (by omega)) (by omega) (fun b5 => ?_)
  refine rr_ba 18 732 rfl rfl rfl rfl (by omega) (by omega) (fun b8 => ?_)
  refine rr_if_ne rfl rfl (by omega) (fun h9 => ?_) (fun h9 => ?_)
  · refine rr_iconst rfl ?_
    refine rr_iret rfl (Or.inr ⟨rfl, by first | omega | (split <;> omega)⟩) ?_
    exact rr_eB (by first | omega | (split <;> first | omega | simp_all) | simp_all)
  · refine rr_aload_n rfl rfl ?_
    refine rr_gfI 0 rfl rfl (by omega) rfl (fun b13 => ?_)
    refine rr_aload_n rfl rfl ?_
    refine rr_iload_n rfl rfl ?_
    refine rr_cv1P rfl rfl rfl (Nat.le_of_ble_eq_true rfl) (sr_departs (d := 0) (by omega)) (by omega) (fun b18 => ?_)
    refine rr_icmp_ge rfl rfl (by omega) (by omega) (fun h21 => ?_) (fun h21 => ?_)
    · refine rr_iconst rfl ?_
      refine rr_iret rfl (Or.inr ⟨rfl, by first | omega | (split <;> omega)⟩) ?_
      exact rr_eB (by first | omega | (split <;> first | omega | simp_all) | simp_all)
    · refine rr_iconst rfl ?_
      refine rr_goto rfl rfl ?_
      refine rr_iret rfl (Or.inr ⟨rfl, by first | omega | (split <;> omega)⟩) ?_
      exact rr_eB (by first | omega | (split <;> first | omega | simp_all) | simp_all)
end

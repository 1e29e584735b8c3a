noncomputable section
def kSetZone (s : am_Z) (i v : Int) : Int := if ¬ (0 ≤ i ∧ i ≤ 5) then 1 else if ¬ (-12 ≤ v ∧ v ≤ 14) then 2 else if 0 < rI s 3 then 3 else 0
def kSetTax (s : am_Z) (i v : Int) : Int := if ¬ (0 ≤ i ∧ i ≤ 5) then 1 else if 0 ≤ v ∧ v ≤ 500 then 0 else 2
def kLimit (s : am_Z) (f b v : Int) : Int := if ¬ ((0 ≤ f ∧ f < rI s 3) ∧ 0 ≤ b ∧ b ≤ 3) then 1 else if 0 ≤ v ∧ v ≤ rA s 9 f + 10 then 0 else 2
def kLink (s : am_Z) (f g : Int) : Int := if ¬ ((0 ≤ f ∧ f < rI s 3) ∧ (g = -1 ∨ 0 ≤ g ∧ g < rI s 3)) then 1 else if g = -1 ∨ rA s 5 g = rA s 6 f then 0 else 2
def kFare (s : am_Z) (c a b k v : Int) : Int := if ¬ ((-1 ≤ c ∧ c ≤ 2) ∧ (0 ≤ a ∧ a ≤ 5) ∧ (0 ≤ b ∧ b ≤ 5) ∧ 0 ≤ k ∧ k ≤ 3) then 1 else if a = b ∨ ¬ (1 ≤ v ∧ v ≤ 5000) then 2 else if rI s 20 = 16 then 3 else 0
def kRules (s : am_Z) (f a b ad st : Int) : Int := if ¬ (0 ≤ f ∧ f < rI s 20) then 1 else if (-1 ≤ a ∧ a ≤ 61) ∧ (a ≤ b ∧ b ≤ 61) ∧ (0 ≤ ad ∧ ad ≤ 30) ∧ 0 ≤ st ∧ st ≤ 30 then 0 else 2
def kBack (s : am_Z) (f v : Int) : Int := if ¬ (0 ≤ f ∧ f < rI s 20) then 1 else if 0 ≤ v ∧ v ≤ 100 then 0 else 2
def kLeg1 (s : am_Z) (l : Int) : Int := if legP s l then 0 else 1
def kOpen (s : am_Z) (l b : Int) : Int := if legP s l ∧ 0 ≤ b ∧ b ≤ 3 then 0 else 1
def standing (s : am_Z) (l : Int) : Int := 10 * rA s 17 (61 * (l / 100) + l % 100) + (if rA s 18 (61 * (l / 100) + l % 100) ≠ 0 then 2 else if goneP s l then 1 else 0)
theorem sr_setZone {d : Nat} {s : am_Z} {i v : Int}  (hi : in32 i) (hv : in32 v) : am_CR (d + 2) m_M_setZone [aR 9 0, aI (zI i), aI (zI v)] s (isP (if kSetZone s i v = 0 then wA (wI s 74 (kSetZone s i v)) 1 i v else wI s 74 (kSetZone s i v)) (if kSetZone s i v = 0 then rA s 1 i else 0) (True)) := by
  refine am_CR_i (ls := [some (aR 9 0), some (aI (zI i)), some (aI (zI v)), none]) rfl (fun q0 => ?_)
  refine rr_inS (fun B => ?_)
  have b3 := B.2.1 3 0 12 rfl
  have b20 := B.2.1 20 0 16 rfl
  have b44 := B.2.1 44 0 40 rfl
  have b61 := B.2.1 61 0 20 rfl
  refine rr_aload_n rfl rfl ?_
  refine rr_join (pc' := 39) (V := kSetZone s i v) ?_ (fun K39 => ?_)
  · refine rr_cv1B rfl rfl rfl (Nat.le_of_ble_eq_true rfl) (sr_fails (d := 0) (by unfold kSetZone; omega)) (by omega) ?_
    refine rr_if_eqB rfl rfl (fun h42 => ?_) (fun h42 => ?_)
    · have hk : kSetZone s i v = 0 := by have z : 0 ≤ kSetZone s i v := by { unfold kSetZone; omega }; omega
      have hk2 := hk
      unfold kSetZone at hk2
      refine rr_aload_n rfl rfl ?_
      refine rr_gfA 1 rfl rfl (by omega) rfl ?_
      refine rr_iload_n rfl rfl ?_
      refine rr_iav 1 6 (s) (fun _ => rfl) rfl rfl rfl rfl (by omega) (by omega) (fun b52 => ?_)
      refine rr_stI3 rfl ?_
      refine rr_aload_n rfl rfl ?_
      refine rr_gfA 1 rfl rfl (by omega) rfl ?_
      refine rr_iload_n rfl rfl ?_
      refine rr_iload_n rfl rfl ?_
      refine rr_ias 1 6 rfl ⟨rfl, by omega⟩ rfl (by omega) (by omega) rfl rfl (by omega) (by omega) ?_
      refine rr_iload_n rfl rfl ?_
      refine rr_iret rfl (Or.inl rfl) ?_
      first | exact rr_eP' (if_pos hk).symm (if_pos hk).symm trivial | exact rr_eP' (if_neg (by omega)).symm (if_neg (by omega)).symm trivial | exact False.elim (by omega)
    · refine rr_iconst rfl ?_
      refine rr_iret rfl (Or.inl rfl) ?_
      first | exact rr_eP' (if_pos hk).symm (if_pos hk).symm trivial | exact rr_eP' (if_neg (by omega)).symm (if_neg (by omega)).symm trivial | exact False.elim (by omega)
  · refine rr_iload_n rfl rfl ?_
    refine rr_cs1B rfl rfl (Nat.le_of_ble_eq_true rfl) (sr_isAirport (d := 0) (by omega)) (by omega) ?_
    refine rr_if_neB rfl rfl (fun h5 => ?_) (fun h5 => ?_)
    · refine rr_iload_n rfl rfl ?_
      refine rr_bipush (x := -12) rfl rfl ?_
      refine rr_bipush (x := 14) rfl rfl ?_
      refine rr_cs3B rfl rfl (Nat.le_of_ble_eq_true rfl) (sr_isIn (d := 0) (by omega) (by omega) (by omega)) (by omega) ?_
      refine rr_if_neB rfl rfl (fun h20 => ?_) (fun h20 => ?_)
      · refine rr_aload_n rfl rfl ?_
        refine rr_gfI 3 rfl rfl (by omega) rfl (fun b28 => ?_)
        refine rr_if_le rfl rfl (by omega) (fun h31 => ?_) (fun h31 => ?_)
        · refine rr_iconst rfl ?_
          exact K39 _ (by unfold kSetZone; omega)
        · refine rr_iconst rfl ?_
          refine rr_goto rfl rfl ?_
          exact K39 _ (by unfold kSetZone; omega)
      · refine rr_iconst rfl ?_
        refine rr_goto rfl rfl ?_
        exact K39 _ (by unfold kSetZone; omega)
    · refine rr_iconst rfl ?_
      refine rr_goto rfl rfl ?_
      exact K39 _ (by unfold kSetZone; omega)
theorem sr_setTax {d : Nat} {s : am_Z} {i v : Int}  (hi : in32 i) (hv : in32 v) : am_CR (d + 2) m_M_setTax [aR 9 0, aI (zI i), aI (zI v)] s (isP (if kSetTax s i v = 0 then wA (wI s 74 (kSetTax s i v)) 2 i v else wI s 74 (kSetTax s i v)) (if kSetTax s i v = 0 then rA s 2 i else 0) (True)) := by
  refine am_CR_i (ls := [some (aR 9 0), some (aI (zI i)), some (aI (zI v)), none]) rfl (fun q0 => ?_)
  refine rr_inS (fun B => ?_)
  have b3 := B.2.1 3 0 12 rfl
  have b20 := B.2.1 20 0 16 rfl
  have b44 := B.2.1 44 0 40 rfl
  have b61 := B.2.1 61 0 20 rfl
  refine rr_aload_n rfl rfl ?_
  refine rr_join (pc' := 28) (V := kSetTax s i v) ?_ (fun K28 => ?_)
  · refine rr_cv1B rfl rfl rfl (Nat.le_of_ble_eq_true rfl) (sr_fails (d := 0) (by unfold kSetTax; omega)) (by omega) ?_
    refine rr_if_eqB rfl rfl (fun h31 => ?_) (fun h31 => ?_)
    · have hk : kSetTax s i v = 0 := by have z : 0 ≤ kSetTax s i v := by { unfold kSetTax; omega }; omega
      have hk2 := hk
      unfold kSetTax at hk2
      refine rr_aload_n rfl rfl ?_
      refine rr_gfA 2 rfl rfl (by omega) rfl ?_
      refine rr_iload_n rfl rfl ?_
      refine rr_iav 2 6 (s) (fun _ => rfl) rfl rfl rfl rfl (by omega) (by omega) (fun b41 => ?_)
      refine rr_stI3 rfl ?_
      refine rr_aload_n rfl rfl ?_
      refine rr_gfA 2 rfl rfl (by omega) rfl ?_
      refine rr_iload_n rfl rfl ?_
      refine rr_iload_n rfl rfl ?_
      refine rr_ias 2 6 rfl ⟨rfl, by omega⟩ rfl (by omega) (by omega) rfl rfl (by omega) (by omega) ?_
      refine rr_iload_n rfl rfl ?_
      refine rr_iret rfl (Or.inl rfl) ?_
      first | exact rr_eP' (if_pos hk).symm (if_pos hk).symm trivial | exact rr_eP' (if_neg (by omega)).symm (if_neg (by omega)).symm trivial | exact False.elim (by omega)
    · refine rr_iconst rfl ?_
      refine rr_iret rfl (Or.inl rfl) ?_
      first | exact rr_eP' (if_pos hk).symm (if_pos hk).symm trivial | exact rr_eP' (if_neg (by omega)).symm (if_neg (by omega)).symm trivial | exact False.elim (by omega)
  · refine rr_iload_n rfl rfl ?_
    refine rr_cs1B rfl rfl (Nat.le_of_ble_eq_true rfl) (sr_isAirport (d := 0) (by omega)) (by omega) ?_
    refine rr_if_neB rfl rfl (fun h5 => ?_) (fun h5 => ?_)
    · refine rr_iload_n rfl rfl ?_
      refine rr_iconst rfl ?_
      refine rr_sipush (x := 500) rfl rfl ?_
      refine rr_cs3B rfl rfl (Nat.le_of_ble_eq_true rfl) (sr_isIn (d := 0) (by omega) (by omega) (by omega)) (by omega) ?_
      refine rr_if_eqB rfl rfl (fun h20 => ?_) (fun h20 => ?_)
      · refine rr_iconst rfl ?_
        exact K28 _ (by unfold kSetTax; omega)
      · refine rr_iconst rfl ?_
        refine rr_goto rfl rfl ?_
        exact K28 _ (by unfold kSetTax; omega)
    · refine rr_iconst rfl ?_
      refine rr_goto rfl rfl ?_
      exact K28 _ (by unfold kSetTax; omega)
theorem sr_limit {d : Nat} {s : am_Z} {f b v : Int}  (hf : in32 f) (hb : in32 b) (hv : in32 v) : am_CR (d + 2) m_M_limit [aR 9 0, aI (zI f), aI (zI b), aI (zI v)] s (isP (if kLimit s f b v = 0 then wA (wI s 74 (kLimit s f b v)) 14 (4 * f + b) v else wI s 74 (kLimit s f b v)) (if kLimit s f b v = 0 then rA s 14 (4 * f + b) else 0) (True)) := by
  refine am_CR_i (ls := [some (aR 9 0), some (aI (zI f)), some (aI (zI b)), some (aI (zI v)), none, none]) rfl (fun q0 => ?_)
  refine rr_inS (fun B => ?_)
  have b3 := B.2.1 3 0 12 rfl
  have b20 := B.2.1 20 0 16 rfl
  have b44 := B.2.1 44 0 40 rfl
  have b61 := B.2.1 61 0 20 rfl
  have b9 := B.1 9 f 0 60 rfl
  refine rr_join (pc' := 20) (V := if (0 ≤ f ∧ f < rI s 3) ∧ 0 ≤ b ∧ b ≤ 3 then 1 else 0) ?_ (fun K20 => ?_)
  · refine rr_stI4 rfl ?_
    refine rr_aload_n rfl rfl ?_
    refine rr_join (pc' := 54) (V := kLimit s f b v) ?_ (fun K54 => ?_)
    · refine rr_cv1B rfl rfl rfl (Nat.le_of_ble_eq_true rfl) (sr_fails (d := 0) (by unfold kLimit; omega)) (by omega) ?_
      refine rr_if_eqB rfl rfl (fun h57 => ?_) (fun h57 => ?_)
      · have hk : kLimit s f b v = 0 := by have z : 0 ≤ kLimit s f b v := by { unfold kLimit; omega }; omega
        have hk2 := hk
        unfold kLimit at hk2
        refine rr_aload_n rfl rfl ?_
        refine rr_gfA 14 rfl rfl (by omega) rfl ?_
        refine rr_iconst rfl ?_
        refine rr_iload_n rfl rfl ?_
        refine rr_imul rfl ?_
        refine rr_iload_n rfl rfl ?_
        refine rr_iadd rfl ?_
        refine rr_iav 14 48 (s) (fun _ => rfl) rfl rfl rfl rfl (by omega) (by omega) (fun b71 => ?_)
        refine rr_stI5 rfl ?_
        refine rr_aload_n rfl rfl ?_
        refine rr_gfA 14 rfl rfl (by omega) rfl ?_
        refine rr_iconst rfl ?_
        refine rr_iload_n rfl rfl ?_
        refine rr_imul rfl ?_
        refine rr_iload_n rfl rfl ?_
        refine rr_iadd rfl ?_
        refine rr_iload_n rfl rfl ?_
        refine rr_ias 14 48 rfl ⟨rfl, by omega⟩ rfl (by omega) (by omega) rfl rfl (by omega) (by omega) ?_
        refine rr_iload rfl rfl ?_
        refine rr_iret rfl (Or.inl rfl) ?_
        first | exact rr_eP' (if_pos hk).symm (if_pos hk).symm trivial | exact rr_eP' (if_neg (by omega)).symm (if_neg (by omega)).symm trivial | exact False.elim (by omega)
      · refine rr_iconst rfl ?_
        refine rr_iret rfl (Or.inl rfl) ?_
        first | exact rr_eP' (if_pos hk).symm (if_pos hk).symm trivial | exact rr_eP' (if_neg (by omega)).symm (if_neg (by omega)).symm trivial | exact False.elim (by omega)
    · refine rr_iload rfl rfl ?_
      refine rr_if_neB rfl rfl (fun h25 => ?_) (fun h25 => ?_)
      · refine rr_iload_n rfl rfl ?_
        refine rr_iconst rfl ?_
        refine rr_aload_n rfl rfl ?_
        refine rr_gfA 9 rfl rfl (by omega) rfl ?_
        refine rr_iload_n rfl rfl ?_
        refine rr_ia 9 12 rfl rfl rfl rfl (by omega) (by omega) (fun b39 => ?_)
        refine rr_bipush (x := 10) rfl rfl ?_
        refine rr_iadd rfl ?_
        refine rr_cs3B rfl rfl (Nat.le_of_ble_eq_true rfl) (sr_isIn (d := 0) (by omega) (by omega) (by omega)) (by omega) ?_
        refine rr_if_eqB rfl rfl (fun h46 => ?_) (fun h46 => ?_)
        · refine rr_iconst rfl ?_
          exact K54 _ (by unfold kLimit; omega)
        · refine rr_iconst rfl ?_
          refine rr_goto rfl rfl ?_
          exact K54 _ (by unfold kLimit; omega)
      · refine rr_iconst rfl ?_
        refine rr_goto rfl rfl ?_
        exact K54 _ (by unfold kLimit; omega)
  · refine rr_aload_n rfl rfl ?_
    refine rr_iload_n rfl rfl ?_
    refine rr_cv1B rfl rfl rfl (Nat.le_of_ble_eq_true rfl) (sr_isFlight (d := 0) (by omega)) (by omega) ?_
    refine rr_if_eqB rfl rfl (fun h5 => ?_) (fun h5 => ?_)
    · refine rr_iconst rfl ?_
      exact K20 _ (by first | omega | (simp_all) | (split <;> omega))
    · refine rr_iload_n rfl rfl ?_
      refine rr_cs1B rfl rfl (Nat.le_of_ble_eq_true rfl) (sr_isBucket (d := 0) (by omega)) (by omega) ?_
      refine rr_if_eqB rfl rfl (fun h12 => ?_) (fun h12 => ?_)
      · refine rr_iconst rfl ?_
        exact K20 _ (by first | omega | (simp_all) | (split <;> omega))
      · refine rr_iconst rfl ?_
        refine rr_goto rfl rfl ?_
        exact K20 _ (by first | omega | (simp_all) | (split <;> omega))
theorem sr_link {d : Nat} {s : am_Z} {f g n : Int}  (hf : in32 f) (hg : in32 g) (hn : n = 0 ∨ n = 1) : am_CR (d + 2) m_M_link [aR 9 0, aI (zI f), aI (zI g), aI (zI n)] s (isP (if kLink s f g = 0 then wA (wA (wI s 74 (kLink s f g)) 15 f g) 16 f n else wI s 74 (kLink s f g)) (if kLink s f g = 0 then rA s 15 f else 0) (True)) := by
  refine am_CR_i (ls := [some (aR 9 0), some (aI (zI f)), some (aI (zI g)), some (aI (zI n)), none, none, none]) rfl (fun q0 => ?_)
  refine rr_inS (fun B => ?_)
  have b3 := B.2.1 3 0 12 rfl
  have b20 := B.2.1 20 0 16 rfl
  have b44 := B.2.1 44 0 40 rfl
  have b61 := B.2.1 61 0 20 rfl
  refine rr_join (pc' := 26) (V := if (0 ≤ f ∧ f < rI s 3) ∧ (g = -1 ∨ 0 ≤ g ∧ g < rI s 3) then 1 else 0) ?_ (fun K26 => ?_)
  · refine rr_stI4 rfl ?_
    refine rr_join (pc' := 58) (V := if ((0 ≤ f ∧ f < rI s 3) ∧ (g = -1 ∨ 0 ≤ g ∧ g < rI s 3)) ∧ (g = -1 ∨ rA s 5 g = rA s 6 f) then 1 else 0) ?_ (fun K58 => ?_)
    · refine rr_stI5 rfl ?_
      refine rr_aload_n rfl rfl ?_
      refine rr_join (pc' := 80) (V := kLink s f g) ?_ (fun K80 => ?_)
      · refine rr_cv1B rfl rfl rfl (Nat.le_of_ble_eq_true rfl) (sr_fails (d := 0) (by unfold kLink; omega)) (by omega) ?_
        refine rr_if_eqB rfl rfl (fun h83 => ?_) (fun h83 => ?_)
        · have hk : kLink s f g = 0 := by have z : 0 ≤ kLink s f g := by { unfold kLink; omega }; omega
          have hk2 := hk
          unfold kLink at hk2
          refine rr_aload_n rfl rfl ?_
          refine rr_gfA 15 rfl rfl (by omega) rfl ?_
          refine rr_iload_n rfl rfl ?_
          refine rr_iav 15 12 (s) (fun _ => rfl) rfl rfl rfl rfl (by omega) (by omega) (fun b93 => ?_)
          refine rr_stI6 rfl ?_
          refine rr_aload_n rfl rfl ?_
          refine rr_gfA 15 rfl rfl (by omega) rfl ?_
          refine rr_iload_n rfl rfl ?_
          refine rr_iload_n rfl rfl ?_
          refine rr_ias 15 12 rfl ⟨rfl, by omega⟩ rfl (by omega) (by omega) rfl rfl (by omega) (by omega) ?_
          refine rr_aload_n rfl rfl ?_
          refine rr_gfA 16 rfl rfl (by omega) rfl ?_
          refine rr_iload_n rfl rfl ?_
          refine rr_join (pc' := 117) (V := n) ?_ (fun K117 => ?_)
          · refine rr_ias 16 12 rfl ⟨rfl, by omega⟩ rfl (by omega) (by omega) rfl rfl (by omega) (by omega) ?_
            refine rr_iload rfl rfl ?_
            refine rr_iret rfl (Or.inl rfl) ?_
            first | exact rr_eP' (if_pos hk).symm (if_pos hk).symm trivial | exact rr_eP' (if_neg (by omega)).symm (if_neg (by omega)).symm trivial | exact False.elim (by omega)
          · refine rr_iload_n rfl rfl ?_
            refine rr_if_eq rfl rfl (by omega) (fun h109 => ?_) (fun h109 => ?_)
            · refine rr_iconst rfl ?_
              exact K117 _ (by first | omega | (simp_all) | (split <;> omega))
            · refine rr_iconst rfl ?_
              refine rr_goto rfl rfl ?_
              exact K117 _ (by first | omega | (simp_all) | (split <;> omega))
        · refine rr_iconst rfl ?_
          refine rr_iret rfl (Or.inl rfl) ?_
          first | exact rr_eP' (if_pos hk).symm (if_pos hk).symm trivial | exact rr_eP' (if_neg (by omega)).symm (if_neg (by omega)).symm trivial | exact False.elim (by omega)
      · refine rr_iload rfl rfl ?_
        refine rr_if_neB rfl rfl (fun h63 => ?_) (fun h63 => ?_)
        · refine rr_iload rfl rfl ?_
          refine rr_if_eqB rfl rfl (fun h72 => ?_) (fun h72 => ?_)
          · refine rr_iconst rfl ?_
            exact K80 _ (by unfold kLink; omega)
          · refine rr_iconst rfl ?_
            refine rr_goto rfl rfl ?_
            exact K80 _ (by unfold kLink; omega)
        · refine rr_iconst rfl ?_
          refine rr_goto rfl rfl ?_
          exact K80 _ (by unfold kLink; omega)
    · refine rr_iload rfl rfl ?_
      refine rr_if_eqB rfl rfl (fun h30 => ?_) (fun h30 => ?_)
      · refine rr_iconst rfl ?_
        exact K58 _ (by first | omega | (simp_all) | (split <;> omega))
      · refine rr_iload_n rfl rfl ?_
        refine rr_iconst rfl ?_
        refine rr_icmp_eq rfl rfl (by omega) (by omega) (fun h35 => ?_) (fun h35 => ?_)
        · refine rr_iconst rfl ?_
          refine rr_goto rfl rfl ?_
          exact K58 _ (by first | omega | (simp_all) | (split <;> omega))
        · refine rr_aload_n rfl rfl ?_
          refine rr_gfA 5 rfl rfl (by omega) rfl ?_
          refine rr_iload_n rfl rfl ?_
          refine rr_ia 5 12 rfl rfl rfl rfl (by omega) (by omega) (fun b43 => ?_)
          refine rr_aload_n rfl rfl ?_
          refine rr_gfA 6 rfl rfl (by omega) rfl ?_
          refine rr_iload_n rfl rfl ?_
          refine rr_ia 6 12 rfl rfl rfl rfl (by omega) (by omega) (fun b49 => ?_)
          refine rr_icmp_ne rfl rfl (by omega) (by omega) (fun h50 => ?_) (fun h50 => ?_)
          · refine rr_iconst rfl ?_
            exact K58 _ (by first | omega | (simp_all) | (split <;> omega))
          · refine rr_iconst rfl ?_
            refine rr_goto rfl rfl ?_
            exact K58 _ (by first | omega | (simp_all) | (split <;> omega))
  · refine rr_aload_n rfl rfl ?_
    refine rr_iload_n rfl rfl ?_
    refine rr_cv1B rfl rfl rfl (Nat.le_of_ble_eq_true rfl) (sr_isFlight (d := 0) (by omega)) (by omega) ?_
    refine rr_if_eqB rfl rfl (fun h5 => ?_) (fun h5 => ?_)
    · refine rr_iconst rfl ?_
      exact K26 _ (by first | omega | (simp_all) | (split <;> omega))
    · refine rr_iload_n rfl rfl ?_
      refine rr_iconst rfl ?_
      refine rr_icmp_eq rfl rfl (by omega) (by omega) (fun h10 => ?_) (fun h10 => ?_)
      · refine rr_iconst rfl ?_
        refine rr_goto rfl rfl ?_
        exact K26 _ (by first | omega | (simp_all) | (split <;> omega))
      · refine rr_aload_n rfl rfl ?_
        refine rr_iload_n rfl rfl ?_
        refine rr_cv1B rfl rfl rfl (Nat.le_of_ble_eq_true rfl) (sr_isFlight (d := 0) (by omega)) (by omega) ?_
        refine rr_if_eqB rfl rfl (fun h18 => ?_) (fun h18 => ?_)
        · refine rr_iconst rfl ?_
          exact K26 _ (by first | omega | (simp_all) | (split <;> omega))
        · refine rr_iconst rfl ?_
          refine rr_goto rfl rfl ?_
          exact K26 _ (by first | omega | (simp_all) | (split <;> omega))
theorem sr_fare {d : Nat} {s : am_Z} {c a b k v : Int}  (hc : in32 c) (ha : in32 a) (hb : in32 b) (hk : in32 k) (hv : in32 v) : am_CR (d + 2) m_M_fare [aR 9 0, aI (zI c), aI (zI a), aI (zI b), aI (zI k), aI (zI v)] s (isP (if kFare s c a b k v = 0 then wI (wA (wA (wA (wA (wA (wA (wA (wA (wI s 74 (kFare s c a b k v)) 21 (rI s 20) c) 22 (rI s 20) a) 23 (rI s 20) b) 24 (rI s 20) k) 25 (rI s 20) v) 26 (rI s 20) (-1)) 27 (rI s 20) 61) 32 (rI s 20) 50) 20 (rI s 20 + 1) else wI s 74 (kFare s c a b k v)) (if kFare s c a b k v = 0 then rI s 20 else 0) (True)) := by
  refine am_CR_i (ls := [some (aR 9 0), some (aI (zI c)), some (aI (zI a)), some (aI (zI b)), some (aI (zI k)), some (aI (zI v)), none]) rfl (fun q0 => ?_)
  refine rr_inS (fun B => ?_)
  have b3 := B.2.1 3 0 12 rfl
  have b20 := B.2.1 20 0 16 rfl
  have b44 := B.2.1 44 0 40 rfl
  have b61 := B.2.1 61 0 20 rfl
  refine rr_join (pc' := 36) (V := if (-1 ≤ c ∧ c ≤ 2) ∧ (0 ≤ a ∧ a ≤ 5) ∧ (0 ≤ b ∧ b ≤ 5) ∧ 0 ≤ k ∧ k ≤ 3 then 1 else 0) ?_ (fun K36 => ?_)
  · refine rr_stI6 rfl ?_
    refine rr_aload_n rfl rfl ?_
    refine rr_join (pc' := 83) (V := kFare s c a b k v) ?_ (fun K83 => ?_)
    · refine rr_cv1B rfl rfl rfl (Nat.le_of_ble_eq_true rfl) (sr_fails (d := 0) (by unfold kFare; omega)) (by omega) ?_
      refine rr_if_eqB rfl rfl (fun h86 => ?_) (fun h86 => ?_)
      · have hk : kFare s c a b k v = 0 := by have z : 0 ≤ kFare s c a b k v := by { unfold kFare; omega }; omega
        have hk2 := hk
        unfold kFare at hk2
        refine rr_aload_n rfl rfl ?_
        refine rr_gfA 21 rfl rfl (by omega) rfl ?_
        refine rr_aload_n rfl rfl ?_
        refine rr_gfIv 20 (s) rfl rfl rfl (by omega) rfl (fun b96 => ?_)
        refine rr_iload_n rfl rfl ?_
        refine rr_ias 21 16 rfl ⟨rfl, by omega⟩ rfl (by omega) (by omega) rfl rfl (by omega) (by omega) ?_
        refine rr_aload_n rfl rfl ?_
        refine rr_gfA 22 rfl rfl (by omega) rfl ?_
        refine rr_aload_n rfl rfl ?_
        refine rr_gfIv 20 (s) rfl rfl rfl (by omega) rfl (fun b106 => ?_)
        refine rr_iload_n rfl rfl ?_
        refine rr_ias 22 16 rfl ⟨rfl, by omega⟩ rfl (by omega) (by omega) rfl rfl (by omega) (by omega) ?_
        refine rr_aload_n rfl rfl ?_
        refine rr_gfA 23 rfl rfl (by omega) rfl ?_
        refine rr_aload_n rfl rfl ?_
        refine rr_gfIv 20 (s) rfl rfl rfl (by omega) rfl (fun b116 => ?_)
        refine rr_iload_n rfl rfl ?_
        refine rr_ias 23 16 rfl ⟨rfl, by omega⟩ rfl (by omega) (by omega) rfl rfl (by omega) (by omega) ?_
        refine rr_aload_n rfl rfl ?_
        refine rr_gfA 24 rfl rfl (by omega) rfl ?_
        refine rr_aload_n rfl rfl ?_
        refine rr_gfIv 20 (s) rfl rfl rfl (by omega) rfl (fun b126 => ?_)
        refine rr_iload rfl rfl ?_
        refine rr_ias 24 16 rfl ⟨rfl, by omega⟩ rfl (by omega) (by omega) rfl rfl (by omega) (by omega) ?_
        refine rr_aload_n rfl rfl ?_
        refine rr_gfA 25 rfl rfl (by omega) rfl ?_
        refine rr_aload_n rfl rfl ?_
        refine rr_gfIv 20 (s) rfl rfl rfl (by omega) rfl (fun b137 => ?_)
        refine rr_iload rfl rfl ?_
        refine rr_ias 25 16 rfl ⟨rfl, by omega⟩ rfl (by omega) (by omega) rfl rfl (by omega) (by omega) ?_
        refine rr_aload_n rfl rfl ?_
        refine rr_gfA 26 rfl rfl (by omega) rfl ?_
        refine rr_aload_n rfl rfl ?_
        refine rr_gfIv 20 (s) rfl rfl rfl (by omega) rfl (fun b148 => ?_)
        refine rr_iconst rfl ?_
        refine rr_ias 26 16 rfl ⟨rfl, by omega⟩ rfl (by omega) (by omega) rfl rfl (by omega) (by omega) ?_
        refine rr_aload_n rfl rfl ?_
        refine rr_gfA 27 rfl rfl (by omega) rfl ?_
        refine rr_aload_n rfl rfl ?_
        refine rr_gfIv 20 (s) rfl rfl rfl (by omega) rfl (fun b158 => ?_)
        refine rr_bipush (x := 61) rfl rfl ?_
        refine rr_ias 27 16 rfl ⟨rfl, by omega⟩ rfl (by omega) (by omega) rfl rfl (by omega) (by omega) ?_
        refine rr_aload_n rfl rfl ?_
        refine rr_gfA 32 rfl rfl (by omega) rfl ?_
        refine rr_aload_n rfl rfl ?_
        refine rr_gfIv 20 (s) rfl rfl rfl (by omega) rfl (fun b169 => ?_)
        refine rr_bipush (x := 50) rfl rfl ?_
        refine rr_ias 32 16 rfl ⟨rfl, by omega⟩ rfl (by omega) (by omega) rfl rfl (by omega) (by omega) ?_
        refine rr_aload_n rfl rfl ?_
        refine rr_dup rfl rfl ?_
        refine rr_gfIv 20 (s) rfl rfl rfl (by omega) rfl (fun b177 => ?_)
        refine rr_iconst rfl ?_
        refine rr_iadd rfl ?_
        refine rr_pfI 20 rfl rfl rfl rfl (by omega) rfl (by omega) ?_
        refine rr_aload_n rfl rfl ?_
        refine rr_gfI 20 rfl rfl (by omega) rfl (fun b186 => ?_)
        refine rr_iconst rfl ?_
        refine rr_isub rfl ?_
        refine rr_iret rfl (Or.inl rfl) ?_
        first | exact rr_eP' ((show rI s 20 + 1 - 1 = rI s 20 by omega).trans (if_pos hk).symm) (if_pos hk).symm trivial | exact rr_eP' (if_neg (by omega)).symm (if_neg (by omega)).symm trivial | exact False.elim (by omega)
      · refine rr_iconst rfl ?_
        refine rr_iret rfl (Or.inl rfl) ?_
        first | exact rr_eP' ((show rI s 20 + 1 - 1 = rI s 20 by omega).trans (if_pos hk).symm) (if_pos hk).symm trivial | exact rr_eP' (if_neg (by omega)).symm (if_neg (by omega)).symm trivial | exact False.elim (by omega)
    · refine rr_iload rfl rfl ?_
      refine rr_if_neB rfl rfl (fun h41 => ?_) (fun h41 => ?_)
      · refine rr_iload_n rfl rfl ?_
        refine rr_iload_n rfl rfl ?_
        refine rr_icmp_eq rfl rfl (by omega) (by omega) (fun h50 => ?_) (fun h50 => ?_)
        · refine rr_iconst rfl ?_
          refine rr_goto rfl rfl ?_
          exact K83 _ (by unfold kFare; omega)
        · refine rr_iload rfl rfl ?_
          refine rr_iconst rfl ?_
          refine rr_sipush (x := 5000) rfl rfl ?_
          refine rr_cs3B rfl rfl (Nat.le_of_ble_eq_true rfl) (sr_isIn (d := 0) (by omega) (by omega) (by omega)) (by omega) ?_
          refine rr_if_neB rfl rfl (fun h62 => ?_) (fun h62 => ?_)
          · refine rr_aload_n rfl rfl ?_
            refine rr_gfI 20 rfl rfl (by omega) rfl (fun b70 => ?_)
            refine rr_bipush (x := 16) rfl rfl ?_
            refine rr_icmp_ne rfl rfl (by omega) (by omega) (fun h75 => ?_) (fun h75 => ?_)
            · refine rr_iconst rfl ?_
              exact K83 _ (by unfold kFare; omega)
            · refine rr_iconst rfl ?_
              refine rr_goto rfl rfl ?_
              exact K83 _ (by unfold kFare; omega)
          · refine rr_iconst rfl ?_
            refine rr_goto rfl rfl ?_
            exact K83 _ (by unfold kFare; omega)
      · refine rr_iconst rfl ?_
        refine rr_goto rfl rfl ?_
        exact K83 _ (by unfold kFare; omega)
  · refine rr_iload_n rfl rfl ?_
    refine rr_iconst rfl ?_
    refine rr_iconst rfl ?_
    refine rr_cs3B rfl rfl (Nat.le_of_ble_eq_true rfl) (sr_isIn (d := 0) (by omega) (by omega) (by omega)) (by omega) ?_
    refine rr_if_eqB rfl rfl (fun h6 => ?_) (fun h6 => ?_)
    · refine rr_iconst rfl ?_
      exact K36 _ (by first | omega | (simp_all) | (split <;> omega))
    · refine rr_iload_n rfl rfl ?_
      refine rr_cs1B rfl rfl (Nat.le_of_ble_eq_true rfl) (sr_isAirport (d := 0) (by omega)) (by omega) ?_
      refine rr_if_eqB rfl rfl (fun h13 => ?_) (fun h13 => ?_)
      · refine rr_iconst rfl ?_
        exact K36 _ (by first | omega | (simp_all) | (split <;> omega))
      · refine rr_iload_n rfl rfl ?_
        refine rr_cs1B rfl rfl (Nat.le_of_ble_eq_true rfl) (sr_isAirport (d := 0) (by omega)) (by omega) ?_
        refine rr_if_eqB rfl rfl (fun h20 => ?_) (fun h20 => ?_)
        · refine rr_iconst rfl ?_
          exact K36 _ (by first | omega | (simp_all) | (split <;> omega))
        · refine rr_iload rfl rfl ?_
          refine rr_cs1B rfl rfl (Nat.le_of_ble_eq_true rfl) (sr_isBucket (d := 0) (by omega)) (by omega) ?_
          refine rr_if_eqB rfl rfl (fun h28 => ?_) (fun h28 => ?_)
          · refine rr_iconst rfl ?_
            exact K36 _ (by first | omega | (simp_all) | (split <;> omega))
          · refine rr_iconst rfl ?_
            refine rr_goto rfl rfl ?_
            exact K36 _ (by first | omega | (simp_all) | (split <;> omega))
theorem sr_rules {d : Nat} {s : am_Z} {f a b ad h st w : Int}  (hf : in32 f) (ha : in32 a) (hb : in32 b) (had : in32 ad) (hst : in32 st) (hh : h = 0 ∨ h = 1) (hw : w = 0 ∨ w = 1) : am_CR (d + 2) m_M_rules [aR 9 0, aI (zI f), aI (zI a), aI (zI b), aI (zI ad), aI (zI h), aI (zI st), aI (zI w)] s (isW (if kRules s f a b ad st = 0 then wA (wA (wA (wA (wA (wA (wI s 74 (kRules s f a b ad st)) 26 f a) 27 f b) 28 f ad) 29 f h) 30 f st) 31 f w else wI s 74 (kRules s f a b ad st))) := by
  refine am_CR_i (ls := [some (aR 9 0), some (aI (zI f)), some (aI (zI a)), some (aI (zI b)), some (aI (zI ad)), some (aI (zI h)), some (aI (zI st)), some (aI (zI w)), none, none]) rfl (fun q0 => ?_)
  refine rr_inS (fun B => ?_)
  have b3 := B.2.1 3 0 12 rfl
  have b20 := B.2.1 20 0 16 rfl
  have b44 := B.2.1 44 0 40 rfl
  have b61 := B.2.1 61 0 20 rfl
  refine rr_aload_n rfl rfl ?_
  refine rr_iload_n rfl rfl ?_
  refine rr_cv1B rfl rfl rfl (Nat.le_of_ble_eq_true rfl) (sr_isFare (d := 0) (by omega)) (by omega) ?_
  refine rr_stI8 rfl ?_
  refine rr_join (pc' := 54) (V := if (-1 ≤ a ∧ a ≤ 61) ∧ (a ≤ b ∧ b ≤ 61) ∧ (0 ≤ ad ∧ ad ≤ 30) ∧ 0 ≤ st ∧ st ≤ 30 then 1 else 0) ?_ (fun K54 => ?_)
  · refine rr_stI9 rfl ?_
    refine rr_aload_n rfl rfl ?_
    refine rr_join (pc' := 76) (V := kRules s f a b ad st) ?_ (fun K76 => ?_)
    · refine rr_cv1B rfl rfl rfl (Nat.le_of_ble_eq_true rfl) (sr_fails (d := 0) (by unfold kRules; omega)) (by omega) ?_
      refine rr_if_neB rfl rfl (fun h79 => ?_) (fun h79 => ?_)
      · first | (exact rr_ret rfl rfl ⟨rfl, (if_pos hk).symm⟩) | (exact rr_ret rfl rfl ⟨rfl, (if_neg (by omega)).symm⟩)
      · have hk : kRules s f a b ad st = 0 := by have z : 0 ≤ kRules s f a b ad st := by { unfold kRules; omega }; omega
        have hk2 := hk
        unfold kRules at hk2
        refine rr_aload_n rfl rfl ?_
        refine rr_gfA 26 rfl rfl (by omega) rfl ?_
        refine rr_iload_n rfl rfl ?_
        refine rr_iload_n rfl rfl ?_
        refine rr_ias 26 16 rfl ⟨rfl, by omega⟩ rfl (by omega) (by omega) rfl rfl (by omega) (by omega) ?_
        refine rr_aload_n rfl rfl ?_
        refine rr_gfA 27 rfl rfl (by omega) rfl ?_
        refine rr_iload_n rfl rfl ?_
        refine rr_iload_n rfl rfl ?_
        refine rr_ias 27 16 rfl ⟨rfl, by omega⟩ rfl (by omega) (by omega) rfl rfl (by omega) (by omega) ?_
        refine rr_aload_n rfl rfl ?_
        refine rr_gfA 28 rfl rfl (by omega) rfl ?_
        refine rr_iload_n rfl rfl ?_
        refine rr_iload rfl rfl ?_
        refine rr_ias 28 16 rfl ⟨rfl, by omega⟩ rfl (by omega) (by omega) rfl rfl (by omega) (by omega) ?_
        refine rr_aload_n rfl rfl ?_
        refine rr_gfA 29 rfl rfl (by omega) rfl ?_
        refine rr_iload_n rfl rfl ?_
        refine rr_iload rfl rfl ?_
        refine rr_bas 29 16 rfl rfl rfl (by omega) (by omega) rfl rfl (by omega) (by omega) ?_
        refine rr_aload_n rfl rfl ?_
        refine rr_gfA 30 rfl rfl (by omega) rfl ?_
        refine rr_iload_n rfl rfl ?_
        refine rr_iload rfl rfl ?_
        refine rr_ias 30 16 rfl ⟨rfl, by omega⟩ rfl (by omega) (by omega) rfl rfl (by omega) (by omega) ?_
        refine rr_aload_n rfl rfl ?_
        refine rr_gfA 31 rfl rfl (by omega) rfl ?_
        refine rr_iload_n rfl rfl ?_
        refine rr_iload rfl rfl ?_
        refine rr_bas 31 16 rfl rfl rfl (by omega) (by omega) rfl rfl (by omega) (by omega) ?_
        first | (exact rr_ret rfl rfl ⟨rfl, (if_pos hk).symm⟩) | (exact rr_ret rfl rfl ⟨rfl, (if_neg (by omega)).symm⟩)
    · refine rr_iload rfl rfl ?_
      refine rr_if_neB rfl rfl (fun h59 => ?_) (fun h59 => ?_)
      · refine rr_iload rfl rfl ?_
        refine rr_if_eqB rfl rfl (fun h68 => ?_) (fun h68 => ?_)
        · refine rr_iconst rfl ?_
          exact K76 _ (by unfold kRules; omega)
        · refine rr_iconst rfl ?_
          refine rr_goto rfl rfl ?_
          exact K76 _ (by unfold kRules; omega)
      · refine rr_iconst rfl ?_
        refine rr_goto rfl rfl ?_
        exact K76 _ (by unfold kRules; omega)
  · refine rr_iload_n rfl rfl ?_
    refine rr_iconst rfl ?_
    refine rr_bipush (x := 61) rfl rfl ?_
    refine rr_cs3B rfl rfl (Nat.le_of_ble_eq_true rfl) (sr_isIn (d := 0) (by omega) (by omega) (by omega)) (by omega) ?_
    refine rr_if_eqB rfl rfl (fun h14 => ?_) (fun h14 => ?_)
    · refine rr_iconst rfl ?_
      exact K54 _ (by first | omega | (simp_all) | (split <;> omega))
    · refine rr_iload_n rfl rfl ?_
      refine rr_iload_n rfl rfl ?_
      refine rr_bipush (x := 61) rfl rfl ?_
      refine rr_cs3B rfl rfl (Nat.le_of_ble_eq_true rfl) (sr_isIn (d := 0) (by omega) (by omega) (by omega)) (by omega) ?_
      refine rr_if_eqB rfl rfl (fun h24 => ?_) (fun h24 => ?_)
      · refine rr_iconst rfl ?_
        exact K54 _ (by first | omega | (simp_all) | (split <;> omega))
      · refine rr_iload rfl rfl ?_
        refine rr_iconst rfl ?_
        refine rr_bipush (x := 30) rfl rfl ?_
        refine rr_cs3B rfl rfl (Nat.le_of_ble_eq_true rfl) (sr_isIn (d := 0) (by omega) (by omega) (by omega)) (by omega) ?_
        refine rr_if_eqB rfl rfl (fun h35 => ?_) (fun h35 => ?_)
        · refine rr_iconst rfl ?_
          exact K54 _ (by first | omega | (simp_all) | (split <;> omega))
        · refine rr_iload rfl rfl ?_
          refine rr_iconst rfl ?_
          refine rr_bipush (x := 30) rfl rfl ?_
          refine rr_cs3B rfl rfl (Nat.le_of_ble_eq_true rfl) (sr_isIn (d := 0) (by omega) (by omega) (by omega)) (by omega) ?_
          refine rr_if_eqB rfl rfl (fun h46 => ?_) (fun h46 => ?_)
          · refine rr_iconst rfl ?_
            exact K54 _ (by first | omega | (simp_all) | (split <;> omega))
          · refine rr_iconst rfl ?_
            refine rr_goto rfl rfl ?_
            exact K54 _ (by first | omega | (simp_all) | (split <;> omega))
theorem sr_back {d : Nat} {s : am_Z} {f v : Int}  (hf : in32 f) (hv : in32 v) : am_CR (d + 2) m_M_back [aR 9 0, aI (zI f), aI (zI v)] s (isP (if kBack s f v = 0 then wA (wI s 74 (kBack s f v)) 32 f v else wI s 74 (kBack s f v)) (if kBack s f v = 0 then rA s 32 f else 0) (True)) := by
  refine am_CR_i (ls := [some (aR 9 0), some (aI (zI f)), some (aI (zI v)), none]) rfl (fun q0 => ?_)
  refine rr_inS (fun B => ?_)
  have b3 := B.2.1 3 0 12 rfl
  have b20 := B.2.1 20 0 16 rfl
  have b44 := B.2.1 44 0 40 rfl
  have b61 := B.2.1 61 0 20 rfl
  refine rr_aload_n rfl rfl ?_
  refine rr_join (pc' := 28) (V := kBack s f v) ?_ (fun K28 => ?_)
  · refine rr_cv1B rfl rfl rfl (Nat.le_of_ble_eq_true rfl) (sr_fails (d := 0) (by unfold kBack; omega)) (by omega) ?_
    refine rr_if_eqB rfl rfl (fun h31 => ?_) (fun h31 => ?_)
    · have hk : kBack s f v = 0 := by have z : 0 ≤ kBack s f v := by { unfold kBack; omega }; omega
      have hk2 := hk
      unfold kBack at hk2
      refine rr_aload_n rfl rfl ?_
      refine rr_gfA 32 rfl rfl (by omega) rfl ?_
      refine rr_iload_n rfl rfl ?_
      refine rr_iav 32 16 (s) (fun _ => rfl) rfl rfl rfl rfl (by omega) (by omega) (fun b41 => ?_)
      refine rr_stI3 rfl ?_
      refine rr_aload_n rfl rfl ?_
      refine rr_gfA 32 rfl rfl (by omega) rfl ?_
      refine rr_iload_n rfl rfl ?_
      refine rr_iload_n rfl rfl ?_
      refine rr_ias 32 16 rfl ⟨rfl, by omega⟩ rfl (by omega) (by omega) rfl rfl (by omega) (by omega) ?_
      refine rr_iload_n rfl rfl ?_
      refine rr_iret rfl (Or.inl rfl) ?_
      first | exact rr_eP' (if_pos hk).symm (if_pos hk).symm trivial | exact rr_eP' (if_neg (by omega)).symm (if_neg (by omega)).symm trivial | exact False.elim (by omega)
    · refine rr_iconst rfl ?_
      refine rr_iret rfl (Or.inl rfl) ?_
      first | exact rr_eP' (if_pos hk).symm (if_pos hk).symm trivial | exact rr_eP' (if_neg (by omega)).symm (if_neg (by omega)).symm trivial | exact False.elim (by omega)
  · refine rr_aload_n rfl rfl ?_
    refine rr_iload_n rfl rfl ?_
    refine rr_cv1B rfl rfl rfl (Nat.le_of_ble_eq_true rfl) (sr_isFare (d := 0) (by omega)) (by omega) ?_
    refine rr_if_neB rfl rfl (fun h6 => ?_) (fun h6 => ?_)
    · refine rr_iload_n rfl rfl ?_
      refine rr_iconst rfl ?_
      refine rr_bipush (x := 100) rfl rfl ?_
      refine rr_cs3B rfl rfl (Nat.le_of_ble_eq_true rfl) (sr_isIn (d := 0) (by omega) (by omega) (by omega)) (by omega) ?_
      refine rr_if_eqB rfl rfl (fun h20 => ?_) (fun h20 => ?_)
      · refine rr_iconst rfl ?_
        exact K28 _ (by unfold kBack; omega)
      · refine rr_iconst rfl ?_
        refine rr_goto rfl rfl ?_
        exact K28 _ (by unfold kBack; omega)
    · refine rr_iconst rfl ?_
      refine rr_goto rfl rfl ?_
      exact K28 _ (by unfold kBack; omega)
theorem sr_departure {d : Nat} {s : am_Z} {l : Int}  (hl : in32 l) : am_CR (d + 3) m_M_departure [aR 9 0, aI (zI l)] s (isP (if kLeg1 s l = 0 then wI s 74 (kLeg1 s l) else wI s 74 (kLeg1 s l)) (if kLeg1 s l = 0 then dep s l else 0) (True)) := by
  refine am_CR_i (ls := [some (aR 9 0), some (aI (zI l))]) rfl (fun q0 => ?_)
  refine rr_inS (fun B => ?_)
  have b3 := B.2.1 3 0 12 rfl
  have b20 := B.2.1 20 0 16 rfl
  have b44 := B.2.1 44 0 40 rfl
  have b61 := B.2.1 61 0 20 rfl
  refine rr_aload_n rfl rfl ?_
  refine rr_join (pc' := 14) (V := kLeg1 s l) ?_ (fun K14 => ?_)
  · refine rr_cv1B rfl rfl rfl (Nat.le_of_ble_eq_true rfl) (sr_fails (d := 0) (by unfold kLeg1; omega)) (by omega) ?_
    refine rr_if_eqB rfl rfl (fun h17 => ?_) (fun h17 => ?_)
    · have hk : kLeg1 s l = 0 := by have z : 0 ≤ kLeg1 s l := by { unfold kLeg1; omega }; omega
      have hk2 := hk
      unfold kLeg1 at hk2
      refine rr_inS (fun B => ?_)
      have b3 := B.2.1 3 0 12 rfl
      have e3 : rI (wI s 74 (kLeg1 s l)) 3 = rI s 3 := rfl
      refine rr_aload_n rfl rfl ?_
      refine rr_iload_n rfl rfl ?_
      refine rr_cv1P rfl rfl rfl (Nat.le_of_ble_eq_true rfl) (sr_departs (d := 0) (by omega)) (by omega) (fun b26 => ?_)
      refine rr_iret rfl (Or.inl rfl) ?_
      first | exact rr_eP' (if_pos hk).symm (if_pos hk).symm trivial | exact rr_eP' (if_neg (by omega)).symm (if_neg (by omega)).symm trivial | exact False.elim (by omega)
    · refine rr_iconst rfl ?_
      refine rr_goto rfl rfl ?_
      refine rr_iret rfl (Or.inl rfl) ?_
      first | exact rr_eP' (if_pos hk).symm (if_pos hk).symm trivial | exact rr_eP' (if_neg (by omega)).symm (if_neg (by omega)).symm trivial | exact False.elim (by omega)
  · refine rr_aload_n rfl rfl ?_
    refine rr_iload_n rfl rfl ?_
    refine rr_cv1B rfl rfl rfl (Nat.le_of_ble_eq_true rfl) (sr_isLeg (d := 0) (by omega)) (by omega) ?_
    refine rr_if_eqB rfl rfl (fun h6 => ?_) (fun h6 => ?_)
    · refine rr_iconst rfl ?_
      exact K14 _ (by unfold kLeg1; omega)
    · refine rr_iconst rfl ?_
      refine rr_goto rfl rfl ?_
      exact K14 _ (by unfold kLeg1; omega)
theorem sr_standing {d : Nat} {s : am_Z} {l : Int}  (hl : in32 l) : am_CR (d + 3) m_M_standing [aR 9 0, aI (zI l)] s (isP (if kLeg1 s l = 0 then wI s 74 (kLeg1 s l) else wI s 74 (kLeg1 s l)) (if kLeg1 s l = 0 then standing s l else 0) (True)) := by
  refine am_CR_i (ls := [some (aR 9 0), some (aI (zI l))]) rfl (fun q0 => ?_)
  refine rr_inS (fun B => ?_)
  have b3 := B.2.1 3 0 12 rfl
  have b20 := B.2.1 20 0 16 rfl
  have b44 := B.2.1 44 0 40 rfl
  have b61 := B.2.1 61 0 20 rfl
  refine rr_aload_n rfl rfl ?_
  refine rr_join (pc' := 14) (V := kLeg1 s l) ?_ (fun K14 => ?_)
  · refine rr_cv1B rfl rfl rfl (Nat.le_of_ble_eq_true rfl) (sr_fails (d := 0) (by unfold kLeg1; omega)) (by omega) ?_
    refine rr_if_eqB rfl rfl (fun h17 => ?_) (fun h17 => ?_)
    · have hk : kLeg1 s l = 0 := by have z : 0 ≤ kLeg1 s l := by { unfold kLeg1; omega }; omega
      have hk2 := hk
      unfold kLeg1 at hk2
      refine rr_inS (fun B => ?_)
      have b3 := B.2.1 3 0 12 rfl
      have e3 : rI (wI s 74 (kLeg1 s l)) 3 = rI s 3 := rfl
      refine rr_bipush (x := 10) rfl rfl ?_
      refine rr_aload_n rfl rfl ?_
      refine rr_gfA 17 rfl rfl (by omega) rfl ?_
      refine rr_iload_n rfl rfl ?_
      refine rr_cs1P rfl rfl (Nat.le_of_ble_eq_true rfl) (sr_at (d := 0) (by omega)) (by omega) (fun b31 => ?_)
      refine rr_iav 17 732 (s) (fun _ => rfl) rfl rfl rfl rfl (by omega) (by omega) (fun b34 => ?_)
      refine rr_imul rfl ?_
      refine rr_join (pc' := 65) (V := if rA s 18 (61 * (l / 100) + l % 100) ≠ 0 then 2 else if goneP s l then 1 else 0) ?_ (fun K65 => ?_)
      · refine rr_iadd rfl ?_
        refine rr_iret rfl (Or.inl rfl) ?_
        first | exact rr_eP' (if_pos hk).symm (if_pos hk).symm trivial | exact rr_eP' (if_neg (by omega)).symm (if_neg (by omega)).symm trivial | exact False.elim (by omega)
      · refine rr_aload_n rfl rfl ?_
        refine rr_gfA 18 rfl rfl (by omega) rfl ?_
        refine rr_iload_n rfl rfl ?_
        refine rr_cs1P rfl rfl (Nat.le_of_ble_eq_true rfl) (sr_at (d := 0) (by omega)) (by omega) (fun b41 => ?_)
        refine rr_bav 18 732 (s) (fun _ => rfl) rfl rfl rfl rfl (by omega) (by omega) (fun b44 => ?_)
        refine rr_if_eq rfl rfl (by omega) (fun h45 => ?_) (fun h45 => ?_)
        · refine rr_aload_n rfl rfl ?_
          refine rr_iload_n rfl rfl ?_
          refine rr_cv1B rfl rfl rfl (Nat.le_of_ble_eq_true rfl) (sr_hasDeparted (d := 0) (by omega)) (by omega) ?_
          refine rr_if_eqB rfl rfl (fun h57 => ?_) (fun h57 => ?_)
          · refine rr_iconst rfl ?_
            exact K65 _ (by first | omega | (have e : dep (wI s 74 (kLeg1 s l)) l = dep s l := rfl; have e2 : rI (wI s 74 (kLeg1 s l)) 0 = rI s 0 := rfl; have e4 : rA (wI s 74 (kLeg1 s l)) 18 (61 * (l / 100) + l % 100) = rA s 18 (61 * (l / 100) + l % 100) := rfl; omega))
          · refine rr_iconst rfl ?_
            refine rr_goto rfl rfl ?_
            exact K65 _ (by first | omega | (have e : dep (wI s 74 (kLeg1 s l)) l = dep s l := rfl; have e2 : rI (wI s 74 (kLeg1 s l)) 0 = rI s 0 := rfl; have e4 : rA (wI s 74 (kLeg1 s l)) 18 (61 * (l / 100) + l % 100) = rA s 18 (61 * (l / 100) + l % 100) := rfl; omega))
        · refine rr_iconst rfl ?_
          refine rr_goto rfl rfl ?_
          exact K65 _ (by first | omega | (have e : dep (wI s 74 (kLeg1 s l)) l = dep s l := rfl; have e2 : rI (wI s 74 (kLeg1 s l)) 0 = rI s 0 := rfl; have e4 : rA (wI s 74 (kLeg1 s l)) 18 (61 * (l / 100) + l % 100) = rA s 18 (61 * (l / 100) + l % 100) := rfl; omega))
    · refine rr_iconst rfl ?_
      refine rr_goto rfl rfl ?_
      refine rr_iret rfl (Or.inl rfl) ?_
      first | exact rr_eP' (if_pos hk).symm (if_pos hk).symm trivial | exact rr_eP' (if_neg (by omega)).symm (if_neg (by omega)).symm trivial | exact False.elim (by omega)
  · refine rr_aload_n rfl rfl ?_
    refine rr_iload_n rfl rfl ?_
    refine rr_cv1B rfl rfl rfl (Nat.le_of_ble_eq_true rfl) (sr_isLeg (d := 0) (by omega)) (by omega) ?_
    refine rr_if_eqB rfl rfl (fun h6 => ?_) (fun h6 => ?_)
    · refine rr_iconst rfl ?_
      exact K14 _ (by unfold kLeg1; omega)
    · refine rr_iconst rfl ?_
      refine rr_goto rfl rfl ?_
      exact K14 _ (by unfold kLeg1; omega)
theorem sr_open {d : Nat} {s : am_Z} {l b : Int}  (hl : in32 l) (hb : in32 b) : am_CR (d + 4) m_M_open [aR 9 0, aI (zI l), aI (zI b)] s (isP (if kOpen s l b = 0 then wI s 74 (kOpen s l b) else wI s 74 (kOpen s l b)) (if kOpen s l b = 0 then openS s l b else 0) (True)) := by
  refine am_CR_i (ls := [some (aR 9 0), some (aI (zI l)), some (aI (zI b)), none]) rfl (fun q0 => ?_)
  refine rr_inS (fun B => ?_)
  have b3 := B.2.1 3 0 12 rfl
  have b20 := B.2.1 20 0 16 rfl
  have b44 := B.2.1 44 0 40 rfl
  have b61 := B.2.1 61 0 20 rfl
  refine rr_join (pc' := 20) (V := if legP s l ∧ 0 ≤ b ∧ b ≤ 3 then 1 else 0) ?_ (fun K20 => ?_)
  · refine rr_stI3 rfl ?_
    refine rr_aload_n rfl rfl ?_
    refine rr_join (pc' := 31) (V := kOpen s l b) ?_ (fun K31 => ?_)
    · refine rr_cv1B rfl rfl rfl (Nat.le_of_ble_eq_true rfl) (sr_fails (d := 0) (by unfold kOpen; omega)) (by omega) ?_
      refine rr_if_eqB rfl rfl (fun h34 => ?_) (fun h34 => ?_)
      · have hk : kOpen s l b = 0 := by have z : 0 ≤ kOpen s l b := by { unfold kOpen; omega }; omega
        have hk2 := hk
        unfold kOpen at hk2
        refine rr_inS (fun B => ?_)
        have b3 := B.2.1 3 0 12 rfl
        have e3 : rI (wI s 74 (kOpen s l b)) 3 = rI s 3 := rfl
        refine rr_aload_n rfl rfl ?_
        refine rr_iload_n rfl rfl ?_
        refine rr_iload_n rfl rfl ?_
        refine rr_cv2P rfl rfl rfl (Nat.le_of_ble_eq_true rfl) (sr_openIn (d := 0) (by omega) (by omega)) (by omega) (fun b44 => ?_)
        refine rr_iret rfl (Or.inl rfl) ?_
        first | exact rr_eP' ((openS_cg (s := s) (s' := wI s 74 (kOpen s l b)) (fun _ _ _ => rfl) rfl rfl l b).trans (if_pos hk).symm) (if_pos hk).symm trivial | exact rr_eP' (if_neg (by omega)).symm (if_neg (by omega)).symm trivial | exact False.elim (by omega)
      · refine rr_iconst rfl ?_
        refine rr_goto rfl rfl ?_
        refine rr_iret rfl (Or.inl rfl) ?_
        first | exact rr_eP' ((openS_cg (s := s) (s' := wI s 74 (kOpen s l b)) (fun _ _ _ => rfl) rfl rfl l b).trans (if_pos hk).symm) (if_pos hk).symm trivial | exact rr_eP' (if_neg (by omega)).symm (if_neg (by omega)).symm trivial | exact False.elim (by omega)
    · refine rr_iload_n rfl rfl ?_
      refine rr_if_eqB rfl rfl (fun h23 => ?_) (fun h23 => ?_)
      · refine rr_iconst rfl ?_
        exact K31 _ (by unfold kOpen; omega)
      · refine rr_iconst rfl ?_
        refine rr_goto rfl rfl ?_
        exact K31 _ (by unfold kOpen; omega)
  · refine rr_aload_n rfl rfl ?_
    refine rr_iload_n rfl rfl ?_
    refine rr_cv1B rfl rfl rfl (Nat.le_of_ble_eq_true rfl) (sr_isLeg (d := 0) (by omega)) (by omega) ?_
    refine rr_if_eqB rfl rfl (fun h5 => ?_) (fun h5 => ?_)
    · refine rr_iconst rfl ?_
      exact K20 _ (by first | omega | (simp_all) | (split <;> omega))
    · refine rr_iload_n rfl rfl ?_
      refine rr_cs1B rfl rfl (Nat.le_of_ble_eq_true rfl) (sr_isBucket (d := 0) (by omega)) (by omega) ?_
      refine rr_if_eqB rfl rfl (fun h12 => ?_) (fun h12 => ?_)
      · refine rr_iconst rfl ?_
        exact K20 _ (by first | omega | (simp_all) | (split <;> omega))
      · refine rr_iconst rfl ?_
        refine rr_goto rfl rfl ?_
        exact K20 _ (by first | omega | (simp_all) | (split <;> omega))
/-- a block of an array written -/
def wB (s : am_Z) (j : Nat) (a : Int) (n : Nat) (g : Int → Int) : am_Z := (fun j' i' => if j' = j ∧ a ≤ i' ∧ i' < a + n then g i' else s.1 j' i', s.2)
theorem wB_A (s : am_Z) (j : Nat) (a : Int) (n : Nat) (g : Int → Int) (j' : Nat) (i' : Int) : rA (wB s j a n g) j' i' = if j' = j ∧ a ≤ i' ∧ i' < a + n then g i' else rA s j' i' := rfl
theorem wB_I (s : am_Z) (j : Nat) (a : Int) (n : Nat) (g : Int → Int) (j' : Nat) : rI (wB s j a n g) j' = rI s j' := rfl
theorem wB_0 (s : am_Z) (j : Nat) (a : Int) (g : Int → Int) : wB s j a 0 g = s := by
  unfold wB
  refine Prod.ext (funext fun j' => funext fun i' => ?_) rfl
  exact if_neg (fun h => by have := h.2; omega)
theorem wB_s (s : am_Z) (j : Nat) (a : Int) (n : Nat) (g : Int → Int) : wA (wB s j a n g) j (a + n) (g (a + n)) = wB s j a (n + 1) g := by
  unfold wA wB
  refine Prod.ext (funext fun j' => funext fun i' => ?_) rfl
  show (if j' = j ∧ i' = a + n then g (a + n) else if j' = j ∧ a ≤ i' ∧ i' < a + n then g i' else s.1 j' i') = if j' = j ∧ a ≤ i' ∧ i' < a + (n + 1 : Nat) then g i' else s.1 j' i'
  by_cases h1 : j' = j
  · by_cases h2 : i' = a + n
    · rw [if_pos ⟨h1, h2⟩, if_pos ⟨h1, by omega, by omega⟩, h2]
    · rw [if_neg (fun h => h2 h.2)]
      by_cases h3 : a ≤ i' ∧ i' < a + n
      · rw [if_pos ⟨h1, h3⟩, if_pos ⟨h1, by omega, by omega⟩]
      · rw [if_neg (fun h => h3 h.2), if_neg (fun h => h3 ⟨h.2.1, by omega⟩)]
  · rw [if_neg (fun h => h1 h.1), if_neg (fun h => h1 h.1), if_neg (fun h => h1 h.1)]
def kFlight (s : am_Z) (c a b t w n : Int) : Int := if ¬ ((0 ≤ c ∧ c ≤ 2) ∧ (0 ≤ a ∧ a ≤ 5) ∧ 0 ≤ b ∧ b ≤ 5) then 1 else if ¬ (a ≠ b ∧ (0 ≤ t ∧ t ≤ 23) ∧ (1 ≤ w ∧ w ≤ 20) ∧ 1 ≤ n ∧ n ≤ 60) then 2 else if rI s 3 = 12 then 3 else 0
def kDays (s : am_Z) (f a b n : Int) : Int := if ¬ (0 ≤ f ∧ f < rI s 3) then 1 else if ¬ ((0 ≤ a ∧ a ≤ 60) ∧ (a ≤ b ∧ b ≤ 60) ∧ 1 ≤ n ∧ n ≤ 127) then 2 else if rA s 10 f ≠ 0 then 3 else 0
theorem lp_flight {d : Nat} {s : am_Z} {q0 : am_A} {Q : Option am_V → am_Z → Prop} {c a b t w n f : Int} {x7 x8 : Option am_V} (hn : 1 ≤ n ∧ n ≤ 60) (hf : rI s 3 = f) (hf2 : 0 ≤ f ∧ f < 12) : ∀ (m : Nat) (j : Nat) (k : Int) (s1 : am_Z), 4 - j < m → (k = j ∧ j ≤ 4 ∧ s1 = wB s 14 (4 * f) j (fun _ => n)) → (∀ x9, am_WR d m_M_flight 210 [some (aR 9 0), some (aI (zI c)), some (aI (zI a)), some (aI (zI b)), some (aI (zI t)), some (aI (zI w)), some (aI (zI n)), x7, x8, x9] [] q0 (wB s 14 (4 * f) 4 (fun _ => n)) Q) → am_WR d m_M_flight 182 [some (aR 9 0), some (aI (zI c)), some (aI (zI a)), some (aI (zI b)), some (aI (zI t)), some (aI (zI w)), some (aI (zI n)), x7, x8, some (aI (zI k))] [] q0 (s1) Q := by
  intro m
  induction m with
  | zero => intro j k s1 hm; exact absurd hm (Nat.not_lt_zero _)
  | succ m ih =>
    intro j k s1 hm ⟨hj, hj2, hs1⟩ K
    subst hj
    subst hs1
    refine rr_iload rfl rfl ?_
    refine rr_iconst rfl ?_
    refine rr_icmp_ge rfl rfl (by omega) (by omega) (fun h185 => ?_) (fun h185 => ?_)
    · rw [show j = 4 by omega]
      exact K _
    · refine rr_aload_n rfl rfl ?_
      refine rr_gfA 14 rfl rfl (by omega) rfl ?_
      refine rr_iconst rfl ?_
      refine rr_aload_n rfl rfl ?_
      refine rr_gfIv 3 (s) rfl rfl rfl (by omega) rfl (fun b194 => ?_)
      refine rr_imul rfl ?_
      refine rr_iload rfl rfl ?_
      refine rr_iadd rfl ?_
      refine rr_iload rfl rfl ?_
      refine rr_ias 14 48 rfl ⟨rfl, by omega⟩ rfl (by omega) (by omega) rfl rfl (by omega) (by omega) ?_
      refine rr_inc9 rfl ?_
      refine rr_goto rfl rfl ?_
      exact ih (j + 1) _ _ (by omega) ⟨by omega, by omega, by rw [hf]; exact wB_s s 14 (4 * f) j (fun _ => n)⟩ K
theorem sr_flight {d : Nat} {s : am_Z} {c a b t w n : Int}  (hc : in32 c) (ha : in32 a) (hb : in32 b) (ht : in32 t) (hw : in32 w) (hn : in32 n) : am_CR (d + 2) m_M_flight [aR 9 0, aI (zI c), aI (zI a), aI (zI b), aI (zI t), aI (zI w), aI (zI n)] s (isP (if kFlight s c a b t w n = 0 then wI (wB (wA (wA (wA (wA (wA (wA (wI s 74 (kFlight s c a b t w n)) 4 (rI s 3) c) 5 (rI s 3) a) 6 (rI s 3) b) 7 (rI s 3) t) 8 (rI s 3) w) 9 (rI s 3) n) 14 (4 * rI s 3) 4 (fun _ => n)) 3 (rI s 3 + 1) else wI s 74 (kFlight s c a b t w n)) (if kFlight s c a b t w n = 0 then rI s 3 else 0) (True)) := by
  refine am_CR_i (ls := [some (aR 9 0), some (aI (zI c)), some (aI (zI a)), some (aI (zI b)), some (aI (zI t)), some (aI (zI w)), some (aI (zI n)), none, none, none]) rfl (fun q0 => ?_)
  refine rr_inS (fun B => ?_)
  have b3 := B.2.1 3 0 12 rfl
  have b20 := B.2.1 20 0 16 rfl
  have b44 := B.2.1 44 0 40 rfl
  have b61 := B.2.1 61 0 20 rfl
  refine rr_join (pc' := 28) (V := if (0 ≤ c ∧ c ≤ 2) ∧ (0 ≤ a ∧ a ≤ 5) ∧ 0 ≤ b ∧ b ≤ 5 then 1 else 0) ?_ (fun K28 => ?_)
  · refine rr_stI7 rfl ?_
    refine rr_join (pc' := 73) (V := if a ≠ b ∧ (0 ≤ t ∧ t ≤ 23) ∧ (1 ≤ w ∧ w ≤ 20) ∧ 1 ≤ n ∧ n ≤ 60 then 1 else 0) ?_ (fun K73 => ?_)
    · refine rr_stI8 rfl ?_
      refine rr_aload_n rfl rfl ?_
      refine rr_join (pc' := 108) (V := kFlight s c a b t w n) ?_ (fun K108 => ?_)
      · refine rr_cv1B rfl rfl rfl (Nat.le_of_ble_eq_true rfl) (sr_fails (d := 0) (by unfold kFlight; omega)) (by omega) ?_
        refine rr_if_eqB rfl rfl (fun h111 => ?_) (fun h111 => ?_)
        · have hk : kFlight s c a b t w n = 0 := by have z : 0 ≤ kFlight s c a b t w n := by { unfold kFlight; omega }; omega
          have hk2 := hk
          unfold kFlight at hk2
          refine rr_aload_n rfl rfl ?_
          refine rr_gfA 4 rfl rfl (by omega) rfl ?_
          refine rr_aload_n rfl rfl ?_
          refine rr_gfIv 3 (s) rfl rfl rfl (by omega) rfl (fun b121 => ?_)
          refine rr_iload_n rfl rfl ?_
          refine rr_ias 4 12 rfl ⟨rfl, by omega⟩ rfl (by omega) (by omega) rfl rfl (by omega) (by omega) ?_
          refine rr_aload_n rfl rfl ?_
          refine rr_gfA 5 rfl rfl (by omega) rfl ?_
          refine rr_aload_n rfl rfl ?_
          refine rr_gfIv 3 (s) rfl rfl rfl (by omega) rfl (fun b131 => ?_)
          refine rr_iload_n rfl rfl ?_
          refine rr_ias 5 12 rfl ⟨rfl, by omega⟩ rfl (by omega) (by omega) rfl rfl (by omega) (by omega) ?_
          refine rr_aload_n rfl rfl ?_
          refine rr_gfA 6 rfl rfl (by omega) rfl ?_
          refine rr_aload_n rfl rfl ?_
          refine rr_gfIv 3 (s) rfl rfl rfl (by omega) rfl (fun b141 => ?_)
          refine rr_iload_n rfl rfl ?_
          refine rr_ias 6 12 rfl ⟨rfl, by omega⟩ rfl (by omega) (by omega) rfl rfl (by omega) (by omega) ?_
          refine rr_aload_n rfl rfl ?_
          refine rr_gfA 7 rfl rfl (by omega) rfl ?_
          refine rr_aload_n rfl rfl ?_
          refine rr_gfIv 3 (s) rfl rfl rfl (by omega) rfl (fun b151 => ?_)
          refine rr_iload rfl rfl ?_
          refine rr_ias 7 12 rfl ⟨rfl, by omega⟩ rfl (by omega) (by omega) rfl rfl (by omega) (by omega) ?_
          refine rr_aload_n rfl rfl ?_
          refine rr_gfA 8 rfl rfl (by omega) rfl ?_
          refine rr_aload_n rfl rfl ?_
          refine rr_gfIv 3 (s) rfl rfl rfl (by omega) rfl (fun b162 => ?_)
          refine rr_iload rfl rfl ?_
          refine rr_ias 8 12 rfl ⟨rfl, by omega⟩ rfl (by omega) (by omega) rfl rfl (by omega) (by omega) ?_
          refine rr_aload_n rfl rfl ?_
          refine rr_gfA 9 rfl rfl (by omega) rfl ?_
          refine rr_aload_n rfl rfl ?_
          refine rr_gfIv 3 (s) rfl rfl rfl (by omega) rfl (fun b173 => ?_)
          refine rr_iload rfl rfl ?_
          refine rr_ias 9 12 rfl ⟨rfl, by omega⟩ rfl (by omega) (by omega) rfl rfl (by omega) (by omega) ?_
          refine rr_iconst rfl ?_
          refine rr_stI9 rfl ?_
          refine lp_flight (d := d + 2) (s := (wA (wA (wA (wA (wA (wA (wI s 74 (kFlight s c a b t w n)) 4 (rI s 3) c) 5 (rI s 3) a) 6 (rI s 3) b) 7 (rI s 3) t) 8 (rI s 3) w) 9 (rI s 3) n)) (f := rI s 3) (by omega) rfl (by omega) 5 0 0 (wA (wA (wA (wA (wA (wA (wI s 74 (kFlight s c a b t w n)) 4 (rI s 3) c) 5 (rI s 3) a) 6 (rI s 3) b) 7 (rI s 3) t) 8 (rI s 3) w) 9 (rI s 3) n) (by omega) ⟨rfl, by omega, (wB_0 ..).symm⟩ (fun x9 => ?_)
          refine rr_aload_n rfl rfl ?_
          refine rr_dup rfl rfl ?_
          refine rr_gfIv 3 (s) rfl rfl rfl (by omega) rfl (fun b212 => ?_)
          refine rr_iconst rfl ?_
          refine rr_iadd rfl ?_
          refine rr_pfI 3 rfl rfl rfl rfl (by omega) rfl (by omega) ?_
          refine rr_aload_n rfl rfl ?_
          refine rr_gfI 3 rfl rfl (by omega) rfl (fun b221 => ?_)
          refine rr_iconst rfl ?_
          refine rr_isub rfl ?_
          refine rr_iret rfl (Or.inl rfl) ?_
          first | exact rr_eP' ((show rI s 3 + 1 - 1 = rI s 3 by omega).trans (if_pos hk).symm) (if_pos hk).symm trivial | exact rr_eP' (if_neg (by omega)).symm (if_neg (by omega)).symm trivial | exact False.elim (by omega)
        · refine rr_iconst rfl ?_
          refine rr_iret rfl (Or.inl rfl) ?_
          first | exact rr_eP' ((show rI s 3 + 1 - 1 = rI s 3 by omega).trans (if_pos hk).symm) (if_pos hk).symm trivial | exact rr_eP' (if_neg (by omega)).symm (if_neg (by omega)).symm trivial | exact False.elim (by omega)
      · refine rr_iload rfl rfl ?_
        refine rr_if_neB rfl rfl (fun h78 => ?_) (fun h78 => ?_)
        · refine rr_iload rfl rfl ?_
          refine rr_if_neB rfl rfl (fun h87 => ?_) (fun h87 => ?_)
          · refine rr_aload_n rfl rfl ?_
            refine rr_gfI 3 rfl rfl (by omega) rfl (fun b95 => ?_)
            refine rr_bipush (x := 12) rfl rfl ?_
            refine rr_icmp_ne rfl rfl (by omega) (by omega) (fun h100 => ?_) (fun h100 => ?_)
            · refine rr_iconst rfl ?_
              exact K108 _ (by unfold kFlight; omega)
            · refine rr_iconst rfl ?_
              refine rr_goto rfl rfl ?_
              exact K108 _ (by unfold kFlight; omega)
          · refine rr_iconst rfl ?_
            refine rr_goto rfl rfl ?_
            exact K108 _ (by unfold kFlight; omega)
        · refine rr_iconst rfl ?_
          refine rr_goto rfl rfl ?_
          exact K108 _ (by unfold kFlight; omega)
    · refine rr_iload_n rfl rfl ?_
      refine rr_iload_n rfl rfl ?_
      refine rr_icmp_eq rfl rfl (by omega) (by omega) (fun h32 => ?_) (fun h32 => ?_)
      · refine rr_iconst rfl ?_
        exact K73 _ (by first | omega | (simp_all) | (split <;> omega))
      · refine rr_iload rfl rfl ?_
        refine rr_iconst rfl ?_
        refine rr_bipush (x := 23) rfl rfl ?_
        refine rr_cs3B rfl rfl (Nat.le_of_ble_eq_true rfl) (sr_isIn (d := 0) (by omega) (by omega) (by omega)) (by omega) ?_
        refine rr_if_eqB rfl rfl (fun h43 => ?_) (fun h43 => ?_)
        · refine rr_iconst rfl ?_
          exact K73 _ (by first | omega | (simp_all) | (split <;> omega))
        · refine rr_iload rfl rfl ?_
          refine rr_iconst rfl ?_
          refine rr_bipush (x := 20) rfl rfl ?_
          refine rr_cs3B rfl rfl (Nat.le_of_ble_eq_true rfl) (sr_isIn (d := 0) (by omega) (by omega) (by omega)) (by omega) ?_
          refine rr_if_eqB rfl rfl (fun h54 => ?_) (fun h54 => ?_)
          · refine rr_iconst rfl ?_
            exact K73 _ (by first | omega | (simp_all) | (split <;> omega))
          · refine rr_iload rfl rfl ?_
            refine rr_iconst rfl ?_
            refine rr_bipush (x := 60) rfl rfl ?_
            refine rr_cs3B rfl rfl (Nat.le_of_ble_eq_true rfl) (sr_isIn (d := 0) (by omega) (by omega) (by omega)) (by omega) ?_
            refine rr_if_eqB rfl rfl (fun h65 => ?_) (fun h65 => ?_)
            · refine rr_iconst rfl ?_
              exact K73 _ (by first | omega | (simp_all) | (split <;> omega))
            · refine rr_iconst rfl ?_
              refine rr_goto rfl rfl ?_
              exact K73 _ (by first | omega | (simp_all) | (split <;> omega))
  · refine rr_iload_n rfl rfl ?_
    refine rr_iconst rfl ?_
    refine rr_iconst rfl ?_
    refine rr_cs3B rfl rfl (Nat.le_of_ble_eq_true rfl) (sr_isIn (d := 0) (by omega) (by omega) (by omega)) (by omega) ?_
    refine rr_if_eqB rfl rfl (fun h6 => ?_) (fun h6 => ?_)
    · refine rr_iconst rfl ?_
      exact K28 _ (by first | omega | (simp_all) | (split <;> omega))
    · refine rr_iload_n rfl rfl ?_
      refine rr_cs1B rfl rfl (Nat.le_of_ble_eq_true rfl) (sr_isAirport (d := 0) (by omega)) (by omega) ?_
      refine rr_if_eqB rfl rfl (fun h13 => ?_) (fun h13 => ?_)
      · refine rr_iconst rfl ?_
        exact K28 _ (by first | omega | (simp_all) | (split <;> omega))
      · refine rr_iload_n rfl rfl ?_
        refine rr_cs1B rfl rfl (Nat.le_of_ble_eq_true rfl) (sr_isAirport (d := 0) (by omega)) (by omega) ?_
        refine rr_if_eqB rfl rfl (fun h20 => ?_) (fun h20 => ?_)
        · refine rr_iconst rfl ?_
          exact K28 _ (by first | omega | (simp_all) | (split <;> omega))
        · refine rr_iconst rfl ?_
          refine rr_goto rfl rfl ?_
          exact K28 _ (by first | omega | (simp_all) | (split <;> omega))
def nThere (s : am_Z) (f t : Int) : Int := if thereP s f t then 1 else 0
theorem nThere_b {s : am_Z} (f t : Int) : 0 ≤ nThere s f t ∧ nThere s f t ≤ 1 := by unfold nThere; split <;> omega
theorem lp_days {d : Nat} {s : am_Z} {q0 : am_A} {Q : Option am_V → am_Z → Prop} {f : Int} {x2 x3 x4 x5 x6 : Option am_V} (hf : 0 ≤ f ∧ f < 12) : ∀ (m : Nat) (j : Nat) (k acc : Int), 61 - j < m → (k = j ∧ j ≤ 61 ∧ acc = sumI 0 j (nThere s f)) → (∀ x8, am_WR (d + 2) m_M_days 154 [some (aR 9 0), some (aI (zI f)), x2, x3, x4, x5, x6, some (aI (zI (sumI 0 61 (nThere s f)))), x8] [] q0 (s) Q) → am_WR (d + 2) m_M_days 121 [some (aR 9 0), some (aI (zI f)), x2, x3, x4, x5, x6, some (aI (zI acc)), some (aI (zI k))] [] q0 (s) Q := by
  intro m
  induction m with
  | zero => intro j k acc hm; exact absurd hm (Nat.not_lt_zero _)
  | succ m ih =>
    intro j k acc hm ⟨hj, hj2, hacc⟩ K
    subst hj
    subst hacc
    refine rr_iload rfl rfl ?_
    refine rr_bipush (x := 61) rfl rfl ?_
    refine rr_icmp_ge rfl rfl (by omega) (by omega) (fun h125 => ?_) (fun h125 => ?_)
    · rw [show j = 61 by omega]
      exact K _
    · refine rr_iload rfl rfl ?_
      refine rr_join (pc' := 145) (V := nThere s f (j : Int)) ?_ (fun K145 => ?_)
      · refine rr_iadd rfl ?_
        refine rr_stI7 rfl ?_
        refine rr_inc8 rfl ?_
        refine rr_goto rfl rfl ?_
        exact ih (j + 1) _ _ (by omega) ⟨by omega, by omega, by rw [sumI_s, Int.zero_add]⟩ K
      · refine rr_aload_n rfl rfl ?_
        refine rr_iload_n rfl rfl ?_
        refine rr_iload rfl rfl ?_
        refine rr_cv2B rfl rfl rfl (Nat.le_of_ble_eq_true rfl) (sr_isThere (d := 0) (by omega) (by omega)) (by omega) ?_
        refine rr_if_eqB rfl rfl (fun h137 => ?_) (fun h137 => ?_)
        · refine rr_iconst rfl ?_
          exact K145 _ (by unfold nThere; first | exact (if_pos (by assumption)).symm | exact (if_neg (by assumption)).symm)
        · refine rr_iconst rfl ?_
          refine rr_goto rfl rfl ?_
          exact K145 _ (by unfold nThere; first | exact (if_pos (by assumption)).symm | exact (if_neg (by assumption)).symm)
theorem sr_days {d : Nat} {s : am_Z} {f a b n : Int}  (hf : in32 f) (ha : in32 a) (hb : in32 b) (hn : in32 n) : am_CR (d + 2) m_M_days [aR 9 0, aI (zI f), aI (zI a), aI (zI b), aI (zI n)] s (isP (if kDays s f a b n = 0 then (wA (wA (wA (wA (wI s 74 (kDays s f a b n)) 10 f 1) 11 f a) 12 f b) 13 f n) else wI s 74 (kDays s f a b n)) (if kDays s f a b n = 0 then sumI 0 61 (nThere (wA (wA (wA (wA (wI s 74 (kDays s f a b n)) 10 f 1) 11 f a) 12 f b) 13 f n) f) else 0) (True)) := by
  refine am_CR_i (ls := [some (aR 9 0), some (aI (zI f)), some (aI (zI a)), some (aI (zI b)), some (aI (zI n)), none, none, none, none]) rfl (fun q0 => ?_)
  refine rr_inS (fun B => ?_)
  have b3 := B.2.1 3 0 12 rfl
  have b20 := B.2.1 20 0 16 rfl
  have b44 := B.2.1 44 0 40 rfl
  have b61 := B.2.1 61 0 20 rfl
  refine rr_aload_n rfl rfl ?_
  refine rr_iload_n rfl rfl ?_
  refine rr_cv1B rfl rfl rfl (Nat.le_of_ble_eq_true rfl) (sr_isFlight (d := 0) (by omega)) (by omega) ?_
  refine rr_stI5 rfl ?_
  refine rr_join (pc' := 43) (V := if (0 ≤ a ∧ a ≤ 60) ∧ (a ≤ b ∧ b ≤ 60) ∧ 1 ≤ n ∧ n ≤ 127 then 1 else 0) ?_ (fun K43 => ?_)
  · refine rr_stI6 rfl ?_
    refine rr_aload_n rfl rfl ?_
    refine rr_join (pc' := 78) (V := kDays s f a b n) ?_ (fun K78 => ?_)
    · refine rr_cv1B rfl rfl rfl (Nat.le_of_ble_eq_true rfl) (sr_fails (d := 0) (by unfold kDays; omega)) (by omega) ?_
      refine rr_if_eqB rfl rfl (fun h81 => ?_) (fun h81 => ?_)
      · have hk : kDays s f a b n = 0 := by have z : 0 ≤ kDays s f a b n := by { unfold kDays; omega }; omega
        have hk2 := hk
        unfold kDays at hk2
        refine rr_aload_n rfl rfl ?_
        refine rr_gfA 10 rfl rfl (by omega) rfl ?_
        refine rr_iload_n rfl rfl ?_
        refine rr_iconst rfl ?_
        refine rr_bas 10 12 rfl rfl rfl (by omega) (by omega) rfl rfl (by omega) (by omega) ?_
        refine rr_aload_n rfl rfl ?_
        refine rr_gfA 11 rfl rfl (by omega) rfl ?_
        refine rr_iload_n rfl rfl ?_
        refine rr_iload_n rfl rfl ?_
        refine rr_ias 11 12 rfl ⟨rfl, by omega⟩ rfl (by omega) (by omega) rfl rfl (by omega) (by omega) ?_
        refine rr_aload_n rfl rfl ?_
        refine rr_gfA 12 rfl rfl (by omega) rfl ?_
        refine rr_iload_n rfl rfl ?_
        refine rr_iload_n rfl rfl ?_
        refine rr_ias 12 12 rfl ⟨rfl, by omega⟩ rfl (by omega) (by omega) rfl rfl (by omega) (by omega) ?_
        refine rr_aload_n rfl rfl ?_
        refine rr_gfA 13 rfl rfl (by omega) rfl ?_
        refine rr_iload_n rfl rfl ?_
        refine rr_iload rfl rfl ?_
        refine rr_ias 13 12 rfl ⟨rfl, by omega⟩ rfl (by omega) (by omega) rfl rfl (by omega) (by omega) ?_
        refine rr_iconst rfl ?_
        refine rr_stI7 rfl ?_
        refine rr_iconst rfl ?_
        refine rr_stI8 rfl ?_
        refine lp_days (d := d) (s := (wA (wA (wA (wA (wI s 74 (kDays s f a b n)) 10 f 1) 11 f a) 12 f b) 13 f n)) (by omega) 62 0 0 0 (by omega) ⟨rfl, by omega, rfl⟩ (fun x8 => ?_)
        refine rr_iload rfl rfl ?_
        refine rr_iret rfl (Or.inl rfl) ?_
        first | exact rr_eP' (if_pos hk).symm (if_pos hk).symm trivial | exact rr_eP' (if_neg (by omega)).symm (if_neg (by omega)).symm trivial | exact False.elim (by omega)
      · refine rr_iconst rfl ?_
        refine rr_iret rfl (Or.inl rfl) ?_
        first | exact rr_eP' (if_pos hk).symm (if_pos hk).symm trivial | exact rr_eP' (if_neg (by omega)).symm (if_neg (by omega)).symm trivial | exact False.elim (by omega)
    · refine rr_iload rfl rfl ?_
      refine rr_if_neB rfl rfl (fun h48 => ?_) (fun h48 => ?_)
      · refine rr_iload rfl rfl ?_
        refine rr_if_neB rfl rfl (fun h57 => ?_) (fun h57 => ?_)
        · refine rr_aload_n rfl rfl ?_
          refine rr_gfA 10 rfl rfl (by omega) rfl ?_
          refine rr_iload_n rfl rfl ?_
          refine rr_ba 10 12 rfl rfl rfl rfl (by omega) (by omega) (fun b69 => ?_)
          refine rr_if_eq rfl rfl (by omega) (fun h70 => ?_) (fun h70 => ?_)
          · refine rr_iconst rfl ?_
            exact K78 _ (by unfold kDays; omega)
          · refine rr_iconst rfl ?_
            refine rr_goto rfl rfl ?_
            exact K78 _ (by unfold kDays; omega)
        · refine rr_iconst rfl ?_
          refine rr_goto rfl rfl ?_
          exact K78 _ (by unfold kDays; omega)
      · refine rr_iconst rfl ?_
        refine rr_goto rfl rfl ?_
        exact K78 _ (by unfold kDays; omega)
  · refine rr_iload_n rfl rfl ?_
    refine rr_iconst rfl ?_
    refine rr_bipush (x := 60) rfl rfl ?_
    refine rr_cs3B rfl rfl (Nat.le_of_ble_eq_true rfl) (sr_isIn (d := 0) (by omega) (by omega) (by omega)) (by omega) ?_
    refine rr_if_eqB rfl rfl (fun h14 => ?_) (fun h14 => ?_)
    · refine rr_iconst rfl ?_
      exact K43 _ (by first | omega | (simp_all) | (split <;> omega))
    · refine rr_iload_n rfl rfl ?_
      refine rr_iload_n rfl rfl ?_
      refine rr_bipush (x := 60) rfl rfl ?_
      refine rr_cs3B rfl rfl (Nat.le_of_ble_eq_true rfl) (sr_isIn (d := 0) (by omega) (by omega) (by omega)) (by omega) ?_
      refine rr_if_eqB rfl rfl (fun h24 => ?_) (fun h24 => ?_)
      · refine rr_iconst rfl ?_
        exact K43 _ (by first | omega | (simp_all) | (split <;> omega))
      · refine rr_iload rfl rfl ?_
        refine rr_iconst rfl ?_
        refine rr_bipush (x := 127) rfl rfl ?_
        refine rr_cs3B rfl rfl (Nat.le_of_ble_eq_true rfl) (sr_isIn (d := 0) (by omega) (by omega) (by omega)) (by omega) ?_
        refine rr_if_eqB rfl rfl (fun h35 => ?_) (fun h35 => ?_)
        · refine rr_iconst rfl ?_
          exact K43 _ (by first | omega | (simp_all) | (split <;> omega))
        · refine rr_iconst rfl ?_
          refine rr_goto rfl rfl ?_
          exact K43 _ (by first | omega | (simp_all) | (split <;> omega))
end

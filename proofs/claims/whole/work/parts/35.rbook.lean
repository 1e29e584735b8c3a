noncomputable section
def tierS (s : am_Z) (m : Int) : Int := if m = -1 then 0 else min 3 (iDiv (rA s 69 m) 500)
abbrev waitP (s : am_Z) (w : Int) : Prop := rA s 66 w = -1 ∧ ¬ goneP s (rA s 65 (4 * w))
def kWished (s : am_Z) (w : Int) : Int := if 0 ≤ w ∧ w < rI s 61 then 0 else 1
def wishedS (s : am_Z) (w : Int) : Int := if rA s 66 w ≠ -1 then rA s 66 w else if waitP s w then -1 else -2
def kTicket (s : am_Z) (b : Int) : Int := if ¬ (0 ≤ b ∧ b < rI s 44) then 1 else if rA s 47 b = 0 then 0 else 2
def kCancel (s : am_Z) (b : Int) : Int := if ¬ (0 ≤ b ∧ b < rI s 44) then 1 else if 1 < rA s 47 b then 2 else 0
def kBooking (s : am_Z) (b : Int) : Int := if 0 ≤ b ∧ b < rI s 44 then 0 else 1
abbrev cpP (s : am_Z) (b c : Int) : Prop := (0 ≤ b ∧ b < rI s 44) ∧ 0 ≤ c ∧ c < rA s 52 b
def kCoupon (s : am_Z) (b c : Int) : Int := if cpP s b c then 0 else 1
abbrev chkP (s : am_Z) (b c : Int) : Prop := rA s 47 b = 1 ∧ rA s 55 (10 * b + c) = 0 ∧ freeP s (rA s 53 (10 * b + c)) ∧ dep s (rA s 53 (10 * b + c)) - rI s 0 ≤ 24
def kCheck (s : am_Z) (b c : Int) : Int := if ¬ cpP s b c then 1 else if chkP s b c then 0 else 2
def kPoints (m : Int) : Int := if 0 ≤ m ∧ m ≤ 4 then 0 else 1
def kOwed (a b : Int) : Int := if (0 ≤ a ∧ a ≤ 2) ∧ 0 ≤ b ∧ b ≤ 2 then 0 else 1
def kWish (s : am_Z) (n m : Int) : Int := if ¬ (-1 ≤ m ∧ m ≤ 4) then 1 else if ¬ (1 ≤ n ∧ n ≤ 9) then 2 else if rI s 33 = 0 ∨ rI s 61 = 20 then 3 else 0
def kPart (s : am_Z) (b n : Int) : Int := if ¬ (0 ≤ b ∧ b < rI s 44) then 1 else if ¬ (1 ≤ n ∧ n ≤ rA s 45 b - 1) then 2 else if 1 < rA s 47 b ∨ rI s 44 = 40 then 3 else 0
def cpyS (t : am_Z) (a b : Int) : am_Z := wA (wA (wA (wA (wA (wA t 53 b (rA t 53 a)) 54 b (rA t 54 a)) 55 b (rA t 55 a)) 56 b (rA t 56 a)) 57 b (rA t 57 a)) 58 b (rA t 58 a)
theorem sr_tier {d : Nat} {s : am_Z} {m : Int}  (hm : -1 ≤ m ∧ m ≤ 4) : am_CR (d + 1) m_M_tier [aR 9 0, aI (zI m)] s (isP (s) (tierS s m) (in32 (tierS s m))) := by
  refine am_CR_i (ls := [some (aR 9 0), some (aI (zI m))]) rfl (fun q0 => ?_)
  refine rr_iload_n rfl rfl ?_
  refine rr_iconst rfl ?_
  refine rr_icmp_ne rfl rfl (by omega) (by omega) (fun h2 => ?_) (fun h2 => ?_)
  · refine rr_iconst rfl ?_
    refine rr_aload_n rfl rfl ?_
    refine rr_gfA 69 rfl rfl (by omega) rfl ?_
    refine rr_iload_n rfl rfl ?_
    refine rr_ian 69 5 rfl rfl rfl (by omega) (by omega) ?_
    refine rr_sipush (x := 500) rfl rfl ?_
    refine rr_idivr rfl (by omega) ?_
    have hd := in32_iDiv (rA s 69 m) 500
    refine rr_cs2P rfl rfl (Nat.le_of_ble_eq_true rfl) (sr_least (d := 0) (by omega) (by omega)) (by omega) (fun b20 => ?_)
    refine rr_iret rfl (Or.inl rfl) ?_
    exact rr_eP (by unfold tierS; first | rw [if_pos (by omega)] | rw [if_neg (by omega)]) (by unfold tierS; have hd := in32_iDiv (rA s 69 m) 500; split <;> omega)
  · refine rr_iconst rfl ?_
    refine rr_goto rfl rfl ?_
    refine rr_iret rfl (Or.inl rfl) ?_
    exact rr_eP (by unfold tierS; first | rw [if_pos (by omega)] | rw [if_neg (by omega)]) (by unfold tierS; have hd := in32_iDiv (rA s 69 m) 500; split <;> omega)
theorem sr_isWaiting {d : Nat} {s : am_Z} {w : Int}  (hw : 0 ≤ w ∧ w < 20) : am_CR (d + 3) m_M_isWaiting [aR 9 0, aI (zI w)] s (isB (s) (waitP s w)) := by
  refine am_CR_i (ls := [some (aR 9 0), some (aI (zI w))]) rfl (fun q0 => ?_)
  refine rr_aload_n rfl rfl ?_
  refine rr_gfA 66 rfl rfl (by omega) rfl ?_
  refine rr_iload_n rfl rfl ?_
  refine rr_ia 66 20 rfl rfl rfl rfl (by omega) (by omega) (fun b5 => ?_)
  refine rr_iconst rfl ?_
  refine rr_icmp_ne rfl rfl (by omega) (by omega) (fun h7 => ?_) (fun h7 => ?_)
  · refine rr_iconst rfl ?_
    refine rr_iret rfl (Or.inr ⟨rfl, by first | omega | (split <;> omega)⟩) ?_
    exact rr_eB (by first | omega | (split <;> first | omega | simp_all) | simp_all)
  · refine rr_aload_n rfl rfl ?_
    refine rr_aload_n rfl rfl ?_
    refine rr_gfA 65 rfl rfl (by omega) rfl ?_
    refine rr_iconst rfl ?_
    refine rr_iload_n rfl rfl ?_
    refine rr_imul rfl ?_
    refine rr_iaL 65 80 (s) (fun _ => rfl) rfl rfl rfl rfl rfl (by omega) (by omega) (fun b18 => ?_)
    refine rr_cv1B rfl rfl rfl (Nat.le_of_ble_eq_true rfl) (sr_hasDeparted (d := 0) (by omega)) (by omega) ?_
    refine rr_if_neB rfl rfl (fun h22 => ?_) (fun h22 => ?_)
    · refine rr_iconst rfl ?_
      refine rr_iret rfl (Or.inr ⟨rfl, by first | omega | (split <;> omega)⟩) ?_
      exact rr_eB (by first | omega | (split <;> first | omega | simp_all) | simp_all)
    · refine rr_iconst rfl ?_
      refine rr_goto rfl rfl ?_
      refine rr_iret rfl (Or.inr ⟨rfl, by first | omega | (split <;> omega)⟩) ?_
      exact rr_eB (by first | omega | (split <;> first | omega | simp_all) | simp_all)
theorem sr_wished {d : Nat} {s : am_Z} {w : Int}  (hw : in32 w) : am_CR (d + 4) m_M_wished [aR 9 0, aI (zI w)] s (isP (if kWished s w = 0 then wI s 74 (kWished s w) else wI s 74 (kWished s w)) (if kWished s w = 0 then wishedS s w else 0) (True)) := by
  refine am_CR_i (ls := [some (aR 9 0), some (aI (zI w)), none]) rfl (fun q0 => ?_)
  refine rr_inS (fun B => ?_)
  have b3 := B.2.1 3 0 12 rfl
  have b20 := B.2.1 20 0 16 rfl
  have b44 := B.2.1 44 0 40 rfl
  have b61 := B.2.1 61 0 20 rfl
  refine rr_iload_n rfl rfl ?_
  refine rr_iconst rfl ?_
  refine rr_aload_n rfl rfl ?_
  refine rr_gfI 61 rfl rfl (by omega) rfl (fun b3 => ?_)
  refine rr_iconst rfl ?_
  refine rr_isub rfl ?_
  refine rr_cs3B rfl rfl (Nat.le_of_ble_eq_true rfl) (sr_isIn (d := 0) (by omega) (by omega) (by omega)) (by omega) ?_
  refine rr_stI2 rfl ?_
  refine rr_aload_n rfl rfl ?_
  refine rr_join (pc' := 22) (V := kWished s w) ?_ (fun K22 => ?_)
  · refine rr_cv1B rfl rfl rfl (Nat.le_of_ble_eq_true rfl) (sr_fails (d := 0) (by unfold kWished; omega)) (by omega) ?_
    refine rr_if_eqB rfl rfl (fun h25 => ?_) (fun h25 => ?_)
    · have hk : kWished s w = 0 := by have z : 0 ≤ kWished s w := by { unfold kWished; omega }; omega
      have hk2 := hk
      unfold kWished at hk2
      refine rr_join (pc' := 65) (V := wishedS s w) ?_ (fun K65 => ?_)
      · refine rr_iret rfl (Or.inl rfl) ?_
        first | exact rr_eP' (if_pos hk).symm (if_pos hk).symm trivial | exact rr_eP' (if_neg (by omega)).symm (if_neg (by omega)).symm trivial | exact False.elim (by omega)
      · refine rr_aload_n rfl rfl ?_
        refine rr_gfA 66 rfl rfl (by omega) rfl ?_
        refine rr_iload_n rfl rfl ?_
        refine rr_iav 66 20 (s) (fun _ => rfl) rfl rfl rfl rfl (by omega) (by omega) (fun b37 => ?_)
        refine rr_iconst rfl ?_
        refine rr_icmp_eq rfl rfl (by omega) (by omega) (fun h39 => ?_) (fun h39 => ?_)
        · refine rr_aload_n rfl rfl ?_
          refine rr_iload_n rfl rfl ?_
          refine rr_cv1B rfl rfl rfl (Nat.le_of_ble_eq_true rfl) (sr_isWaiting (d := 0) (by omega)) (by omega) ?_
          refine rr_if_eqB rfl rfl (fun h56 => ?_) (fun h56 => ?_)
          · refine rr_bipush (x := -2) rfl rfl ?_
            exact K65 _ (by unfold wishedS; first | (rw [if_pos (by omega)]) | (rw [if_neg (by omega)]; first | exact (if_pos (by assumption)).symm | exact (if_neg (by assumption)).symm))
          · refine rr_iconst rfl ?_
            refine rr_goto rfl rfl ?_
            exact K65 _ (by unfold wishedS; first | (rw [if_pos (by omega)]) | (rw [if_neg (by omega)]; first | exact (if_pos (by assumption)).symm | exact (if_neg (by assumption)).symm))
        · refine rr_aload_n rfl rfl ?_
          refine rr_gfA 66 rfl rfl (by omega) rfl ?_
          refine rr_iload_n rfl rfl ?_
          refine rr_iav 66 20 (s) (fun _ => rfl) rfl rfl rfl rfl (by omega) (by omega) (fun b47 => ?_)
          refine rr_goto rfl rfl ?_
          exact K65 _ (by unfold wishedS; first | (rw [if_pos (by omega)]) | (rw [if_neg (by omega)]; first | exact (if_pos (by assumption)).symm | exact (if_neg (by assumption)).symm))
    · refine rr_iconst rfl ?_
      refine rr_goto rfl rfl ?_
      refine rr_iret rfl (Or.inl rfl) ?_
      first | exact rr_eP' (if_pos hk).symm (if_pos hk).symm trivial | exact rr_eP' (if_neg (by omega)).symm (if_neg (by omega)).symm trivial | exact False.elim (by omega)
  · refine rr_iload_n rfl rfl ?_
    refine rr_if_eqB rfl rfl (fun h14 => ?_) (fun h14 => ?_)
    · refine rr_iconst rfl ?_
      exact K22 _ (by unfold kWished; omega)
    · refine rr_iconst rfl ?_
      refine rr_goto rfl rfl ?_
      exact K22 _ (by unfold kWished; omega)
theorem sr_ticket {d : Nat} {s : am_Z} {b : Int}  (hb : in32 b) : am_CR (d + 2) m_M_ticket [aR 9 0, aI (zI b)] s (isP (if kTicket s b = 0 then wA (wI s 74 (kTicket s b)) 47 b 1 else wI s 74 (kTicket s b)) (if kTicket s b = 0 then rA s 45 b * rA s 49 b else 0) (True)) := by
  refine am_CR_i (ls := [some (aR 9 0), some (aI (zI b)), none]) rfl (fun q0 => ?_)
  refine rr_inS (fun B => ?_)
  have b3 := B.2.1 3 0 12 rfl
  have b20 := B.2.1 20 0 16 rfl
  have b44 := B.2.1 44 0 40 rfl
  have b61 := B.2.1 61 0 20 rfl
  refine rr_aload_n rfl rfl ?_
  refine rr_iload_n rfl rfl ?_
  refine rr_cv1B rfl rfl rfl (Nat.le_of_ble_eq_true rfl) (sr_isBooking (d := 0) (by omega)) (by omega) ?_
  refine rr_stI2 rfl ?_
  refine rr_aload_n rfl rfl ?_
  refine rr_join (pc' := 29) (V := kTicket s b) ?_ (fun K29 => ?_)
  · refine rr_cv1B rfl rfl rfl (Nat.le_of_ble_eq_true rfl) (sr_fails (d := 0) (by unfold kTicket; omega)) (by omega) ?_
    refine rr_if_eqB rfl rfl (fun h32 => ?_) (fun h32 => ?_)
    · have hk : kTicket s b = 0 := by have z : 0 ≤ kTicket s b := by { unfold kTicket; omega }; omega
      have hk2 := hk
      unfold kTicket at hk2
      refine rr_aload_n rfl rfl ?_
      refine rr_gfA 47 rfl rfl (by omega) rfl ?_
      refine rr_iload_n rfl rfl ?_
      refine rr_iconst rfl ?_
      refine rr_ias 47 40 rfl ⟨rfl, by omega⟩ rfl (by omega) (by omega) rfl rfl (by omega) (by omega) ?_
      refine rr_aload_n rfl rfl ?_
      refine rr_gfA 45 rfl rfl (by omega) rfl ?_
      refine rr_iload_n rfl rfl ?_
      refine rr_iav 45 40 (s) (fun _ => rfl) rfl rfl rfl rfl (by omega) (by omega) (fun b49 => ?_)
      refine rr_aload_n rfl rfl ?_
      refine rr_gfA 49 rfl rfl (by omega) rfl ?_
      refine rr_iload_n rfl rfl ?_
      refine rr_iav 49 40 (s) (fun _ => rfl) rfl rfl rfl rfl (by omega) (by omega) (fun b55 => ?_)
      refine rr_imul rfl ?_
      refine rr_iret rfl (Or.inl rfl) ?_
      first | exact rr_eP' (if_pos hk).symm (if_pos hk).symm trivial | exact rr_eP' (if_neg (by omega)).symm (if_neg (by omega)).symm trivial | exact False.elim (by omega)
    · refine rr_iconst rfl ?_
      refine rr_iret rfl (Or.inl rfl) ?_
      first | exact rr_eP' (if_pos hk).symm (if_pos hk).symm trivial | exact rr_eP' (if_neg (by omega)).symm (if_neg (by omega)).symm trivial | exact False.elim (by omega)
  · refine rr_iload_n rfl rfl ?_
    refine rr_if_neB rfl rfl (fun h8 => ?_) (fun h8 => ?_)
    · refine rr_aload_n rfl rfl ?_
      refine rr_gfA 47 rfl rfl (by omega) rfl ?_
      refine rr_iload_n rfl rfl ?_
      refine rr_ia 47 40 rfl rfl rfl rfl (by omega) (by omega) (fun b20 => ?_)
      refine rr_if_ne rfl rfl (by omega) (fun h21 => ?_) (fun h21 => ?_)
      · refine rr_iconst rfl ?_
        exact K29 _ (by unfold kTicket; omega)
      · refine rr_iconst rfl ?_
        refine rr_goto rfl rfl ?_
        exact K29 _ (by unfold kTicket; omega)
    · refine rr_iconst rfl ?_
      refine rr_goto rfl rfl ?_
      exact K29 _ (by unfold kTicket; omega)
theorem sr_copies {d : Nat} {s : am_Z} {a b : Int}  (ha : 0 ≤ a ∧ a < 400) (hb : 0 ≤ b ∧ b < 400) : am_CR d m_M_copies [aR 9 0, aI (zI a), aI (zI b)] s (isW (cpyS s a b)) := by
  refine am_CR_i (ls := [some (aR 9 0), some (aI (zI a)), some (aI (zI b))]) rfl (fun q0 => ?_)
  refine rr_aload_n rfl rfl ?_
  refine rr_gfA 53 rfl rfl (by omega) rfl ?_
  refine rr_iload_n rfl rfl ?_
  refine rr_aload_n rfl rfl ?_
  refine rr_gfA 53 rfl rfl (by omega) rfl ?_
  refine rr_iload_n rfl rfl ?_
  refine rr_iaL 53 400 (s) (fun _ => rfl) rfl rfl rfl rfl rfl (by omega) (by omega) (fun b10 => ?_)
  refine rr_iasL 53 400 rfl ⟨rfl, by omega⟩ rfl (by omega) (by omega) rfl (by omega) (by omega) ?_
  refine rr_aload_n rfl rfl ?_
  refine rr_gfA 54 rfl rfl (by omega) rfl ?_
  refine rr_iload_n rfl rfl ?_
  refine rr_aload_n rfl rfl ?_
  refine rr_gfA 54 rfl rfl (by omega) rfl ?_
  refine rr_iload_n rfl rfl ?_
  refine rr_iav 54 400 (s) (fun _ => rfl) rfl rfl rfl rfl (by omega) (by omega) (fun b22 => ?_)
  refine rr_ias 54 400 rfl ⟨rfl, by omega⟩ rfl (by omega) (by omega) rfl rfl (by omega) (by omega) ?_
  refine rr_aload_n rfl rfl ?_
  refine rr_gfA 55 rfl rfl (by omega) rfl ?_
  refine rr_iload_n rfl rfl ?_
  refine rr_aload_n rfl rfl ?_
  refine rr_gfA 55 rfl rfl (by omega) rfl ?_
  refine rr_iload_n rfl rfl ?_
  refine rr_iav 55 400 (s) (fun _ => rfl) rfl rfl rfl rfl (by omega) (by omega) (fun b34 => ?_)
  refine rr_ias 55 400 rfl ⟨rfl, by omega⟩ rfl (by omega) (by omega) rfl rfl (by omega) (by omega) ?_
  refine rr_aload_n rfl rfl ?_
  refine rr_gfA 56 rfl rfl (by omega) rfl ?_
  refine rr_iload_n rfl rfl ?_
  refine rr_aload_n rfl rfl ?_
  refine rr_gfA 56 rfl rfl (by omega) rfl ?_
  refine rr_iload_n rfl rfl ?_
  refine rr_iav 56 400 (s) (fun _ => rfl) rfl rfl rfl rfl (by omega) (by omega) (fun b46 => ?_)
  refine rr_ias 56 400 rfl ⟨rfl, by omega⟩ rfl (by omega) (by omega) rfl rfl (by omega) (by omega) ?_
  refine rr_aload_n rfl rfl ?_
  refine rr_gfA 57 rfl rfl (by omega) rfl ?_
  refine rr_iload_n rfl rfl ?_
  refine rr_aload_n rfl rfl ?_
  refine rr_gfA 57 rfl rfl (by omega) rfl ?_
  refine rr_iload_n rfl rfl ?_
  refine rr_iav 57 400 (s) (fun _ => rfl) rfl rfl rfl rfl (by omega) (by omega) (fun b58 => ?_)
  refine rr_ias 57 400 rfl ⟨rfl, by omega⟩ rfl (by omega) (by omega) rfl rfl (by omega) (by omega) ?_
  refine rr_aload_n rfl rfl ?_
  refine rr_gfA 58 rfl rfl (by omega) rfl ?_
  refine rr_iload_n rfl rfl ?_
  refine rr_aload_n rfl rfl ?_
  refine rr_gfA 58 rfl rfl (by omega) rfl ?_
  refine rr_iload_n rfl rfl ?_
  refine rr_iav 58 400 (s) (fun _ => rfl) rfl rfl rfl rfl (by omega) (by omega) (fun b70 => ?_)
  refine rr_ias 58 400 rfl ⟨rfl, by omega⟩ rfl (by omega) (by omega) rfl rfl (by omega) (by omega) ?_
  exact rr_ret rfl rfl ⟨rfl, rfl⟩
theorem sr_booking {d : Nat} {s : am_Z} {b : Int}  (hb : in32 b) : am_CR (d + 2) m_M_booking [aR 9 0, aI (zI b)] s (isP (if kBooking s b = 0 then wI s 74 (kBooking s b) else wI s 74 (kBooking s b)) (if kBooking s b = 0 then 1000 * rA s 47 b + 10 * rA s 52 b + rA s 45 b else 0) (True)) := by
  refine am_CR_i (ls := [some (aR 9 0), some (aI (zI b))]) rfl (fun q0 => ?_)
  refine rr_inS (fun B => ?_)
  have b3 := B.2.1 3 0 12 rfl
  have b20 := B.2.1 20 0 16 rfl
  have b44 := B.2.1 44 0 40 rfl
  have b61 := B.2.1 61 0 20 rfl
  refine rr_aload_n rfl rfl ?_
  refine rr_join (pc' := 14) (V := kBooking s b) ?_ (fun K14 => ?_)
  · refine rr_cv1B rfl rfl rfl (Nat.le_of_ble_eq_true rfl) (sr_fails (d := 0) (by unfold kBooking; omega)) (by omega) ?_
    refine rr_if_eqB rfl rfl (fun h17 => ?_) (fun h17 => ?_)
    · have hk : kBooking s b = 0 := by have z : 0 ≤ kBooking s b := by { unfold kBooking; omega }; omega
      have hk2 := hk
      unfold kBooking at hk2
      refine rr_sipush (x := 1000) rfl rfl ?_
      refine rr_aload_n rfl rfl ?_
      refine rr_gfA 47 rfl rfl (by omega) rfl ?_
      refine rr_iload_n rfl rfl ?_
      refine rr_iav 47 40 (s) (fun _ => rfl) rfl rfl rfl rfl (by omega) (by omega) (fun b32 => ?_)
      refine rr_imul rfl ?_
      refine rr_bipush (x := 10) rfl rfl ?_
      refine rr_aload_n rfl rfl ?_
      refine rr_gfA 52 rfl rfl (by omega) rfl ?_
      refine rr_iload_n rfl rfl ?_
      refine rr_iav 52 40 (s) (fun _ => rfl) rfl rfl rfl rfl (by omega) (by omega) (fun b41 => ?_)
      refine rr_imul rfl ?_
      refine rr_iadd rfl ?_
      refine rr_aload_n rfl rfl ?_
      refine rr_gfA 45 rfl rfl (by omega) rfl ?_
      refine rr_iload_n rfl rfl ?_
      refine rr_iav 45 40 (s) (fun _ => rfl) rfl rfl rfl rfl (by omega) (by omega) (fun b49 => ?_)
      refine rr_iadd rfl ?_
      refine rr_iret rfl (Or.inl rfl) ?_
      first | exact rr_eP' (if_pos hk).symm (if_pos hk).symm trivial | exact rr_eP' (if_neg (by omega)).symm (if_neg (by omega)).symm trivial | exact False.elim (by omega)
    · refine rr_iconst rfl ?_
      refine rr_goto rfl rfl ?_
      refine rr_iret rfl (Or.inl rfl) ?_
      first | exact rr_eP' (if_pos hk).symm (if_pos hk).symm trivial | exact rr_eP' (if_neg (by omega)).symm (if_neg (by omega)).symm trivial | exact False.elim (by omega)
  · refine rr_aload_n rfl rfl ?_
    refine rr_iload_n rfl rfl ?_
    refine rr_cv1B rfl rfl rfl (Nat.le_of_ble_eq_true rfl) (sr_isBooking (d := 0) (by omega)) (by omega) ?_
    refine rr_if_eqB rfl rfl (fun h6 => ?_) (fun h6 => ?_)
    · refine rr_iconst rfl ?_
      exact K14 _ (by unfold kBooking; omega)
    · refine rr_iconst rfl ?_
      refine rr_goto rfl rfl ?_
      exact K14 _ (by unfold kBooking; omega)
theorem sr_isCoupon {d : Nat} {s : am_Z} {b c : Int}  (hb : in32 b) (hc : in32 c) : am_CR (d + 2) m_M_isCoupon [aR 9 0, aI (zI b), aI (zI c)] s (isB (s) (cpP s b c)) := by
  refine am_CR_i (ls := [some (aR 9 0), some (aI (zI b)), some (aI (zI c))]) rfl (fun q0 => ?_)
  refine rr_inS (fun B => ?_)
  have b44 := B.2.1 44 0 40 rfl
  refine rr_aload_n rfl rfl ?_
  refine rr_iload_n rfl rfl ?_
  refine rr_cv1B rfl rfl rfl (Nat.le_of_ble_eq_true rfl) (sr_isBooking (d := 0) (by omega)) (by omega) ?_
  refine rr_if_eqB rfl rfl (fun h5 => ?_) (fun h5 => ?_)
  · refine rr_iconst rfl ?_
    refine rr_iret rfl (Or.inr ⟨rfl, by first | omega | (split <;> omega)⟩) ?_
    exact rr_eB (by first | omega | (split <;> first | omega | simp_all) | simp_all)
  · refine rr_iload_n rfl rfl ?_
    refine rr_iconst rfl ?_
    refine rr_aload_n rfl rfl ?_
    refine rr_gfA 52 rfl rfl (by omega) rfl ?_
    refine rr_iload_n rfl rfl ?_
    refine rr_ia 52 40 rfl rfl rfl rfl (by omega) (by omega) (fun b15 => ?_)
    refine rr_iconst rfl ?_
    refine rr_isub rfl ?_
    refine rr_cs3B rfl rfl (Nat.le_of_ble_eq_true rfl) (sr_isIn (d := 0) (by omega) (by omega) (by omega)) (by omega) ?_
    refine rr_if_eqB rfl rfl (fun h21 => ?_) (fun h21 => ?_)
    · refine rr_iconst rfl ?_
      refine rr_iret rfl (Or.inr ⟨rfl, by first | omega | (split <;> omega)⟩) ?_
      exact rr_eB (by first | omega | (split <;> first | omega | simp_all) | simp_all)
    · refine rr_iconst rfl ?_
      refine rr_goto rfl rfl ?_
      refine rr_iret rfl (Or.inr ⟨rfl, by first | omega | (split <;> omega)⟩) ?_
      exact rr_eB (by first | omega | (split <;> first | omega | simp_all) | simp_all)
theorem sr_coupon {d : Nat} {s : am_Z} {b c : Int}  (hb : in32 b) (hc : in32 c) : am_CR (d + 3) m_M_coupon [aR 9 0, aI (zI b), aI (zI c)] s (isP (if kCoupon s b c = 0 then wI s 74 (kCoupon s b c) else wI s 74 (kCoupon s b c)) (if kCoupon s b c = 0 then 100 * rA s 53 (10 * b + c) + 10 * rA s 54 (10 * b + c) + rA s 55 (10 * b + c) else 0) (True)) := by
  refine am_CR_i (ls := [some (aR 9 0), some (aI (zI b)), some (aI (zI c)), none, none]) rfl (fun q0 => ?_)
  refine rr_inS (fun B => ?_)
  have b3 := B.2.1 3 0 12 rfl
  have b20 := B.2.1 20 0 16 rfl
  have b44 := B.2.1 44 0 40 rfl
  have b61 := B.2.1 61 0 20 rfl
  have b52 := B.1 52 b 0 10 rfl
  refine rr_aload_n rfl rfl ?_
  refine rr_iload_n rfl rfl ?_
  refine rr_iload_n rfl rfl ?_
  refine rr_cv2B rfl rfl rfl (Nat.le_of_ble_eq_true rfl) (sr_isCoupon (d := 0) (by omega) (by omega)) (by omega) ?_
  refine rr_stI3 rfl ?_
  refine rr_join (pc' := 21) (V := (if (0 ≤ b ∧ b < rI s 44) ∧ 0 ≤ c ∧ c < rA s 52 b then 10 * b + c else 0)) ?_ (fun K21 => ?_)
  · refine rr_stI4 rfl ?_
    refine rr_aload_n rfl rfl ?_
    refine rr_join (pc' := 33) (V := kCoupon s b c) ?_ (fun K33 => ?_)
    · refine rr_cv1B rfl rfl rfl (Nat.le_of_ble_eq_true rfl) (sr_fails (d := 0) (by unfold kCoupon; omega)) (by omega) ?_
      refine rr_if_eqB rfl rfl (fun h36 => ?_) (fun h36 => ?_)
      · have hk : kCoupon s b c = 0 := by have z : 0 ≤ kCoupon s b c := by { unfold kCoupon; omega }; omega
        have hk2 := hk
        unfold kCoupon at hk2
        rw [show (if (0 ≤ b ∧ b < rI s 44) ∧ 0 ≤ c ∧ c < rA s 52 b then 10 * b + c else 0) = 10 * b + c from if_pos (by omega)]
        refine rr_bipush (x := 100) rfl rfl ?_
        refine rr_aload_n rfl rfl ?_
        refine rr_gfA 53 rfl rfl (by omega) rfl ?_
        refine rr_iload rfl rfl ?_
        refine rr_iaL 53 400 (s) (fun _ => rfl) rfl rfl rfl rfl rfl (by omega) (by omega) (fun b51 => ?_)
        refine rr_imul rfl ?_
        refine rr_bipush (x := 10) rfl rfl ?_
        refine rr_aload_n rfl rfl ?_
        refine rr_gfA 54 rfl rfl (by omega) rfl ?_
        refine rr_iload rfl rfl ?_
        refine rr_iav 54 400 (s) (fun _ => rfl) rfl rfl rfl rfl (by omega) (by omega) (fun b61 => ?_)
        refine rr_imul rfl ?_
        refine rr_iadd rfl ?_
        refine rr_aload_n rfl rfl ?_
        refine rr_gfA 55 rfl rfl (by omega) rfl ?_
        refine rr_iload rfl rfl ?_
        refine rr_iav 55 400 (s) (fun _ => rfl) rfl rfl rfl rfl (by omega) (by omega) (fun b70 => ?_)
        refine rr_iadd rfl ?_
        refine rr_iret rfl (Or.inl rfl) ?_
        first | exact rr_eP' (if_pos hk).symm (if_pos hk).symm trivial | exact rr_eP' (if_neg (by omega)).symm (if_neg (by omega)).symm trivial | exact False.elim (by omega)
      · refine rr_iconst rfl ?_
        refine rr_goto rfl rfl ?_
        refine rr_iret rfl (Or.inl rfl) ?_
        first | exact rr_eP' (if_pos hk).symm (if_pos hk).symm trivial | exact rr_eP' (if_neg (by omega)).symm (if_neg (by omega)).symm trivial | exact False.elim (by omega)
    · refine rr_iload_n rfl rfl ?_
      refine rr_if_eqB rfl rfl (fun h25 => ?_) (fun h25 => ?_)
      · refine rr_iconst rfl ?_
        exact K33 _ (by unfold kCoupon; omega)
      · refine rr_iconst rfl ?_
        refine rr_goto rfl rfl ?_
        exact K33 _ (by unfold kCoupon; omega)
  · refine rr_iload_n rfl rfl ?_
    refine rr_if_eqB rfl rfl (fun h8 => ?_) (fun h8 => ?_)
    · refine rr_iconst rfl ?_
      exact K21 _ (by first | omega | (simp_all) | (split <;> omega))
    · refine rr_bipush (x := 10) rfl rfl ?_
      refine rr_iload_n rfl rfl ?_
      refine rr_imul rfl ?_
      refine rr_iload_n rfl rfl ?_
      refine rr_iadd rfl ?_
      refine rr_goto rfl rfl ?_
      exact K21 _ (by first | omega | (simp_all) | (split <;> omega))
theorem sr_share {d : Nat} {s : am_Z} {b c : Int}  (hb : in32 b) (hc : in32 c) : am_CR (d + 3) m_M_share [aR 9 0, aI (zI b), aI (zI c)] s (isP (if kCoupon s b c = 0 then wI s 74 (kCoupon s b c) else wI s 74 (kCoupon s b c)) (if kCoupon s b c = 0 then rA s 57 (10 * b + c) else 0) (True)) := by
  refine am_CR_i (ls := [some (aR 9 0), some (aI (zI b)), some (aI (zI c)), none]) rfl (fun q0 => ?_)
  refine rr_inS (fun B => ?_)
  have b3 := B.2.1 3 0 12 rfl
  have b20 := B.2.1 20 0 16 rfl
  have b44 := B.2.1 44 0 40 rfl
  have b61 := B.2.1 61 0 20 rfl
  have b52 := B.1 52 b 0 10 rfl
  refine rr_aload_n rfl rfl ?_
  refine rr_iload_n rfl rfl ?_
  refine rr_iload_n rfl rfl ?_
  refine rr_cv2B rfl rfl rfl (Nat.le_of_ble_eq_true rfl) (sr_isCoupon (d := 0) (by omega) (by omega)) (by omega) ?_
  refine rr_stI3 rfl ?_
  refine rr_aload_n rfl rfl ?_
  refine rr_join (pc' := 17) (V := kCoupon s b c) ?_ (fun K17 => ?_)
  · refine rr_cv1B rfl rfl rfl (Nat.le_of_ble_eq_true rfl) (sr_fails (d := 0) (by unfold kCoupon; omega)) (by omega) ?_
    refine rr_if_eqB rfl rfl (fun h20 => ?_) (fun h20 => ?_)
    · have hk : kCoupon s b c = 0 := by have z : 0 ≤ kCoupon s b c := by { unfold kCoupon; omega }; omega
      have hk2 := hk
      unfold kCoupon at hk2
      refine rr_aload_n rfl rfl ?_
      refine rr_gfA 57 rfl rfl (by omega) rfl ?_
      refine rr_bipush (x := 10) rfl rfl ?_
      refine rr_iload_n rfl rfl ?_
      refine rr_imul rfl ?_
      refine rr_iload_n rfl rfl ?_
      refine rr_iadd rfl ?_
      refine rr_iav 57 400 (s) (fun _ => rfl) rfl rfl rfl rfl (by omega) (by omega) (fun b37 => ?_)
      refine rr_iret rfl (Or.inl rfl) ?_
      first | exact rr_eP' (if_pos hk).symm (if_pos hk).symm trivial | exact rr_eP' (if_neg (by omega)).symm (if_neg (by omega)).symm trivial | exact False.elim (by omega)
    · refine rr_iconst rfl ?_
      refine rr_goto rfl rfl ?_
      refine rr_iret rfl (Or.inl rfl) ?_
      first | exact rr_eP' (if_pos hk).symm (if_pos hk).symm trivial | exact rr_eP' (if_neg (by omega)).symm (if_neg (by omega)).symm trivial | exact False.elim (by omega)
  · refine rr_iload_n rfl rfl ?_
    refine rr_if_eqB rfl rfl (fun h9 => ?_) (fun h9 => ?_)
    · refine rr_iconst rfl ?_
      exact K17 _ (by unfold kCoupon; omega)
    · refine rr_iconst rfl ?_
      refine rr_goto rfl rfl ?_
      exact K17 _ (by unfold kCoupon; omega)
theorem sr_check {d : Nat} {s : am_Z} {b c : Int}  (hb : in32 b) (hc : in32 c) : am_CR (d + 3) m_M_check [aR 9 0, aI (zI b), aI (zI c)] s (isP (if kCheck s b c = 0 then wA (wI s 74 (kCheck s b c)) 55 (10 * b + c) 1 else wI s 74 (kCheck s b c)) (if kCheck s b c = 0 then nTc (wA (wI s 74 (kCheck s b c)) 55 (10 * b + c) 1) (rA s 53 (10 * b + c)) else 0) (True)) := by
  refine am_CR_i (ls := [some (aR 9 0), some (aI (zI b)), some (aI (zI c)), none, none, none]) rfl (fun q0 => ?_)
  refine rr_inS (fun B => ?_)
  have b3 := B.2.1 3 0 12 rfl
  have b20 := B.2.1 20 0 16 rfl
  have b44 := B.2.1 44 0 40 rfl
  have b61 := B.2.1 61 0 20 rfl
  have b52 := B.1 52 b 0 10 rfl
  refine rr_aload_n rfl rfl ?_
  refine rr_iload_n rfl rfl ?_
  refine rr_iload_n rfl rfl ?_
  refine rr_cv2B rfl rfl rfl (Nat.le_of_ble_eq_true rfl) (sr_isCoupon (d := 0) (by omega) (by omega)) (by omega) ?_
  refine rr_stI3 rfl ?_
  refine rr_iload_n rfl rfl ?_
  refine rr_if_eqB rfl rfl (fun h8 => ?_) (fun h8 => ?_)
  · refine rr_iconst rfl ?_
    refine rr_stI4 rfl ?_
    refine rr_join (pc' := 87) (V := if cpP s b c ∧ chkP s b c then 1 else 0) ?_ (fun K87 => ?_)
    · refine rr_stI5 rfl ?_
      refine rr_aload_n rfl rfl ?_
      refine rr_join (pc' := 108) (V := kCheck s b c) ?_ (fun K108 => ?_)
      · refine rr_cv1B rfl rfl rfl (Nat.le_of_ble_eq_true rfl) (sr_fails (d := 0) (by unfold kCheck; omega)) (by omega) ?_
        refine rr_if_eqB rfl rfl (fun h111 => ?_) (fun h111 => ?_)
        · have hk : kCheck s b c = 0 := by have z : 0 ≤ kCheck s b c := by { unfold kCheck; omega }; omega
          have hk2 := hk
          unfold kCheck at hk2
          refine rr_aload_n rfl rfl ?_
          refine rr_gfA 55 rfl rfl (by omega) rfl ?_
          refine rr_iload rfl rfl ?_
          refine rr_iconst rfl ?_
          refine rr_ias 55 400 rfl ⟨rfl, by omega⟩ rfl (by omega) (by omega) rfl rfl (by omega) (by omega) ?_
          refine rr_aload_n rfl rfl ?_
          refine rr_aload_n rfl rfl ?_
          refine rr_gfA 53 rfl rfl (by omega) rfl ?_
          refine rr_iload rfl rfl ?_
          refine rr_iaL 53 400 (s) (fun _ => rfl) rfl rfl rfl rfl rfl (by omega) (by omega) (fun b131 => ?_)
          refine rr_cv1P rfl rfl rfl (Nat.le_of_ble_eq_true rfl) (sr_checked (d := 0) (by omega)) (by omega) (fun b132 => ?_)
          refine rr_iret rfl (Or.inl rfl) ?_
          first | exact rr_eP' (if_pos hk).symm (if_pos hk).symm trivial | exact rr_eP' (if_neg (by omega)).symm (if_neg (by omega)).symm trivial | exact False.elim (by omega)
        · refine rr_iconst rfl ?_
          refine rr_iret rfl (Or.inl rfl) ?_
          first | exact rr_eP' (if_pos hk).symm (if_pos hk).symm trivial | exact rr_eP' (if_neg (by omega)).symm (if_neg (by omega)).symm trivial | exact False.elim (by omega)
      · refine rr_iload_n rfl rfl ?_
        refine rr_if_neB rfl rfl (fun h91 => ?_) (fun h91 => ?_)
        · refine rr_iload rfl rfl ?_
          refine rr_if_eqB rfl rfl (fun h100 => ?_) (fun h100 => ?_)
          · refine rr_iconst rfl ?_
            exact K108 _ (by unfold kCheck; omega)
          · refine rr_iconst rfl ?_
            refine rr_goto rfl rfl ?_
            exact K108 _ (by unfold kCheck; omega)
        · refine rr_iconst rfl ?_
          refine rr_goto rfl rfl ?_
          exact K108 _ (by unfold kCheck; omega)
    · refine rr_iload_n rfl rfl ?_
      refine rr_if_eqB rfl rfl (fun h24 => ?_) (fun h24 => ?_)
      · refine rr_iconst rfl ?_
        exact K87 _ (by first | omega | (simp_all) | (split <;> omega))
      · refine rr_aload_n rfl rfl ?_
        refine rr_gfA 47 rfl rfl (by omega) rfl ?_
        refine rr_iload_n rfl rfl ?_
        refine rr_ia 47 40 rfl rfl rfl rfl (by omega) (by omega) (fun b32 => ?_)
        refine rr_iconst rfl ?_
        refine rr_icmp_ne rfl rfl (by omega) (by omega) (fun h34 => ?_) (fun h34 => ?_)
        · refine rr_iconst rfl ?_
          exact K87 _ (by first | omega | (simp_all) | (split <;> omega))
        · refine rr_aload_n rfl rfl ?_
          refine rr_gfA 55 rfl rfl (by omega) rfl ?_
          refine rr_iload rfl rfl ?_
          refine rr_ia 55 400 rfl rfl rfl rfl (by omega) (by omega) (fun b43 => ?_)
          refine rr_if_ne rfl rfl (by omega) (fun h44 => ?_) (fun h44 => ?_)
          · refine rr_iconst rfl ?_
            exact K87 _ (by first | omega | (simp_all) | (split <;> omega))
          · refine rr_aload_n rfl rfl ?_
            refine rr_aload_n rfl rfl ?_
            refine rr_gfA 53 rfl rfl (by omega) rfl ?_
            refine rr_iload rfl rfl ?_
            refine rr_iaL 53 400 (s) (fun _ => rfl) rfl rfl rfl rfl rfl (by omega) (by omega) (fun b54 => ?_)
            refine rr_cv1B rfl rfl rfl (Nat.le_of_ble_eq_true rfl) (sr_isFree (d := 0) (by omega)) (by omega) ?_
            refine rr_if_eqB rfl rfl (fun h58 => ?_) (fun h58 => ?_)
            · refine rr_iconst rfl ?_
              exact K87 _ (by first | omega | (simp_all) | (split <;> omega))
            · refine rr_aload_n rfl rfl ?_
              refine rr_aload_n rfl rfl ?_
              refine rr_gfA 53 rfl rfl (by omega) rfl ?_
              refine rr_iload rfl rfl ?_
              refine rr_iaL 53 400 (s) (fun _ => rfl) rfl rfl rfl rfl rfl (by omega) (by omega) (fun b68 => ?_)
              refine rr_cv1P rfl rfl rfl (Nat.le_of_ble_eq_true rfl) (sr_departs (d := 0) (by omega)) (by omega) (fun b69 => ?_)
              refine rr_aload_n rfl rfl ?_
              refine rr_gfI 0 rfl rfl (by omega) rfl (fun b73 => ?_)
              refine rr_isub rfl ?_
              refine rr_bipush (x := 24) rfl rfl ?_
              refine rr_icmp_gt rfl rfl (by omega) (by omega) (fun h79 => ?_) (fun h79 => ?_)
              · refine rr_iconst rfl ?_
                exact K87 _ (by first | omega | (simp_all) | (split <;> omega))
              · refine rr_iconst rfl ?_
                refine rr_goto rfl rfl ?_
                exact K87 _ (by first | omega | (simp_all) | (split <;> omega))
  · refine rr_bipush (x := 10) rfl rfl ?_
    refine rr_iload_n rfl rfl ?_
    refine rr_imul rfl ?_
    refine rr_iload_n rfl rfl ?_
    refine rr_iadd rfl ?_
    refine rr_goto rfl rfl ?_
    refine rr_stI4 rfl ?_
    refine rr_join (pc' := 87) (V := if cpP s b c ∧ chkP s b c then 1 else 0) ?_ (fun K87 => ?_)
    · refine rr_stI5 rfl ?_
      refine rr_aload_n rfl rfl ?_
      refine rr_join (pc' := 108) (V := kCheck s b c) ?_ (fun K108 => ?_)
      · refine rr_cv1B rfl rfl rfl (Nat.le_of_ble_eq_true rfl) (sr_fails (d := 0) (by unfold kCheck; omega)) (by omega) ?_
        refine rr_if_eqB rfl rfl (fun h111 => ?_) (fun h111 => ?_)
        · have hk : kCheck s b c = 0 := by have z : 0 ≤ kCheck s b c := by { unfold kCheck; omega }; omega
          have hk2 := hk
          unfold kCheck at hk2
          refine rr_aload_n rfl rfl ?_
          refine rr_gfA 55 rfl rfl (by omega) rfl ?_
          refine rr_iload rfl rfl ?_
          refine rr_iconst rfl ?_
          refine rr_ias 55 400 rfl ⟨rfl, by omega⟩ rfl (by omega) (by omega) rfl rfl (by omega) (by omega) ?_
          refine rr_aload_n rfl rfl ?_
          refine rr_aload_n rfl rfl ?_
          refine rr_gfA 53 rfl rfl (by omega) rfl ?_
          refine rr_iload rfl rfl ?_
          refine rr_iaL 53 400 (s) (fun _ => rfl) rfl rfl rfl rfl rfl (by omega) (by omega) (fun b131 => ?_)
          refine rr_cv1P rfl rfl rfl (Nat.le_of_ble_eq_true rfl) (sr_checked (d := 0) (by omega)) (by omega) (fun b132 => ?_)
          refine rr_iret rfl (Or.inl rfl) ?_
          first | exact rr_eP' (if_pos hk).symm (if_pos hk).symm trivial | exact rr_eP' (if_neg (by omega)).symm (if_neg (by omega)).symm trivial | exact False.elim (by omega)
        · refine rr_iconst rfl ?_
          refine rr_iret rfl (Or.inl rfl) ?_
          first | exact rr_eP' (if_pos hk).symm (if_pos hk).symm trivial | exact rr_eP' (if_neg (by omega)).symm (if_neg (by omega)).symm trivial | exact False.elim (by omega)
      · refine rr_iload_n rfl rfl ?_
        refine rr_if_neB rfl rfl (fun h91 => ?_) (fun h91 => ?_)
        · refine rr_iload rfl rfl ?_
          refine rr_if_eqB rfl rfl (fun h100 => ?_) (fun h100 => ?_)
          · refine rr_iconst rfl ?_
            exact K108 _ (by unfold kCheck; omega)
          · refine rr_iconst rfl ?_
            refine rr_goto rfl rfl ?_
            exact K108 _ (by unfold kCheck; omega)
        · refine rr_iconst rfl ?_
          refine rr_goto rfl rfl ?_
          exact K108 _ (by unfold kCheck; omega)
    · refine rr_iload_n rfl rfl ?_
      refine rr_if_eqB rfl rfl (fun h24 => ?_) (fun h24 => ?_)
      · refine rr_iconst rfl ?_
        exact K87 _ (by first | omega | (simp_all) | (split <;> omega))
      · refine rr_aload_n rfl rfl ?_
        refine rr_gfA 47 rfl rfl (by omega) rfl ?_
        refine rr_iload_n rfl rfl ?_
        refine rr_ia 47 40 rfl rfl rfl rfl (by omega) (by omega) (fun b32 => ?_)
        refine rr_iconst rfl ?_
        refine rr_icmp_ne rfl rfl (by omega) (by omega) (fun h34 => ?_) (fun h34 => ?_)
        · refine rr_iconst rfl ?_
          exact K87 _ (by first | omega | (simp_all) | (split <;> omega))
        · refine rr_aload_n rfl rfl ?_
          refine rr_gfA 55 rfl rfl (by omega) rfl ?_
          refine rr_iload rfl rfl ?_
          refine rr_ia 55 400 rfl rfl rfl rfl (by omega) (by omega) (fun b43 => ?_)
          refine rr_if_ne rfl rfl (by omega) (fun h44 => ?_) (fun h44 => ?_)
          · refine rr_iconst rfl ?_
            exact K87 _ (by first | omega | (simp_all) | (split <;> omega))
          · refine rr_aload_n rfl rfl ?_
            refine rr_aload_n rfl rfl ?_
            refine rr_gfA 53 rfl rfl (by omega) rfl ?_
            refine rr_iload rfl rfl ?_
            refine rr_iaL 53 400 (s) (fun _ => rfl) rfl rfl rfl rfl rfl (by omega) (by omega) (fun b54 => ?_)
            refine rr_cv1B rfl rfl rfl (Nat.le_of_ble_eq_true rfl) (sr_isFree (d := 0) (by omega)) (by omega) ?_
            refine rr_if_eqB rfl rfl (fun h58 => ?_) (fun h58 => ?_)
            · refine rr_iconst rfl ?_
              exact K87 _ (by first | omega | (simp_all) | (split <;> omega))
            · refine rr_aload_n rfl rfl ?_
              refine rr_aload_n rfl rfl ?_
              refine rr_gfA 53 rfl rfl (by omega) rfl ?_
              refine rr_iload rfl rfl ?_
              refine rr_iaL 53 400 (s) (fun _ => rfl) rfl rfl rfl rfl rfl (by omega) (by omega) (fun b68 => ?_)
              refine rr_cv1P rfl rfl rfl (Nat.le_of_ble_eq_true rfl) (sr_departs (d := 0) (by omega)) (by omega) (fun b69 => ?_)
              refine rr_aload_n rfl rfl ?_
              refine rr_gfI 0 rfl rfl (by omega) rfl (fun b73 => ?_)
              refine rr_isub rfl ?_
              refine rr_bipush (x := 24) rfl rfl ?_
              refine rr_icmp_gt rfl rfl (by omega) (by omega) (fun h79 => ?_) (fun h79 => ?_)
              · refine rr_iconst rfl ?_
                exact K87 _ (by first | omega | (simp_all) | (split <;> omega))
              · refine rr_iconst rfl ?_
                refine rr_goto rfl rfl ?_
                exact K87 _ (by first | omega | (simp_all) | (split <;> omega))
theorem sr_volunteer {d : Nat} {s : am_Z} {b : Int}  (hb : in32 b) : am_CR (d + 2) m_M_volunteer [aR 9 0, aI (zI b)] s (isP (if kBooking s b = 0 then wA (wI s 74 (kBooking s b)) 51 b (1 - rA s 51 b) else wI s 74 (kBooking s b)) (if kBooking s b = 0 then 1 - rA s 51 b else 0) (True)) := by
  refine am_CR_i (ls := [some (aR 9 0), some (aI (zI b))]) rfl (fun q0 => ?_)
  refine rr_inS (fun B => ?_)
  have b3 := B.2.1 3 0 12 rfl
  have b20 := B.2.1 20 0 16 rfl
  have b44 := B.2.1 44 0 40 rfl
  have b61 := B.2.1 61 0 20 rfl
  have b51 := B.1 51 b 0 1 rfl
  refine rr_aload_n rfl rfl ?_
  refine rr_join (pc' := 14) (V := kBooking s b) ?_ (fun K14 => ?_)
  · refine rr_cv1B rfl rfl rfl (Nat.le_of_ble_eq_true rfl) (sr_fails (d := 0) (by unfold kBooking; omega)) (by omega) ?_
    refine rr_if_eqB rfl rfl (fun h17 => ?_) (fun h17 => ?_)
    · have hk : kBooking s b = 0 := by have z : 0 ≤ kBooking s b := by { unfold kBooking; omega }; omega
      have hk2 := hk
      unfold kBooking at hk2
      refine rr_aload_n rfl rfl ?_
      refine rr_gfA 51 rfl rfl (by omega) rfl ?_
      refine rr_iload_n rfl rfl ?_
      refine rr_join (pc' := 41) (V := (1 - rA s 51 b)) ?_ (fun K41 => ?_)
      · refine rr_bas 51 40 rfl rfl rfl (by omega) (by omega) rfl rfl (by omega) (by omega) ?_
        refine rr_aload_n rfl rfl ?_
        refine rr_gfA 51 rfl rfl (by omega) rfl ?_
        refine rr_iload_n rfl rfl ?_
        refine rr_ba 51 40 rfl rfl rfl rfl (by omega) (by omega) (fun b47 => ?_)
        refine rr_iret rfl (Or.inr ⟨rfl, by first | omega | (split <;> omega)⟩) ?_
        first | exact rr_eP' ((show rA (wA (wI s 74 (kBooking s b)) 51 b (1 - rA s 51 b)) 51 b = 1 - rA s 51 b from if_pos ⟨rfl, rfl⟩).trans (if_pos hk).symm) (if_pos hk).symm trivial | exact rr_eP' (if_neg (by omega)).symm (if_neg (by omega)).symm trivial | exact False.elim (by omega)
      · refine rr_aload_n rfl rfl ?_
        refine rr_gfA 51 rfl rfl (by omega) rfl ?_
        refine rr_iload_n rfl rfl ?_
        refine rr_bav 51 40 (s) (fun _ => rfl) rfl rfl rfl rfl (by omega) (by omega) (fun b32 => ?_)
        refine rr_if_ne rfl rfl (by omega) (fun h33 => ?_) (fun h33 => ?_)
        · refine rr_iconst rfl ?_
          exact K41 _ (by first | omega | (simp_all) | (split <;> omega))
        · refine rr_iconst rfl ?_
          refine rr_goto rfl rfl ?_
          exact K41 _ (by first | omega | (simp_all) | (split <;> omega))
    · refine rr_iconst rfl ?_
      refine rr_iret rfl (Or.inr ⟨rfl, by first | omega | (split <;> omega)⟩) ?_
      first | exact rr_eP' ((show rA (wA (wI s 74 (kBooking s b)) 51 b (1 - rA s 51 b)) 51 b = 1 - rA s 51 b from if_pos ⟨rfl, rfl⟩).trans (if_pos hk).symm) (if_pos hk).symm trivial | exact rr_eP' (if_neg (by omega)).symm (if_neg (by omega)).symm trivial | exact False.elim (by omega)
  · refine rr_aload_n rfl rfl ?_
    refine rr_iload_n rfl rfl ?_
    refine rr_cv1B rfl rfl rfl (Nat.le_of_ble_eq_true rfl) (sr_isBooking (d := 0) (by omega)) (by omega) ?_
    refine rr_if_eqB rfl rfl (fun h6 => ?_) (fun h6 => ?_)
    · refine rr_iconst rfl ?_
      exact K14 _ (by unfold kBooking; omega)
    · refine rr_iconst rfl ?_
      refine rr_goto rfl rfl ?_
      exact K14 _ (by unfold kBooking; omega)
theorem sr_denied {d : Nat} {s : am_Z}   : am_CR (d + 1) m_M_denied [aR 9 0] s (isP (wI s 74 0) (rI s 68) (True)) := by
  refine am_CR_i (ls := [some (aR 9 0)]) rfl (fun q0 => ?_)
  refine rr_aload_n rfl rfl ?_
  refine rr_aload_n rfl rfl ?_
  refine rr_gfIn 68 rfl rfl (by omega) ?_
  refine rr_cv1P rfl rfl rfl (Nat.le_of_ble_eq_true rfl) (sr_tells (d := 0)) (by omega) (fun b5 => ?_)
  refine rr_iret rfl (Or.inl rfl) ?_
  exact rr_eP rfl trivial
theorem sr_points {d : Nat} {s : am_Z} {m : Int}  (hm : in32 m) : am_CR (d + 1) m_M_points [aR 9 0, aI (zI m)] s (isP (if kPoints m = 0 then wI s 74 (kPoints m) else wI s 74 (kPoints m)) (if kPoints m = 0 then rA s 69 m else 0) (True)) := by
  refine am_CR_i (ls := [some (aR 9 0), some (aI (zI m))]) rfl (fun q0 => ?_)
  refine rr_inS (fun B => ?_)
  have b3 := B.2.1 3 0 12 rfl
  have b20 := B.2.1 20 0 16 rfl
  have b44 := B.2.1 44 0 40 rfl
  have b61 := B.2.1 61 0 20 rfl
  refine rr_aload_n rfl rfl ?_
  refine rr_join (pc' := 15) (V := kPoints m) ?_ (fun K15 => ?_)
  · refine rr_cv1B rfl rfl rfl (Nat.le_of_ble_eq_true rfl) (sr_fails (d := 0) (by unfold kPoints; omega)) (by omega) ?_
    refine rr_if_eqB rfl rfl (fun h18 => ?_) (fun h18 => ?_)
    · have hk : kPoints m = 0 := by have z : 0 ≤ kPoints m := by { unfold kPoints; omega }; omega
      have hk2 := hk
      unfold kPoints at hk2
      refine rr_aload_n rfl rfl ?_
      refine rr_gfA 69 rfl rfl (by omega) rfl ?_
      refine rr_iload_n rfl rfl ?_
      refine rr_ian 69 5 rfl rfl rfl (by omega) (by omega) ?_
      refine rr_iret rfl (Or.inl rfl) ?_
      first | exact rr_eP' (if_pos hk).symm (if_pos hk).symm trivial | exact rr_eP' (if_neg (by omega)).symm (if_neg (by omega)).symm trivial | exact False.elim (by omega)
    · refine rr_iconst rfl ?_
      refine rr_goto rfl rfl ?_
      refine rr_iret rfl (Or.inl rfl) ?_
      first | exact rr_eP' (if_pos hk).symm (if_pos hk).symm trivial | exact rr_eP' (if_neg (by omega)).symm (if_neg (by omega)).symm trivial | exact False.elim (by omega)
  · refine rr_iload_n rfl rfl ?_
    refine rr_iconst rfl ?_
    refine rr_iconst rfl ?_
    refine rr_cs3B rfl rfl (Nat.le_of_ble_eq_true rfl) (sr_isIn (d := 0) (by omega) (by omega) (by omega)) (by omega) ?_
    refine rr_if_eqB rfl rfl (fun h7 => ?_) (fun h7 => ?_)
    · refine rr_iconst rfl ?_
      exact K15 _ (by unfold kPoints; omega)
    · refine rr_iconst rfl ?_
      refine rr_goto rfl rfl ?_
      exact K15 _ (by unfold kPoints; omega)
theorem sr_owed {d : Nat} {s : am_Z} {a b : Int}  (ha : in32 a) (hb : in32 b) : am_CR (d + 1) m_M_owed [aR 9 0, aI (zI a), aI (zI b)] s (isP (if kOwed a b = 0 then wI s 74 (kOwed a b) else wI s 74 (kOwed a b)) (if kOwed a b = 0 then rA s 70 (3 * a + b) else 0) (True)) := by
  refine am_CR_i (ls := [some (aR 9 0), some (aI (zI a)), some (aI (zI b)), none]) rfl (fun q0 => ?_)
  refine rr_inS (fun B => ?_)
  have b3 := B.2.1 3 0 12 rfl
  have b20 := B.2.1 20 0 16 rfl
  have b44 := B.2.1 44 0 40 rfl
  have b61 := B.2.1 61 0 20 rfl
  refine rr_join (pc' := 23) (V := if (0 ≤ a ∧ a ≤ 2) ∧ 0 ≤ b ∧ b ≤ 2 then 1 else 0) ?_ (fun K23 => ?_)
  · refine rr_stI3 rfl ?_
    refine rr_aload_n rfl rfl ?_
    refine rr_join (pc' := 34) (V := kOwed a b) ?_ (fun K34 => ?_)
    · refine rr_cv1B rfl rfl rfl (Nat.le_of_ble_eq_true rfl) (sr_fails (d := 0) (by unfold kOwed; omega)) (by omega) ?_
      refine rr_if_eqB rfl rfl (fun h37 => ?_) (fun h37 => ?_)
      · have hk : kOwed a b = 0 := by have z : 0 ≤ kOwed a b := by { unfold kOwed; omega }; omega
        have hk2 := hk
        unfold kOwed at hk2
        refine rr_aload_n rfl rfl ?_
        refine rr_gfA 70 rfl rfl (by omega) rfl ?_
        refine rr_iconst rfl ?_
        refine rr_iload_n rfl rfl ?_
        refine rr_imul rfl ?_
        refine rr_iload_n rfl rfl ?_
        refine rr_iadd rfl ?_
        refine rr_ian 70 9 rfl rfl rfl (by omega) (by omega) ?_
        refine rr_iret rfl (Or.inl rfl) ?_
        first | exact rr_eP' (if_pos hk).symm (if_pos hk).symm trivial | exact rr_eP' (if_neg (by omega)).symm (if_neg (by omega)).symm trivial | exact False.elim (by omega)
      · refine rr_iconst rfl ?_
        refine rr_goto rfl rfl ?_
        refine rr_iret rfl (Or.inl rfl) ?_
        first | exact rr_eP' (if_pos hk).symm (if_pos hk).symm trivial | exact rr_eP' (if_neg (by omega)).symm (if_neg (by omega)).symm trivial | exact False.elim (by omega)
    · refine rr_iload_n rfl rfl ?_
      refine rr_if_eqB rfl rfl (fun h26 => ?_) (fun h26 => ?_)
      · refine rr_iconst rfl ?_
        exact K34 _ (by unfold kOwed; omega)
      · refine rr_iconst rfl ?_
        refine rr_goto rfl rfl ?_
        exact K34 _ (by unfold kOwed; omega)
  · refine rr_iload_n rfl rfl ?_
    refine rr_iconst rfl ?_
    refine rr_iconst rfl ?_
    refine rr_cs3B rfl rfl (Nat.le_of_ble_eq_true rfl) (sr_isIn (d := 0) (by omega) (by omega) (by omega)) (by omega) ?_
    refine rr_if_eqB rfl rfl (fun h6 => ?_) (fun h6 => ?_)
    · refine rr_iconst rfl ?_
      exact K23 _ (by first | omega | (simp_all) | (split <;> omega))
    · refine rr_iload_n rfl rfl ?_
      refine rr_iconst rfl ?_
      refine rr_iconst rfl ?_
      refine rr_cs3B rfl rfl (Nat.le_of_ble_eq_true rfl) (sr_isIn (d := 0) (by omega) (by omega) (by omega)) (by omega) ?_
      refine rr_if_eqB rfl rfl (fun h15 => ?_) (fun h15 => ?_)
      · refine rr_iconst rfl ?_
        exact K23 _ (by first | omega | (simp_all) | (split <;> omega))
      · refine rr_iconst rfl ?_
        refine rr_goto rfl rfl ?_
        exact K23 _ (by first | omega | (simp_all) | (split <;> omega))
theorem lp_wish {d : Nat} {s : am_Z} {q0 : am_A} {Q : Option am_V → am_Z → Prop} {n mb w : Int} {x3 : Option am_V} (hw : 0 ≤ w ∧ w < 20) (hw2 : rI s 61 = w) : ∀ (m : Nat) (j : Nat) (k : Int) (s1 : am_Z), (rI s 33).toNat - j < m → (k = j ∧ (j : Int) ≤ rI s 33 ∧ s1 = wB s 65 (4 * w) j (fun i => rA s 34 (i - 4 * w))) → (∀ x4, am_WR d m_M_wish 126 [some (aR 9 0), some (aI (zI n)), some (aI (zI mb)), x3, x4] [] q0 (wB s 65 (4 * w) (rI s 33).toNat (fun i => rA s 34 (i - 4 * w))) Q) → am_WR d m_M_wish 90 [some (aR 9 0), some (aI (zI n)), some (aI (zI mb)), x3, some (aI (zI k))] [] q0 (s1) Q := by
  intro m
  induction m with
  | zero => intro j k s1 hm; exact absurd hm (Nat.not_lt_zero _)
  | succ m ih =>
    intro j k s1 hm ⟨hj, hj2, hs1⟩ K
    subst hj
    subst hs1
    refine rr_iload rfl rfl ?_
    refine rr_aload_n rfl rfl ?_
    refine rr_gfIv 33 (s) rfl rfl rfl (by omega) rfl (fun b93 => ?_)
    refine rr_icmp_ge rfl rfl (by omega) (by omega) (fun h96 => ?_) (fun h96 => ?_)
    · rw [show j = (rI s 33).toNat by omega]
      exact K _
    · refine rr_aload_n rfl rfl ?_
      refine rr_gfA 65 rfl rfl (by omega) rfl ?_
      refine rr_iconst rfl ?_
      refine rr_aload_n rfl rfl ?_
      refine rr_gfIv 61 (s) rfl rfl rfl (by omega) rfl (fun b105 => ?_)
      refine rr_imul rfl ?_
      refine rr_iload rfl rfl ?_
      refine rr_iadd rfl ?_
      refine rr_aload_n rfl rfl ?_
      refine rr_gfA 34 rfl rfl (by omega) rfl ?_
      refine rr_iload rfl rfl ?_
      refine rr_iaL 34 4 (s) (fun _ => rfl) rfl rfl rfl rfl rfl (by omega) (by omega) (fun b118 => ?_)
      refine rr_iasL 65 80 rfl ⟨rfl, by omega⟩ rfl (by omega) (by omega) rfl (by omega) (by omega) ?_
      refine rr_inc4 rfl ?_
      refine rr_goto rfl rfl ?_
      refine ih (j + 1) _ _ (by omega) ⟨by omega, by omega, ?_⟩ K
      have e := wB_s s 65 (4 * w) j (fun i => rA s 34 (i - 4 * w))
      rw [← e, hw2]
      show wA _ 65 _ (rA s 34 (j : Int)) = wA _ 65 _ (rA s 34 (4 * w + (j : Int) - 4 * w))
      rw [show 4 * w + (j : Int) - 4 * w = (j : Int) by omega]
theorem sr_wish {d : Nat} {s : am_Z} {n m : Int}  (hn : in32 n) (hm : in32 m) : am_CR (d + 2) m_M_wish [aR 9 0, aI (zI n), aI (zI m)] s (isP (if kWish s n m = 0 then wI (wI (wA (wB (wA (wA (wA (wI s 74 (kWish s n m)) 62 (rI s 61) n) 63 (rI s 61) m) 64 (rI s 61) (rI s 33)) 65 (4 * rI s 61) (rI s 33).toNat (fun i => rA s 34 (i - 4 * rI s 61))) 66 (rI s 61) (-1)) 33 0) 61 (rI s 61 + 1) else wI s 74 (kWish s n m)) (if kWish s n m = 0 then rI s 61 else 0) (True)) := by
  refine am_CR_i (ls := [some (aR 9 0), some (aI (zI n)), some (aI (zI m)), none, none]) rfl (fun q0 => ?_)
  refine rr_inS (fun B => ?_)
  have b3 := B.2.1 3 0 12 rfl
  have b20 := B.2.1 20 0 16 rfl
  have b44 := B.2.1 44 0 40 rfl
  have b61 := B.2.1 61 0 20 rfl
  have b33 := B.2.1 33 0 4 rfl
  refine rr_iload_n rfl rfl ?_
  refine rr_cs1B rfl rfl (Nat.le_of_ble_eq_true rfl) (sr_isMember (d := 0) (by omega)) (by omega) ?_
  refine rr_stI3 rfl ?_
  refine rr_aload_n rfl rfl ?_
  refine rr_join (pc' := 46) (V := kWish s n m) ?_ (fun K46 => ?_)
  · refine rr_cv1B rfl rfl rfl (Nat.le_of_ble_eq_true rfl) (sr_fails (d := 0) (by unfold kWish; omega)) (by omega) ?_
    refine rr_if_eqB rfl rfl (fun h49 => ?_) (fun h49 => ?_)
    · have hk : kWish s n m = 0 := by have z : 0 ≤ kWish s n m := by { unfold kWish; omega }; omega
      have hk2 := hk
      unfold kWish at hk2
      refine rr_aload_n rfl rfl ?_
      refine rr_gfA 62 rfl rfl (by omega) rfl ?_
      refine rr_aload_n rfl rfl ?_
      refine rr_gfIv 61 (s) rfl rfl rfl (by omega) rfl (fun b59 => ?_)
      refine rr_iload_n rfl rfl ?_
      refine rr_ias 62 20 rfl ⟨rfl, by omega⟩ rfl (by omega) (by omega) rfl rfl (by omega) (by omega) ?_
      refine rr_aload_n rfl rfl ?_
      refine rr_gfA 63 rfl rfl (by omega) rfl ?_
      refine rr_aload_n rfl rfl ?_
      refine rr_gfIv 61 (s) rfl rfl rfl (by omega) rfl (fun b69 => ?_)
      refine rr_iload_n rfl rfl ?_
      refine rr_ias 63 20 rfl ⟨rfl, by omega⟩ rfl (by omega) (by omega) rfl rfl (by omega) (by omega) ?_
      refine rr_aload_n rfl rfl ?_
      refine rr_gfA 64 rfl rfl (by omega) rfl ?_
      refine rr_aload_n rfl rfl ?_
      refine rr_gfIv 61 (s) rfl rfl rfl (by omega) rfl (fun b79 => ?_)
      refine rr_aload_n rfl rfl ?_
      refine rr_gfIv 33 (s) rfl rfl rfl (by omega) rfl (fun b83 => ?_)
      refine rr_ias 64 20 rfl ⟨rfl, by omega⟩ rfl (by omega) (by omega) rfl rfl (by omega) (by omega) ?_
      refine rr_iconst rfl ?_
      refine rr_stI4 rfl ?_
      refine lp_wish (d := d + 2) (s := (wA (wA (wA (wI s 74 (kWish s n m)) 62 (rI s 61) n) 63 (rI s 61) m) 64 (rI s 61) (rI s 33))) (w := rI s 61) (by omega) rfl ((rI s 33).toNat + 1) 0 0 _ (by show (rI s 33).toNat - 0 < (rI s 33).toNat + 1; omega) ⟨rfl, by show (0 : Int) ≤ rI s 33; omega, (wB_0 ..).symm⟩ (fun x4 => ?_)
      refine rr_aload_n rfl rfl ?_
      refine rr_gfA 66 rfl rfl (by omega) rfl ?_
      refine rr_aload_n rfl rfl ?_
      refine rr_gfIv 61 (s) rfl rfl rfl (by omega) rfl (fun b131 => ?_)
      refine rr_iconst rfl ?_
      refine rr_ias 66 20 rfl ⟨rfl, by omega⟩ rfl (by omega) (by omega) rfl rfl (by omega) (by omega) ?_
      refine rr_aload_n rfl rfl ?_
      refine rr_iconst rfl ?_
      refine rr_pfI 33 rfl rfl rfl rfl (by omega) rfl (by omega) ?_
      refine rr_aload_n rfl rfl ?_
      refine rr_dup rfl rfl ?_
      refine rr_gfIv 61 (s) rfl rfl rfl (by omega) rfl (fun b143 => ?_)
      refine rr_iconst rfl ?_
      refine rr_iadd rfl ?_
      refine rr_pfI 61 rfl rfl rfl rfl (by omega) rfl (by omega) ?_
      refine rr_aload_n rfl rfl ?_
      refine rr_gfI 61 rfl rfl (by omega) rfl (fun b152 => ?_)
      refine rr_iconst rfl ?_
      refine rr_isub rfl ?_
      refine rr_iret rfl (Or.inl rfl) ?_
      first | exact rr_eP' ((show rI s 61 + 1 - 1 = rI s 61 by omega).trans (if_pos hk).symm) (if_pos hk).symm trivial | exact rr_eP' (if_neg (by omega)).symm (if_neg (by omega)).symm trivial | exact False.elim (by omega)
    · refine rr_iconst rfl ?_
      refine rr_iret rfl (Or.inl rfl) ?_
      first | exact rr_eP' ((show rI s 61 + 1 - 1 = rI s 61 by omega).trans (if_pos hk).symm) (if_pos hk).symm trivial | exact rr_eP' (if_neg (by omega)).symm (if_neg (by omega)).symm trivial | exact False.elim (by omega)
  · refine rr_iload_n rfl rfl ?_
    refine rr_if_neB rfl rfl (fun h7 => ?_) (fun h7 => ?_)
    · refine rr_iload_n rfl rfl ?_
      refine rr_cs1B rfl rfl (Nat.le_of_ble_eq_true rfl) (sr_isMany (d := 0) (by omega)) (by omega) ?_
      refine rr_if_neB rfl rfl (fun h18 => ?_) (fun h18 => ?_)
      · refine rr_aload_n rfl rfl ?_
        refine rr_gfI 33 rfl rfl (by omega) rfl (fun b26 => ?_)
        refine rr_if_eq rfl rfl (by omega) (fun h29 => ?_) (fun h29 => ?_)
        · refine rr_iconst rfl ?_
          refine rr_goto rfl rfl ?_
          exact K46 _ (by unfold kWish; omega)
        · refine rr_aload_n rfl rfl ?_
          refine rr_gfI 61 rfl rfl (by omega) rfl (fun b33 => ?_)
          refine rr_bipush (x := 20) rfl rfl ?_
          refine rr_icmp_ne rfl rfl (by omega) (by omega) (fun h38 => ?_) (fun h38 => ?_)
          · refine rr_iconst rfl ?_
            exact K46 _ (by unfold kWish; omega)
          · refine rr_iconst rfl ?_
            refine rr_goto rfl rfl ?_
            exact K46 _ (by unfold kWish; omega)
      · refine rr_iconst rfl ?_
        refine rr_goto rfl rfl ?_
        exact K46 _ (by unfold kWish; omega)
    · refine rr_iconst rfl ?_
      refine rr_goto rfl rfl ?_
      exact K46 _ (by unfold kWish; omega)
def prtF (b c : Int) (i : Nat) (t : am_Z) : am_Z := cpyS t (10 * b + i) (10 * c + i)
def prtG (b c : Int) (i : Nat) (t : am_Z) : am_Z := wA (wA t 59 (4 * c + i) (rA t 59 (4 * b + i))) 60 (4 * c + i) (rA t 60 (4 * b + i))
theorem lp_part1 {d : Nat} {s : am_Z} {q0 : am_A} {Q : Option am_V → am_Z → Prop} {b c : Int} {x2 x3 x4 : Option am_V} (hb : 0 ≤ b ∧ b < 40) (hc : 0 ≤ c ∧ c < 40) : ∀ (m : Nat) (j : Nat) (k : Int) (s1 : am_Z), 10 - j < m → (k = j ∧ j ≤ 10 ∧ s1 = itS (prtF b c) j s) → (∀ x6, am_WR (d + 1) m_M_part 243 [some (aR 9 0), some (aI (zI b)), x2, x3, x4, some (aI (zI c)), x6] [] q0 (itS (prtF b c) 10 s) Q) → am_WR (d + 1) m_M_part 211 [some (aR 9 0), some (aI (zI b)), x2, x3, x4, some (aI (zI c)), some (aI (zI k))] [] q0 (s1) Q := by
  intro m
  induction m with
  | zero => intro j k s1 hm; exact absurd hm (Nat.not_lt_zero _)
  | succ m ih =>
    intro j k s1 hm ⟨hj, hj2, hs1⟩ K
    subst hj
    refine rr_iload rfl rfl ?_
    refine rr_bipush (x := 10) rfl rfl ?_
    refine rr_icmp_ge rfl rfl (by omega) (by omega) (fun h215 => ?_) (fun h215 => ?_)
    · rw [hs1, show j = 10 by omega]
      exact K _
    · refine rr_aload_n rfl rfl ?_
      refine rr_bipush (x := 10) rfl rfl ?_
      refine rr_iload_n rfl rfl ?_
      refine rr_imul rfl ?_
      refine rr_iload rfl rfl ?_
      refine rr_iadd rfl ?_
      refine rr_bipush (x := 10) rfl rfl ?_
      refine rr_iload rfl rfl ?_
      refine rr_imul rfl ?_
      refine rr_iload rfl rfl ?_
      refine rr_iadd rfl ?_
      refine rr_cv2W rfl rfl rfl (Nat.le_of_ble_eq_true rfl) (sr_copies (d := 0) (by omega) (by omega)) (by omega) ?_
      refine rr_inc6 rfl ?_
      refine rr_goto rfl rfl ?_
      exact ih (j + 1) _ _ (by omega) ⟨by omega, by omega, by rw [itS_s, ← hs1]; rfl⟩ K
theorem lp_part2 {d : Nat} {s : am_Z} {q0 : am_A} {Q : Option am_V → am_Z → Prop} {b c : Int} {x2 x3 x4 : Option am_V} (hb : 0 ≤ b ∧ b < 40) (hc : 0 ≤ c ∧ c < 40) : ∀ (m : Nat) (j : Nat) (k : Int) (s1 : am_Z), 4 - j < m → (k = j ∧ j ≤ 4 ∧ s1 = itS (prtG b c) j s) → (∀ x6, am_WR d m_M_part 304 [some (aR 9 0), some (aI (zI b)), x2, x3, x4, some (aI (zI c)), x6] [] q0 (itS (prtG b c) 4 s) Q) → am_WR d m_M_part 246 [some (aR 9 0), some (aI (zI b)), x2, x3, x4, some (aI (zI c)), some (aI (zI k))] [] q0 (s1) Q := by
  intro m
  induction m with
  | zero => intro j k s1 hm; exact absurd hm (Nat.not_lt_zero _)
  | succ m ih =>
    intro j k s1 hm ⟨hj, hj2, hs1⟩ K
    subst hj
    refine rr_iload rfl rfl ?_
    refine rr_iconst rfl ?_
    refine rr_icmp_ge rfl rfl (by omega) (by omega) (fun h249 => ?_) (fun h249 => ?_)
    · rw [hs1, show j = 4 by omega]
      exact K _
    · refine rr_aload_n rfl rfl ?_
      refine rr_gfA 59 rfl rfl (by omega) rfl ?_
      refine rr_iconst rfl ?_
      refine rr_iload rfl rfl ?_
      refine rr_imul rfl ?_
      refine rr_iload rfl rfl ?_
      refine rr_iadd rfl ?_
      refine rr_aload_n rfl rfl ?_
      refine rr_gfA 59 rfl rfl (by omega) rfl ?_
      refine rr_iconst rfl ?_
      refine rr_iload_n rfl rfl ?_
      refine rr_imul rfl ?_
      refine rr_iload rfl rfl ?_
      refine rr_iadd rfl ?_
      refine rr_ia 59 160 rfl rfl rfl rfl (by omega) (by omega) (fun b273 => ?_)
      refine rr_ias 59 160 rfl ⟨rfl, by omega⟩ rfl (by omega) (by omega) rfl rfl (by omega) (by omega) ?_
      refine rr_aload_n rfl rfl ?_
      refine rr_gfA 60 rfl rfl (by omega) rfl ?_
      refine rr_iconst rfl ?_
      refine rr_iload rfl rfl ?_
      refine rr_imul rfl ?_
      refine rr_iload rfl rfl ?_
      refine rr_iadd rfl ?_
      refine rr_aload_n rfl rfl ?_
      refine rr_gfA 60 rfl rfl (by omega) rfl ?_
      refine rr_iconst rfl ?_
      refine rr_iload_n rfl rfl ?_
      refine rr_imul rfl ?_
      refine rr_iload rfl rfl ?_
      refine rr_iadd rfl ?_
      refine rr_iav 60 160 (s1) (fun _ => rfl) rfl rfl rfl rfl (by omega) (by omega) (fun b296 => ?_)
      refine rr_ias 60 160 rfl ⟨rfl, by omega⟩ rfl (by omega) (by omega) rfl rfl (by omega) (by omega) ?_
      refine rr_inc6 rfl ?_
      refine rr_goto rfl rfl ?_
      exact ih (j + 1) _ _ (by omega) ⟨by omega, by omega, by rw [itS_s, ← hs1]; rfl⟩ K
theorem sr_part {d : Nat} {s : am_Z} {b n : Int}  (hb : in32 b) (hn : in32 n) : am_CR (d + 2) m_M_part [aR 9 0, aI (zI b), aI (zI n)] s (isP (if kPart s b n = 0 then itS (prtG b (rI s 44)) 4 (itS (prtF b (rI s 44)) 10 (wA (wA (wA (wA (wA (wA (wA (wA (wA (wI (wI s 74 (kPart s b n)) 44 (rI s 44 + 1)) 45 b (rA s 45 b - n)) 45 (rI s 44) n) 46 (rI s 44) (rA s 46 b)) 47 (rI s 44) (rA s 47 b)) 48 (rI s 44) (rA s 48 b)) 49 (rI s 44) (rA s 49 b)) 50 (rI s 44) (rA s 50 b)) 51 (rI s 44) (rA s 51 b)) 52 (rI s 44) (rA s 52 b))) else wI s 74 (kPart s b n)) (if kPart s b n = 0 then rI s 44 else 0) (True)) := by
  refine am_CR_i (ls := [some (aR 9 0), some (aI (zI b)), some (aI (zI n)), none, none, none, none]) rfl (fun q0 => ?_)
  refine rr_inS (fun B => ?_)
  have b3 := B.2.1 3 0 12 rfl
  have b20 := B.2.1 20 0 16 rfl
  have b44 := B.2.1 44 0 40 rfl
  have b61 := B.2.1 61 0 20 rfl
  have b45 := B.1 45 b 0 9 rfl
  refine rr_aload_n rfl rfl ?_
  refine rr_iload_n rfl rfl ?_
  refine rr_cv1B rfl rfl rfl (Nat.le_of_ble_eq_true rfl) (sr_isBooking (d := 0) (by omega)) (by omega) ?_
  refine rr_stI3 rfl ?_
  refine rr_join (pc' := 31) (V := if (0 ≤ b ∧ b < rI s 44) ∧ 1 ≤ n ∧ n ≤ rA s 45 b - 1 then 1 else 0) ?_ (fun K31 => ?_)
  · refine rr_stI4 rfl ?_
    refine rr_aload_n rfl rfl ?_
    refine rr_join (pc' := 75) (V := kPart s b n) ?_ (fun K75 => ?_)
    · refine rr_cv1B rfl rfl rfl (Nat.le_of_ble_eq_true rfl) (sr_fails (d := 0) (by unfold kPart; omega)) (by omega) ?_
      refine rr_if_eqB rfl rfl (fun h78 => ?_) (fun h78 => ?_)
      · have hk : kPart s b n = 0 := by have z : 0 ≤ kPart s b n := by { unfold kPart; omega }; omega
        have hk2 := hk
        unfold kPart at hk2
        refine rr_aload_n rfl rfl ?_
        refine rr_gfIv 44 (s) rfl rfl rfl (by omega) rfl (fun b84 => ?_)
        refine rr_stI5 rfl ?_
        refine rr_aload_n rfl rfl ?_
        refine rr_dup rfl rfl ?_
        refine rr_gfIv 44 (s) rfl rfl rfl (by omega) rfl (fun b91 => ?_)
        refine rr_iconst rfl ?_
        refine rr_iadd rfl ?_
        refine rr_pfI 44 rfl rfl rfl rfl (by omega) rfl (by omega) ?_
        refine rr_aload_n rfl rfl ?_
        refine rr_gfA 45 rfl rfl (by omega) rfl ?_
        refine rr_iload_n rfl rfl ?_
        refine rr_dup2 rfl rfl rfl ?_
        refine rr_iav 45 40 (s) (fun _ => rfl) rfl rfl rfl rfl (by omega) (by omega) (fun b105 => ?_)
        refine rr_iload_n rfl rfl ?_
        refine rr_isub rfl ?_
        refine rr_ias 45 40 rfl ⟨rfl, by omega⟩ rfl (by omega) (by omega) rfl rfl (by omega) (by omega) ?_
        refine rr_aload_n rfl rfl ?_
        refine rr_gfA 45 rfl rfl (by omega) rfl ?_
        refine rr_iload rfl rfl ?_
        refine rr_iload_n rfl rfl ?_
        refine rr_ias 45 40 rfl ⟨rfl, by omega⟩ rfl (by omega) (by omega) rfl rfl (by omega) (by omega) ?_
        refine rr_aload_n rfl rfl ?_
        refine rr_gfA 46 rfl rfl (by omega) rfl ?_
        refine rr_iload rfl rfl ?_
        refine rr_aload_n rfl rfl ?_
        refine rr_gfA 46 rfl rfl (by omega) rfl ?_
        refine rr_iload_n rfl rfl ?_
        refine rr_iav 46 40 (s) (fun _ => rfl) rfl rfl rfl rfl (by omega) (by omega) (fun b128 => ?_)
        refine rr_ias 46 40 rfl ⟨rfl, by omega⟩ rfl (by omega) (by omega) rfl rfl (by omega) (by omega) ?_
        refine rr_aload_n rfl rfl ?_
        refine rr_gfA 47 rfl rfl (by omega) rfl ?_
        refine rr_iload rfl rfl ?_
        refine rr_aload_n rfl rfl ?_
        refine rr_gfA 47 rfl rfl (by omega) rfl ?_
        refine rr_iload_n rfl rfl ?_
        refine rr_iav 47 40 (s) (fun _ => rfl) rfl rfl rfl rfl (by omega) (by omega) (fun b141 => ?_)
        refine rr_ias 47 40 rfl ⟨rfl, by omega⟩ rfl (by omega) (by omega) rfl rfl (by omega) (by omega) ?_
        refine rr_aload_n rfl rfl ?_
        refine rr_gfA 48 rfl rfl (by omega) rfl ?_
        refine rr_iload rfl rfl ?_
        refine rr_aload_n rfl rfl ?_
        refine rr_gfA 48 rfl rfl (by omega) rfl ?_
        refine rr_iload_n rfl rfl ?_
        refine rr_iav 48 40 (s) (fun _ => rfl) rfl rfl rfl rfl (by omega) (by omega) (fun b154 => ?_)
        refine rr_ias 48 40 rfl ⟨rfl, by omega⟩ rfl (by omega) (by omega) rfl rfl (by omega) (by omega) ?_
        refine rr_aload_n rfl rfl ?_
        refine rr_gfA 49 rfl rfl (by omega) rfl ?_
        refine rr_iload rfl rfl ?_
        refine rr_aload_n rfl rfl ?_
        refine rr_gfA 49 rfl rfl (by omega) rfl ?_
        refine rr_iload_n rfl rfl ?_
        refine rr_iav 49 40 (s) (fun _ => rfl) rfl rfl rfl rfl (by omega) (by omega) (fun b167 => ?_)
        refine rr_ias 49 40 rfl ⟨rfl, by omega⟩ rfl (by omega) (by omega) rfl rfl (by omega) (by omega) ?_
        refine rr_aload_n rfl rfl ?_
        refine rr_gfA 50 rfl rfl (by omega) rfl ?_
        refine rr_iload rfl rfl ?_
        refine rr_aload_n rfl rfl ?_
        refine rr_gfA 50 rfl rfl (by omega) rfl ?_
        refine rr_iload_n rfl rfl ?_
        refine rr_iav 50 40 (s) (fun _ => rfl) rfl rfl rfl rfl (by omega) (by omega) (fun b180 => ?_)
        refine rr_ias 50 40 rfl ⟨rfl, by omega⟩ rfl (by omega) (by omega) rfl rfl (by omega) (by omega) ?_
        refine rr_aload_n rfl rfl ?_
        refine rr_gfA 51 rfl rfl (by omega) rfl ?_
        refine rr_iload rfl rfl ?_
        refine rr_aload_n rfl rfl ?_
        refine rr_gfA 51 rfl rfl (by omega) rfl ?_
        refine rr_iload_n rfl rfl ?_
        refine rr_bav 51 40 (s) (fun _ => rfl) rfl rfl rfl rfl (by omega) (by omega) (fun b193 => ?_)
        refine rr_bas 51 40 rfl rfl rfl (by omega) (by omega) rfl rfl (by omega) (by omega) ?_
        refine rr_aload_n rfl rfl ?_
        refine rr_gfA 52 rfl rfl (by omega) rfl ?_
        refine rr_iload rfl rfl ?_
        refine rr_aload_n rfl rfl ?_
        refine rr_gfA 52 rfl rfl (by omega) rfl ?_
        refine rr_iload_n rfl rfl ?_
        refine rr_iav 52 40 (s) (fun _ => rfl) rfl rfl rfl rfl (by omega) (by omega) (fun b206 => ?_)
        refine rr_ias 52 40 rfl ⟨rfl, by omega⟩ rfl (by omega) (by omega) rfl rfl (by omega) (by omega) ?_
        refine rr_iconst rfl ?_
        refine rr_stI6 rfl ?_
        refine lp_part1 (d := d + 1) (s := (wA (wA (wA (wA (wA (wA (wA (wA (wA (wI (wI s 74 (kPart s b n)) 44 (rI s 44 + 1)) 45 b (rA s 45 b - n)) 45 (rI s 44) n) 46 (rI s 44) (rA s 46 b)) 47 (rI s 44) (rA s 47 b)) 48 (rI s 44) (rA s 48 b)) 49 (rI s 44) (rA s 49 b)) 50 (rI s 44) (rA s 50 b)) 51 (rI s 44) (rA s 51 b)) 52 (rI s 44) (rA s 52 b))) (by omega) (by omega) 11 0 0 _ (by omega) ⟨rfl, by omega, rfl⟩ (fun x6 => ?_)
        refine rr_iconst rfl ?_
        refine rr_stI6 rfl ?_
        refine lp_part2 (d := d + 2) (s := itS (prtF b (rI s 44)) 10 (wA (wA (wA (wA (wA (wA (wA (wA (wA (wI (wI s 74 (kPart s b n)) 44 (rI s 44 + 1)) 45 b (rA s 45 b - n)) 45 (rI s 44) n) 46 (rI s 44) (rA s 46 b)) 47 (rI s 44) (rA s 47 b)) 48 (rI s 44) (rA s 48 b)) 49 (rI s 44) (rA s 49 b)) 50 (rI s 44) (rA s 50 b)) 51 (rI s 44) (rA s 51 b)) 52 (rI s 44) (rA s 52 b))) (by omega) (by omega) 5 0 0 _ (by omega) ⟨rfl, by omega, rfl⟩ (fun x6 => ?_)
        refine rr_iload rfl rfl ?_
        refine rr_iret rfl (Or.inl rfl) ?_
        first | exact rr_eP' (if_pos hk).symm (if_pos hk).symm trivial | exact rr_eP' (if_neg (by omega)).symm (if_neg (by omega)).symm trivial | exact False.elim (by omega)
      · refine rr_iconst rfl ?_
        refine rr_iret rfl (Or.inl rfl) ?_
        first | exact rr_eP' (if_pos hk).symm (if_pos hk).symm trivial | exact rr_eP' (if_neg (by omega)).symm (if_neg (by omega)).symm trivial | exact False.elim (by omega)
    · refine rr_iload_n rfl rfl ?_
      refine rr_if_neB rfl rfl (fun h35 => ?_) (fun h35 => ?_)
      · refine rr_iload rfl rfl ?_
        refine rr_if_neB rfl rfl (fun h44 => ?_) (fun h44 => ?_)
        · refine rr_aload_n rfl rfl ?_
          refine rr_gfA 47 rfl rfl (by omega) rfl ?_
          refine rr_iload_n rfl rfl ?_
          refine rr_ia 47 40 rfl rfl rfl rfl (by omega) (by omega) (fun b56 => ?_)
          refine rr_iconst rfl ?_
          refine rr_icmp_gt rfl rfl (by omega) (by omega) (fun h58 => ?_) (fun h58 => ?_)
          · refine rr_iconst rfl ?_
            refine rr_goto rfl rfl ?_
            exact K75 _ (by unfold kPart; omega)
          · refine rr_aload_n rfl rfl ?_
            refine rr_gfI 44 rfl rfl (by omega) rfl (fun b62 => ?_)
            refine rr_bipush (x := 40) rfl rfl ?_
            refine rr_icmp_ne rfl rfl (by omega) (by omega) (fun h67 => ?_) (fun h67 => ?_)
            · refine rr_iconst rfl ?_
              exact K75 _ (by unfold kPart; omega)
            · refine rr_iconst rfl ?_
              refine rr_goto rfl rfl ?_
              exact K75 _ (by unfold kPart; omega)
        · refine rr_iconst rfl ?_
          refine rr_goto rfl rfl ?_
          exact K75 _ (by unfold kPart; omega)
      · refine rr_iconst rfl ?_
        refine rr_goto rfl rfl ?_
        exact K75 _ (by unfold kPart; omega)
  · refine rr_iload_n rfl rfl ?_
    refine rr_if_eqB rfl rfl (fun h7 => ?_) (fun h7 => ?_)
    · refine rr_iconst rfl ?_
      exact K31 _ (by first | omega | (simp_all) | (split <;> omega))
    · refine rr_iload_n rfl rfl ?_
      refine rr_iconst rfl ?_
      refine rr_aload_n rfl rfl ?_
      refine rr_gfA 45 rfl rfl (by omega) rfl ?_
      refine rr_iload_n rfl rfl ?_
      refine rr_ia 45 40 rfl rfl rfl rfl (by omega) (by omega) (fun b17 => ?_)
      refine rr_iconst rfl ?_
      refine rr_isub rfl ?_
      refine rr_cs3B rfl rfl (Nat.le_of_ble_eq_true rfl) (sr_isIn (d := 0) (by omega) (by omega) (by omega)) (by omega) ?_
      refine rr_if_eqB rfl rfl (fun h23 => ?_) (fun h23 => ?_)
      · refine rr_iconst rfl ?_
        exact K31 _ (by first | omega | (simp_all) | (split <;> omega))
      · refine rr_iconst rfl ?_
        refine rr_goto rfl rfl ?_
        exact K31 _ (by first | omega | (simp_all) | (split <;> omega))
end

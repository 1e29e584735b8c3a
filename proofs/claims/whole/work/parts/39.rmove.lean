noncomputable section
theorem dep_b {s : am_Z} (B : in_S s) {l : Int} (_hl : legR l) : -14 ≤ dep s l ∧ dep s l ≤ 1500 := by
  have h1 := B.1 7 (l / 100) 0 23 rfl
  have h2 := B.1 1 (rA s 5 (l / 100)) (-12) 14 rfl
  have h3 := B.1 17 (61 * (l / 100) + l % 100) 0 8 rfl
  unfold dep
  omega
abbrev okL (W : am_Y) : Prop := (W.2.1 = -1 ∨ legR W.2.1) ∧ (W.2.2 = -1 ∨ legR W.2.2)
theorem it2_ok {s : am_Z} (B : in_S s) {b own N g a : Int} (ha : legR a) {W : am_Y} (hW : okL W) (n : Nat) : okL (it2 s b own N g a n W) := by
  induction n with
  | zero => exact hW
  | succ n ih =>
    rw [it2]
    unfold stp2
    split
    · rename_i h
      exact ⟨Or.inr ha, Or.inr (legP_R B h.1.1)⟩
    · exact ih
theorem itA_ok {s : am_Z} (B : in_S s) {b own E L N g : Int} (n : Nat) : okL (itA s b own E L N g n (0, -1, -1)) := by
  induction n with
  | zero => exact ⟨Or.inl rfl, Or.inl rfl⟩
  | succ n ih =>
    have h1 : okL (stp1 s b own E L N g n (itA s b own E L N g n (0, -1, -1))) := by
      unfold stp1
      split
      · rename_i h
        exact ⟨Or.inr (legP_R B h.1.1), Or.inl rfl⟩
      · exact ih
    rw [itA]
    unfold stpA
    split
    · rename_i h
      exact it2_ok B (legP_R B h.1.1) h1 _
    · exact h1
theorem wayS_ok {s : am_Z} (B : in_S s) (b c : Int) : okL (wayS s b c) := itA_ok B _
def nWay (s : am_Z) (b c : Int) : Int := if (wayS s b c).2.1 = -1 then 0 else if (wayS s b c).2.2 = -1 then 1 else 2
def shF (top n : Int) (i : Nat) (t : am_Z) : am_Z := cpyS t (top - i) (top - i + n)
def mvF (k : Int) (i : Nat) (t : am_Z) : am_Z := wA (wA (wA (wA (wA (wA t 53 (k + ((i : Int) + 1)) (if (i : Int) + 1 = 1 then rI t 72 else rI t 73)) 54 (k + ((i : Int) + 1)) 0) 55 (k + ((i : Int) + 1)) 0) 56 (k + ((i : Int) + 1)) (rA t 56 k)) 57 (k + ((i : Int) + 1)) (if (i : Int) + 1 = 1 then rA t 57 k else 0)) 58 (k + ((i : Int) + 1)) (if (i : Int) + 1 = 1 then rA t 58 k else 0)
abbrev mvP (s : am_Z) (b c : Int) : Prop := nWay s b c ≠ 0 ∧ rA s 52 b + nWay s b c ≤ 10
def moveS (s : am_Z) (b c : Int) : am_Z :=
  if mvP s b c then wA (wA (wA (itS (mvF (10 * b + c)) (nWay s b c).toNat (wA (itS (shF (10 * b + rA s 52 b - 1) (nWay s b c)) (rA s 52 b - 1 - c).toNat (findS s b c)) 52 b (rA s 52 b + nWay s b c))) 55 (10 * b + c) 4) 57 (10 * b + c) 0) 58 (10 * b + c) 0
  else wA (findS s b c) 55 (10 * b + c) 5
theorem sr_findsWay {d : Nat} {s : am_Z} {b c : Int}  (hb : 0 ≤ b ∧ b < 40) (hc : 0 ≤ c ∧ c ≤ 9) : am_CR (d + 5) m_M_findsWay [aR 9 0, aI (zI b), aI (zI c)] s (isW (findS s b c)) := by
  refine am_CR_i (ls := [some (aR 9 0), some (aI (zI b)), some (aI (zI c)), none, none, none, none, none, none, none, none, none, none, none, none]) rfl (fun q0 => ?_)
  refine rr_inS (fun B => ?_)
  have b3 := B.2.1 3 0 12 rfl
  refine rr_aload_n rfl rfl ?_
  refine rr_gfA 53 rfl rfl (by omega) rfl ?_
  refine rr_bipush (x := 10) rfl rfl ?_
  refine rr_iload_n rfl rfl ?_
  refine rr_imul rfl ?_
  refine rr_iload_n rfl rfl ?_
  refine rr_iadd rfl ?_
  refine rr_iaL 53 400 (s) (fun _ => rfl) rfl rfl rfl rfl rfl (by omega) (by omega) (fun b10 => ?_)
  refine rr_stI3 rfl ?_
  refine rr_aload_n rfl rfl ?_
  refine rr_iload_n rfl rfl ?_
  refine rr_iload_n rfl rfl ?_
  refine rr_iconst rfl ?_
  refine rr_cv3P rfl rfl rfl (Nat.le_of_ble_eq_true rfl) (sr_neighbour (d := 0) (by omega) (by omega) (by omega)) (by omega) (fun b16 => ?_)
  refine rr_stI4 rfl ?_
  refine rr_aload_n rfl rfl ?_
  refine rr_iload_n rfl rfl ?_
  refine rr_iload_n rfl rfl ?_
  refine rr_iconst rfl ?_
  refine rr_cv3P rfl rfl rfl (Nat.le_of_ble_eq_true rfl) (sr_neighbour (d := 0) (by omega) (by omega) (by omega)) (by omega) (fun b25 => ?_)
  refine rr_stI5 rfl ?_
  refine rr_aload_n rfl rfl ?_
  refine rr_gfI 0 rfl rfl (by omega) rfl (fun b31 => ?_)
  refine rr_iconst rfl ?_
  refine rr_iadd rfl ?_
  refine rr_stI6 rfl ?_
  refine rr_iload rfl rfl ?_
  refine rr_iconst rfl ?_
  refine rr_icmp_eq rfl rfl (by omega) (by omega) (fun h41 => ?_) (fun h41 => ?_)
  · first
      | rw [show rI s 0 + 1 = earS s b c by { unfold earS; rw [if_neg (by omega)] }]
      | rw [show arv s (rA s 53 (10 * b + nbS s b c (-1))) + 1 = earS s b c by { unfold earS; rw [if_pos ⟨by omega, by omega⟩] }]
    have hE : in32 (earS s b c) := by { unfold earS; split <;> omega }
    refine rr_aload_n rfl rfl ?_
    refine rr_iload_n rfl rfl ?_
    refine rr_cv1P rfl rfl rfl (Nat.le_of_ble_eq_true rfl) (sr_departs (d := 0) (by omega)) (by omega) (fun b89 => ?_)
    refine rr_bipush (x := 48) rfl rfl ?_
    refine rr_iadd rfl ?_
    refine rr_stI7 rfl ?_
    refine rr_join (pc' := 127) (V := endS s b c) ?_ (fun K127 => ?_)
    · refine rr_stI8 rfl ?_
      have hN : in32 (endS s b c) := by { have z := nbR_b s b 1 12 (c + 1); have z2 := B.1 52 b 0 10 rfl; have z3 := B.1 53 (10 * b + nbS s b c 1) 0 1160 rfl; have z4 := B.2.2 53 (10 * b + nbS s b c 1) rfl; have z5 := dep_b B (l := rA s 53 (10 * b + nbS s b c 1)) ⟨z3.1, z3.2, z4⟩; unfold endS; split <;> omega }
      refine rr_aload_n rfl rfl ?_
      refine rr_gfA 6 rfl rfl (by omega) rfl ?_
      refine rr_iload_n rfl rfl ?_
      refine rr_bipush (x := 100) rfl rfl ?_
      refine rr_idiv rfl (by omega) (by omega) ?_
      refine rr_ia 6 12 rfl rfl rfl rfl (by omega) (by omega) (fun b137 => ?_)
      refine rr_stI9 rfl ?_
      refine rr_iconst rfl ?_
      refine rr_stI10 rfl ?_
      refine rr_aload_n rfl rfl ?_
      refine rr_iconst rfl ?_
      refine rr_pfI 72 rfl rfl rfl rfl (by omega) rfl (by omega) ?_
      refine rr_aload_n rfl rfl ?_
      refine rr_iconst rfl ?_
      refine rr_pfI 73 rfl rfl rfl rfl (by omega) rfl (by omega) ?_
      refine rr_iconst rfl ?_
      refine rr_stI11 rfl ?_
      refine lp_way1 (d := d) (s := s) hb (by omega) hE (by omega) hN (by omega) ((100 * rI s 3).toNat + 1) 0 0 0 (-1) (-1) _ _ _ (by omega) ⟨rfl, by omega, by refine ⟨?_, ?_, ?_⟩ <;> dsimp only <;> omega, rfl⟩ (fun r w1 w2 x11 x12 x13 x14 hW => ?_)
      exact rr_ret rfl rfl ⟨rfl, by unfold findS; rw [show wayS s b c = (r, w1, w2) from hW.symm]⟩
    · refine rr_iload rfl rfl ?_
      refine rr_iconst rfl ?_
      refine rr_icmp_ne rfl rfl (by omega) (by omega) (fun h100 => ?_) (fun h100 => ?_)
      · refine rr_aload_n rfl rfl ?_
        refine rr_aload_n rfl rfl ?_
        refine rr_gfA 53 rfl rfl (by omega) rfl ?_
        refine rr_bipush (x := 10) rfl rfl ?_
        refine rr_iload_n rfl rfl ?_
        refine rr_imul rfl ?_
        refine rr_iload rfl rfl ?_
        refine rr_iadd rfl ?_
        refine rr_iaL 53 400 (s) (fun _ => rfl) rfl rfl rfl rfl rfl (by omega) (by omega) (fun b121 => ?_)
        refine rr_cv1P rfl rfl rfl (Nat.le_of_ble_eq_true rfl) (sr_departs (d := 0) (by omega)) (by omega) (fun b122 => ?_)
        refine rr_iconst rfl ?_
        refine rr_isub rfl ?_
        exact K127 _ (by unfold endS; first | rw [if_pos (by omega)] | rw [if_neg (by omega)])
      · refine rr_ldc_w (x := 100000) rfl rfl ?_
        refine rr_goto rfl rfl ?_
        exact K127 _ (by unfold endS; first | rw [if_pos (by omega)] | rw [if_neg (by omega)])
  · refine rr_aload_n rfl rfl ?_
    refine rr_aload_n rfl rfl ?_
    refine rr_gfA 53 rfl rfl (by omega) rfl ?_
    refine rr_bipush (x := 10) rfl rfl ?_
    refine rr_iload_n rfl rfl ?_
    refine rr_imul rfl ?_
    refine rr_iload rfl rfl ?_
    refine rr_iadd rfl ?_
    refine rr_iaL 53 400 (s) (fun _ => rfl) rfl rfl rfl rfl rfl (by omega) (by omega) (fun b56 => ?_)
    refine rr_cv1P rfl rfl rfl (Nat.le_of_ble_eq_true rfl) (sr_arrives (d := 0) (by omega)) (by omega) (fun b57 => ?_)
    refine rr_iconst rfl ?_
    refine rr_iadd rfl ?_
    refine rr_iload rfl rfl ?_
    refine rr_icmp_le rfl rfl (by omega) (by omega) (fun h64 => ?_) (fun h64 => ?_)
    · first
        | rw [show rI s 0 + 1 = earS s b c by { unfold earS; rw [if_neg (by omega)] }]
        | rw [show arv s (rA s 53 (10 * b + nbS s b c (-1))) + 1 = earS s b c by { unfold earS; rw [if_pos ⟨by omega, by omega⟩] }]
      have hE : in32 (earS s b c) := by { unfold earS; split <;> omega }
      refine rr_aload_n rfl rfl ?_
      refine rr_iload_n rfl rfl ?_
      refine rr_cv1P rfl rfl rfl (Nat.le_of_ble_eq_true rfl) (sr_departs (d := 0) (by omega)) (by omega) (fun b89 => ?_)
      refine rr_bipush (x := 48) rfl rfl ?_
      refine rr_iadd rfl ?_
      refine rr_stI7 rfl ?_
      refine rr_join (pc' := 127) (V := endS s b c) ?_ (fun K127 => ?_)
      · refine rr_stI8 rfl ?_
        have hN : in32 (endS s b c) := by { have z := nbR_b s b 1 12 (c + 1); have z2 := B.1 52 b 0 10 rfl; have z3 := B.1 53 (10 * b + nbS s b c 1) 0 1160 rfl; have z4 := B.2.2 53 (10 * b + nbS s b c 1) rfl; have z5 := dep_b B (l := rA s 53 (10 * b + nbS s b c 1)) ⟨z3.1, z3.2, z4⟩; unfold endS; split <;> omega }
        refine rr_aload_n rfl rfl ?_
        refine rr_gfA 6 rfl rfl (by omega) rfl ?_
        refine rr_iload_n rfl rfl ?_
        refine rr_bipush (x := 100) rfl rfl ?_
        refine rr_idiv rfl (by omega) (by omega) ?_
        refine rr_ia 6 12 rfl rfl rfl rfl (by omega) (by omega) (fun b137 => ?_)
        refine rr_stI9 rfl ?_
        refine rr_iconst rfl ?_
        refine rr_stI10 rfl ?_
        refine rr_aload_n rfl rfl ?_
        refine rr_iconst rfl ?_
        refine rr_pfI 72 rfl rfl rfl rfl (by omega) rfl (by omega) ?_
        refine rr_aload_n rfl rfl ?_
        refine rr_iconst rfl ?_
        refine rr_pfI 73 rfl rfl rfl rfl (by omega) rfl (by omega) ?_
        refine rr_iconst rfl ?_
        refine rr_stI11 rfl ?_
        refine lp_way1 (d := d) (s := s) hb (by omega) hE (by omega) hN (by omega) ((100 * rI s 3).toNat + 1) 0 0 0 (-1) (-1) _ _ _ (by omega) ⟨rfl, by omega, by refine ⟨?_, ?_, ?_⟩ <;> dsimp only <;> omega, rfl⟩ (fun r w1 w2 x11 x12 x13 x14 hW => ?_)
        exact rr_ret rfl rfl ⟨rfl, by unfold findS; rw [show wayS s b c = (r, w1, w2) from hW.symm]⟩
      · refine rr_iload rfl rfl ?_
        refine rr_iconst rfl ?_
        refine rr_icmp_ne rfl rfl (by omega) (by omega) (fun h100 => ?_) (fun h100 => ?_)
        · refine rr_aload_n rfl rfl ?_
          refine rr_aload_n rfl rfl ?_
          refine rr_gfA 53 rfl rfl (by omega) rfl ?_
          refine rr_bipush (x := 10) rfl rfl ?_
          refine rr_iload_n rfl rfl ?_
          refine rr_imul rfl ?_
          refine rr_iload rfl rfl ?_
          refine rr_iadd rfl ?_
          refine rr_iaL 53 400 (s) (fun _ => rfl) rfl rfl rfl rfl rfl (by omega) (by omega) (fun b121 => ?_)
          refine rr_cv1P rfl rfl rfl (Nat.le_of_ble_eq_true rfl) (sr_departs (d := 0) (by omega)) (by omega) (fun b122 => ?_)
          refine rr_iconst rfl ?_
          refine rr_isub rfl ?_
          exact K127 _ (by unfold endS; first | rw [if_pos (by omega)] | rw [if_neg (by omega)])
        · refine rr_ldc_w (x := 100000) rfl rfl ?_
          refine rr_goto rfl rfl ?_
          exact K127 _ (by unfold endS; first | rw [if_pos (by omega)] | rw [if_neg (by omega)])
    · refine rr_aload_n rfl rfl ?_
      refine rr_aload_n rfl rfl ?_
      refine rr_gfA 53 rfl rfl (by omega) rfl ?_
      refine rr_bipush (x := 10) rfl rfl ?_
      refine rr_iload_n rfl rfl ?_
      refine rr_imul rfl ?_
      refine rr_iload rfl rfl ?_
      refine rr_iadd rfl ?_
      refine rr_iaL 53 400 (s) (fun _ => rfl) rfl rfl rfl rfl rfl (by omega) (by omega) (fun b79 => ?_)
      refine rr_cv1P rfl rfl rfl (Nat.le_of_ble_eq_true rfl) (sr_arrives (d := 0) (by omega)) (by omega) (fun b80 => ?_)
      refine rr_iconst rfl ?_
      refine rr_iadd rfl ?_
      refine rr_stI6 rfl ?_
      first
        | rw [show rI s 0 + 1 = earS s b c by { unfold earS; rw [if_neg (by omega)] }]
        | rw [show arv s (rA s 53 (10 * b + nbS s b c (-1))) + 1 = earS s b c by { unfold earS; rw [if_pos ⟨by omega, by omega⟩] }]
      have hE : in32 (earS s b c) := by { unfold earS; split <;> omega }
      refine rr_aload_n rfl rfl ?_
      refine rr_iload_n rfl rfl ?_
      refine rr_cv1P rfl rfl rfl (Nat.le_of_ble_eq_true rfl) (sr_departs (d := 0) (by omega)) (by omega) (fun b89 => ?_)
      refine rr_bipush (x := 48) rfl rfl ?_
      refine rr_iadd rfl ?_
      refine rr_stI7 rfl ?_
      refine rr_join (pc' := 127) (V := endS s b c) ?_ (fun K127 => ?_)
      · refine rr_stI8 rfl ?_
        have hN : in32 (endS s b c) := by { have z := nbR_b s b 1 12 (c + 1); have z2 := B.1 52 b 0 10 rfl; have z3 := B.1 53 (10 * b + nbS s b c 1) 0 1160 rfl; have z4 := B.2.2 53 (10 * b + nbS s b c 1) rfl; have z5 := dep_b B (l := rA s 53 (10 * b + nbS s b c 1)) ⟨z3.1, z3.2, z4⟩; unfold endS; split <;> omega }
        refine rr_aload_n rfl rfl ?_
        refine rr_gfA 6 rfl rfl (by omega) rfl ?_
        refine rr_iload_n rfl rfl ?_
        refine rr_bipush (x := 100) rfl rfl ?_
        refine rr_idiv rfl (by omega) (by omega) ?_
        refine rr_ia 6 12 rfl rfl rfl rfl (by omega) (by omega) (fun b137 => ?_)
        refine rr_stI9 rfl ?_
        refine rr_iconst rfl ?_
        refine rr_stI10 rfl ?_
        refine rr_aload_n rfl rfl ?_
        refine rr_iconst rfl ?_
        refine rr_pfI 72 rfl rfl rfl rfl (by omega) rfl (by omega) ?_
        refine rr_aload_n rfl rfl ?_
        refine rr_iconst rfl ?_
        refine rr_pfI 73 rfl rfl rfl rfl (by omega) rfl (by omega) ?_
        refine rr_iconst rfl ?_
        refine rr_stI11 rfl ?_
        refine lp_way1 (d := d) (s := s) hb (by omega) hE (by omega) hN (by omega) ((100 * rI s 3).toNat + 1) 0 0 0 (-1) (-1) _ _ _ (by omega) ⟨rfl, by omega, by refine ⟨?_, ?_, ?_⟩ <;> dsimp only <;> omega, rfl⟩ (fun r w1 w2 x11 x12 x13 x14 hW => ?_)
        exact rr_ret rfl rfl ⟨rfl, by unfold findS; rw [show wayS s b c = (r, w1, w2) from hW.symm]⟩
      · refine rr_iload rfl rfl ?_
        refine rr_iconst rfl ?_
        refine rr_icmp_ne rfl rfl (by omega) (by omega) (fun h100 => ?_) (fun h100 => ?_)
        · refine rr_aload_n rfl rfl ?_
          refine rr_aload_n rfl rfl ?_
          refine rr_gfA 53 rfl rfl (by omega) rfl ?_
          refine rr_bipush (x := 10) rfl rfl ?_
          refine rr_iload_n rfl rfl ?_
          refine rr_imul rfl ?_
          refine rr_iload rfl rfl ?_
          refine rr_iadd rfl ?_
          refine rr_iaL 53 400 (s) (fun _ => rfl) rfl rfl rfl rfl rfl (by omega) (by omega) (fun b121 => ?_)
          refine rr_cv1P rfl rfl rfl (Nat.le_of_ble_eq_true rfl) (sr_departs (d := 0) (by omega)) (by omega) (fun b122 => ?_)
          refine rr_iconst rfl ?_
          refine rr_isub rfl ?_
          exact K127 _ (by unfold endS; first | rw [if_pos (by omega)] | rw [if_neg (by omega)])
        · refine rr_ldc_w (x := 100000) rfl rfl ?_
          refine rr_goto rfl rfl ?_
          exact K127 _ (by unfold endS; first | rw [if_pos (by omega)] | rw [if_neg (by omega)])
theorem lp_mv1 {d : Nat} {s : am_Z} {q0 : am_A} {Q : Option am_V → am_Z → Prop} {b c n k cn : Int} (hb : 0 ≤ b ∧ b < 40) (hc : 0 ≤ c ∧ c < cn) (hn : 1 ≤ n ∧ cn + n ≤ 10) (hk : k = 10 * b + c) : ∀ (m : Nat) (i : Nat) (j : Int) (s1 : am_Z), (cn - 1 - c).toNat - i < m → (j = 10 * b + cn - 1 - i ∧ (i : Int) ≤ cn - 1 - c ∧ s1 = itS (shF (10 * b + cn - 1) n) i s) → (∀ x5, am_WR (d + 1) m_M_moves 105 [some (aR 9 0), some (aI (zI b)), some (aI (zI c)), some (aI (zI n)), some (aI (zI k)), x5] [] q0 (itS (shF (10 * b + cn - 1) n) (cn - 1 - c).toNat s) Q) → am_WR (d + 1) m_M_moves 82 [some (aR 9 0), some (aI (zI b)), some (aI (zI c)), some (aI (zI n)), some (aI (zI k)), some (aI (zI j))] [] q0 (s1) Q := by
  intro m
  induction m with
  | zero => intro i j s1 hm; exact absurd hm (Nat.not_lt_zero _)
  | succ m ih =>
    intro i j s1 hm ⟨hj, hj2, hs1⟩ K
    subst hj
    refine rr_iload rfl rfl ?_
    refine rr_iload rfl rfl ?_
    refine rr_icmp_le rfl rfl (by omega) (by omega) (fun h86 => ?_) (fun h86 => ?_)
    · rw [hs1, show i = (cn - 1 - c).toNat by omega]
      exact K _
    · refine rr_aload_n rfl rfl ?_
      refine rr_iload rfl rfl ?_
      refine rr_iload rfl rfl ?_
      refine rr_iload_n rfl rfl ?_
      refine rr_iadd rfl ?_
      refine rr_cv2W rfl rfl rfl (Nat.le_of_ble_eq_true rfl) (sr_copies (d := 0) (by omega) (by omega)) (by omega) ?_
      refine rr_inc5 rfl ?_
      refine rr_goto rfl rfl ?_
      exact ih (i + 1) _ _ (by omega) ⟨by omega, by omega, by rw [itS_s, ← hs1]; rfl⟩ K
theorem lp_mv2 {d : Nat} {s : am_Z} {q0 : am_A} {Q : Option am_V → am_Z → Prop} {b c n k w1 w2 : Int} (hk : 0 ≤ k ∧ k + n < 400) (hn : 1 ≤ n ∧ n ≤ 2) (h1 : legR w1) (h2 : n = 2 → legR w2) : ∀ (m : Nat) (i : Nat) (j : Int) (s1 : am_Z), n.toNat - i < m → (j = (i : Int) + 1 ∧ (i : Int) ≤ n ∧ (rI s1 72 = w1 ∧ rI s1 73 = w2) ∧ s1 = itS (mvF k) i s) → (∀ x5, am_WR d m_M_moves 250 [some (aR 9 0), some (aI (zI b)), some (aI (zI c)), some (aI (zI n)), some (aI (zI k)), x5] [] q0 (itS (mvF k) n.toNat s) Q) → am_WR d m_M_moves 118 [some (aR 9 0), some (aI (zI b)), some (aI (zI c)), some (aI (zI n)), some (aI (zI k)), some (aI (zI j))] [] q0 (s1) Q := by
  intro m
  induction m with
  | zero => intro i j s1 hm; exact absurd hm (Nat.not_lt_zero _)
  | succ m ih =>
    intro i j s1 hm ⟨hj, hj2, hw, hs1⟩ K
    subst hj
    refine rr_inS (fun B => ?_)
    have b57 := B.1 57 k _ _ rfl
    have b58 := B.1 58 k 0 500 rfl
    have b56 := B.1 56 k 0 3 rfl
    refine rr_iload rfl rfl ?_
    refine rr_iload_n rfl rfl ?_
    refine rr_icmp_gt rfl rfl (by omega) (by omega) (fun h121 => ?_) (fun h121 => ?_)
    · rw [hs1, show i = n.toNat by omega]
      exact K _
    · refine rr_aload_n rfl rfl ?_
      refine rr_gfA 53 rfl rfl (by omega) rfl ?_
      refine rr_iload rfl rfl ?_
      refine rr_iload rfl rfl ?_
      refine rr_iadd rfl ?_
      refine rr_join (pc' := 150) (V := (if (i : Int) + 1 = 1 then rI s1 72 else rI s1 73)) ?_ (fun K150 => ?_)
      · refine rr_iasL 53 400 rfl ⟨rfl, by omega⟩ rfl (by omega) (by omega) rfl (by omega) (by omega) ?_
        refine rr_aload_n rfl rfl ?_
        refine rr_gfA 54 rfl rfl (by omega) rfl ?_
        refine rr_iload rfl rfl ?_
        refine rr_iload rfl rfl ?_
        refine rr_iadd rfl ?_
        refine rr_iconst rfl ?_
        refine rr_ias 54 400 rfl ⟨rfl, by omega⟩ rfl (by omega) (by omega) rfl rfl (by omega) (by omega) ?_
        refine rr_aload_n rfl rfl ?_
        refine rr_gfA 55 rfl rfl (by omega) rfl ?_
        refine rr_iload rfl rfl ?_
        refine rr_iload rfl rfl ?_
        refine rr_iadd rfl ?_
        refine rr_iconst rfl ?_
        refine rr_ias 55 400 rfl ⟨rfl, by omega⟩ rfl (by omega) (by omega) rfl rfl (by omega) (by omega) ?_
        refine rr_aload_n rfl rfl ?_
        refine rr_gfA 56 rfl rfl (by omega) rfl ?_
        refine rr_iload rfl rfl ?_
        refine rr_iload rfl rfl ?_
        refine rr_iadd rfl ?_
        refine rr_aload_n rfl rfl ?_
        refine rr_gfA 56 rfl rfl (by omega) rfl ?_
        refine rr_iload rfl rfl ?_
        refine rr_iav 56 400 (s1) (fun _ => rfl) rfl rfl rfl rfl (by omega) (by omega) (fun b188 => ?_)
        refine rr_ias 56 400 rfl ⟨rfl, by omega⟩ rfl (by omega) (by omega) rfl rfl (by omega) (by omega) ?_
        refine rr_aload_n rfl rfl ?_
        refine rr_gfA 57 rfl rfl (by omega) rfl ?_
        refine rr_iload rfl rfl ?_
        refine rr_iload rfl rfl ?_
        refine rr_iadd rfl ?_
        refine rr_join (pc' := 216) (V := (if (i : Int) + 1 = 1 then rA s1 57 k else 0)) ?_ (fun K216 => ?_)
        · refine rr_ias 57 400 rfl ⟨rfl, by omega⟩ rfl (by omega) (by omega) rfl rfl (by omega) (by omega) ?_
          refine rr_aload_n rfl rfl ?_
          refine rr_gfA 58 rfl rfl (by omega) rfl ?_
          refine rr_iload rfl rfl ?_
          refine rr_iload rfl rfl ?_
          refine rr_iadd rfl ?_
          refine rr_join (pc' := 243) (V := (if (i : Int) + 1 = 1 then rA s1 58 k else 0)) ?_ (fun K243 => ?_)
          · refine rr_ias 58 400 rfl ⟨rfl, by omega⟩ rfl (by omega) (by omega) rfl rfl (by omega) (by omega) ?_
            refine rr_inc5 rfl ?_
            refine rr_goto rfl rfl ?_
            exact ih (i + 1) _ _ (by omega) ⟨by omega, by omega, hw, by rw [itS_s, ← hs1]; rfl⟩ K
          · refine rr_iload rfl rfl ?_
            refine rr_iconst rfl ?_
            refine rr_icmp_ne rfl rfl (by omega) (by omega) (fun h229 => ?_) (fun h229 => ?_)
            · refine rr_iconst rfl ?_
              exact K243 _ (by first | omega | (simp_all) | (split <;> omega))
            · refine rr_aload_n rfl rfl ?_
              refine rr_gfA 58 rfl rfl (by omega) rfl ?_
              refine rr_iload rfl rfl ?_
              refine rr_iav 58 400 (s1) (fun _ => rfl) rfl rfl rfl rfl (by omega) (by omega) (fun b238 => ?_)
              refine rr_goto rfl rfl ?_
              exact K243 _ (by first | omega | (simp_all) | (split <;> omega))
        · refine rr_iload rfl rfl ?_
          refine rr_iconst rfl ?_
          refine rr_icmp_ne rfl rfl (by omega) (by omega) (fun h202 => ?_) (fun h202 => ?_)
          · refine rr_iconst rfl ?_
            exact K216 _ (by first | omega | (simp_all) | (split <;> omega))
          · refine rr_aload_n rfl rfl ?_
            refine rr_gfA 57 rfl rfl (by omega) rfl ?_
            refine rr_iload rfl rfl ?_
            refine rr_iav 57 400 (s1) (fun _ => rfl) rfl rfl rfl rfl (by omega) (by omega) (fun b211 => ?_)
            refine rr_goto rfl rfl ?_
            exact K216 _ (by first | omega | (simp_all) | (split <;> omega))
      · refine rr_iload rfl rfl ?_
        refine rr_iconst rfl ?_
        refine rr_icmp_ne rfl rfl (by omega) (by omega) (fun h136 => ?_) (fun h136 => ?_)
        · refine rr_aload_n rfl rfl ?_
          refine rr_gfI 73 rfl rfl (by omega) rfl (fun b147 => ?_)
          exact K150 _ (by first | omega | (simp_all) | (split <;> omega))
        · refine rr_aload_n rfl rfl ?_
          refine rr_gfI 72 rfl rfl (by omega) rfl (fun b140 => ?_)
          refine rr_goto rfl rfl ?_
          exact K150 _ (by first | omega | (simp_all) | (split <;> omega))
theorem itS_I {f : Nat → am_Z → am_Z} (h : ∀ i t, (f i t).2 = t.2) (n : Nat) (s : am_Z) : (itS f n s).2 = s.2 := by
  induction n with
  | zero => rfl
  | succ n ih => rw [itS_s, h, ih]
theorem itS_A {f : Nat → am_Z → am_Z} {j : Nat} (h : ∀ i t x, rA (f i t) j x = rA t j x) (n : Nat) (s : am_Z) (x : Int) : rA (itS f n s) j x = rA s j x := by
  induction n with
  | zero => rfl
  | succ n ih => rw [itS_s, h, ih]
theorem sr_moves {d : Nat} {s : am_Z} {b c : Int}  (hb : 0 ≤ b ∧ b < 40) (hc : 0 ≤ c ∧ c < rA s 52 b) : am_CR (d + 6) m_M_moves [aR 9 0, aI (zI b), aI (zI c)] s (isB (moveS s b c) (mvP s b c)) := by
  refine am_CR_i (ls := [some (aR 9 0), some (aI (zI b)), some (aI (zI c)), none, none, none]) rfl (fun q0 => ?_)
  refine rr_inS (fun B => ?_)
  have b52 := B.1 52 b 0 10 rfl
  have hw := wayS_ok B b c
  have e72 : rI (findS s b c) 72 = (wayS s b c).2.1 := rfl
  have e73 : rI (findS s b c) 73 = (wayS s b c).2.2 := rfl
  refine rr_aload_n rfl rfl ?_
  refine rr_iload_n rfl rfl ?_
  refine rr_iload_n rfl rfl ?_
  refine rr_cv2W rfl rfl rfl (Nat.le_of_ble_eq_true rfl) (sr_findsWay (d := 0) (by omega) (by omega)) (by omega) ?_
  have hn : 0 ≤ nWay s b c ∧ nWay s b c ≤ 2 := by { unfold nWay; split <;> first | omega | (split <;> omega) }
  have hn1 : nWay s b c ≠ 0 → (wayS s b c).2.1 ≠ -1 := fun z z2 => z (if_pos z2)
  have hn2 : nWay s b c = 2 → (wayS s b c).2.2 ≠ -1 := fun z z2 => by { unfold nWay at z; rw [if_pos z2] at z; split at z <;> omega }
  refine rr_join (pc' := 31) (V := nWay s b c) ?_ (fun K31 => ?_)
  · refine rr_stI3 rfl ?_
    refine rr_bipush (x := 10) rfl rfl ?_
    refine rr_iload_n rfl rfl ?_
    refine rr_imul rfl ?_
    refine rr_iload_n rfl rfl ?_
    refine rr_iadd rfl ?_
    refine rr_stI4 rfl ?_
    refine rr_iload_n rfl rfl ?_
    refine rr_if_eq rfl rfl (by omega) (fun h41 => ?_) (fun h41 => ?_)
    · refine rr_aload_n rfl rfl ?_
      refine rr_gfA 55 rfl rfl (by omega) rfl ?_
      refine rr_iload rfl rfl ?_
      refine rr_iconst rfl ?_
      refine rr_ias 55 400 rfl ⟨rfl, by omega⟩ rfl (by omega) (by omega) rfl rfl (by omega) (by omega) ?_
      refine rr_iconst rfl ?_
      refine rr_iret rfl (Or.inr ⟨rfl, by first | omega | (split <;> omega)⟩) ?_
      exact rr_eB' (by omega) (by unfold moveS; first | rw [if_neg (by omega)] | rw [if_pos (by omega)])
    · refine rr_aload_n rfl rfl ?_
      refine rr_gfA 52 rfl rfl (by omega) rfl ?_
      refine rr_iload_n rfl rfl ?_
      refine rr_iav 52 40 (s) (fun _ => rfl) rfl rfl rfl rfl (by omega) (by omega) (fun b49 => ?_)
      refine rr_iload_n rfl rfl ?_
      refine rr_iadd rfl ?_
      refine rr_bipush (x := 10) rfl rfl ?_
      refine rr_icmp_le rfl rfl (by omega) (by omega) (fun h54 => ?_) (fun h54 => ?_)
      · refine rr_bipush (x := 10) rfl rfl ?_
        refine rr_iload_n rfl rfl ?_
        refine rr_imul rfl ?_
        refine rr_aload_n rfl rfl ?_
        refine rr_gfA 52 rfl rfl (by omega) rfl ?_
        refine rr_iload_n rfl rfl ?_
        refine rr_iav 52 40 (s) (fun _ => rfl) rfl rfl rfl rfl (by omega) (by omega) (fun b76 => ?_)
        refine rr_iadd rfl ?_
        refine rr_iconst rfl ?_
        refine rr_isub rfl ?_
        refine rr_stI5 rfl ?_
        refine lp_mv1 (d := d + 5) (s := findS s b c) (cn := rA s 52 b) hb hc (by omega) rfl ((rA s 52 b - 1 - c).toNat + 1) 0 _ _ (by omega) ⟨by omega, by omega, rfl⟩ (fun x5 => ?_)
        have eC : rA (itS (shF (10 * b + rA s 52 b - 1) (nWay s b c)) (rA s 52 b - 1 - c).toNat (findS s b c)) 52 b = rA s 52 b := itS_A (f := shF (10 * b + rA s 52 b - 1) (nWay s b c)) (j := 52) (fun _ _ _ => rfl) _ _ _
        have eI : ∀ j, rI (wA (itS (shF (10 * b + rA s 52 b - 1) (nWay s b c)) (rA s 52 b - 1 - c).toNat (findS s b c)) 52 b (rA s 52 b + nWay s b c)) j = rI (findS s b c) j := fun j => congrFun (itS_I (f := shF (10 * b + rA s 52 b - 1) (nWay s b c)) (fun _ _ => rfl) _ _) j
        refine rr_aload_n rfl rfl ?_
        refine rr_gfA 52 rfl rfl (by omega) rfl ?_
        refine rr_iload_n rfl rfl ?_
        refine rr_dup2 rfl rfl rfl ?_
        refine rr_ia 52 40 rfl rfl rfl rfl (by omega) (by omega) (fun b111 => ?_)
        rw [eC]
        refine rr_iload_n rfl rfl ?_
        refine rr_iadd rfl ?_
        refine rr_ias 52 40 rfl ⟨rfl, by omega⟩ rfl (by omega) (by omega) rfl rfl (by omega) (by omega) ?_
        refine rr_iconst rfl ?_
        refine rr_stI5 rfl ?_
        refine lp_mv2 (d := d + 6) (s := (wA (itS (shF (10 * b + rA s 52 b - 1) (nWay s b c)) (rA s 52 b - 1 - c).toNat (findS s b c)) 52 b (rA s 52 b + nWay s b c))) (w1 := (wayS s b c).2.1) (w2 := (wayS s b c).2.2) (by omega) (by omega) (by omega) (fun z => by omega) ((nWay s b c).toNat + 1) 0 1 _ (by omega) ⟨rfl, by omega, ⟨eI 72, eI 73⟩, rfl⟩ (fun x5 => ?_)
        refine rr_aload_n rfl rfl ?_
        refine rr_gfA 55 rfl rfl (by omega) rfl ?_
        refine rr_iload rfl rfl ?_
        refine rr_iconst rfl ?_
        refine rr_ias 55 400 rfl ⟨rfl, by omega⟩ rfl (by omega) (by omega) rfl rfl (by omega) (by omega) ?_
        refine rr_aload_n rfl rfl ?_
        refine rr_gfA 57 rfl rfl (by omega) rfl ?_
        refine rr_iload rfl rfl ?_
        refine rr_iconst rfl ?_
        refine rr_ias 57 400 rfl ⟨rfl, by omega⟩ rfl (by omega) (by omega) rfl rfl (by omega) (by omega) ?_
        refine rr_aload_n rfl rfl ?_
        refine rr_gfA 58 rfl rfl (by omega) rfl ?_
        refine rr_iload rfl rfl ?_
        refine rr_iconst rfl ?_
        refine rr_ias 58 400 rfl ⟨rfl, by omega⟩ rfl (by omega) (by omega) rfl rfl (by omega) (by omega) ?_
        refine rr_iconst rfl ?_
        refine rr_iret rfl (Or.inr ⟨rfl, by first | omega | (split <;> omega)⟩) ?_
        exact rr_eB' (by omega) (by unfold moveS; first | rw [if_neg (by omega)] | rw [if_pos (by omega)])
      · refine rr_aload_n rfl rfl ?_
        refine rr_gfA 55 rfl rfl (by omega) rfl ?_
        refine rr_iload rfl rfl ?_
        refine rr_iconst rfl ?_
        refine rr_ias 55 400 rfl ⟨rfl, by omega⟩ rfl (by omega) (by omega) rfl rfl (by omega) (by omega) ?_
        refine rr_iconst rfl ?_
        refine rr_iret rfl (Or.inr ⟨rfl, by first | omega | (split <;> omega)⟩) ?_
        exact rr_eB' (by omega) (by unfold moveS; first | rw [if_neg (by omega)] | rw [if_pos (by omega)])
  · refine rr_aload_n rfl rfl ?_
    refine rr_gfI 72 rfl rfl (by omega) rfl (fun b7 => ?_)
    refine rr_iconst rfl ?_
    refine rr_icmp_ne rfl rfl (by omega) (by omega) (fun h11 => ?_) (fun h11 => ?_)
    · refine rr_aload_n rfl rfl ?_
      refine rr_gfI 73 rfl rfl (by omega) rfl (fun b19 => ?_)
      refine rr_iconst rfl ?_
      refine rr_icmp_ne rfl rfl (by omega) (by omega) (fun h23 => ?_) (fun h23 => ?_)
      · refine rr_iconst rfl ?_
        exact K31 _ (by unfold nWay; first | rw [if_pos (by omega)] | rw [if_neg (by omega), if_pos (by omega)] | rw [if_neg (by omega), if_neg (by omega)])
      · refine rr_iconst rfl ?_
        refine rr_goto rfl rfl ?_
        exact K31 _ (by unfold nWay; first | rw [if_pos (by omega)] | rw [if_neg (by omega), if_pos (by omega)] | rw [if_neg (by omega), if_neg (by omega)])
    · refine rr_iconst rfl ?_
      refine rr_goto rfl rfl ?_
      exact K31 _ (by unfold nWay; first | rw [if_pos (by omega)] | rw [if_neg (by omega), if_pos (by omega)] | rw [if_neg (by omega), if_neg (by omega)])
end

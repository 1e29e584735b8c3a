noncomputable section
theorem cs_needArgument {d : Nat} {q : am_A} {b : Int} (hb : in32 b) : am_C2 d m_X_needArgument [aI (zI b)] q (am_T2 (b ≠ 0) 14 none q) := by
  refine am_C2_i (ls := [some (aI (zI b))]) rfl ?_
  refine ar_iload_n rfl rfl ?_
  refine ar_if_ne rfl rfl (by omega) (fun h1 => ?_) (fun h1 => ?_)
  · exact ar_ret rfl rfl (⟨fun _ => ⟨rfl, rfl⟩, fun z => absurd (by omega) z⟩)
  · exact ar_throw rfl rfl rfl rfl rfl rfl rfl (Nat.le_of_ble_eq_true rfl) (by intro z; cases z) (by omega) (⟨fun z => absurd z (by omega), fun _ => ⟨rfl, rfl⟩⟩)
theorem cs_needState {d : Nat} {q : am_A} {b : Int} (hb : in32 b) : am_C2 d m_X_needState [aI (zI b)] q (am_T2 (b ≠ 0) 15 none q) := by
  refine am_C2_i (ls := [some (aI (zI b))]) rfl ?_
  refine ar_iload_n rfl rfl ?_
  refine ar_if_ne rfl rfl (by omega) (fun h1 => ?_) (fun h1 => ?_)
  · exact ar_ret rfl rfl (⟨fun _ => ⟨rfl, rfl⟩, fun z => absurd (by omega) z⟩)
  · exact ar_throw rfl rfl rfl rfl rfl rfl rfl (Nat.le_of_ble_eq_true rfl) (by intro z; cases z) (by omega) (⟨fun z => absurd z (by omega), fun _ => ⟨rfl, rfl⟩⟩)
theorem cs_needRange {d : Nat} {q : am_A} {v a b : Int} (hv : in32 v) (ha : in32 a) (hb : in32 b) : am_C2 (d + 1) m_X_needRange [aI (zI v), aI (zI a), aI (zI b)] q (am_T2 (a ≤ v ∧ v ≤ b) 14 none q) := by
  refine am_C2_i (ls := [some (aI (zI v)), some (aI (zI a)), some (aI (zI b))]) rfl ?_
  refine cq_join (pc' := 15) (V := if a ≤ v ∧ v ≤ b then 1 else 0) ?_ (fun K15 => ?_)
  · refine ar_cs1 rfl rfl (Nat.le_of_ble_eq_true rfl) (cs_needArgument (d := 0) (by omega)) (by omega) (fun o q15 hq => am_B2_T rfl (fun h15 => ?_) (fun h15 => ?_) hq)
    · exact ar_ret rfl rfl (⟨fun _ => ⟨rfl, rfl⟩, fun z => absurd (by omega) z⟩)
    · exact ⟨fun z => absurd z (by omega), fun _ => ⟨rfl, rfl⟩⟩
  · refine ar_iload_n rfl rfl ?_
    refine ar_iload_n rfl rfl ?_
    refine ar_icmp_lt rfl rfl (by omega) (by omega) (fun h2 => ?_) (fun h2 => ?_)
    · refine ar_iconst rfl ?_
      exact K15 _ (by first | omega | (simp_all) | (split <;> omega))
    · refine ar_iload_n rfl rfl ?_
      refine ar_iload_n rfl rfl ?_
      refine ar_icmp_gt rfl rfl (by omega) (by omega) (fun h7 => ?_) (fun h7 => ?_)
      · refine ar_iconst rfl ?_
        exact K15 _ (by first | omega | (simp_all) | (split <;> omega))
      · refine ar_iconst rfl ?_
        refine ar_goto rfl rfl ?_
        exact K15 _ (by first | omega | (simp_all) | (split <;> omega))
theorem cs_needIndexOrNone {d : Nat} {q : am_A} {v n : Int} (hv : in32 v) (hn : in32 n) : am_C2 (d + 1) m_X_needIndexOrNone [aI (zI v), aI (zI n)] q (am_T2 (v = -1 ∨ 0 ≤ v ∧ v < n) 13 none q) := by
  refine am_C2_i (ls := [some (aI (zI v)), some (aI (zI n))]) rfl ?_
  refine ar_iload_n rfl rfl ?_
  refine ar_iconst rfl ?_
  refine ar_icmp_eq rfl rfl (by omega) (by omega) (fun h2 => ?_) (fun h2 => ?_)
  · exact ar_ret rfl rfl (⟨fun _ => ⟨rfl, rfl⟩, fun z => absurd (by omega) z⟩)
  · refine ar_iload_n rfl rfl ?_
    refine ar_iload_n rfl rfl ?_
    refine ar_cs2 rfl rfl (Nat.le_of_ble_eq_true rfl) (cs_needIndex (d := 0) (by omega) (by omega)) (by omega) (fun o q7 hq => am_B2_T rfl (fun h7 => ?_) (fun h7 => ?_) hq)
    · exact ar_ret rfl rfl (⟨fun _ => ⟨rfl, rfl⟩, fun z => absurd (by omega) z⟩)
    · exact ⟨fun z => absurd z (by omega), fun _ => ⟨rfl, rfl⟩⟩
theorem cs_isToFly {d : Nat} {q : am_A} {j : Nat} {t : Int} (ht : qFI q 105 (1, j) = t) (hb : in32 t) : am_C2 d m_Cp_isToFly [aR 1 j] q (am_is2 (aI (zI (if t = 0 ∨ t = 1 then 1 else 0))) q) := by
  refine am_C2_i (ls := [some (aR 1 j)]) rfl ?_
  refine ar_aload_n rfl rfl ?_
  refine ar_gfIv rfl rfl rfl (by omega) (ht) ?_
  refine ar_if_eq rfl rfl (by omega) (fun h4 => ?_) (fun h4 => ?_)
  · refine ar_iconst rfl ?_
    refine ar_goto rfl rfl ?_
    exact ar_iret rfl (Or.inr ⟨rfl, by first | omega | (split <;> omega)⟩) (cq_eB (by first | omega | (split <;> omega) | simp_all))
  · refine ar_aload_n rfl rfl ?_
    refine ar_gfIv rfl rfl rfl (by omega) (ht) ?_
    refine ar_iconst rfl ?_
    refine ar_icmp_ne rfl rfl (by omega) (by omega) (fun h12 => ?_) (fun h12 => ?_)
    · refine ar_iconst rfl ?_
      exact ar_iret rfl (Or.inr ⟨rfl, by first | omega | (split <;> omega)⟩) (cq_eB (by first | omega | (split <;> omega) | simp_all))
    · refine ar_iconst rfl ?_
      refine ar_goto rfl rfl ?_
      exact ar_iret rfl (Or.inr ⟨rfl, by first | omega | (split <;> omega)⟩) (cq_eB (by first | omega | (split <;> omega) | simp_all))
theorem cs_isReplaced {d : Nat} {q : am_A} {j : Nat} {t : Int} (ht : qFI q 105 (1, j) = t) (hb : in32 t) : am_C2 d m_Cp_isReplaced [aR 1 j] q (am_is2 (aI (zI (if t = 4 ∨ t = 5 then 1 else 0))) q) := by
  refine am_C2_i (ls := [some (aR 1 j)]) rfl ?_
  refine ar_aload_n rfl rfl ?_
  refine ar_gfIv rfl rfl rfl (by omega) (ht) ?_
  refine ar_iconst rfl ?_
  refine ar_icmp_eq rfl rfl (by omega) (by omega) (fun h5 => ?_) (fun h5 => ?_)
  · refine ar_iconst rfl ?_
    refine ar_goto rfl rfl ?_
    exact ar_iret rfl (Or.inr ⟨rfl, by first | omega | (split <;> omega)⟩) (cq_eB (by first | omega | (split <;> omega) | simp_all))
  · refine ar_aload_n rfl rfl ?_
    refine ar_gfIv rfl rfl rfl (by omega) (ht) ?_
    refine ar_iconst rfl ?_
    refine ar_icmp_ne rfl rfl (by omega) (by omega) (fun h13 => ?_) (fun h13 => ?_)
    · refine ar_iconst rfl ?_
      exact ar_iret rfl (Or.inr ⟨rfl, by first | omega | (split <;> omega)⟩) (cq_eB (by first | omega | (split <;> omega) | simp_all))
    · refine ar_iconst rfl ?_
      refine ar_goto rfl rfl ?_
      exact ar_iret rfl (Or.inr ⟨rfl, by first | omega | (split <;> omega)⟩) (cq_eB (by first | omega | (split <;> omega) | simp_all))
theorem cs_hasSeats {d : Nat} {q : am_A} {j : Nat} {t : Int} (ht : qFI q 7 (0, j) = t) (hb : in32 t) : am_C2 d m_Bk_hasSeats [aR 0 j] q (am_is2 (aI (zI (if t = 0 ∨ t = 1 then 1 else 0))) q) := by
  refine am_C2_i (ls := [some (aR 0 j)]) rfl ?_
  refine ar_aload_n rfl rfl ?_
  refine ar_gfIv rfl rfl rfl (by omega) (ht) ?_
  refine ar_if_eq rfl rfl (by omega) (fun h4 => ?_) (fun h4 => ?_)
  · refine ar_iconst rfl ?_
    refine ar_goto rfl rfl ?_
    exact ar_iret rfl (Or.inr ⟨rfl, by first | omega | (split <;> omega)⟩) (cq_eB (by first | omega | (split <;> omega) | simp_all))
  · refine ar_aload_n rfl rfl ?_
    refine ar_gfIv rfl rfl rfl (by omega) (ht) ?_
    refine ar_iconst rfl ?_
    refine ar_icmp_ne rfl rfl (by omega) (by omega) (fun h12 => ?_) (fun h12 => ?_)
    · refine ar_iconst rfl ?_
      exact ar_iret rfl (Or.inr ⟨rfl, by first | omega | (split <;> omega)⟩) (cq_eB (by first | omega | (split <;> omega) | simp_all))
    · refine ar_iconst rfl ?_
      refine ar_goto rfl rfl ?_
      exact ar_iret rfl (Or.inr ⟨rfl, by first | omega | (split <;> omega)⟩) (cq_eB (by first | omega | (split <;> omega) | simp_all))
theorem cs_hasDeparted {d : Nat} {q : am_A} {j : Nat} {c t n : Int} (hc : qFI q 506 (5, j) = c) (ht : qFI q 503 (5, j) = t) (bc : in32 c) (bt : in32 t) (bn : in32 n) : am_C2 d m_Lg_hasDeparted [aR 5 j, aI (zI n)] q (am_is2 (aI (zI (if c = 0 ∧ t ≤ n then 1 else 0))) q) := by
  refine am_C2_i (ls := [some (aR 5 j), some (aI (zI n))]) rfl ?_
  refine ar_aload_n rfl rfl ?_
  refine ar_gfIv rfl rfl rfl (by omega) (hc) ?_
  refine ar_if_ne rfl rfl (by omega) (fun h4 => ?_) (fun h4 => ?_)
  · refine ar_iconst rfl ?_
    exact ar_iret rfl (Or.inr ⟨rfl, by first | omega | (split <;> omega)⟩) (cq_eB (by first | omega | (split <;> omega) | simp_all))
  · refine ar_aload_n rfl rfl ?_
    refine ar_gfIv rfl rfl rfl (by omega) (ht) ?_
    refine ar_iload_n rfl rfl ?_
    refine ar_icmp_gt rfl rfl (by omega) (by omega) (fun h12 => ?_) (fun h12 => ?_)
    · refine ar_iconst rfl ?_
      exact ar_iret rfl (Or.inr ⟨rfl, by first | omega | (split <;> omega)⟩) (cq_eB (by first | omega | (split <;> omega) | simp_all))
    · refine ar_iconst rfl ?_
      refine ar_goto rfl rfl ?_
      exact ar_iret rfl (Or.inr ⟨rfl, by first | omega | (split <;> omega)⟩) (cq_eB (by first | omega | (split <;> omega) | simp_all))
theorem cs_isAhead {d : Nat} {q : am_A} {j : Nat} {c t n : Int} (hc : qFI q 506 (5, j) = c) (ht : qFI q 503 (5, j) = t) (bc : in32 c) (bt : in32 t) (bn : in32 n) : am_C2 d m_Lg_isAhead [aR 5 j, aI (zI n)] q (am_is2 (aI (zI (if c = 0 ∧ n < t then 1 else 0))) q) := by
  refine am_C2_i (ls := [some (aR 5 j), some (aI (zI n))]) rfl ?_
  refine ar_aload_n rfl rfl ?_
  refine ar_gfIv rfl rfl rfl (by omega) (hc) ?_
  refine ar_if_ne rfl rfl (by omega) (fun h4 => ?_) (fun h4 => ?_)
  · refine ar_iconst rfl ?_
    exact ar_iret rfl (Or.inr ⟨rfl, by first | omega | (split <;> omega)⟩) (cq_eB (by first | omega | (split <;> omega) | simp_all))
  · refine ar_aload_n rfl rfl ?_
    refine ar_gfIv rfl rfl rfl (by omega) (ht) ?_
    refine ar_iload_n rfl rfl ?_
    refine ar_icmp_le rfl rfl (by omega) (by omega) (fun h12 => ?_) (fun h12 => ?_)
    · refine ar_iconst rfl ?_
      exact ar_iret rfl (Or.inr ⟨rfl, by first | omega | (split <;> omega)⟩) (cq_eB (by first | omega | (split <;> omega) | simp_all))
    · refine ar_iconst rfl ?_
      refine ar_goto rfl rfl ?_
      exact ar_iret rfl (Or.inr ⟨rfl, by first | omega | (split <;> omega)⟩) (cq_eB (by first | omega | (split <;> omega) | simp_all))
theorem cs_localDay {d : Nat} {q : am_A} {j f : Nat} {dd hr dl : Int} (h0 : qFR q 500 (5, j) = some (4, f)) (h1 : qFI q 501 (5, j) = dd) (h2 : qFI q 404 (4, f) = hr) (h3 : qFI q 505 (5, j) = dl) (b2 : 0 ≤ hr ∧ hr ≤ 23) (b3 : 0 ≤ dl ∧ dl ≤ 8) : am_C2 d m_Lg_localDay [aR 5 j] q (am_is2 (aI (zI (dd + (hr + dl) / 24))) q) := by
  refine am_C2_i (ls := [some (aR 5 j)]) rfl ?_
  refine ar_aload_n rfl rfl ?_
  refine ar_gfIv rfl rfl rfl (by omega) (h1) ?_
  refine ar_aload_n rfl rfl ?_
  refine ar_gfR rfl rfl rfl (by omega) (h0) ?_
  refine ar_gfIv rfl rfl rfl (by omega) (h2) ?_
  refine ar_aload_n rfl rfl ?_
  refine ar_gfIv rfl rfl rfl (by omega) (h3) ?_
  refine ar_iadd rfl ?_
  refine ar_bipush (x := 24) rfl rfl ?_
  refine ar_idiv rfl (by omega) (by omega) ?_
  refine ar_iadd rfl ?_
  exact ar_iret rfl (Or.inl rfl) (cq_eP (by first | rfl | omega))
theorem cs_push {d : Nat} {q : am_A} {j : Nat} {h dl dp ar : Int} (h1 : qFI q 505 (5, j) = dl) (h2 : qFI q 503 (5, j) = dp) (h3 : qFI q 504 (5, j) = ar) : am_C2 d m_Lg_push [aR 5 j, aI (zI h)] q (fun o q' => o = .inl none ∧ q' = uFI (uFI (uFI q 505 (5, j) (dl + h)) 503 (5, j) (dp + h)) 504 (5, j) (ar + h)) := by
  refine am_C2_i (ls := [some (aR 5 j), some (aI (zI h))]) rfl ?_
  refine ar_aload_n rfl rfl ?_
  refine ar_dup rfl rfl ?_
  refine ar_gfIv rfl rfl rfl (by omega) (h1) ?_
  refine ar_iload_n rfl rfl ?_
  refine ar_iadd rfl ?_
  refine ar_pfI rfl rfl rfl rfl (by omega) (Or.inl rfl) ?_
  refine ar_aload_n rfl rfl ?_
  refine ar_dup rfl rfl ?_
  refine ar_gfIv rfl rfl rfl (by omega) (h2) ?_
  refine ar_iload_n rfl rfl ?_
  refine ar_iadd rfl ?_
  refine ar_pfI rfl rfl rfl rfl (by omega) (Or.inl rfl) ?_
  refine ar_aload_n rfl rfl ?_
  refine ar_dup rfl rfl ?_
  refine ar_gfIv rfl rfl rfl (by omega) (h3) ?_
  refine ar_iload_n rfl rfl ?_
  refine ar_iadd rfl ?_
  refine ar_pfI rfl rfl rfl rfl (by omega) (Or.inl rfl) ?_
  exact ar_ret rfl rfl (⟨rfl, rfl⟩)
theorem cs_on {d : Nat} {q : am_A} {f : Nat} {n : Int} (h8 : qFR q 408 (4, f) = some (1408, f)) (hL : qAL q (1408, f) = 61) (bn : in32 n) : am_C2 d m_Fl_on [aR 4 f, aI (zI n)] q (am_is2 (aO (if 0 ≤ n ∧ n < 61 then qAR q (1408, f) n.toNat else none)) q) := by
  refine am_C2_i (ls := [some (aR 4 f), some (aI (zI n))]) rfl ?_
  refine ar_iload_n rfl rfl ?_
  refine ar_if_lt rfl rfl (by omega) (fun h1 => ?_) (fun h1 => ?_)
  · refine ar_null rfl ?_
    refine ar_goto rfl rfl ?_
    exact ar_aret rfl rfl (⟨by first | rw [if_pos (by omega)] | rw [if_neg (by omega)], rfl⟩)
  · refine ar_iload_n rfl rfl ?_
    refine ar_bipush (x := 61) rfl rfl ?_
    refine ar_icmp_lt rfl rfl (by omega) (by omega) (fun h7 => ?_) (fun h7 => ?_)
    · refine ar_aload_n rfl rfl ?_
      refine ar_gfR rfl rfl rfl (by omega) (h8) ?_
      refine ar_iload_n rfl rfl ?_
      refine ar_aa rfl (by first | exact Or.inl rfl | exact Or.inr rfl) (hL) (by omega) (by omega) (rfl) ?_
      exact ar_aret rfl rfl (⟨by first | rw [if_pos (by omega)] | rw [if_neg (by omega)], rfl⟩)
    · refine ar_null rfl ?_
      refine ar_goto rfl rfl ?_
      exact ar_aret rfl rfl (⟨by first | rw [if_pos (by omega)] | rw [if_neg (by omega)], rfl⟩)
theorem cs_dayFrom {d : Nat} {q : am_A} {f : Nat} {t fh : Int} (h9 : qFI q 409 (4, f) = fh) (b9 : -100 ≤ fh ∧ fh ≤ 100) (bt : -100000 ≤ t ∧ t ≤ 200000) : am_C2 (d + 1) m_Fl_dayToLookFrom [aR 4 f, aI (zI t)] q (am_is2 (aI (zI (max 0 ((t - fh) / 24)))) q) := by
  refine am_C2_i (ls := [some (aR 4 f), some (aI (zI t))]) rfl ?_
  refine ar_iconst rfl ?_
  refine ar_iload_n rfl rfl ?_
  refine ar_aload_n rfl rfl ?_
  refine ar_gfIv rfl rfl rfl (by omega) (h9) ?_
  refine ar_isub rfl ?_
  refine ar_bipush (x := 24) rfl rfl ?_
  refine ar_cs2 rfl rfl (Nat.le_of_ble_eq_true rfl) (cs_fdiv (d := 0) (by omega)) (by omega) (fun o q9 hq => am_B2_is ?_ hq)
  refine ar_cs2 rfl rfl (Nat.le_of_ble_eq_true rfl) (cs_max (d := 0) (by omega) (by omega)) (by omega) (fun o q12 hq => am_B2_is ?_ hq)
  exact ar_iret rfl (Or.inl rfl) (cq_eP (by first | rfl | omega))
/-- the leg of flight f that departs at t -/
def depAt (q : am_A) (f : Nat) (t fh : Int) : Option am_R := match (if 0 ≤ max 0 ((t - fh) / 24) ∧ max 0 ((t - fh) / 24) < 61 then qAR q (1408, f) (max 0 ((t - fh) / 24)).toNat else none) with
  | some r => if qFI q 506 r = 0 ∧ qFI q 503 r = t then some r else none
  | none => none
theorem cs_dtBegin {d : Nat} {q : am_A} {t : Int} : am_C2 d m_Dt_begin [aR 2 0, aI (zI t)] q (fun o q' => o = .inl none ∧ q' = uFI (uFR (uFR q 200 (2, 0) none) 201 (2, 0) none) 202 (2, 0) t) := by
  refine am_C2_i (ls := [some (aR 2 0), some (aI (zI t))]) rfl ?_
  refine ar_aload_n rfl rfl ?_
  refine ar_null rfl ?_
  refine ar_pfR rfl rfl rfl rfl (by omega) ?_
  refine ar_aload_n rfl rfl ?_
  refine ar_null rfl ?_
  refine ar_pfR rfl rfl rfl rfl (by omega) ?_
  refine ar_aload_n rfl rfl ?_
  refine ar_iload_n rfl rfl ?_
  refine ar_pfI rfl rfl rfl rfl (by omega) (Or.inl rfl) ?_
  exact ar_ret rfl rfl (⟨rfl, rfl⟩)
theorem cs_dtLegs {d : Nat} {q : am_A}  : am_C2 d m_Dt_legs [aR 2 0] q (am_is2 (aI (zI (if qFR q 200 (2, 0) = none then 0 else if qFR q 201 (2, 0) = none then 1 else 2))) q) := by
  refine am_C2_i (ls := [some (aR 2 0)]) rfl ?_
  refine ar_aload_n rfl rfl ?_
  refine ar_gfR rfl rfl rfl (by omega) (rfl) ?_
  refine ar_ifnonnull rfl rfl (fun hn4 => ?_) (fun r4 hr4 => ?_)
  · refine ar_iconst rfl ?_
    exact ar_iret rfl (Or.inl rfl) (cq_eP (by first | rw [if_pos (by assumption)] | rw [if_neg (by simp_all), if_pos (by assumption)] | rw [if_neg (by simp_all), if_neg (by simp_all)]))
  · refine ar_aload_n rfl rfl ?_
    refine ar_gfR rfl rfl rfl (by omega) (rfl) ?_
    refine ar_ifnonnull rfl rfl (fun hn13 => ?_) (fun r13 hr13 => ?_)
    · refine ar_iconst rfl ?_
      refine ar_goto rfl rfl ?_
      exact ar_iret rfl (Or.inl rfl) (cq_eP (by first | rw [if_pos (by assumption)] | rw [if_neg (by simp_all), if_pos (by assumption)] | rw [if_neg (by simp_all), if_neg (by simp_all)]))
    · refine ar_iconst rfl ?_
      exact ar_iret rfl (Or.inl rfl) (cq_eP (by first | rw [if_pos (by assumption)] | rw [if_neg (by simp_all), if_pos (by assumption)] | rw [if_neg (by simp_all), if_neg (by simp_all)]))
end

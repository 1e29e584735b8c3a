noncomputable section
/-- the state with the new booking, before the old one has fewer persons -/
def partP (s : am_Z) (b n : Int) : am_Z := (fun j x => if j = 45 ∧ x = rI s 44 then n else if (46 ≤ j ∧ j ≤ 52) ∧ x = rI s 44 then rA s j b else if (53 ≤ j ∧ j ≤ 58) ∧ 10 * rI s 44 ≤ x ∧ x < 10 * rI s 44 + 10 then rA s j (x - 10 * rI s 44 + 10 * b) else if (59 ≤ j ∧ j ≤ 60) ∧ 4 * rI s 44 ≤ x ∧ x < 4 * rI s 44 + 4 then rA s j (x - 4 * rI s 44 + 4 * b) else rA s j x, fun j => if j = 44 then rI s 44 + 1 else rI s j)
section PARTP
variable {s : am_Z} {b n : Int}
theorem paP_A (j : Nat) (x : Int) : rA (partP s b n) j x = if j = 45 ∧ x = rI s 44 then n else if (46 ≤ j ∧ j ≤ 52) ∧ x = rI s 44 then rA s j b else if (53 ≤ j ∧ j ≤ 58) ∧ 10 * rI s 44 ≤ x ∧ x < 10 * rI s 44 + 10 then rA s j (x - 10 * rI s 44 + 10 * b) else if (59 ≤ j ∧ j ≤ 60) ∧ 4 * rI s 44 ≤ x ∧ x < 4 * rI s 44 + 4 then rA s j (x - 4 * rI s 44 + 4 * b) else rA s j x := rfl
theorem paP_o {j : Nat} {x : Int} (h1 : ¬ ((45 ≤ j ∧ j ≤ 52) ∧ x = rI s 44)) (h2 : ¬ ((53 ≤ j ∧ j ≤ 58) ∧ 10 * rI s 44 ≤ x ∧ x < 10 * rI s 44 + 10)) (h3 : ¬ ((59 ≤ j ∧ j ≤ 60) ∧ 4 * rI s 44 ≤ x ∧ x < 4 * rI s 44 + 4)) : rA (partP s b n) j x = rA s j x := by
  rw [paP_A, if_neg (by omega), if_neg (by omega), if_neg h2, if_neg h3]
theorem paP_45 : rA (partP s b n) 45 (rI s 44) = n := by rw [paP_A, if_pos ⟨rfl, rfl⟩]
theorem paP_b {j : Nat} (h : 46 ≤ j ∧ j ≤ 52) : rA (partP s b n) j (rI s 44) = rA s j b := by rw [paP_A, if_neg (by omega), if_pos ⟨h, rfl⟩]
theorem paP_c {j : Nat} {k : Int} (h : 53 ≤ j ∧ j ≤ 58) (hk : 0 ≤ k ∧ k < 10) : rA (partP s b n) j (10 * rI s 44 + k) = rA s j (10 * b + k) := by
  rw [paP_A, if_neg (by omega), if_neg (by omega), if_pos (by omega)]
  exact congrArg (rA s j) (by omega)
theorem paP_d {j : Nat} {k : Int} (h : 59 ≤ j ∧ j ≤ 60) (hk : 0 ≤ k ∧ k < 4) : rA (partP s b n) j (4 * rI s 44 + k) = rA s j (4 * b + k) := by
  rw [paP_A, if_neg (by omega), if_neg (by omega), if_neg (by omega), if_pos (by omega)]
  exact congrArg (rA s j) (by omega)
theorem paP_I {j : Nat} (h : j ≠ 44) : rI (partP s b n) j = rI s j := if_neg h
theorem paP_44 : rI (partP s b n) 44 = rI s 44 + 1 := rfl
theorem paP_B (B : in_S s) (hn : 0 ≤ n ∧ n ≤ 9) (h39 : rI s 44 ≤ 39) : in_S (partP s b n) := by
  have b44 := B.2.1 44 0 40 rfl
  refine ⟨fun j x lo hi h => ?_, fun j lo hi h => ?_, fun j x h => ?_⟩
  · rw [paP_A]
    split
    · rename_i z
      rw [z.1] at h
      cases h
      exact hn
    · split
      · exact B.1 j _ lo hi h
      · split
        · exact B.1 j _ lo hi h
        · split
          · exact B.1 j _ lo hi h
          · exact B.1 j _ lo hi h
  · by_cases e : j = 44
    · subst e
      cases h
      rw [paP_44]
      omega
    · rw [paP_I e]
      exact B.2.1 j lo hi h
  · rw [paP_A]
    split
    · rename_i z
      rw [z.1] at h
      cases h
    · split
      · exact B.2.2 j _ h
      · split
        · exact B.2.2 j _ h
        · split
          · exact B.2.2 j _ h
          · exact B.2.2 j _ h
end PARTP
theorem CV_part {e N b : Nat} {q q1 : am_A} {s : am_Z} {n : Int} (I : am_CI e q s) (H : am_PK e q s N b n (rA s 52 b).toNat q1) (hN : N = (rI s 44).toNat) (h39 : rI s 44 ≤ 39) (hb : (b : Int) < rI s 44) (hn : 0 ≤ n ∧ n ≤ 9) : am_CV (qAdd q1 (1806, 0) (0, N)) (partP s b n) := by
  obtain ⟨h1, h2, h3, h4⟩ := H
  have b44 := (CV_B I.1).2.1 44 0 40 rfl
  have b52 := (CV_B I.1).1 52 b 0 10 rfl
  have eN : ((N : Nat) : Int) = rI s 44 := by omega
  have hB := I.1.2.2.2.2.2.2.1.2.2.1 b hb
  have hC := I.1.2.2.2.2.2.2.1.2.2.2.1 b
  refine CV_pub I h1 hN h39 (fun j x h => paP_o (by omega) (by omega) (by omega)) (fun j x z1 z2 z3 => paP_o (by omega) (by omega) (by omega)) (fun j x z1 z2 z3 => paP_o (by omega) (by omega) (by omega)) (fun j x z1 z2 => paP_o (by omega) (by omega) (by omega)) paP_44 (fun j h => paP_I h) (paP_B (CV_B I.1) hn h39) ?_ (fun k z1 z2 => ?_) ?_ (fun k hk => ?_)
  · have sb : ∀ j, 46 ≤ j ∧ j ≤ 52 → rA (partP s b n) j ((N : Nat) : Int) = rA s j b := fun j h => by rw [eN]; exact paP_b h
    have s45 : rA (partP s b n) 45 ((N : Nat) : Int) = n := by rw [eN]; exact paP_45
    exact ((am_nd_ok (am_nd_ok (am_lf_ok ((h2 0).trans (sb 46 (by omega)).symm)) (am_nd_ok (am_lf_ok ((h2 1).trans (sb 50 (by omega)).symm)) (am_lf_ok ((h2 2).trans (sb 48 (by omega)).symm)))) (am_nd_ok (am_lf_ok ((h2 6).trans s45.symm)) (am_nd_ok (am_lf_ok ((h2 7).trans (sb 47 (by omega)).symm)) (am_lf_ok ((h2 8).trans (sb 51 (by omega)).symm))))) : am_all fBk (fun f j => qFI q1 f (0, N) = rA (partP s b n) j ((N : Nat) : Int)))
  · have x := h3 k.toNat (by omega)
    have y := hB.2.2.2.1 k z1 z2
    rw [x.1, x.2, eN, paP_d (by omega) ⟨z1, z2⟩, paP_d (by omega) ⟨z1, z2⟩]
    exact y
  · rw [eN, paP_b (by omega)]
    omega
  · have hk2 : (k : Int) < rA s 52 b := by omega
    have hc := hC k hb hk2
    have x := h4 k hk
    have e53 : ∀ j, 53 ≤ j ∧ j ≤ 58 → rA (partP s b n) j (10 * ((N : Nat) : Int) + k) = rA s j (10 * b + k) := fun j h => by rw [eN]; exact paP_c h (by omega)
    have hI : ∀ l, lId q1 l = lId q l := fun l => lId_O (NB_lO h1 l)
    rw [e53 53 (by omega), x.1, hI]
    refine ⟨hc.2.2.1, hc.2.2.2.1, fun f j hf => ?_⟩
    have hr := fCp_r2 f j hf
    rw [x.2 f (by omega) (by omega), e53 j (by omega)]
    exact hc.2.2.2.2 f j hf
theorem CI_part {e N b : Nat} {q q1 : am_A} {s : am_Z} {n : Int} (I : am_CI e q s) (H : am_PK e q s N b n (rA s 52 b).toNat q1) (hN : N = (rI s 44).toNat) (h39 : rI s 44 ≤ 39) (hb : (b : Int) < rI s 44) (hn : 1 ≤ n ∧ n ≤ rA s 45 b - 1) (hc : (qLS q1 (1806, 0)).length ≤ qCP q1 (1806, 0)) : am_CI e (uFI (qAdd q1 (1806, 0) (0, N)) 6 (0, b) (rA s 45 b - n)) (wA (partP s b n) 45 b (rA s 45 b - n)) := by
  have b45 := (CV_B I.1).1 45 b 0 9 rfl
  have b52 := (CV_B I.1).1 52 b 0 10 rfl
  have b44 := (CV_B I.1).2.1 44 0 40 rfl
  have V := CV_part I H hN h39 hb (by omega)
  have I2 : am_CI e (qAdd q1 (1806, 0) (0, N)) (partP s b n) := CI_pub I H.1 hN V h39 (fun j x h => paP_o (by omega) (by omega) (by omega)) (fun j x z1 z2 z3 => paP_o (by omega) (by omega) (by omega)) paP_44 (fun j h => paP_I h) (by rw [show ((N : Nat) : Int) = rI s 44 by omega, paP_b (by omega)]; omega) hc
  exact CI_w I2 (CV_wB V (f0 := 6) (j0 := 45) (b0 := b) rfl (fun lo hi h => by cases h; omega)) rfl rfl rfl rfl (fun _ => ⟨rfl, rfl⟩) ⟨rfl, rfl, rfl⟩
theorem cs_part {d : Nat} {q : am_A} {e : Nat} {s : am_Z} (I : am_CI e q s) {b n : Int} (hb : in32 b) (hn : in32 n) : am_C2 (d + 7) m_X_part [aR 8 0, aI (zI b), aI (zI n)] q (am_OK (kPart s b n) kd3 (some (aI (zI (rI s 44)))) q (fun q2 => am_CI e q2 (wA (partP s b n) 45 b (rA s 45 b - n)) ∧ am_CG q q2)) := by
  refine am_C2_i (ls := [some (aR 8 0), some (aI (zI b)), some (aI (zI n)), none]) rfl ?_
  have V := I.1
  have b44 := (CV_B V).2.1 44 0 40 rfl
  refine ar_aload_n rfl rfl ?_
  refine ar_iload_n rfl rfl ?_
  refine ar_cv1 rfl rfl rfl (Nat.le_of_ble_eq_true rfl) (cs_findBooking (d := 0) V (by omega)) (by omega) (fun o q2 hq => am_B2_T rfl (fun h2 => ?_) (fun h2 => ?_) hq)
  · have hB := V.2.2.2.2.2.2.1.2.2.1 b.toNat (by omega)
    have eb : ((b.toNat : Nat) : Int) = b := by omega
    have b47 := (CV_B V).1 47 b 0 3 rfl
    have b45 := (CV_B V).1 45 b 0 9 rfl
    refine ar_stA3 rfl ?_
    refine ar_iload_n rfl rfl ?_
    refine ar_iconst rfl ?_
    refine ar_aload_n rfl rfl ?_
    refine ar_gfIv rfl rfl rfl (by omega) (((hB.1 6 45 rfl).trans (by rw [eb]))) ?_
    refine ar_iconst rfl ?_
    refine ar_isub rfl ?_
    refine ar_cs3 rfl rfl (Nat.le_of_ble_eq_true rfl) (cs_needRange (d := 0) (by omega) (by omega) (by omega)) (by omega) (fun o q14 hq => am_B2_T rfl (fun h14 => ?_) (fun h14 => ?_) hq)
    · refine cq_join (pc' := 41) (V := if rA s 47 b ≤ 1 ∧ rI s 44 < 40 then 1 else 0) ?_ (fun K41 => ?_)
      · refine ar_cs1 rfl rfl (Nat.le_of_ble_eq_true rfl) (cs_needState (d := 0) (by omega)) (by omega) (fun o q41 hq => am_B2_T rfl (fun h41 => ?_) (fun h41 => ?_) hq)
        · refine ar_aload_n rfl rfl ?_
          refine ar_gfR rfl rfl rfl (by omega) (V.1.1 806 _ rfl) ?_
          refine ar_aload_n rfl rfl ?_
          refine ar_iload_n rfl rfl ?_
          refine ar_cv1 rfl rfl rfl (Nat.le_of_ble_eq_true rfl) (cs_parted (d := 0) (b := b.toNat) (N := (rI s 44).toNat) (e := e) (s := s) I (by omega) rfl (by omega)) (by omega) (fun o q50 hq => ?_)
          obtain ⟨rfl, H50⟩ := hq
          rw [eb] at H50
          have V50 := NB_CV H50.1 I rfl
          refine ar_cv1 rfl rfl rfl (Nat.le_of_ble_eq_true rfl) (sq_addL (d := 0) rfl (by omega) (V50.1.2.2.2 1806 rfl) (Nat.le_trans (V50.2.2.2.2.2.2.2.2.1 1806 rfl) (by omega)) ⟨rfl, by omega⟩) (by omega) (fun o q53 hq => ?_)
          obtain ⟨rfl, rfl, hc53⟩ := hq
          have H50b : am_PK e q s (rI s 44).toNat b.toNat n (rA s 52 ((b.toNat : Nat) : Int)).toNat q50 := by { rw [eb]; exact H50 }
          have V3 := CV_part I H50b rfl (by omega) (by omega) (by omega)
          have I4 := CI_part I H50b rfl (by omega) (by omega) (by rw [eb]; omega) hc53
          rw [eb] at V3 I4
          have hB3 := V3.2.2.2.2.2.2.1.2.2.1 b.toNat (by show ((b.toNat : Nat) : Int) < rI s 44 + 1; omega)
          refine ar_pop rfl rfl ?_
          refine ar_aload_n rfl rfl ?_
          refine ar_dup rfl rfl ?_
          refine ar_gfIv rfl rfl rfl (by omega) (((hB3.1 6 45 rfl).trans (by rw [eb, paP_o (by omega) (by omega) (by omega)]))) ?_
          refine ar_iload_n rfl rfl ?_
          refine ar_isub rfl ?_
          refine ar_pfI rfl rfl rfl rfl (by omega) (Or.inl rfl) ?_
          refine ar_aload_n rfl rfl ?_
          refine ar_gfR rfl rfl rfl (by omega) (I4.1.1.1 806 _ rfl) ?_
          refine ar_cv0 rfl rfl rfl (Nat.le_of_ble_eq_true rfl) (cl_szB (d := 0) I4.1) (by omega) (fun o q71 hq => am_B2_is ?_ hq)
          refine ar_iconst rfl ?_
          refine ar_isub rfl ?_
          exact ar_iret rfl (Or.inl rfl) (⟨fun _ => ⟨congrArg (fun x => (Sum.inl (some (aI (zI x))) : am_O)) (by show rI s 44 + 1 - 1 = rI s 44; omega), I4, CG_FI (CG_Add H50.1.2.2.2.2.2.2.2.2.2 (by show cK 1806; omega)) (by show cK 0; omega)⟩, fun z => absurd (by unfold kPart; omega) z⟩)
        · exact ⟨fun z => absurd z (by unfold kPart; omega), fun _ => by { rw [show kPart s b n = 3 from by { unfold kPart; omega }]; exact ⟨rfl, rfl⟩ }⟩
      · refine ar_aload_n rfl rfl ?_
        refine ar_cv0 rfl rfl rfl (Nat.le_of_ble_eq_true rfl) (cs_hasSeats (d := 0) ((hB.1 7 47 rfl).trans (by rw [eb])) (by omega)) (by omega) (fun o q18 hq => am_B2_is ?_ hq)
        refine ar_if_eqB rfl rfl (fun h21 => ?_) (fun h21 => ?_)
        · refine ar_iconst rfl ?_
          exact K41 _ (by first | (rw [if_pos (by omega)]) | (rw [if_neg (by omega)]))
        · refine ar_aload_n rfl rfl ?_
          refine ar_gfR rfl rfl rfl (by omega) (V.1.1 806 _ rfl) ?_
          refine ar_cv0 rfl rfl rfl (Nat.le_of_ble_eq_true rfl) (cl_szB (d := 0) V) (by omega) (fun o q28 hq => am_B2_is ?_ hq)
          refine ar_bipush (x := 40) rfl rfl ?_
          refine ar_icmp_ge rfl rfl (by omega) (by omega) (fun h33 => ?_) (fun h33 => ?_)
          · refine ar_iconst rfl ?_
            exact K41 _ (by first | (rw [if_pos (by omega)]) | (rw [if_neg (by omega)]))
          · refine ar_iconst rfl ?_
            refine ar_goto rfl rfl ?_
            exact K41 _ (by first | (rw [if_pos (by omega)]) | (rw [if_neg (by omega)]))
    · exact ⟨fun z => absurd z (by unfold kPart; omega), fun _ => by { rw [show kPart s b n = 2 from by { unfold kPart; omega }]; exact ⟨rfl, rfl⟩ }⟩
  · exact ⟨fun z => absurd z (by unfold kPart; omega), fun _ => by { rw [show kPart s b n = 1 from by { unfold kPart; omega }]; exact ⟨rfl, rfl⟩ }⟩
theorem co_part {d e : Nat} {q : am_A} {s : am_Z} (I : am_CI e q s) {b n : Int} (hb : in32 b) (hn : in32 n) : am_C2 (d + 7) m_X_part [aR 8 0, aI (zI b), aI (zI n)] q (am_OP e (kPart s b n) kd3 (some (aI (zI (rI s 44)))) q (if kPart s b n = 0 then wA (partP s b n) 45 b (rA s 45 b - n) else s)) := by
  refine am_C2_imp (cs_part (d := d) I hb hn) (fun o q' h => OP_of I (fun _ => kd3_b) h (fun h0 hq => ?_) (fun h => if_neg h))
  rw [if_pos h0]
  exact ⟨CI_le hq.1 (Nat.le_succ e), hq.2⟩
end

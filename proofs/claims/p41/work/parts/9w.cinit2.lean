noncomputable section
theorem ix_f67 {f : Nat} (h1 : f < 700) (h2 : 600 ≤ f) : (fun x => (((((false || Nat.beq x 800) || Nat.beq x 801) || Nat.beq x 802) || Nat.beq x 803) || Nat.beq x 804)) f = false := by
  have z : ∀ k : Nat, f ≠ k → Nat.beq f k = false := fun k hk => by
    cases hb : Nat.beq f k
    · rfl
    · exact absurd (Nat.eq_of_beq_eq_true hb) hk
  show (((((false || Nat.beq f 800) || Nat.beq f 801) || Nat.beq f 802) || Nat.beq f 803) || Nat.beq f 804) = false
  rw [z 800 (by omega), z 801 (by omega), z 802 (by omega), z 803 (by omega), z 804 (by omega)]
  rfl
theorem cs_Dt_init {d : Nat} {q : am_A} {i : Nat} : am_C2 d m_Dt_init [aR 2 i] q (fun o q' => o = .inl none ∧ q' = q) := by
  refine am_C2_i (ls := [some (aR 2 i)]) rfl ?_
  refine ar_aload_n rfl rfl ?_
  refine ar_objinit rfl rfl rfl rfl (Nat.le_of_ble_eq_true rfl) ?_
  exact ar_ret rfl rfl (⟨rfl, rfl⟩)
theorem cs_Pr_init {d : Nat} {q0 H00 : am_A} {e l : Nat} (H0 : am_IX q0 H00 (fun x => ((((((false || Nat.beq x 800) || Nat.beq x 801) || Nat.beq x 802) || Nat.beq x 803) || Nat.beq x 804) || Nat.beq x 6)) e l) : am_C2 (d + 3) m_Pr_init [aR 6 0] H00 (fun o q' => o = .inl none ∧ am_IX q0 q' (fun x => (((((((((((((false || Nat.beq x 800) || Nat.beq x 801) || Nat.beq x 802) || Nat.beq x 803) || Nat.beq x 804) || Nat.beq x 6) || Nat.beq x 600) || Nat.beq x 601) || Nat.beq x 602) || Nat.beq x 603) || Nat.beq x 604) || Nat.beq x 605) || Nat.beq x 606)) (e + 7) (l + 36)) := by
  refine am_C2_i (ls := [some (aR 6 0)]) rfl ?_
  refine ar_aload_n rfl rfl ?_
  refine ar_objinit rfl rfl rfl rfl (Nat.le_of_ble_eq_true rfl) ?_
  refine ar_aload_n rfl rfl ?_
  refine ar_bipush (x := 16) rfl rfl ?_
  refine ix_arr 600 16 6 rfl H0 rfl (by omega) (by omega) (by omega) rfl rfl (by omega) rfl (by intro z; cases z) rfl rfl rfl rfl (by omega) (fun q1 H1 => ?_)
  refine ar_aload_n rfl rfl ?_
  refine ix_lst 601 6 rfl H1 rfl (by omega) (by omega) (by omega) (by omega) rfl rfl rfl rfl rfl rfl (Nat.le_of_ble_eq_true rfl) rfl rfl rfl (by omega) (fun q2 H2 => ?_)
  refine ar_aload_n rfl rfl ?_
  refine ar_iconst rfl ?_
  refine ix_arr 602 4 6 rfl H2 rfl (by omega) (by omega) (by omega) rfl rfl (by omega) rfl (by intro z; cases z) rfl rfl rfl rfl (by omega) (fun q3 H3 => ?_)
  refine ar_aload_n rfl rfl ?_
  refine ix_lst 603 6 rfl H3 rfl (by omega) (by omega) (by omega) (by omega) rfl rfl rfl rfl rfl rfl (Nat.le_of_ble_eq_true rfl) rfl rfl rfl (by omega) (fun q4 H4 => ?_)
  refine ar_aload_n rfl rfl ?_
  refine ar_iconst rfl ?_
  refine ix_arr 604 4 6 rfl H4 rfl (by omega) (by omega) (by omega) rfl rfl (by omega) rfl (by intro z; cases z) rfl rfl rfl rfl (by omega) (fun q5 H5 => ?_)
  refine ar_aload_n rfl rfl ?_
  refine ix_lst 605 6 rfl H5 rfl (by omega) (by omega) (by omega) (by omega) rfl rfl rfl rfl rfl rfl (Nat.le_of_ble_eq_true rfl) rfl rfl rfl (by omega) (fun q6 H6 => ?_)
  refine ar_aload_n rfl rfl ?_
  refine ix_lst 606 6 rfl H6 rfl (by omega) (by omega) (by omega) (by omega) rfl rfl rfl rfl rfl rfl (Nat.le_of_ble_eq_true rfl) rfl rfl rfl (by omega) (fun q7 H7 => ?_)
  refine ar_aload_n rfl rfl ?_
  refine ar_iconst rfl ?_
  refine ar_pfI rfl rfl rfl rfl (by omega) (Or.inl rfl) ?_
  have H8 := IX_I (f := 609) (r := (6, 0)) (v := -1) H7 (Or.inl rfl)
  exact ar_ret rfl rfl (⟨rfl, H8⟩)
theorem cs_X_init {d : Nat} {q0 : am_A} (H0 : am_IX q0 q0 (fun _ => false) 0 0) : am_C2 (d + 4) m_X_init [aR 8 0] q0 (fun o q' => o = .inl none ∧ am_IX q0 q' (fun x => ((((((((((((((((((((((false || Nat.beq x 800) || Nat.beq x 801) || Nat.beq x 802) || Nat.beq x 803) || Nat.beq x 804) || Nat.beq x 6) || Nat.beq x 600) || Nat.beq x 601) || Nat.beq x 602) || Nat.beq x 603) || Nat.beq x 604) || Nat.beq x 605) || Nat.beq x 606) || Nat.beq x 805) || Nat.beq x 806) || Nat.beq x 807) || Nat.beq x 808) || Nat.beq x 809) || Nat.beq x 2) || Nat.beq x 810) || Nat.beq x 811) || Nat.beq x 812)) 20 96) := by
  refine am_C2_i (ls := [some (aR 8 0)]) rfl ?_
  refine ar_aload_n rfl rfl ?_
  refine ar_objinit rfl rfl rfl rfl (Nat.le_of_ble_eq_true rfl) ?_
  refine ar_aload_n rfl rfl ?_
  refine ar_bipush (x := 6) rfl rfl ?_
  refine ix_arr 800 6 8 rfl H0 rfl (by omega) (by omega) (by omega) rfl rfl (by omega) rfl (by intro z; cases z) rfl rfl rfl rfl (by omega) (fun q1 H1 => ?_)
  refine ar_aload_n rfl rfl ?_
  refine ar_bipush (x := 6) rfl rfl ?_
  refine ix_arr 801 6 8 rfl H1 rfl (by omega) (by omega) (by omega) rfl rfl (by omega) rfl (by intro z; cases z) rfl rfl rfl rfl (by omega) (fun q2 H2 => ?_)
  refine ar_aload_n rfl rfl ?_
  refine ix_lst 802 8 rfl H2 rfl (by omega) (by omega) (by omega) (by omega) rfl rfl rfl rfl rfl rfl (Nat.le_of_ble_eq_true rfl) rfl rfl rfl (by omega) (fun q3 H3 => ?_)
  refine ar_aload_n rfl rfl ?_
  refine ix_lst 803 8 rfl H3 rfl (by omega) (by omega) (by omega) (by omega) rfl rfl rfl rfl rfl rfl (Nat.le_of_ble_eq_true rfl) rfl rfl rfl (by omega) (fun q4 H4 => ?_)
  refine ar_aload_n rfl rfl ?_
  refine ix_lst 804 8 rfl H4 rfl (by omega) (by omega) (by omega) (by omega) rfl rfl rfl rfl rfl rfl (Nat.le_of_ble_eq_true rfl) rfl rfl rfl (by omega) (fun q5 H5 => ?_)
  refine ar_aload_n rfl rfl ?_
  refine ar_new (kt := 6) rfl (by intro z; cases z) (by omega) ?_
  have N6 := IX_N (n := 10) H5 (t := 6) (by omega) rfl (fun _ f f1 f2 => ix_f67 f1 f2)
  refine ar_dup rfl rfl ?_
  rw [show qCN q5 6 = 0 from (H5.2.2.2.1 6 (by omega) (by omega) (fun _ => rfl) (fun z => by omega)).trans H5.2.2.2.2.2.2.2.2.2.2.1.2]
  refine ar_cv0 rfl rfl rfl (Nat.le_of_ble_eq_true rfl) (cs_Pr_init (d := 0) N6) (by omega) (fun o q6 hq => ?_)
  obtain ⟨rfl, P6⟩ := hq
  refine ar_pfR rfl rfl rfl rfl (by omega) ?_
  have H7 := IX_F P6 (f := 805) (by omega)
  refine ar_aload_n rfl rfl ?_
  refine ix_lst 806 8 rfl H7 rfl (by omega) (by omega) (by omega) (by omega) rfl rfl rfl rfl rfl rfl (Nat.le_of_ble_eq_true rfl) rfl rfl rfl (by omega) (fun q8 H8 => ?_)
  refine ar_aload_n rfl rfl ?_
  refine ix_lst 807 8 rfl H8 rfl (by omega) (by omega) (by omega) (by omega) rfl rfl rfl rfl rfl rfl (Nat.le_of_ble_eq_true rfl) rfl rfl rfl (by omega) (fun q9 H9 => ?_)
  refine ar_aload_n rfl rfl ?_
  refine ix_lst 808 8 rfl H9 rfl (by omega) (by omega) (by omega) (by omega) rfl rfl rfl rfl rfl rfl (Nat.le_of_ble_eq_true rfl) rfl rfl rfl (by omega) (fun q10 H10 => ?_)
  refine ar_aload_n rfl rfl ?_
  refine ix_lst 809 8 rfl H10 rfl (by omega) (by omega) (by omega) (by omega) rfl rfl rfl rfl rfl rfl (Nat.le_of_ble_eq_true rfl) rfl rfl rfl (by omega) (fun q11 H11 => ?_)
  refine ar_aload_n rfl rfl ?_
  refine ar_new (kt := 2) rfl (by intro z; cases z) (by omega) ?_
  have N2 := IX_N (n := 3) H11 (t := 2) (by omega) rfl (fun z => by omega)
  refine ar_dup rfl rfl ?_
  rw [show qCN q11 2 = 0 from (H11.2.2.2.1 2 (by omega) (by omega) (fun _ => rfl) (fun z => by omega)).trans H11.2.2.2.2.2.2.2.2.2.2.1.1]
  refine ar_cv0 rfl rfl rfl (Nat.le_of_ble_eq_true rfl) (cs_Dt_init (d := 0)) (by omega) (fun o q12 hq => ?_)
  obtain ⟨rfl, rfl⟩ := hq
  refine ar_pfR rfl rfl rfl rfl (by omega) ?_
  have H12 := IX_F N2 (f := 810) (by omega)
  refine ar_aload_n rfl rfl ?_
  refine ar_iconst rfl ?_
  refine ix_arr 811 5 8 rfl H12 rfl (by omega) (by omega) (by omega) rfl rfl (by omega) rfl (by intro z; cases z) rfl rfl rfl rfl (by omega) (fun q13 H13 => ?_)
  refine ar_aload_n rfl rfl ?_
  refine ar_bipush (x := 9) rfl rfl ?_
  refine ix_arr 812 9 8 rfl H13 rfl (by omega) (by omega) (by omega) rfl rfl (by omega) rfl (by intro z; cases z) rfl rfl rfl rfl (by omega) (fun q14 H14 => ?_)
  refine ar_aload_n rfl rfl ?_
  refine ar_iconst rfl ?_
  refine ar_pfI rfl rfl rfl rfl (by omega) (Or.inl rfl) ?_
  have H15 := IX_I (f := 813) (r := (8, 0)) (v := 0) H14 (Or.inr ⟨rfl, rfl⟩)
  refine ar_aload_n rfl rfl ?_
  refine ar_iconst rfl ?_
  refine ar_pfI rfl rfl rfl rfl (by omega) (Or.inl rfl) ?_
  have H16 := IX_I (f := 814) (r := (8, 0)) (v := 0) H15 (Or.inr ⟨rfl, rfl⟩)
  exact ar_ret rfl rfl (⟨rfl, H16⟩)
end

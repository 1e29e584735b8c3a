noncomputable section
theorem T3_0 {q q1 : am_A} {s2 : am_Z} {l n : Int} (B : in_S s2) (H : am_DH q q1 s2 l n) (HO : am_HO s2 l (rI s2 44) n) (N : Nat) : am_T3 q q1 (itS (glB l) N s2) l n 0 := by
  have h10 : ∀ b, rA s2 52 b ≤ 10 := fun b => (B.1 52 b 0 10 rfl).2
  have hu := glN_u (l := l) h10 N
  have e71 : ∀ x, rA (itS (glB l) N s2) 71 x = rA s2 71 x := fun x => hu.1 71 x (by omega) (by omega) (by omega)
  have e44 : rI (itS (glB l) N s2) 44 = rI s2 44 := congrFun hu.2.1 44
  have ecf : ∀ i : Nat, (i : Int) < n → cfS (itS (glB l) N s2) (rA s2 71 i) l = cfS s2 (rA s2 71 i) l := fun i hi => by
    have ho := HO.1 i (by omega) hi
    exact glN_cf h10 N ho.1.1 ho.2.1
  refine ⟨fun i _ hi => ?_, fun i i2 h1 h2 => by rw [e71, e71]; exact HO.2 i i2 (by omega) (by omega) h2, H.1, fun i hi => by rw [e71]; exact H.2.1 i hi, fun y hy => ?_, H.2.2.2.2.1, H.2.2.2.2.2⟩
  · have ho := HO.1 i (by omega) hi
    rw [e71, e44, ecf i hi]
    exact ⟨ho.1, ho.2.2⟩
  · have d := H.2.2.1 y hy
    exact ⟨d.1, d.2.imp id (fun ⟨i, i1, i2⟩ => ⟨i, Nat.zero_le i, i1, by rw [e71, ecf i i1]; exact i2⟩)⟩
theorem T3_e {q q1 : am_A} {t : am_Z} {l n : Int} (T : am_T3 q q1 t l n n.toNat) (hn : 0 ≤ n) : am_DFh q1 := fun j h => by
  have d := T.2.2.2.2.1 j h
  exact ⟨d.1, d.2.elim id (fun ⟨i, i1, i2, _⟩ => absurd i2 (by omega))⟩
theorem cs_takeOff {d : Nat} {q : am_A} {e : Nat} {s : am_Z} {l : Int} (I : am_CI e q s) (hl : legP s l) (P : am_PN s) (U : am_UQ s) (C : am_CK s) (E : am_PE s) (F : am_DFh q) : am_C2 (d + 8) m_X_takeOff [aR 8 0, aR 5 (lId q l)] q (fun o q' => o = .inl none ∧ am_CI e q' (goS s l) ∧ (am_UQ (goS s l) ∧ am_CK (goS s l) ∧ am_PE (goS s l)) ∧ am_CY q q' ∧ am_DFh q') := by
  refine am_C2_i (ls := [some (aR 8 0), some (aR 5 (lId q l)), none, none, none]) rfl ?_
  have b44 := (CV_B I.1).2.1 44 0 40 rfl
  have hS : am_S7 s (gl0 s) := ⟨fun j i h _ => (gl0_S s).1 j i h, fun _ _ => rfl⟩
  refine ar_aload_n rfl rfl ?_
  refine ar_aload_n rfl rfl ?_
  refine ar_cv1 rfl rfl rfl (Nat.le_of_ble_eq_true rfl) (cs_denySurplus (d := 0) I hl P U C F) (by omega) (fun o q2 hq => ?_)
  obtain ⟨rfl, I2, H2, a2, D2⟩ := hq
  have D7 : am_S7 (gl0 s) (glX s l).1 := D2.2.2.2.2.1
  have e44 : rI (glX s l).1 44 = rI s 44 := D7.2 44 (by omega)
  have B2 := CV_B I2.1
  have HO : am_HO (glX s l).1 l (rI (glX s l).1 44) (glX s l).2 := by { rw [e44]; exact D2.2.2.2.1 }
  have hn2 : 0 ≤ (glX s l).2 ∧ (glX s l).2 ≤ 40 := by { have z := D2.2.1; have z2 : rI (gl0 s) 44 = rI s 44 := rfl; omega }
  have h10 : ∀ b, rA (glX s l).1 52 b ≤ 10 := fun b => (B2.1 52 b 0 10 rfl).2
  have hu := glN_u (l := l) h10 (rI s 44).toNat
  have U2 := S7_UQ D7 (S7_UQ hS U)
  have C2 := S7_CK D7 (S7_CK hS C)
  have l2 := S7_l D7 (S7_l hS hl)
  have E2 : am_PE (glX s l).1 := PE_s (PE_s (s' := gl0 s) E (fun x => (gl0_S s).1 45 x (by omega)) rfl) (fun x => D7.1 45 x (by omega) (by omega)) (D7.2 44 (by omega))
  refine ar_iconst rfl ?_
  refine ar_stI2 rfl ?_
  refine lp_to2 (d := d + 4) (q := q) (e := e) (s2 := (glX s l).1) (l := l) (n := (glX s l).2) l2 U2 C2 B2 HO (fun b hb z => D2.2.2.2.2.2 b (by rw [e44] at hb; exact hb) z) ((rI (glX s l).1 44).toNat + 1) 0 0 _ _ _ (by omega) ⟨rfl, by omega, I2, H2⟩ (fun x2 x3 x4 q3 I3 H3 => ?_)
  rw [e44] at I3
  have e443 : rI (itS (glB l) (rI s 44).toNat (glX s l).1) 44 = rI s 44 := (congrFun hu.2.1 44).trans e44
  refine ar_iconst rfl ?_
  refine ar_stI2 rfl ?_
  refine lp_to3 (d := d) (q := q) (e := e) (s3 := (itS (glB l) (rI s 44).toNat (glX s l).1)) (l := l) (n := (glX s l).2) ((legP_cg (s := (glX s l).1) (s' := (itS (glB l) (rI s 44).toNat (glX s l).1)) (fun a x h => hu.1 a x (by omega) (by omega) (by omega)) (congrFun hu.2.1 3)).mpr l2) hn2 ((glX s l).2.toNat + 1) 0 0 (itS (glB l) (rI s 44).toNat (glX s l).1) _ _ _ (by omega) ⟨rfl, by omega, rfl, I3, ⟨UQ_gl B2 U2 _, CK_gl B2 C2 _, PE_s E2 (fun x => hu.1 45 x (by omega) (by omega) (by omega)) (congrFun hu.2.1 44), (legP_cg (s := (glX s l).1) (s' := (itS (glB l) (rI s 44).toNat (glX s l).1)) (fun a x h => hu.1 a x (by omega) (by omega) (by omega)) (congrFun hu.2.1 3)).mpr l2⟩, T3_0 B2 H3 HO _⟩ (fun x2 x3 x4 q4 I4 X4 T4 => ?_)
  exact ar_ret rfl rfl (⟨rfl, I4, X4, T4.2.2.2.2.2.2, T3_e T4 hn2.1⟩)
end

noncomputable section
/-! Who is denied in a pass. -/
theorem gd_68 {l : Int} : ∀ (f : Nat) (s : am_Z) (a n : Int), (∀ x, rA s 45 x ≤ 9) → rI (gdS l f s a n).1 68 ≤ rI s 68 + 9 * (f : Int)
  | 0, s, _, _, _ => by show rI s 68 ≤ rI s 68 + 9 * 0; omega
  | f + 1, s, a, n, h => by
    rw [gdS]
    split
    · have z := gd_68 (l := l) f (dnS s (ndN s l (rI s 44).toNat) n) (a - rA s 45 (ndN s l (rI s 44).toNat)) (n + 1) (fun x => by rw [dn_A _ _ _ (by omega) (by omega)]; exact h x)
      have y : rI (dnS s (ndN s l (rI s 44).toNat) n) 68 = rI s 68 + rA s 45 (ndN s l (rI s 44).toNat) := rfl
      have x := h (ndN s l (rI s 44).toNat)
      omega
    · show rI s 68 ≤ rI s 68 + 9 * ((f + 1 : Nat) : Int)
      omega
/-- what an hour keeps -/
def am_HK (s t : am_Z) : Prop := (∀ x, rA t 45 x = rA s 45 x) ∧ rI t 44 = rI s 44 ∧ rI t 3 = rI s 3
theorem HK_r {s : am_Z} : am_HK s s := ⟨fun _ => rfl, rfl, rfl⟩
theorem HK_t {a b c : am_Z} (x : am_HK a b) (y : am_HK b c) : am_HK a c := ⟨fun i => (y.1 i).trans (x.1 i), y.2.1.trans x.2.1, y.2.2.trans x.2.2⟩
theorem itS_P {P : am_Z → Prop} {f : Nat → am_Z → am_Z} (h : ∀ i t, P t → P (f i t)) {s : am_Z} (H : P s) : ∀ n : Nat, P (itS f n s)
  | 0 => H
  | n + 1 => h n _ (itS_P h H n)
theorem it_68 {f : Nat → am_Z → am_Z} {s0 : am_Z} {c : Int} (hf : ∀ i t, am_HK s0 t → am_HK t (f i t) ∧ rI (f i t) 68 ≤ rI t 68 + c) {s : am_Z} (H : am_HK s0 s) : ∀ n : Nat, am_HK s0 (itS f n s) ∧ rI (itS f n s) 68 ≤ rI s 68 + c * (n : Int)
  | 0 => ⟨H, by show rI s 68 ≤ rI s 68 + c * 0; omega⟩
  | n + 1 => by
    have z := it_68 hf H n
    have y := hf n _ z.1
    refine ⟨HK_t z.1 y.1, ?_⟩
    rw [itS_s, show ((n + 1 : Nat) : Int) = (n : Int) + 1 by omega, Int.mul_add, Int.mul_one]
    omega
theorem go_68 {t : am_Z} {l : Int} (h45 : ∀ x, rA t 45 x ≤ 9) (h44 : rI t 44 ≤ 40) : rI (goS t l) 68 ≤ rI t 68 + 369 := by
  unfold goS
  rw [itS_J (f := gmF l) (fun i t => moveS_I (by omega) (by omega)), itS_J (f := glB l) (fun i t => congrFun (glB_2 l i t) 68)]
  have z := gd_68 (l := l) ((rI t 44).toNat + 1) (gl0 t) (nTc (gl0 t) l) 0 (fun x => by rw [(gl0_S t).1 45 x (by omega)]; exact h45 x)
  rw [(gl0_S t).2 68] at z
  unfold glX
  omega
theorem go_45 {t : am_Z} {l x : Int} : rA (goS t l) 45 x = rA t 45 x := by
  unfold goS
  refine itS_P (P := fun u => rA u 45 x = rA t 45 x) (f := gmF l) (fun i u h => (mv_any (by omega)).trans h) ?_ _
  refine itS_P (P := fun u => rA u 45 x = rA t 45 x) (f := glB l) (fun i u h => Eq.trans ?_ h) ?_ _
  · unfold glB
    split
    · exact (glI_u _ _ _ _).1 45 x (by omega) (by omega) (by omega)
    · rfl
  · show rA (gdS l _ (gl0 t) _ _).1 45 x = rA t 45 x
    rw [(gdS_u _ _ _ _).1 45 x (by omega) (by omega), (gl0_S t).1 45 x (by omega)]
theorem lg_68 {i : Nat} {t : am_Z} (h45 : ∀ x, rA t 45 x ≤ 9) (h44 : rI t 44 ≤ 40) : am_HK t (lgF i t) ∧ rI (lgF i t) 68 ≤ rI t 68 + 369 := by
  refine ⟨⟨fun x => ?_, lgF_I (by omega) (by omega) (by omega), lgF_I (by omega) (by omega) (by omega)⟩, ?_⟩
  · unfold lgF
    split
    · exact go_45
    · rfl
  · unfold lgF
    split
    · exact go_68 h45 h44
    · omega
theorem lap_68 {i : Nat} {t : am_Z} : am_HK t (lapF i t) ∧ rI (lapF i t) 68 ≤ rI t 68 + 0 := by
  refine ⟨⟨fun x => ?_, congrFun (lapF_2 i t) 44, congrFun (lapF_2 i t) 3⟩, by { have z : rI (lapF i t) 68 = rI t 68 := congrFun (lapF_2 i t) 68; omega }⟩
  unfold lapF
  split
  · exact vd_A (by omega)
  · rfl
theorem hr_68 {t : am_Z} (h45 : ∀ x, rA t 45 x ≤ 9) (h44 : rI t 44 ≤ 40) (h3 : rI t 3 ≤ 12) : am_HK t (hrS t) ∧ rI (hrS t) 68 ≤ rI t 68 + 500000 := by
  have h0 : am_HK t (wI t 0 (rI t 0 + 1)) := ⟨fun _ => rfl, rfl, rfl⟩
  have a := it_68 (f := lapF) (s0 := t) (c := 0) (fun i u _ => lap_68) h0 (rI t 44).toNat
  have b := it_68 (f := lgF) (s0 := t) (c := 369) (fun i u K => lg_68 (fun x => by rw [K.1]; exact h45 x) (by rw [K.2.1]; exact h44)) a.1 (100 * rI t 3).toNat
  refine ⟨b.1, ?_⟩
  have e : rI (wI t 0 (rI t 0 + 1)) 68 = rI t 68 := rfl
  have b2 : rI (hrS t) 68 ≤ rI (itS lapF (rI t 44).toNat (wI t 0 (rI t 0 + 1))) 68 + 369 * ((100 * rI t 3).toNat : Int) := b.2
  omega
theorem ps_68 {s : am_Z} (h45 : ∀ x, rA s 45 x ≤ 9) (h44 : rI s 44 ≤ 40) (h3 : rI s 3 ≤ 12) (n : Nat) : rI (itS (fun _ => hrS) n s) 68 ≤ rI s 68 + 500000 * (n : Int) := (it_68 (f := fun _ => hrS) (s0 := s) (c := 500000) (fun i u K => hr_68 (fun x => by rw [K.1]; exact h45 x) (by rw [K.2.1]; exact h44) (by rw [K.2.2]; exact h3)) HK_r n).2
theorem PL_pass {s s' : am_Z} {T T' : am_LT} {h : Int} (P : am_PL s T) (K : am_KF s s') (n0 : rI s' 0 = rI s 0 + h) (h68 : rI s' 68 ≤ rI s 68 + 500000 * h) (t2 : T' 5 2 = rI s 0 + h) (t6 : T' 5 6 = rI s 68) (eo : ∀ (i : Nat) (x : Int), (i ≠ 5 ∨ (x ≠ 2 ∧ x ≠ 6)) → T' i x = T i x) : am_PL s' T' := by
  obtain ⟨⟨p0, p1, p2, p3, p4, p5, p6⟩, pn, pm, pf, pb, px⟩ := P
  obtain ⟨k1, k2, k3⟩ := K
  obtain ⟨d1, d2, d3⟩ := p6
  have e59 : rA s' 59 = rA s 59 := funext (fun x => k2 59 x (by omega))
  refine ⟨⟨by rw [k1 3 (by omega), eo 5 0 (by omega)]; exact p0, by rw [k1 20 (by omega), eo 5 1 (by omega)]; exact p1, by rw [n0]; exact t2, by rw [k1 33 (by omega), eo 5 3 (by omega)]; exact p3, by rw [k1 44 (by omega), eo 5 4 (by omega)]; exact p4, by rw [k1 61 (by omega), eo 5 5 (by omega)]; exact p5, ⟨by rw [t6]; exact k3, by rw [t6]; omega, by rw [n0]; omega⟩⟩, fun f h1 h2 => ?_, fun f b h1 h2 h3 h4 => ?_, fun i h1 h2 => ?_, fun k h1 h2 => ?_, fun w h1 h2 => ?_⟩
  · rw [k2 4 _ (by omega), k2 5 _ (by omega), k2 6 _ (by omega), k2 8 _ (by omega), k2 9 _ (by omega), eo 0 _ (by omega), eo 0 _ (by omega), eo 0 _ (by omega), eo 0 _ (by omega), eo 0 _ (by omega)]
    exact pn f h1 (by rw [k1 3 (by omega)] at h2; exact h2)
  · rw [k2 14 _ (by omega), eo 1 _ (by omega)]
    exact pm f b h1 (by rw [k1 3 (by omega)] at h2; exact h2) h3 h4
  · rw [k2 25 _ (by omega), eo 2 _ (by omega)]
    exact pf i h1 (by rw [k1 20 (by omega)] at h2; exact h2)
  · rw [e59, k2 46 _ (by omega), eo 3 _ (by omega), eo 4 _ (by omega)]
    exact pb k h1 (by rw [k1 44 (by omega)] at h2; exact h2)
  · rw [k2 63 _ (by omega), eo 7 _ (by omega)]
    exact px w h1 (by rw [k1 61 (by omega)] at h2; exact h2)
theorem PL_lim {s : am_Z} {T : am_LT} {i v : Int} (P : am_PL s T) : am_PL (wA s 14 i v) (uT T 1 i v) := by
  obtain ⟨⟨p0, p1, p2, p3, p4, p5, p6⟩, pn, pm, pf, pb, px⟩ := P
  have tn : ∀ (j : Nat) (x : Int), j ≠ 1 → uT T 1 i v j x = T j x := fun j x h => uT_n (Or.inl h)
  have sn : ∀ (j : Nat) (x : Int), j ≠ 14 → rA (wA s 14 i v) j x = rA s j x := fun j x h => wA_ne h
  have e59 : rA (wA s 14 i v) 59 = rA s 59 := funext (fun x => sn 59 x (by omega))
  refine ⟨⟨(tn _ _ (by omega)).trans p0, (tn _ _ (by omega)).trans p1, (tn _ _ (by omega)).trans p2, (tn _ _ (by omega)).trans p3, (tn _ _ (by omega)).trans p4, (tn _ _ (by omega)).trans p5, P6_cg p6 rfl rfl (tn 5 6 (by omega))⟩, fun f h1 h2 => ?_, fun f b h1 h2 h3 h4 => ?_, fun x h1 h2 => ?_, fun k h1 h2 => ?_, fun w h1 h2 => ?_⟩
  · rw [tn 0 _ (by omega), tn 0 _ (by omega), tn 0 _ (by omega), tn 0 _ (by omega), tn 0 _ (by omega), sn 4 _ (by omega), sn 5 _ (by omega), sn 6 _ (by omega), sn 8 _ (by omega), sn 9 _ (by omega)]
    exact pn f h1 h2
  · by_cases z : 4 * f + b = i
    · rw [z, uT_e]
      exact (if_pos ⟨rfl, rfl⟩).symm
    · rw [uT_n (Or.inr z)]
      exact (pm f b h1 h2 h3 h4).trans (if_neg (fun y => z y.2)).symm
  · rw [tn 2 _ (by omega), sn 25 _ (by omega)]
    exact pf x h1 h2
  · rw [tn 3 _ (by omega), tn 4 _ (by omega), e59, sn 46 _ (by omega)]
    exact pb k h1 h2
  · rw [tn 7 _ (by omega), sn 63 _ (by omega)]
    exact px w h1 h2
theorem C2_ex {D y : Nat} {as : List am_V} {Q : am_O → am_A → Prop} {q : am_A} {h : am_H} (C : am_C2 D y as q Q) (Rh : am_Re q h) : ∃ o q', Q o q' := by
  obtain ⟨n, o, h', e, a', _, hq⟩ := C h Rh
  exact ⟨o, a', hq⟩
abbrev am_IJA (t : am_Z) : Prop := am_INV t ∧ am_JA t
theorem dz_pass {d e : Nat} {q : am_A} {s : am_Z} {a b c p r t : Int} (I : am_CI e q s) (F : am_DFh q) (J : am_JJ s) (ha : in32 a) (hk : kPass a = 0) (hT : rI s 0 + a ≤ 60000) : am_C2 (d + 21) m_L_does [aR 8 0, aI (zI 25), aI (zI a), aI (zI b), aI (zI c), aI (zI p), aI (zI r), aI (zI t)] q (am_OX e q (itS (fun _ => hrS) a.toNat s) (rI s 0 + a)) := by
  have h := ds_pass (d := d) (e := e) (q := q) (s1 := itS (fun _ => hrS) a.toNat s) (a := a) (b := b) (c := c) (p := p) (r := r) (t := t) (k := 0) (v := rI s 0 + a) (kd := kd1) (fun z => absurd rfl z) (am_C2_imp (cs_pass (d := 11) I ha PX_JA (J_JJ J) F (fun _ => hT)) (fun o q1 h => by { rw [hk] at h; obtain ⟨h1, h2⟩ := h.1 rfl; exact ⟨fun _ => h1, fun z => absurd rfl z, CI_le h2.1 (by omega), h2.2.2.1, h2.2.2.2⟩ }))
  rw [rc_0 rfl] at h
  exact h
theorem dx_pass {d e : Nat} {q : am_A} {s : am_Z} {a b c p r t : Int} (I : am_CI e q s) (F : am_DFh q) (J : am_JJ s) (ha : in32 a) (hk : kPass a = 1) : am_C2 (d + 21) m_L_does [aR 8 0, aI (zI 25), aI (zI a), aI (zI b), aI (zI c), aI (zI p), aI (zI r), aI (zI t)] q (am_OX e q s (-2000000)) := by
  have h := ds_pass (d := d) (e := e) (q := q) (s1 := s) (a := a) (b := b) (c := c) (p := p) (r := r) (t := t) (k := 1) (v := 0) (kd := kd1) (fun _ => Or.inr (Or.inl rfl)) (am_C2_imp (cs_pass (d := 11) I ha PX_JA (J_JJ J) F (fun z => absurd (hk.symm.trans z) (by omega))) (fun o q1 h => by { rw [hk] at h; obtain ⟨h1, rfl⟩ := h.2 (by omega); exact ⟨fun z => absurd z (by omega), fun _ => h1, CI_EX I (by show 13 ≤ 14 ∧ 14 ≤ 15; omega), CY_NO CY_r (by show cK 14; unfold cK; omega), DF_FP F (CG_NO CG_r (by show cK 14; unfold cK; omega)).2⟩ }))
  rw [rc_14 (by omega) rfl] at h
  exact h
theorem lc_tail {d e : Nat} {q : am_A} {s : am_Z} {T : am_LT} {k o1 o2 : Int} {x15 x16 x17 x18 x19 : Option am_V} {Q : am_O → am_A → Prop} (I : am_CI e q s) (L : am_LS q s T) (b0 : 0 ≤ rI s 0 ∧ rI s 0 ≤ 1500) (b1 : 0 ≤ o1 ∧ o1 < 60000) (b2 : 0 ≤ o2 ∧ o2 < 70000) {x12 x13 : Option am_V} (bk : 0 ≤ k ∧ k ≤ 56) (K : ∀ q1 s1 T1, am_CI (e + 60) q1 s1 → am_LS q1 s1 T1 → am_S31 q q1 → rI s1 0 = rI s 0 → am_W2 (d + 24) m_L_law 255 [some (aR 31 0), some (aR 8 0), some (aR 24 0), some (aR 24 1), some (aR 24 2), some (aR 24 3), some (aR 24 4), some (aR 24 5), some (aR 24 6), some (aR 24 7), some (aI (zI 1)), some (aI (zI (k + 1))), x12, x13, some (aI (zI o2)), x15, x16, x17, x18, x19] [] q1 Q) : am_W2 (d + 24) m_L_law 884 [some (aR 31 0), some (aR 8 0), some (aR 24 0), some (aR 24 1), some (aR 24 2), some (aR 24 3), some (aR 24 4), some (aR 24 5), some (aR 24 6), some (aR 24 7), some (aI (zI 1)), some (aI (zI k)), x12, x13, some (aI (zI o2)), x15, x16, x17, x18, x19] [] q Q := by
  obtain ⟨F, J, H, P⟩ := id L
  have B := CV_B I.1
  have b3 := B.2.1 3 0 12 rfl
  have b44 := B.2.1 44 0 40 rfl
  obtain ⟨⟨p0, p1, p2, p3, p4, p5, p6⟩, pn, pm, pf, pb, px⟩ := id P
  refine ar_iload rfl rfl ?_
  refine ar_if_eq rfl rfl (by omega) (fun ht => by omega) (fun h886 => ?_)
  refine ar_aload_n rfl rfl ?_
  refine ar_aload_n rfl rfl ?_
  refine ar_aload_n rfl rfl ?_
  refine ar_aload rfl rfl ?_
  refine ar_aload rfl rfl ?_
  refine ar_iload rfl rfl ?_
  refine ar_cs2 rfl rfl (Nat.le_of_ble_eq_true rfl) (cs_lleg (d := 0) H (by omega) (by omega)) (by omega) (fun o q898 hq => am_B2_is ?_ hq)
  have bl := lleg_b (T := T) (x := o2) (by omega)
  generalize (if T 5 0 = 0 then (0 : Int) else 100 * (o2 % T 5 0) + o2 / 12 % 9) = l at bl ⊢
  refine ar_cs5 rfl rfl (Nat.le_of_ble_eq_true rfl) (cs_isLeg (d := 0) I F H P J.1.1.1 (by omega) J.1.2.1.2.1) (by omega) (fun o q901 hq => ?_)
  obtain ⟨rfl, I901, Y901, F901⟩ := hq
  have H901 := LA_CY H Y901
  refine ar_if_eq rfl rfl (by omega) (fun ht => by omega) (fun h904 => ?_)
  refine ar_iload rfl rfl ?_
  refine ar_iconst rfl ?_
  refine ar_irem rfl (by omega) (by omega) ?_
  refine ar_if_gt rfl rfl (by omega) (fun h911 => ?_) (fun h911 => ?_)
  · refine ar_iconst rfl ?_
    refine ar_goto rfl rfl ?_
    refine ar_stI10 rfl ?_
    refine ar_inc11 rfl ?_
    refine ar_goto rfl rfl ?_
    first | exact K _ _ _ (CI_le I2 (by omega)) L2 (S31_t (S31_CY Y901) S2) n2 | exact K _ _ _ (CI_le I901 (by omega)) ⟨F901, J, H901, P⟩ (S31_CY Y901) rfl
  · refine ar_aload_n rfl rfl ?_
    refine ar_aload_n rfl rfl ?_
    refine ar_aload rfl rfl ?_
    refine ar_aload rfl rfl ?_
    refine ar_aload rfl rfl ?_
    refine ar_aload rfl rfl ?_
    refine ar_cs6 rfl rfl (Nat.le_of_ble_eq_true rfl) (cs_areBookings (d := 0) I901 ⟨F901, J, H901, P⟩ (by omega)) (by omega) (fun o q924 hq => ?_)
    obtain ⟨rfl, s2, T2, I2, L2, S2, n2⟩ := hq
    refine ar_if_eq rfl rfl (by omega) (fun ht => by omega) (fun h927 => ?_)
    refine ar_iconst rfl ?_
    refine ar_goto rfl rfl ?_
    refine ar_stI10 rfl ?_
    refine ar_inc11 rfl ?_
    refine ar_goto rfl rfl ?_
    first | exact K _ _ _ (CI_le I2 (by omega)) L2 (S31_t (S31_CY Y901) S2) n2 | exact K _ _ _ (CI_le I901 (by omega)) ⟨F901, J, H901, P⟩ (S31_CY Y901) rfl
theorem lc_flight {d e : Nat} {q : am_A} {s : am_Z} {T : am_LT} {k o1 o2 : Int} {x15 x16 x17 x18 x19 : Option am_V} {Q : am_O → am_A → Prop} (I : am_CI e q s) (L : am_LS q s T) (b0 : 0 ≤ rI s 0 ∧ rI s 0 ≤ 1500) (b1 : 0 ≤ o1 ∧ o1 < 60000) (b2 : 0 ≤ o2 ∧ o2 < 70000) {w : Int} (hw : 0 ≤ w ∧ w < 2) (K : ∀ q1 s1 T1 y15 y16 y17 y18 y19, am_CI (e + 50) q1 s1 → am_LS q1 s1 T1 → am_S31 q q1 → (rI s 0 ≤ rI s1 0 ∧ rI s1 0 ≤ rI s 0 + 14) → am_W2 (d + 24) m_L_law 884 [some (aR 31 0), some (aR 8 0), some (aR 24 0), some (aR 24 1), some (aR 24 2), some (aR 24 3), some (aR 24 4), some (aR 24 5), some (aR 24 6), some (aR 24 7), some (aI (zI 1)), some (aI (zI k)), some (aI (zI w)), some (aI (zI o1)), some (aI (zI o2)), y15, y16, y17, y18, y19] [] q1 Q) : am_W2 (d + 24) m_L_law 312 [some (aR 31 0), some (aR 8 0), some (aR 24 0), some (aR 24 1), some (aR 24 2), some (aR 24 3), some (aR 24 4), some (aR 24 5), some (aR 24 6), some (aR 24 7), some (aI (zI 1)), some (aI (zI k)), some (aI (zI w)), some (aI (zI o1)), some (aI (zI o2)), x15, x16, x17, x18, x19] [] q Q := by
  obtain ⟨F, J, H, P⟩ := id L
  have B := CV_B I.1
  have b3 := B.2.1 3 0 12 rfl
  have b44 := B.2.1 44 0 40 rfl
  obtain ⟨⟨p0, p1, p2, p3, p4, p5, p6⟩, pn, pm, pf, pb, px⟩ := id P
  refine ar_iload rfl rfl ?_
  refine ar_iconst rfl ?_
  refine ar_icmp_ge rfl rfl (by omega) (by omega) (fun ht => by omega) (fun h315 => ?_)
  refine ar_aload_n rfl rfl ?_
  refine ar_aload_n rfl rfl ?_
  refine ar_aload_n rfl rfl ?_
  refine ar_aload rfl rfl ?_
  refine ar_iload rfl rfl ?_
  refine ar_iload rfl rfl ?_
  refine ar_cs6 rfl rfl (Nat.le_of_ble_eq_true rfl) (cs_isFlight (d := 0) I L (by omega) (by omega)) (by omega) (fun o q327 hq => ?_)
  obtain ⟨rfl, s1, T1, I1, L1, S1, n1⟩ := hq
  refine ar_stI10 rfl ?_
  refine ar_goto rfl rfl ?_
  exact K _ _ _ _ _ _ _ _ (CI_le I1 (by omega)) L1 S1 (by omega)
theorem lc_fare {d e : Nat} {q : am_A} {s : am_Z} {T : am_LT} {k o1 o2 : Int} {x15 x16 x17 x18 x19 : Option am_V} {Q : am_O → am_A → Prop} (I : am_CI e q s) (L : am_LS q s T) (b0 : 0 ≤ rI s 0 ∧ rI s 0 ≤ 1500) (b1 : 0 ≤ o1 ∧ o1 < 60000) (b2 : 0 ≤ o2 ∧ o2 < 70000) {w : Int} (hw : 2 ≤ w ∧ w < 4) (K : ∀ q1 s1 T1 y15 y16 y17 y18 y19, am_CI (e + 50) q1 s1 → am_LS q1 s1 T1 → am_S31 q q1 → (rI s 0 ≤ rI s1 0 ∧ rI s1 0 ≤ rI s 0 + 14) → am_W2 (d + 24) m_L_law 884 [some (aR 31 0), some (aR 8 0), some (aR 24 0), some (aR 24 1), some (aR 24 2), some (aR 24 3), some (aR 24 4), some (aR 24 5), some (aR 24 6), some (aR 24 7), some (aI (zI 1)), some (aI (zI k)), some (aI (zI w)), some (aI (zI o1)), some (aI (zI o2)), y15, y16, y17, y18, y19] [] q1 Q) : am_W2 (d + 24) m_L_law 312 [some (aR 31 0), some (aR 8 0), some (aR 24 0), some (aR 24 1), some (aR 24 2), some (aR 24 3), some (aR 24 4), some (aR 24 5), some (aR 24 6), some (aR 24 7), some (aI (zI 1)), some (aI (zI k)), some (aI (zI w)), some (aI (zI o1)), some (aI (zI o2)), x15, x16, x17, x18, x19] [] q Q := by
  obtain ⟨F, J, H, P⟩ := id L
  have B := CV_B I.1
  have b3 := B.2.1 3 0 12 rfl
  have b44 := B.2.1 44 0 40 rfl
  obtain ⟨⟨p0, p1, p2, p3, p4, p5, p6⟩, pn, pm, pf, pb, px⟩ := id P
  refine ar_iload rfl rfl ?_
  refine ar_iconst rfl ?_
  refine ar_icmp_ge rfl rfl (by omega) (by omega) (fun h315 => ?_) (fun hf => by omega)
  refine ar_iload rfl rfl ?_
  refine ar_iconst rfl ?_
  refine ar_icmp_ge rfl rfl (by omega) (by omega) (fun ht => by omega) (fun h338 => ?_)
  refine ar_aload_n rfl rfl ?_
  refine ar_aload rfl rfl ?_
  refine ar_aload rfl rfl ?_
  refine ar_iload rfl rfl ?_
  refine ar_iload rfl rfl ?_
  refine ar_cs5 rfl rfl (Nat.le_of_ble_eq_true rfl) (cs_isFare (d := 0) I L (by omega) (by omega)) (by omega) (fun o q350 hq => ?_)
  obtain ⟨rfl, s1, T1, I1, L1, S1, n1⟩ := hq
  refine ar_stI10 rfl ?_
  refine ar_goto rfl rfl ?_
  exact K _ _ _ _ _ _ _ _ (CI_le I1 (by omega)) L1 S1 (by omega)
theorem lc_draft {d e : Nat} {q : am_A} {s : am_Z} {T : am_LT} {k o1 o2 : Int} {x15 x16 x17 x18 x19 : Option am_V} {Q : am_O → am_A → Prop} (I : am_CI e q s) (L : am_LS q s T) (b0 : 0 ≤ rI s 0 ∧ rI s 0 ≤ 1500) (b1 : 0 ≤ o1 ∧ o1 < 60000) (b2 : 0 ≤ o2 ∧ o2 < 70000) {w : Int} (hw : 4 ≤ w ∧ w < 12) (K : ∀ q1 s1 T1 y15 y16 y17 y18 y19, am_CI (e + 50) q1 s1 → am_LS q1 s1 T1 → am_S31 q q1 → (rI s 0 ≤ rI s1 0 ∧ rI s1 0 ≤ rI s 0 + 14) → am_W2 (d + 24) m_L_law 884 [some (aR 31 0), some (aR 8 0), some (aR 24 0), some (aR 24 1), some (aR 24 2), some (aR 24 3), some (aR 24 4), some (aR 24 5), some (aR 24 6), some (aR 24 7), some (aI (zI 1)), some (aI (zI k)), some (aI (zI w)), some (aI (zI o1)), some (aI (zI o2)), y15, y16, y17, y18, y19] [] q1 Q) : am_W2 (d + 24) m_L_law 312 [some (aR 31 0), some (aR 8 0), some (aR 24 0), some (aR 24 1), some (aR 24 2), some (aR 24 3), some (aR 24 4), some (aR 24 5), some (aR 24 6), some (aR 24 7), some (aI (zI 1)), some (aI (zI k)), some (aI (zI w)), some (aI (zI o1)), some (aI (zI o2)), x15, x16, x17, x18, x19] [] q Q := by
  obtain ⟨F, J, H, P⟩ := id L
  have B := CV_B I.1
  have b3 := B.2.1 3 0 12 rfl
  have b44 := B.2.1 44 0 40 rfl
  obtain ⟨⟨p0, p1, p2, p3, p4, p5, p6⟩, pn, pm, pf, pb, px⟩ := id P
  refine ar_iload rfl rfl ?_
  refine ar_iconst rfl ?_
  refine ar_icmp_ge rfl rfl (by omega) (by omega) (fun h315 => ?_) (fun hf => by omega)
  refine ar_iload rfl rfl ?_
  refine ar_iconst rfl ?_
  refine ar_icmp_ge rfl rfl (by omega) (by omega) (fun h338 => ?_) (fun hf => by omega)
  refine ar_iload rfl rfl ?_
  refine ar_bipush (x := 12) rfl rfl ?_
  refine ar_icmp_ge rfl rfl (by omega) (by omega) (fun ht => by omega) (fun h362 => ?_)
  refine ar_aload_n rfl rfl ?_
  refine ar_aload_n rfl rfl ?_
  refine ar_aload rfl rfl ?_
  refine ar_aload rfl rfl ?_
  refine ar_iload rfl rfl ?_
  refine ar_iload rfl rfl ?_
  refine ar_cs6 rfl rfl (Nat.le_of_ble_eq_true rfl) (cs_isDrafted (d := 0) I L (by omega) (by omega)) (by omega) (fun o q375 hq => ?_)
  obtain ⟨rfl, s1, T1, I1, L1, S1, n1⟩ := hq
  refine ar_if_eq rfl rfl (by omega) (fun ht => by omega) (fun h378 => ?_)
  refine ar_iload rfl rfl ?_
  refine ar_iconst rfl ?_
  refine ar_irem rfl (by omega) (by omega) ?_
  refine ar_if_gt rfl rfl (by omega) (fun h385 => ?_) (fun h385 => ?_)
  · refine ar_iconst rfl ?_
    refine ar_goto rfl rfl ?_
    refine ar_stI10 rfl ?_
    refine ar_goto rfl rfl ?_
    first | exact K _ _ _ _ _ _ _ _ (CI_le I2 (by omega)) L2 (S31_t S1 S2) (by omega) | exact K _ _ _ _ _ _ _ _ (CI_le I1 (by omega)) L1 S1 (by omega)
  · refine ar_aload_n rfl rfl ?_
    refine ar_aload rfl rfl ?_
    refine ar_aload rfl rfl ?_
    refine ar_aload rfl rfl ?_
    refine ar_aload rfl rfl ?_
    refine ar_iload rfl rfl ?_
    refine ar_iload rfl rfl ?_
    refine ar_cs7 rfl rfl (Nat.le_of_ble_eq_true rfl) (cs_isHeld (d := 0) I1 L1 (by omega) (by omega)) (by omega) (fun o q401 hq => ?_)
    obtain ⟨rfl, s2, T2, I2, L2, S2, n2⟩ := hq
    refine ar_if_eq rfl rfl (by omega) (fun ht => by omega) (fun h404 => ?_)
    refine ar_iconst rfl ?_
    refine ar_goto rfl rfl ?_
    refine ar_stI10 rfl ?_
    refine ar_goto rfl rfl ?_
    first | exact K _ _ _ _ _ _ _ _ (CI_le I2 (by omega)) L2 (S31_t S1 S2) (by omega) | exact K _ _ _ _ _ _ _ _ (CI_le I1 (by omega)) L1 S1 (by omega)
theorem lc_held {d e : Nat} {q : am_A} {s : am_Z} {T : am_LT} {k o1 o2 : Int} {x15 x16 x17 x18 x19 : Option am_V} {Q : am_O → am_A → Prop} (I : am_CI e q s) (L : am_LS q s T) (b0 : 0 ≤ rI s 0 ∧ rI s 0 ≤ 1500) (b1 : 0 ≤ o1 ∧ o1 < 60000) (b2 : 0 ≤ o2 ∧ o2 < 70000) {w : Int} (hw : 12 ≤ w ∧ w < 18) (K : ∀ q1 s1 T1 y15 y16 y17 y18 y19, am_CI (e + 50) q1 s1 → am_LS q1 s1 T1 → am_S31 q q1 → (rI s 0 ≤ rI s1 0 ∧ rI s1 0 ≤ rI s 0 + 14) → am_W2 (d + 24) m_L_law 884 [some (aR 31 0), some (aR 8 0), some (aR 24 0), some (aR 24 1), some (aR 24 2), some (aR 24 3), some (aR 24 4), some (aR 24 5), some (aR 24 6), some (aR 24 7), some (aI (zI 1)), some (aI (zI k)), some (aI (zI w)), some (aI (zI o1)), some (aI (zI o2)), y15, y16, y17, y18, y19] [] q1 Q) : am_W2 (d + 24) m_L_law 312 [some (aR 31 0), some (aR 8 0), some (aR 24 0), some (aR 24 1), some (aR 24 2), some (aR 24 3), some (aR 24 4), some (aR 24 5), some (aR 24 6), some (aR 24 7), some (aI (zI 1)), some (aI (zI k)), some (aI (zI w)), some (aI (zI o1)), some (aI (zI o2)), x15, x16, x17, x18, x19] [] q Q := by
  obtain ⟨F, J, H, P⟩ := id L
  have B := CV_B I.1
  have b3 := B.2.1 3 0 12 rfl
  have b44 := B.2.1 44 0 40 rfl
  obtain ⟨⟨p0, p1, p2, p3, p4, p5, p6⟩, pn, pm, pf, pb, px⟩ := id P
  refine ar_iload rfl rfl ?_
  refine ar_iconst rfl ?_
  refine ar_icmp_ge rfl rfl (by omega) (by omega) (fun h315 => ?_) (fun hf => by omega)
  refine ar_iload rfl rfl ?_
  refine ar_iconst rfl ?_
  refine ar_icmp_ge rfl rfl (by omega) (by omega) (fun h338 => ?_) (fun hf => by omega)
  refine ar_iload rfl rfl ?_
  refine ar_bipush (x := 12) rfl rfl ?_
  refine ar_icmp_ge rfl rfl (by omega) (by omega) (fun h362 => ?_) (fun hf => by omega)
  refine ar_iload rfl rfl ?_
  refine ar_bipush (x := 18) rfl rfl ?_
  refine ar_icmp_ge rfl rfl (by omega) (by omega) (fun ht => by omega) (fun h421 => ?_)
  refine ar_aload_n rfl rfl ?_
  refine ar_aload rfl rfl ?_
  refine ar_aload rfl rfl ?_
  refine ar_aload rfl rfl ?_
  refine ar_aload rfl rfl ?_
  refine ar_iload rfl rfl ?_
  refine ar_iload rfl rfl ?_
  refine ar_cs7 rfl rfl (Nat.le_of_ble_eq_true rfl) (cs_isHeld (d := 0) I L (by omega) (by omega)) (by omega) (fun o q437 hq => ?_)
  obtain ⟨rfl, s1, T1, I1, L1, S1, n1⟩ := hq
  refine ar_stI10 rfl ?_
  refine ar_goto rfl rfl ?_
  exact K _ _ _ _ _ _ _ _ (CI_le I1 (by omega)) L1 S1 (by omega)
theorem lc_chg0 {d e : Nat} {q : am_A} {s : am_Z} {T : am_LT} {k o1 o2 : Int} {x15 x16 x17 x18 x19 : Option am_V} {Q : am_O → am_A → Prop} (I : am_CI e q s) (L : am_LS q s T) (b0 : 0 ≤ rI s 0 ∧ rI s 0 ≤ 1500) (b1 : 0 ≤ o1 ∧ o1 < 60000) (b2 : 0 ≤ o2 ∧ o2 < 70000) {w : Int} (hw : 18 ≤ w ∧ w < 21) (K : ∀ q1 s1 T1 y15 y16 y17 y18 y19, am_CI (e + 50) q1 s1 → am_LS q1 s1 T1 → am_S31 q q1 → (rI s 0 ≤ rI s1 0 ∧ rI s1 0 ≤ rI s 0 + 14) → am_W2 (d + 24) m_L_law 884 [some (aR 31 0), some (aR 8 0), some (aR 24 0), some (aR 24 1), some (aR 24 2), some (aR 24 3), some (aR 24 4), some (aR 24 5), some (aR 24 6), some (aR 24 7), some (aI (zI 1)), some (aI (zI k)), some (aI (zI w)), some (aI (zI o1)), some (aI (zI o2)), y15, y16, y17, y18, y19] [] q1 Q) : am_W2 (d + 24) m_L_law 312 [some (aR 31 0), some (aR 8 0), some (aR 24 0), some (aR 24 1), some (aR 24 2), some (aR 24 3), some (aR 24 4), some (aR 24 5), some (aR 24 6), some (aR 24 7), some (aI (zI 1)), some (aI (zI k)), some (aI (zI w)), some (aI (zI o1)), some (aI (zI o2)), x15, x16, x17, x18, x19] [] q Q := by
  obtain ⟨F, J, H, P⟩ := id L
  have B := CV_B I.1
  have b3 := B.2.1 3 0 12 rfl
  have b44 := B.2.1 44 0 40 rfl
  obtain ⟨⟨p0, p1, p2, p3, p4, p5, p6⟩, pn, pm, pf, pb, px⟩ := id P
  refine ar_iload rfl rfl ?_
  refine ar_iconst rfl ?_
  refine ar_icmp_ge rfl rfl (by omega) (by omega) (fun h315 => ?_) (fun hf => by omega)
  refine ar_iload rfl rfl ?_
  refine ar_iconst rfl ?_
  refine ar_icmp_ge rfl rfl (by omega) (by omega) (fun h338 => ?_) (fun hf => by omega)
  refine ar_iload rfl rfl ?_
  refine ar_bipush (x := 12) rfl rfl ?_
  refine ar_icmp_ge rfl rfl (by omega) (by omega) (fun h362 => ?_) (fun hf => by omega)
  refine ar_iload rfl rfl ?_
  refine ar_bipush (x := 18) rfl rfl ?_
  refine ar_icmp_ge rfl rfl (by omega) (by omega) (fun h421 => ?_) (fun hf => by omega)
  refine ar_iload rfl rfl ?_
  refine ar_bipush (x := 27) rfl rfl ?_
  refine ar_icmp_ge rfl rfl (by omega) (by omega) (fun ht => by omega) (fun h449 => ?_)
  refine ar_aload_n rfl rfl ?_
  refine ar_aload rfl rfl ?_
  refine ar_aload rfl rfl ?_
  refine ar_aload rfl rfl ?_
  refine ar_iload rfl rfl ?_
  refine ar_bipush (x := 21) rfl rfl ?_
  refine ar_icmp_ge rfl rfl (by omega) (by omega) (fun ht => by omega) (fun h463 => ?_)
  refine ar_iconst rfl ?_
  refine ar_goto rfl rfl ?_
  refine ar_iload rfl rfl ?_
  refine ar_iload rfl rfl ?_
  refine ar_cs7 rfl rfl (Nat.le_of_ble_eq_true rfl) (cs_isChanged0 (d := 0) I L (by omega) (by omega)) (by omega) (fun o q497 hq => ?_)
  obtain ⟨rfl, s1, T1, I1, L1, S1, n1⟩ := hq
  refine ar_stI10 rfl ?_
  refine ar_goto rfl rfl ?_
  exact K _ _ _ _ _ _ _ _ (CI_le I1 (by omega)) L1 S1 (by omega)
theorem lc_chg1 {d e : Nat} {q : am_A} {s : am_Z} {T : am_LT} {k o1 o2 : Int} {x15 x16 x17 x18 x19 : Option am_V} {Q : am_O → am_A → Prop} (I : am_CI e q s) (L : am_LS q s T) (b0 : 0 ≤ rI s 0 ∧ rI s 0 ≤ 1500) (b1 : 0 ≤ o1 ∧ o1 < 60000) (b2 : 0 ≤ o2 ∧ o2 < 70000) {w : Int} (hw : 21 ≤ w ∧ w < 22) (K : ∀ q1 s1 T1 y15 y16 y17 y18 y19, am_CI (e + 50) q1 s1 → am_LS q1 s1 T1 → am_S31 q q1 → (rI s 0 ≤ rI s1 0 ∧ rI s1 0 ≤ rI s 0 + 14) → am_W2 (d + 24) m_L_law 884 [some (aR 31 0), some (aR 8 0), some (aR 24 0), some (aR 24 1), some (aR 24 2), some (aR 24 3), some (aR 24 4), some (aR 24 5), some (aR 24 6), some (aR 24 7), some (aI (zI 1)), some (aI (zI k)), some (aI (zI w)), some (aI (zI o1)), some (aI (zI o2)), y15, y16, y17, y18, y19] [] q1 Q) : am_W2 (d + 24) m_L_law 312 [some (aR 31 0), some (aR 8 0), some (aR 24 0), some (aR 24 1), some (aR 24 2), some (aR 24 3), some (aR 24 4), some (aR 24 5), some (aR 24 6), some (aR 24 7), some (aI (zI 1)), some (aI (zI k)), some (aI (zI w)), some (aI (zI o1)), some (aI (zI o2)), x15, x16, x17, x18, x19] [] q Q := by
  obtain ⟨F, J, H, P⟩ := id L
  have B := CV_B I.1
  have b3 := B.2.1 3 0 12 rfl
  have b44 := B.2.1 44 0 40 rfl
  obtain ⟨⟨p0, p1, p2, p3, p4, p5, p6⟩, pn, pm, pf, pb, px⟩ := id P
  refine ar_iload rfl rfl ?_
  refine ar_iconst rfl ?_
  refine ar_icmp_ge rfl rfl (by omega) (by omega) (fun h315 => ?_) (fun hf => by omega)
  refine ar_iload rfl rfl ?_
  refine ar_iconst rfl ?_
  refine ar_icmp_ge rfl rfl (by omega) (by omega) (fun h338 => ?_) (fun hf => by omega)
  refine ar_iload rfl rfl ?_
  refine ar_bipush (x := 12) rfl rfl ?_
  refine ar_icmp_ge rfl rfl (by omega) (by omega) (fun h362 => ?_) (fun hf => by omega)
  refine ar_iload rfl rfl ?_
  refine ar_bipush (x := 18) rfl rfl ?_
  refine ar_icmp_ge rfl rfl (by omega) (by omega) (fun h421 => ?_) (fun hf => by omega)
  refine ar_iload rfl rfl ?_
  refine ar_bipush (x := 27) rfl rfl ?_
  refine ar_icmp_ge rfl rfl (by omega) (by omega) (fun ht => by omega) (fun h449 => ?_)
  refine ar_aload_n rfl rfl ?_
  refine ar_aload rfl rfl ?_
  refine ar_aload rfl rfl ?_
  refine ar_aload rfl rfl ?_
  refine ar_iload rfl rfl ?_
  refine ar_bipush (x := 21) rfl rfl ?_
  refine ar_icmp_ge rfl rfl (by omega) (by omega) (fun h463 => ?_) (fun hf => by omega)
  refine ar_iload rfl rfl ?_
  refine ar_bipush (x := 21) rfl rfl ?_
  refine ar_icmp_ne rfl rfl (by omega) (by omega) (fun ht => by omega) (fun h474 => ?_)
  refine ar_iconst rfl ?_
  refine ar_goto rfl rfl ?_
  refine ar_iload rfl rfl ?_
  refine ar_iload rfl rfl ?_
  refine ar_cs7 rfl rfl (Nat.le_of_ble_eq_true rfl) (cs_isChanged1 (d := 0) I L (by omega) (by omega)) (by omega) (fun o q497 hq => ?_)
  obtain ⟨rfl, s1, T1, I1, L1, S1, n1⟩ := hq
  refine ar_stI10 rfl ?_
  refine ar_goto rfl rfl ?_
  exact K _ _ _ _ _ _ _ _ (CI_le I1 (by omega)) L1 S1 (by omega)
theorem lc_chg2 {d e : Nat} {q : am_A} {s : am_Z} {T : am_LT} {k o1 o2 : Int} {x15 x16 x17 x18 x19 : Option am_V} {Q : am_O → am_A → Prop} (I : am_CI e q s) (L : am_LS q s T) (b0 : 0 ≤ rI s 0 ∧ rI s 0 ≤ 1500) (b1 : 0 ≤ o1 ∧ o1 < 60000) (b2 : 0 ≤ o2 ∧ o2 < 70000) {w : Int} (hw : 22 ≤ w ∧ w < 23) (K : ∀ q1 s1 T1 y15 y16 y17 y18 y19, am_CI (e + 50) q1 s1 → am_LS q1 s1 T1 → am_S31 q q1 → (rI s 0 ≤ rI s1 0 ∧ rI s1 0 ≤ rI s 0 + 14) → am_W2 (d + 24) m_L_law 884 [some (aR 31 0), some (aR 8 0), some (aR 24 0), some (aR 24 1), some (aR 24 2), some (aR 24 3), some (aR 24 4), some (aR 24 5), some (aR 24 6), some (aR 24 7), some (aI (zI 1)), some (aI (zI k)), some (aI (zI w)), some (aI (zI o1)), some (aI (zI o2)), y15, y16, y17, y18, y19] [] q1 Q) : am_W2 (d + 24) m_L_law 312 [some (aR 31 0), some (aR 8 0), some (aR 24 0), some (aR 24 1), some (aR 24 2), some (aR 24 3), some (aR 24 4), some (aR 24 5), some (aR 24 6), some (aR 24 7), some (aI (zI 1)), some (aI (zI k)), some (aI (zI w)), some (aI (zI o1)), some (aI (zI o2)), x15, x16, x17, x18, x19] [] q Q := by
  obtain ⟨F, J, H, P⟩ := id L
  have B := CV_B I.1
  have b3 := B.2.1 3 0 12 rfl
  have b44 := B.2.1 44 0 40 rfl
  obtain ⟨⟨p0, p1, p2, p3, p4, p5, p6⟩, pn, pm, pf, pb, px⟩ := id P
  refine ar_iload rfl rfl ?_
  refine ar_iconst rfl ?_
  refine ar_icmp_ge rfl rfl (by omega) (by omega) (fun h315 => ?_) (fun hf => by omega)
  refine ar_iload rfl rfl ?_
  refine ar_iconst rfl ?_
  refine ar_icmp_ge rfl rfl (by omega) (by omega) (fun h338 => ?_) (fun hf => by omega)
  refine ar_iload rfl rfl ?_
  refine ar_bipush (x := 12) rfl rfl ?_
  refine ar_icmp_ge rfl rfl (by omega) (by omega) (fun h362 => ?_) (fun hf => by omega)
  refine ar_iload rfl rfl ?_
  refine ar_bipush (x := 18) rfl rfl ?_
  refine ar_icmp_ge rfl rfl (by omega) (by omega) (fun h421 => ?_) (fun hf => by omega)
  refine ar_iload rfl rfl ?_
  refine ar_bipush (x := 27) rfl rfl ?_
  refine ar_icmp_ge rfl rfl (by omega) (by omega) (fun ht => by omega) (fun h449 => ?_)
  refine ar_aload_n rfl rfl ?_
  refine ar_aload rfl rfl ?_
  refine ar_aload rfl rfl ?_
  refine ar_aload rfl rfl ?_
  refine ar_iload rfl rfl ?_
  refine ar_bipush (x := 21) rfl rfl ?_
  refine ar_icmp_ge rfl rfl (by omega) (by omega) (fun h463 => ?_) (fun hf => by omega)
  refine ar_iload rfl rfl ?_
  refine ar_bipush (x := 21) rfl rfl ?_
  refine ar_icmp_ne rfl rfl (by omega) (by omega) (fun h474 => ?_) (fun hf => by omega)
  refine ar_iload rfl rfl ?_
  refine ar_bipush (x := 22) rfl rfl ?_
  refine ar_icmp_ne rfl rfl (by omega) (by omega) (fun ht => by omega) (fun h485 => ?_)
  refine ar_iconst rfl ?_
  refine ar_goto rfl rfl ?_
  refine ar_iload rfl rfl ?_
  refine ar_iload rfl rfl ?_
  refine ar_cs7 rfl rfl (Nat.le_of_ble_eq_true rfl) (cs_isChanged2 (d := 0) I L (by omega) (by omega)) (by omega) (fun o q497 hq => ?_)
  obtain ⟨rfl, s1, T1, I1, L1, S1, n1⟩ := hq
  refine ar_stI10 rfl ?_
  refine ar_goto rfl rfl ?_
  exact K _ _ _ _ _ _ _ _ (CI_le I1 (by omega)) L1 S1 (by omega)
theorem lc_chg3 {d e : Nat} {q : am_A} {s : am_Z} {T : am_LT} {k o1 o2 : Int} {x15 x16 x17 x18 x19 : Option am_V} {Q : am_O → am_A → Prop} (I : am_CI e q s) (L : am_LS q s T) (b0 : 0 ≤ rI s 0 ∧ rI s 0 ≤ 1500) (b1 : 0 ≤ o1 ∧ o1 < 60000) (b2 : 0 ≤ o2 ∧ o2 < 70000) {w : Int} (hw : 23 ≤ w ∧ w < 27) (K : ∀ q1 s1 T1 y15 y16 y17 y18 y19, am_CI (e + 50) q1 s1 → am_LS q1 s1 T1 → am_S31 q q1 → (rI s 0 ≤ rI s1 0 ∧ rI s1 0 ≤ rI s 0 + 14) → am_W2 (d + 24) m_L_law 884 [some (aR 31 0), some (aR 8 0), some (aR 24 0), some (aR 24 1), some (aR 24 2), some (aR 24 3), some (aR 24 4), some (aR 24 5), some (aR 24 6), some (aR 24 7), some (aI (zI 1)), some (aI (zI k)), some (aI (zI w)), some (aI (zI o1)), some (aI (zI o2)), y15, y16, y17, y18, y19] [] q1 Q) : am_W2 (d + 24) m_L_law 312 [some (aR 31 0), some (aR 8 0), some (aR 24 0), some (aR 24 1), some (aR 24 2), some (aR 24 3), some (aR 24 4), some (aR 24 5), some (aR 24 6), some (aR 24 7), some (aI (zI 1)), some (aI (zI k)), some (aI (zI w)), some (aI (zI o1)), some (aI (zI o2)), x15, x16, x17, x18, x19] [] q Q := by
  obtain ⟨F, J, H, P⟩ := id L
  have B := CV_B I.1
  have b3 := B.2.1 3 0 12 rfl
  have b44 := B.2.1 44 0 40 rfl
  obtain ⟨⟨p0, p1, p2, p3, p4, p5, p6⟩, pn, pm, pf, pb, px⟩ := id P
  refine ar_iload rfl rfl ?_
  refine ar_iconst rfl ?_
  refine ar_icmp_ge rfl rfl (by omega) (by omega) (fun h315 => ?_) (fun hf => by omega)
  refine ar_iload rfl rfl ?_
  refine ar_iconst rfl ?_
  refine ar_icmp_ge rfl rfl (by omega) (by omega) (fun h338 => ?_) (fun hf => by omega)
  refine ar_iload rfl rfl ?_
  refine ar_bipush (x := 12) rfl rfl ?_
  refine ar_icmp_ge rfl rfl (by omega) (by omega) (fun h362 => ?_) (fun hf => by omega)
  refine ar_iload rfl rfl ?_
  refine ar_bipush (x := 18) rfl rfl ?_
  refine ar_icmp_ge rfl rfl (by omega) (by omega) (fun h421 => ?_) (fun hf => by omega)
  refine ar_iload rfl rfl ?_
  refine ar_bipush (x := 27) rfl rfl ?_
  refine ar_icmp_ge rfl rfl (by omega) (by omega) (fun ht => by omega) (fun h449 => ?_)
  refine ar_aload_n rfl rfl ?_
  refine ar_aload rfl rfl ?_
  refine ar_aload rfl rfl ?_
  refine ar_aload rfl rfl ?_
  refine ar_iload rfl rfl ?_
  refine ar_bipush (x := 21) rfl rfl ?_
  refine ar_icmp_ge rfl rfl (by omega) (by omega) (fun h463 => ?_) (fun hf => by omega)
  refine ar_iload rfl rfl ?_
  refine ar_bipush (x := 21) rfl rfl ?_
  refine ar_icmp_ne rfl rfl (by omega) (by omega) (fun h474 => ?_) (fun hf => by omega)
  refine ar_iload rfl rfl ?_
  refine ar_bipush (x := 22) rfl rfl ?_
  refine ar_icmp_ne rfl rfl (by omega) (by omega) (fun h485 => ?_) (fun hf => by omega)
  refine ar_iconst rfl ?_
  refine ar_iload rfl rfl ?_
  refine ar_iload rfl rfl ?_
  refine ar_cs7 rfl rfl (Nat.le_of_ble_eq_true rfl) (cs_isChanged3 (d := 0) I L (by omega) (by omega)) (by omega) (fun o q497 hq => ?_)
  obtain ⟨rfl, s1, T1, I1, L1, S1, n1⟩ := hq
  refine ar_stI10 rfl ?_
  refine ar_goto rfl rfl ?_
  exact K _ _ _ _ _ _ _ _ (CI_le I1 (by omega)) L1 S1 (by omega)
theorem lc_bad0 {d e : Nat} {q : am_A} {s : am_Z} {T : am_LT} {k o1 o2 : Int} {x15 x16 x17 x18 x19 : Option am_V} {Q : am_O → am_A → Prop} (I : am_CI e q s) (L : am_LS q s T) (b0 : 0 ≤ rI s 0 ∧ rI s 0 ≤ 1500) (b1 : 0 ≤ o1 ∧ o1 < 60000) (b2 : 0 ≤ o2 ∧ o2 < 70000) {w : Int} (hw : 27 ≤ w ∧ w < 28) (K : ∀ q1 s1 T1 y15 y16 y17 y18 y19, am_CI (e + 50) q1 s1 → am_LS q1 s1 T1 → am_S31 q q1 → (rI s 0 ≤ rI s1 0 ∧ rI s1 0 ≤ rI s 0 + 14) → am_W2 (d + 24) m_L_law 884 [some (aR 31 0), some (aR 8 0), some (aR 24 0), some (aR 24 1), some (aR 24 2), some (aR 24 3), some (aR 24 4), some (aR 24 5), some (aR 24 6), some (aR 24 7), some (aI (zI 1)), some (aI (zI k)), some (aI (zI w)), some (aI (zI o1)), some (aI (zI o2)), y15, y16, y17, y18, y19] [] q1 Q) : am_W2 (d + 24) m_L_law 312 [some (aR 31 0), some (aR 8 0), some (aR 24 0), some (aR 24 1), some (aR 24 2), some (aR 24 3), some (aR 24 4), some (aR 24 5), some (aR 24 6), some (aR 24 7), some (aI (zI 1)), some (aI (zI k)), some (aI (zI w)), some (aI (zI o1)), some (aI (zI o2)), x15, x16, x17, x18, x19] [] q Q := by
  obtain ⟨F, J, H, P⟩ := id L
  have B := CV_B I.1
  have b3 := B.2.1 3 0 12 rfl
  have b44 := B.2.1 44 0 40 rfl
  obtain ⟨⟨p0, p1, p2, p3, p4, p5, p6⟩, pn, pm, pf, pb, px⟩ := id P
  refine ar_iload rfl rfl ?_
  refine ar_iconst rfl ?_
  refine ar_icmp_ge rfl rfl (by omega) (by omega) (fun h315 => ?_) (fun hf => by omega)
  refine ar_iload rfl rfl ?_
  refine ar_iconst rfl ?_
  refine ar_icmp_ge rfl rfl (by omega) (by omega) (fun h338 => ?_) (fun hf => by omega)
  refine ar_iload rfl rfl ?_
  refine ar_bipush (x := 12) rfl rfl ?_
  refine ar_icmp_ge rfl rfl (by omega) (by omega) (fun h362 => ?_) (fun hf => by omega)
  refine ar_iload rfl rfl ?_
  refine ar_bipush (x := 18) rfl rfl ?_
  refine ar_icmp_ge rfl rfl (by omega) (by omega) (fun h421 => ?_) (fun hf => by omega)
  refine ar_iload rfl rfl ?_
  refine ar_bipush (x := 27) rfl rfl ?_
  refine ar_icmp_ge rfl rfl (by omega) (by omega) (fun h449 => ?_) (fun hf => by omega)
  refine ar_iload rfl rfl ?_
  refine ar_bipush (x := 32) rfl rfl ?_
  refine ar_icmp_ge rfl rfl (by omega) (by omega) (fun ht => by omega) (fun h509 => ?_)
  refine ar_aload_n rfl rfl ?_
  refine ar_aload_n rfl rfl ?_
  refine ar_aload rfl rfl ?_
  refine ar_iload rfl rfl ?_
  refine ar_bipush (x := 28) rfl rfl ?_
  refine ar_icmp_ge rfl rfl (by omega) (by omega) (fun ht => by omega) (fun h520 => ?_)
  refine ar_iconst rfl ?_
  refine ar_goto rfl rfl ?_
  refine ar_iload rfl rfl ?_
  refine ar_iload rfl rfl ?_
  refine ar_cs6 rfl rfl (Nat.le_of_ble_eq_true rfl) (cs_isBad0 (d := 0) I L (by omega) (by omega)) (by omega) (fun o q547 hq => ?_)
  obtain ⟨rfl, s1, T1, I1, L1, S1, n1⟩ := hq
  refine ar_stI10 rfl ?_
  refine ar_goto rfl rfl ?_
  exact K _ _ _ _ _ _ _ _ (CI_le I1 (by omega)) L1 S1 (by omega)
theorem lc_bad1 {d e : Nat} {q : am_A} {s : am_Z} {T : am_LT} {k o1 o2 : Int} {x15 x16 x17 x18 x19 : Option am_V} {Q : am_O → am_A → Prop} (I : am_CI e q s) (L : am_LS q s T) (b0 : 0 ≤ rI s 0 ∧ rI s 0 ≤ 1500) (b1 : 0 ≤ o1 ∧ o1 < 60000) (b2 : 0 ≤ o2 ∧ o2 < 70000) {w : Int} (hw : 28 ≤ w ∧ w < 30) (K : ∀ q1 s1 T1 y15 y16 y17 y18 y19, am_CI (e + 50) q1 s1 → am_LS q1 s1 T1 → am_S31 q q1 → (rI s 0 ≤ rI s1 0 ∧ rI s1 0 ≤ rI s 0 + 14) → am_W2 (d + 24) m_L_law 884 [some (aR 31 0), some (aR 8 0), some (aR 24 0), some (aR 24 1), some (aR 24 2), some (aR 24 3), some (aR 24 4), some (aR 24 5), some (aR 24 6), some (aR 24 7), some (aI (zI 1)), some (aI (zI k)), some (aI (zI w)), some (aI (zI o1)), some (aI (zI o2)), y15, y16, y17, y18, y19] [] q1 Q) : am_W2 (d + 24) m_L_law 312 [some (aR 31 0), some (aR 8 0), some (aR 24 0), some (aR 24 1), some (aR 24 2), some (aR 24 3), some (aR 24 4), some (aR 24 5), some (aR 24 6), some (aR 24 7), some (aI (zI 1)), some (aI (zI k)), some (aI (zI w)), some (aI (zI o1)), some (aI (zI o2)), x15, x16, x17, x18, x19] [] q Q := by
  obtain ⟨F, J, H, P⟩ := id L
  have B := CV_B I.1
  have b3 := B.2.1 3 0 12 rfl
  have b44 := B.2.1 44 0 40 rfl
  obtain ⟨⟨p0, p1, p2, p3, p4, p5, p6⟩, pn, pm, pf, pb, px⟩ := id P
  refine ar_iload rfl rfl ?_
  refine ar_iconst rfl ?_
  refine ar_icmp_ge rfl rfl (by omega) (by omega) (fun h315 => ?_) (fun hf => by omega)
  refine ar_iload rfl rfl ?_
  refine ar_iconst rfl ?_
  refine ar_icmp_ge rfl rfl (by omega) (by omega) (fun h338 => ?_) (fun hf => by omega)
  refine ar_iload rfl rfl ?_
  refine ar_bipush (x := 12) rfl rfl ?_
  refine ar_icmp_ge rfl rfl (by omega) (by omega) (fun h362 => ?_) (fun hf => by omega)
  refine ar_iload rfl rfl ?_
  refine ar_bipush (x := 18) rfl rfl ?_
  refine ar_icmp_ge rfl rfl (by omega) (by omega) (fun h421 => ?_) (fun hf => by omega)
  refine ar_iload rfl rfl ?_
  refine ar_bipush (x := 27) rfl rfl ?_
  refine ar_icmp_ge rfl rfl (by omega) (by omega) (fun h449 => ?_) (fun hf => by omega)
  refine ar_iload rfl rfl ?_
  refine ar_bipush (x := 32) rfl rfl ?_
  refine ar_icmp_ge rfl rfl (by omega) (by omega) (fun ht => by omega) (fun h509 => ?_)
  refine ar_aload_n rfl rfl ?_
  refine ar_aload_n rfl rfl ?_
  refine ar_aload rfl rfl ?_
  refine ar_iload rfl rfl ?_
  refine ar_bipush (x := 28) rfl rfl ?_
  refine ar_icmp_ge rfl rfl (by omega) (by omega) (fun h520 => ?_) (fun hf => by omega)
  refine ar_iload rfl rfl ?_
  refine ar_bipush (x := 30) rfl rfl ?_
  refine ar_icmp_ge rfl rfl (by omega) (by omega) (fun ht => by omega) (fun h531 => ?_)
  refine ar_iconst rfl ?_
  refine ar_goto rfl rfl ?_
  refine ar_iload rfl rfl ?_
  refine ar_iload rfl rfl ?_
  refine ar_cs6 rfl rfl (Nat.le_of_ble_eq_true rfl) (cs_isBad1 (d := 0) I L (by omega) (by omega)) (by omega) (fun o q547 hq => ?_)
  obtain ⟨rfl, s1, T1, I1, L1, S1, n1⟩ := hq
  refine ar_stI10 rfl ?_
  refine ar_goto rfl rfl ?_
  exact K _ _ _ _ _ _ _ _ (CI_le I1 (by omega)) L1 S1 (by omega)
theorem lc_bad2 {d e : Nat} {q : am_A} {s : am_Z} {T : am_LT} {k o1 o2 : Int} {x15 x16 x17 x18 x19 : Option am_V} {Q : am_O → am_A → Prop} (I : am_CI e q s) (L : am_LS q s T) (b0 : 0 ≤ rI s 0 ∧ rI s 0 ≤ 1500) (b1 : 0 ≤ o1 ∧ o1 < 60000) (b2 : 0 ≤ o2 ∧ o2 < 70000) {w : Int} (hw : 30 ≤ w ∧ w < 31) (K : ∀ q1 s1 T1 y15 y16 y17 y18 y19, am_CI (e + 50) q1 s1 → am_LS q1 s1 T1 → am_S31 q q1 → (rI s 0 ≤ rI s1 0 ∧ rI s1 0 ≤ rI s 0 + 14) → am_W2 (d + 24) m_L_law 884 [some (aR 31 0), some (aR 8 0), some (aR 24 0), some (aR 24 1), some (aR 24 2), some (aR 24 3), some (aR 24 4), some (aR 24 5), some (aR 24 6), some (aR 24 7), some (aI (zI 1)), some (aI (zI k)), some (aI (zI w)), some (aI (zI o1)), some (aI (zI o2)), y15, y16, y17, y18, y19] [] q1 Q) : am_W2 (d + 24) m_L_law 312 [some (aR 31 0), some (aR 8 0), some (aR 24 0), some (aR 24 1), some (aR 24 2), some (aR 24 3), some (aR 24 4), some (aR 24 5), some (aR 24 6), some (aR 24 7), some (aI (zI 1)), some (aI (zI k)), some (aI (zI w)), some (aI (zI o1)), some (aI (zI o2)), x15, x16, x17, x18, x19] [] q Q := by
  obtain ⟨F, J, H, P⟩ := id L
  have B := CV_B I.1
  have b3 := B.2.1 3 0 12 rfl
  have b44 := B.2.1 44 0 40 rfl
  obtain ⟨⟨p0, p1, p2, p3, p4, p5, p6⟩, pn, pm, pf, pb, px⟩ := id P
  refine ar_iload rfl rfl ?_
  refine ar_iconst rfl ?_
  refine ar_icmp_ge rfl rfl (by omega) (by omega) (fun h315 => ?_) (fun hf => by omega)
  refine ar_iload rfl rfl ?_
  refine ar_iconst rfl ?_
  refine ar_icmp_ge rfl rfl (by omega) (by omega) (fun h338 => ?_) (fun hf => by omega)
  refine ar_iload rfl rfl ?_
  refine ar_bipush (x := 12) rfl rfl ?_
  refine ar_icmp_ge rfl rfl (by omega) (by omega) (fun h362 => ?_) (fun hf => by omega)
  refine ar_iload rfl rfl ?_
  refine ar_bipush (x := 18) rfl rfl ?_
  refine ar_icmp_ge rfl rfl (by omega) (by omega) (fun h421 => ?_) (fun hf => by omega)
  refine ar_iload rfl rfl ?_
  refine ar_bipush (x := 27) rfl rfl ?_
  refine ar_icmp_ge rfl rfl (by omega) (by omega) (fun h449 => ?_) (fun hf => by omega)
  refine ar_iload rfl rfl ?_
  refine ar_bipush (x := 32) rfl rfl ?_
  refine ar_icmp_ge rfl rfl (by omega) (by omega) (fun ht => by omega) (fun h509 => ?_)
  refine ar_aload_n rfl rfl ?_
  refine ar_aload_n rfl rfl ?_
  refine ar_aload rfl rfl ?_
  refine ar_iload rfl rfl ?_
  refine ar_bipush (x := 28) rfl rfl ?_
  refine ar_icmp_ge rfl rfl (by omega) (by omega) (fun h520 => ?_) (fun hf => by omega)
  refine ar_iload rfl rfl ?_
  refine ar_bipush (x := 30) rfl rfl ?_
  refine ar_icmp_ge rfl rfl (by omega) (by omega) (fun h531 => ?_) (fun hf => by omega)
  refine ar_iload rfl rfl ?_
  refine ar_bipush (x := 28) rfl rfl ?_
  refine ar_isub rfl ?_
  rw [show w - 28 = 2 by omega]
  refine ar_iload rfl rfl ?_
  refine ar_iload rfl rfl ?_
  refine ar_cs6 rfl rfl (Nat.le_of_ble_eq_true rfl) (cs_isBad2 (d := 0) I L (by omega) (by omega)) (by omega) (fun o q547 hq => ?_)
  obtain ⟨rfl, s1, T1, I1, L1, S1, n1⟩ := hq
  refine ar_stI10 rfl ?_
  refine ar_goto rfl rfl ?_
  exact K _ _ _ _ _ _ _ _ (CI_le I1 (by omega)) L1 S1 (by omega)
theorem lc_bad3 {d e : Nat} {q : am_A} {s : am_Z} {T : am_LT} {k o1 o2 : Int} {x15 x16 x17 x18 x19 : Option am_V} {Q : am_O → am_A → Prop} (I : am_CI e q s) (L : am_LS q s T) (b0 : 0 ≤ rI s 0 ∧ rI s 0 ≤ 1500) (b1 : 0 ≤ o1 ∧ o1 < 60000) (b2 : 0 ≤ o2 ∧ o2 < 70000) {w : Int} (hw : 31 ≤ w ∧ w < 32) (K : ∀ q1 s1 T1 y15 y16 y17 y18 y19, am_CI (e + 50) q1 s1 → am_LS q1 s1 T1 → am_S31 q q1 → (rI s 0 ≤ rI s1 0 ∧ rI s1 0 ≤ rI s 0 + 14) → am_W2 (d + 24) m_L_law 884 [some (aR 31 0), some (aR 8 0), some (aR 24 0), some (aR 24 1), some (aR 24 2), some (aR 24 3), some (aR 24 4), some (aR 24 5), some (aR 24 6), some (aR 24 7), some (aI (zI 1)), some (aI (zI k)), some (aI (zI w)), some (aI (zI o1)), some (aI (zI o2)), y15, y16, y17, y18, y19] [] q1 Q) : am_W2 (d + 24) m_L_law 312 [some (aR 31 0), some (aR 8 0), some (aR 24 0), some (aR 24 1), some (aR 24 2), some (aR 24 3), some (aR 24 4), some (aR 24 5), some (aR 24 6), some (aR 24 7), some (aI (zI 1)), some (aI (zI k)), some (aI (zI w)), some (aI (zI o1)), some (aI (zI o2)), x15, x16, x17, x18, x19] [] q Q := by
  obtain ⟨F, J, H, P⟩ := id L
  have B := CV_B I.1
  have b3 := B.2.1 3 0 12 rfl
  have b44 := B.2.1 44 0 40 rfl
  obtain ⟨⟨p0, p1, p2, p3, p4, p5, p6⟩, pn, pm, pf, pb, px⟩ := id P
  refine ar_iload rfl rfl ?_
  refine ar_iconst rfl ?_
  refine ar_icmp_ge rfl rfl (by omega) (by omega) (fun h315 => ?_) (fun hf => by omega)
  refine ar_iload rfl rfl ?_
  refine ar_iconst rfl ?_
  refine ar_icmp_ge rfl rfl (by omega) (by omega) (fun h338 => ?_) (fun hf => by omega)
  refine ar_iload rfl rfl ?_
  refine ar_bipush (x := 12) rfl rfl ?_
  refine ar_icmp_ge rfl rfl (by omega) (by omega) (fun h362 => ?_) (fun hf => by omega)
  refine ar_iload rfl rfl ?_
  refine ar_bipush (x := 18) rfl rfl ?_
  refine ar_icmp_ge rfl rfl (by omega) (by omega) (fun h421 => ?_) (fun hf => by omega)
  refine ar_iload rfl rfl ?_
  refine ar_bipush (x := 27) rfl rfl ?_
  refine ar_icmp_ge rfl rfl (by omega) (by omega) (fun h449 => ?_) (fun hf => by omega)
  refine ar_iload rfl rfl ?_
  refine ar_bipush (x := 32) rfl rfl ?_
  refine ar_icmp_ge rfl rfl (by omega) (by omega) (fun ht => by omega) (fun h509 => ?_)
  refine ar_aload_n rfl rfl ?_
  refine ar_aload_n rfl rfl ?_
  refine ar_aload rfl rfl ?_
  refine ar_iload rfl rfl ?_
  refine ar_bipush (x := 28) rfl rfl ?_
  refine ar_icmp_ge rfl rfl (by omega) (by omega) (fun h520 => ?_) (fun hf => by omega)
  refine ar_iload rfl rfl ?_
  refine ar_bipush (x := 30) rfl rfl ?_
  refine ar_icmp_ge rfl rfl (by omega) (by omega) (fun h531 => ?_) (fun hf => by omega)
  refine ar_iload rfl rfl ?_
  refine ar_bipush (x := 28) rfl rfl ?_
  refine ar_isub rfl ?_
  rw [show w - 28 = 3 by omega]
  refine ar_iload rfl rfl ?_
  refine ar_iload rfl rfl ?_
  refine ar_cs6 rfl rfl (Nat.le_of_ble_eq_true rfl) (cs_isBad3 (d := 0) I L (by omega) (by omega)) (by omega) (fun o q547 hq => ?_)
  obtain ⟨rfl, s1, T1, I1, L1, S1, n1⟩ := hq
  refine ar_stI10 rfl ?_
  refine ar_goto rfl rfl ?_
  exact K _ _ _ _ _ _ _ _ (CI_le I1 (by omega)) L1 S1 (by omega)
theorem lc_clear {d e : Nat} {q : am_A} {s : am_Z} {T : am_LT} {k o1 o2 : Int} {x15 x16 x17 x18 x19 : Option am_V} {Q : am_O → am_A → Prop} (I : am_CI e q s) (L : am_LS q s T) (b0 : 0 ≤ rI s 0 ∧ rI s 0 ≤ 1500) (b1 : 0 ≤ o1 ∧ o1 < 60000) (b2 : 0 ≤ o2 ∧ o2 < 70000) {w : Int} (hw : w = 32) (K : ∀ q1 s1 T1 y15 y16 y17 y18 y19, am_CI (e + 50) q1 s1 → am_LS q1 s1 T1 → am_S31 q q1 → (rI s 0 ≤ rI s1 0 ∧ rI s1 0 ≤ rI s 0 + 14) → am_W2 (d + 24) m_L_law 884 [some (aR 31 0), some (aR 8 0), some (aR 24 0), some (aR 24 1), some (aR 24 2), some (aR 24 3), some (aR 24 4), some (aR 24 5), some (aR 24 6), some (aR 24 7), some (aI (zI 1)), some (aI (zI k)), some (aI (zI w)), some (aI (zI o1)), some (aI (zI o2)), y15, y16, y17, y18, y19] [] q1 Q) : am_W2 (d + 24) m_L_law 312 [some (aR 31 0), some (aR 8 0), some (aR 24 0), some (aR 24 1), some (aR 24 2), some (aR 24 3), some (aR 24 4), some (aR 24 5), some (aR 24 6), some (aR 24 7), some (aI (zI 1)), some (aI (zI k)), some (aI (zI w)), some (aI (zI o1)), some (aI (zI o2)), x15, x16, x17, x18, x19] [] q Q := by
  obtain ⟨F, J, H, P⟩ := id L
  have B := CV_B I.1
  have b3 := B.2.1 3 0 12 rfl
  have b44 := B.2.1 44 0 40 rfl
  obtain ⟨⟨p0, p1, p2, p3, p4, p5, p6⟩, pn, pm, pf, pb, px⟩ := id P
  refine ar_iload rfl rfl ?_
  refine ar_iconst rfl ?_
  refine ar_icmp_ge rfl rfl (by omega) (by omega) (fun h315 => ?_) (fun hf => by omega)
  refine ar_iload rfl rfl ?_
  refine ar_iconst rfl ?_
  refine ar_icmp_ge rfl rfl (by omega) (by omega) (fun h338 => ?_) (fun hf => by omega)
  refine ar_iload rfl rfl ?_
  refine ar_bipush (x := 12) rfl rfl ?_
  refine ar_icmp_ge rfl rfl (by omega) (by omega) (fun h362 => ?_) (fun hf => by omega)
  refine ar_iload rfl rfl ?_
  refine ar_bipush (x := 18) rfl rfl ?_
  refine ar_icmp_ge rfl rfl (by omega) (by omega) (fun h421 => ?_) (fun hf => by omega)
  refine ar_iload rfl rfl ?_
  refine ar_bipush (x := 27) rfl rfl ?_
  refine ar_icmp_ge rfl rfl (by omega) (by omega) (fun h449 => ?_) (fun hf => by omega)
  refine ar_iload rfl rfl ?_
  refine ar_bipush (x := 32) rfl rfl ?_
  refine ar_icmp_ge rfl rfl (by omega) (by omega) (fun h509 => ?_) (fun hf => by omega)
  refine ar_iload rfl rfl ?_
  refine ar_bipush (x := 32) rfl rfl ?_
  refine ar_icmp_ne rfl rfl (by omega) (by omega) (fun ht => by omega) (fun h559 => ?_)
  refine ar_aload_n rfl rfl ?_
  refine ar_aload rfl rfl ?_
  refine ar_aload rfl rfl ?_
  refine ar_aload rfl rfl ?_
  refine ar_aload rfl rfl ?_
  refine ar_cs5 rfl rfl (Nat.le_of_ble_eq_true rfl) (cs_isCleared (d := 0) I L) (by omega) (fun o q571 hq => ?_)
  obtain ⟨rfl, s1, T1, I1, L1, S1, n1⟩ := hq
  refine ar_stI10 rfl ?_
  refine ar_goto rfl rfl ?_
  exact K _ _ _ _ _ _ _ _ (CI_le I1 (by omega)) L1 S1 (by omega)
theorem lc_limN {d e : Nat} {q : am_A} {s : am_Z} {T : am_LT} {k o1 o2 : Int} {x15 x16 x17 x18 x19 : Option am_V} {Q : am_O → am_A → Prop} (I : am_CI e q s) (L : am_LS q s T) (b0 : 0 ≤ rI s 0 ∧ rI s 0 ≤ 1500) (b1 : 0 ≤ o1 ∧ o1 < 60000) (b2 : 0 ≤ o2 ∧ o2 < 70000) {w : Int} (hw : w = 33) (h3 : ¬ o1 % 12 < rI s 3) (K : ∀ q1 s1 T1 y15 y16 y17 y18 y19, am_CI (e + 50) q1 s1 → am_LS q1 s1 T1 → am_S31 q q1 → (rI s 0 ≤ rI s1 0 ∧ rI s1 0 ≤ rI s 0 + 14) → am_W2 (d + 24) m_L_law 884 [some (aR 31 0), some (aR 8 0), some (aR 24 0), some (aR 24 1), some (aR 24 2), some (aR 24 3), some (aR 24 4), some (aR 24 5), some (aR 24 6), some (aR 24 7), some (aI (zI 1)), some (aI (zI k)), some (aI (zI w)), some (aI (zI o1)), some (aI (zI o2)), y15, y16, y17, y18, y19] [] q1 Q) : am_W2 (d + 24) m_L_law 312 [some (aR 31 0), some (aR 8 0), some (aR 24 0), some (aR 24 1), some (aR 24 2), some (aR 24 3), some (aR 24 4), some (aR 24 5), some (aR 24 6), some (aR 24 7), some (aI (zI 1)), some (aI (zI k)), some (aI (zI w)), some (aI (zI o1)), some (aI (zI o2)), x15, x16, x17, x18, x19] [] q Q := by
  obtain ⟨F, J, H, P⟩ := id L
  have B := CV_B I.1
  have b3 := B.2.1 3 0 12 rfl
  have b44 := B.2.1 44 0 40 rfl
  obtain ⟨⟨p0, p1, p2, p3, p4, p5, p6⟩, pn, pm, pf, pb, px⟩ := id P
  refine ar_iload rfl rfl ?_
  refine ar_iconst rfl ?_
  refine ar_icmp_ge rfl rfl (by omega) (by omega) (fun h315 => ?_) (fun hf => by omega)
  refine ar_iload rfl rfl ?_
  refine ar_iconst rfl ?_
  refine ar_icmp_ge rfl rfl (by omega) (by omega) (fun h338 => ?_) (fun hf => by omega)
  refine ar_iload rfl rfl ?_
  refine ar_bipush (x := 12) rfl rfl ?_
  refine ar_icmp_ge rfl rfl (by omega) (by omega) (fun h362 => ?_) (fun hf => by omega)
  refine ar_iload rfl rfl ?_
  refine ar_bipush (x := 18) rfl rfl ?_
  refine ar_icmp_ge rfl rfl (by omega) (by omega) (fun h421 => ?_) (fun hf => by omega)
  refine ar_iload rfl rfl ?_
  refine ar_bipush (x := 27) rfl rfl ?_
  refine ar_icmp_ge rfl rfl (by omega) (by omega) (fun h449 => ?_) (fun hf => by omega)
  refine ar_iload rfl rfl ?_
  refine ar_bipush (x := 32) rfl rfl ?_
  refine ar_icmp_ge rfl rfl (by omega) (by omega) (fun h509 => ?_) (fun hf => by omega)
  refine ar_iload rfl rfl ?_
  refine ar_bipush (x := 32) rfl rfl ?_
  refine ar_icmp_ne rfl rfl (by omega) (by omega) (fun h559 => ?_) (fun hf => by omega)
  refine ar_iload rfl rfl ?_
  refine ar_bipush (x := 33) rfl rfl ?_
  refine ar_icmp_ne rfl rfl (by omega) (by omega) (fun ht => by omega) (fun h583 => ?_)
  refine ar_iload rfl rfl ?_
  refine ar_bipush (x := 12) rfl rfl ?_
  refine ar_irem rfl (by omega) (by omega) ?_
  refine ar_stI15 rfl ?_
  refine ar_iload rfl rfl ?_
  refine ar_bipush (x := 12) rfl rfl ?_
  refine ar_idiv rfl (by omega) (by omega) ?_
  refine ar_iconst rfl ?_
  refine ar_irem rfl (by omega) (by omega) ?_
  refine ar_stI16 rfl ?_
  refine ar_iload rfl rfl ?_
  refine ar_bipush (x := 20) rfl rfl ?_
  refine ar_irem rfl (by omega) (by omega) ?_
  refine ar_stI17 rfl ?_
  refine ar_aload_n rfl rfl ?_
  refine ar_iconst rfl ?_
  refine ar_iload rfl rfl ?_
  refine ar_iload rfl rfl ?_
  refine ar_iload rfl rfl ?_
  refine ar_iconst rfl ?_
  refine ar_iconst rfl ?_
  refine ar_iconst rfl ?_
  refine ar_cs8 rfl rfl (Nat.le_of_ble_eq_true rfl) (dx_limit (d := 0) (R := -3000000) I F J (by omega) (by omega) (by omega) (k := 1) (by unfold kLimit; rw [if_pos (by omega)]) (by omega) rfl) (by omega) (fun o q620 hq => ?_)
  obtain ⟨rfl, I620, Y620, F620⟩ := hq
  have H620 := LA_CY H Y620
  refine ar_stI18 rfl ?_
  refine ar_iload rfl rfl ?_
  refine ar_aload rfl rfl ?_
  refine ar_iconst rfl ?_
  refine ar_ial24 (n := 7) rfl H620 (by omega) rfl (by omega) ?_
  refine ar_icmp_lt rfl rfl (by omega) (by omega) (fun ht => by omega) (fun h631 => ?_)
  refine ar_ldc (x := -3000000) rfl rfl ?_
  refine ar_goto rfl rfl ?_
  refine ar_stI19 rfl ?_
  refine ar_iload rfl rfl ?_
  refine ar_iload rfl rfl ?_
  refine ar_icmp_ne rfl rfl (by omega) (by omega) (fun ht => by omega) (fun h675 => ?_)
  refine ar_iconst rfl ?_
  refine ar_goto rfl rfl ?_
  refine ar_stI10 rfl ?_
  refine ar_aload_n rfl rfl ?_
  refine ar_iconst rfl ?_
  refine ar_iload rfl rfl ?_
  refine ar_imul rfl ?_
  refine ar_iload rfl rfl ?_
  refine ar_iadd rfl ?_
  refine ar_iload rfl rfl ?_
  refine ar_if_ge rfl rfl (by omega) (fun ht => by omega) (fun h695 => ?_)
  refine ar_aload_n rfl rfl ?_
  refine ar_iconst rfl ?_
  refine ar_iload rfl rfl ?_
  refine ar_imul rfl ?_
  refine ar_iload rfl rfl ?_
  refine ar_iadd rfl ?_
  refine ar_ial24 (n := 48) rfl H620 (by omega) rfl (by omega) ?_
  refine ar_goto rfl rfl ?_
  refine ar_ias24 (n := 48) rfl H620 (by omega) rfl (by omega) (fun q712 H712 W712 => ?_)
  refine ar_goto rfl rfl ?_
  rw [(show uT T 1 (4 * (o1 % 12) + o1 / 12 % 4) (T 1 (4 * (o1 % 12) + o1 / 12 % 4)) = T from uT_id)] at H712
  exact K _ _ _ _ _ _ _ _ (CI_le (W712.1 _ _ I620) (by omega)) ⟨W712.2.1 F620, J, H712, P⟩ (S31_t (S31_CY Y620) W712.2.2) (by omega)
theorem lc_limB {d e : Nat} {q : am_A} {s : am_Z} {T : am_LT} {k o1 o2 : Int} {x15 x16 x17 x18 x19 : Option am_V} {Q : am_O → am_A → Prop} (I : am_CI e q s) (L : am_LS q s T) (b0 : 0 ≤ rI s 0 ∧ rI s 0 ≤ 1500) (b1 : 0 ≤ o1 ∧ o1 < 60000) (b2 : 0 ≤ o2 ∧ o2 < 70000) {w : Int} (hw : w = 33) (h3 : o1 % 12 < rI s 3) (h9 : ¬ o2 % 20 ≤ rA s 9 (o1 % 12) + 10) (K : ∀ q1 s1 T1 y15 y16 y17 y18 y19, am_CI (e + 50) q1 s1 → am_LS q1 s1 T1 → am_S31 q q1 → (rI s 0 ≤ rI s1 0 ∧ rI s1 0 ≤ rI s 0 + 14) → am_W2 (d + 24) m_L_law 884 [some (aR 31 0), some (aR 8 0), some (aR 24 0), some (aR 24 1), some (aR 24 2), some (aR 24 3), some (aR 24 4), some (aR 24 5), some (aR 24 6), some (aR 24 7), some (aI (zI 1)), some (aI (zI k)), some (aI (zI w)), some (aI (zI o1)), some (aI (zI o2)), y15, y16, y17, y18, y19] [] q1 Q) : am_W2 (d + 24) m_L_law 312 [some (aR 31 0), some (aR 8 0), some (aR 24 0), some (aR 24 1), some (aR 24 2), some (aR 24 3), some (aR 24 4), some (aR 24 5), some (aR 24 6), some (aR 24 7), some (aI (zI 1)), some (aI (zI k)), some (aI (zI w)), some (aI (zI o1)), some (aI (zI o2)), x15, x16, x17, x18, x19] [] q Q := by
  obtain ⟨F, J, H, P⟩ := id L
  have B := CV_B I.1
  have b3 := B.2.1 3 0 12 rfl
  have b44 := B.2.1 44 0 40 rfl
  obtain ⟨⟨p0, p1, p2, p3, p4, p5, p6⟩, pn, pm, pf, pb, px⟩ := id P
  have n4 := (pn (o1 % 12) (by omega) h3).2.2.2.2
  have b9 := B.1 9 (o1 % 12) 0 60 rfl
  refine ar_iload rfl rfl ?_
  refine ar_iconst rfl ?_
  refine ar_icmp_ge rfl rfl (by omega) (by omega) (fun h315 => ?_) (fun hf => by omega)
  refine ar_iload rfl rfl ?_
  refine ar_iconst rfl ?_
  refine ar_icmp_ge rfl rfl (by omega) (by omega) (fun h338 => ?_) (fun hf => by omega)
  refine ar_iload rfl rfl ?_
  refine ar_bipush (x := 12) rfl rfl ?_
  refine ar_icmp_ge rfl rfl (by omega) (by omega) (fun h362 => ?_) (fun hf => by omega)
  refine ar_iload rfl rfl ?_
  refine ar_bipush (x := 18) rfl rfl ?_
  refine ar_icmp_ge rfl rfl (by omega) (by omega) (fun h421 => ?_) (fun hf => by omega)
  refine ar_iload rfl rfl ?_
  refine ar_bipush (x := 27) rfl rfl ?_
  refine ar_icmp_ge rfl rfl (by omega) (by omega) (fun h449 => ?_) (fun hf => by omega)
  refine ar_iload rfl rfl ?_
  refine ar_bipush (x := 32) rfl rfl ?_
  refine ar_icmp_ge rfl rfl (by omega) (by omega) (fun h509 => ?_) (fun hf => by omega)
  refine ar_iload rfl rfl ?_
  refine ar_bipush (x := 32) rfl rfl ?_
  refine ar_icmp_ne rfl rfl (by omega) (by omega) (fun h559 => ?_) (fun hf => by omega)
  refine ar_iload rfl rfl ?_
  refine ar_bipush (x := 33) rfl rfl ?_
  refine ar_icmp_ne rfl rfl (by omega) (by omega) (fun ht => by omega) (fun h583 => ?_)
  refine ar_iload rfl rfl ?_
  refine ar_bipush (x := 12) rfl rfl ?_
  refine ar_irem rfl (by omega) (by omega) ?_
  refine ar_stI15 rfl ?_
  refine ar_iload rfl rfl ?_
  refine ar_bipush (x := 12) rfl rfl ?_
  refine ar_idiv rfl (by omega) (by omega) ?_
  refine ar_iconst rfl ?_
  refine ar_irem rfl (by omega) (by omega) ?_
  refine ar_stI16 rfl ?_
  refine ar_iload rfl rfl ?_
  refine ar_bipush (x := 20) rfl rfl ?_
  refine ar_irem rfl (by omega) (by omega) ?_
  refine ar_stI17 rfl ?_
  refine ar_aload_n rfl rfl ?_
  refine ar_iconst rfl ?_
  refine ar_iload rfl rfl ?_
  refine ar_iload rfl rfl ?_
  refine ar_iload rfl rfl ?_
  refine ar_iconst rfl ?_
  refine ar_iconst rfl ?_
  refine ar_iconst rfl ?_
  refine ar_cs8 rfl rfl (Nat.le_of_ble_eq_true rfl) (dx_limit (d := 0) (R := -2000000) I F J (by omega) (by omega) (by omega) (k := 2) (by unfold kLimit; rw [if_neg (by omega), if_neg (by omega)]) (by omega) rfl) (by omega) (fun o q620 hq => ?_)
  obtain ⟨rfl, I620, Y620, F620⟩ := hq
  have H620 := LA_CY H Y620
  refine ar_stI18 rfl ?_
  refine ar_iload rfl rfl ?_
  refine ar_aload rfl rfl ?_
  refine ar_iconst rfl ?_
  refine ar_ial24 (n := 7) rfl H620 (by omega) rfl (by omega) ?_
  refine ar_icmp_lt rfl rfl (by omega) (by omega) (fun h631 => ?_) (fun hf => by omega)
  refine ar_iload rfl rfl ?_
  refine ar_aload_n rfl rfl ?_
  refine ar_iconst rfl ?_
  refine ar_iload rfl rfl ?_
  refine ar_imul rfl ?_
  refine ar_iconst rfl ?_
  refine ar_iadd rfl ?_
  refine ar_ial24 (n := 60) rfl H620 (by omega) rfl (by omega) ?_
  rw [n4]
  refine ar_bipush (x := 10) rfl rfl ?_
  refine ar_iadd rfl ?_
  refine ar_icmp_le rfl rfl (by omega) (by omega) (fun ht => by omega) (fun h652 => ?_)
  refine ar_ldc (x := -2000000) rfl rfl ?_
  refine ar_goto rfl rfl ?_
  refine ar_stI19 rfl ?_
  refine ar_iload rfl rfl ?_
  refine ar_iload rfl rfl ?_
  refine ar_icmp_ne rfl rfl (by omega) (by omega) (fun ht => by omega) (fun h675 => ?_)
  refine ar_iconst rfl ?_
  refine ar_goto rfl rfl ?_
  refine ar_stI10 rfl ?_
  refine ar_aload_n rfl rfl ?_
  refine ar_iconst rfl ?_
  refine ar_iload rfl rfl ?_
  refine ar_imul rfl ?_
  refine ar_iload rfl rfl ?_
  refine ar_iadd rfl ?_
  refine ar_iload rfl rfl ?_
  refine ar_if_ge rfl rfl (by omega) (fun ht => by omega) (fun h695 => ?_)
  refine ar_aload_n rfl rfl ?_
  refine ar_iconst rfl ?_
  refine ar_iload rfl rfl ?_
  refine ar_imul rfl ?_
  refine ar_iload rfl rfl ?_
  refine ar_iadd rfl ?_
  refine ar_ial24 (n := 48) rfl H620 (by omega) rfl (by omega) ?_
  refine ar_goto rfl rfl ?_
  refine ar_ias24 (n := 48) rfl H620 (by omega) rfl (by omega) (fun q712 H712 W712 => ?_)
  refine ar_goto rfl rfl ?_
  rw [(show uT T 1 (4 * (o1 % 12) + o1 / 12 % 4) (T 1 (4 * (o1 % 12) + o1 / 12 % 4)) = T from uT_id)] at H712
  exact K _ _ _ _ _ _ _ _ (CI_le (W712.1 _ _ I620) (by omega)) ⟨W712.2.1 F620, J, H712, P⟩ (S31_t (S31_CY Y620) W712.2.2) (by omega)
theorem lc_limZ {d e : Nat} {q : am_A} {s : am_Z} {T : am_LT} {k o1 o2 : Int} {x15 x16 x17 x18 x19 : Option am_V} {Q : am_O → am_A → Prop} (I : am_CI e q s) (L : am_LS q s T) (b0 : 0 ≤ rI s 0 ∧ rI s 0 ≤ 1500) (b1 : 0 ≤ o1 ∧ o1 < 60000) (b2 : 0 ≤ o2 ∧ o2 < 70000) {w : Int} (hw : w = 33) (h3 : o1 % 12 < rI s 3) (h9 : o2 % 20 ≤ rA s 9 (o1 % 12) + 10) (K : ∀ q1 s1 T1 y15 y16 y17 y18 y19, am_CI (e + 50) q1 s1 → am_LS q1 s1 T1 → am_S31 q q1 → (rI s 0 ≤ rI s1 0 ∧ rI s1 0 ≤ rI s 0 + 14) → am_W2 (d + 24) m_L_law 884 [some (aR 31 0), some (aR 8 0), some (aR 24 0), some (aR 24 1), some (aR 24 2), some (aR 24 3), some (aR 24 4), some (aR 24 5), some (aR 24 6), some (aR 24 7), some (aI (zI 1)), some (aI (zI k)), some (aI (zI w)), some (aI (zI o1)), some (aI (zI o2)), y15, y16, y17, y18, y19] [] q1 Q) : am_W2 (d + 24) m_L_law 312 [some (aR 31 0), some (aR 8 0), some (aR 24 0), some (aR 24 1), some (aR 24 2), some (aR 24 3), some (aR 24 4), some (aR 24 5), some (aR 24 6), some (aR 24 7), some (aI (zI 1)), some (aI (zI k)), some (aI (zI w)), some (aI (zI o1)), some (aI (zI o2)), x15, x16, x17, x18, x19] [] q Q := by
  obtain ⟨F, J, H, P⟩ := id L
  have B := CV_B I.1
  have b3 := B.2.1 3 0 12 rfl
  have b44 := B.2.1 44 0 40 rfl
  obtain ⟨⟨p0, p1, p2, p3, p4, p5, p6⟩, pn, pm, pf, pb, px⟩ := id P
  have n4 := (pn (o1 % 12) (by omega) h3).2.2.2.2
  have b9 := B.1 9 (o1 % 12) 0 60 rfl
  have m4 := pm (o1 % 12) (o1 / 12 % 4) (by omega) h3 (by omega) (by omega)
  have b14 := B.1 14 (4 * (o1 % 12) + o1 / 12 % 4) 0 70 rfl
  refine ar_iload rfl rfl ?_
  refine ar_iconst rfl ?_
  refine ar_icmp_ge rfl rfl (by omega) (by omega) (fun h315 => ?_) (fun hf => by omega)
  refine ar_iload rfl rfl ?_
  refine ar_iconst rfl ?_
  refine ar_icmp_ge rfl rfl (by omega) (by omega) (fun h338 => ?_) (fun hf => by omega)
  refine ar_iload rfl rfl ?_
  refine ar_bipush (x := 12) rfl rfl ?_
  refine ar_icmp_ge rfl rfl (by omega) (by omega) (fun h362 => ?_) (fun hf => by omega)
  refine ar_iload rfl rfl ?_
  refine ar_bipush (x := 18) rfl rfl ?_
  refine ar_icmp_ge rfl rfl (by omega) (by omega) (fun h421 => ?_) (fun hf => by omega)
  refine ar_iload rfl rfl ?_
  refine ar_bipush (x := 27) rfl rfl ?_
  refine ar_icmp_ge rfl rfl (by omega) (by omega) (fun h449 => ?_) (fun hf => by omega)
  refine ar_iload rfl rfl ?_
  refine ar_bipush (x := 32) rfl rfl ?_
  refine ar_icmp_ge rfl rfl (by omega) (by omega) (fun h509 => ?_) (fun hf => by omega)
  refine ar_iload rfl rfl ?_
  refine ar_bipush (x := 32) rfl rfl ?_
  refine ar_icmp_ne rfl rfl (by omega) (by omega) (fun h559 => ?_) (fun hf => by omega)
  refine ar_iload rfl rfl ?_
  refine ar_bipush (x := 33) rfl rfl ?_
  refine ar_icmp_ne rfl rfl (by omega) (by omega) (fun ht => by omega) (fun h583 => ?_)
  refine ar_iload rfl rfl ?_
  refine ar_bipush (x := 12) rfl rfl ?_
  refine ar_irem rfl (by omega) (by omega) ?_
  refine ar_stI15 rfl ?_
  refine ar_iload rfl rfl ?_
  refine ar_bipush (x := 12) rfl rfl ?_
  refine ar_idiv rfl (by omega) (by omega) ?_
  refine ar_iconst rfl ?_
  refine ar_irem rfl (by omega) (by omega) ?_
  refine ar_stI16 rfl ?_
  refine ar_iload rfl rfl ?_
  refine ar_bipush (x := 20) rfl rfl ?_
  refine ar_irem rfl (by omega) (by omega) ?_
  refine ar_stI17 rfl ?_
  refine ar_aload_n rfl rfl ?_
  refine ar_iconst rfl ?_
  refine ar_iload rfl rfl ?_
  refine ar_iload rfl rfl ?_
  refine ar_iload rfl rfl ?_
  refine ar_iconst rfl ?_
  refine ar_iconst rfl ?_
  refine ar_iconst rfl ?_
  refine ar_cs8 rfl rfl (Nat.le_of_ble_eq_true rfl) (dz_limit (d := 0) I F J (by omega) (by omega) (by omega) (by unfold kLimit; rw [if_neg (by omega), if_pos (by omega)])) (by omega) (fun o q620 hq => ?_)
  obtain ⟨rfl, I620, Y620, F620⟩ := hq
  have H620 := LA_CY H Y620
  refine ar_stI18 rfl ?_
  refine ar_iload rfl rfl ?_
  refine ar_aload rfl rfl ?_
  refine ar_iconst rfl ?_
  refine ar_ial24 (n := 7) rfl H620 (by omega) rfl (by omega) ?_
  refine ar_icmp_lt rfl rfl (by omega) (by omega) (fun h631 => ?_) (fun hf => by omega)
  refine ar_iload rfl rfl ?_
  refine ar_aload_n rfl rfl ?_
  refine ar_iconst rfl ?_
  refine ar_iload rfl rfl ?_
  refine ar_imul rfl ?_
  refine ar_iconst rfl ?_
  refine ar_iadd rfl ?_
  refine ar_ial24 (n := 60) rfl H620 (by omega) rfl (by omega) ?_
  rw [n4]
  refine ar_bipush (x := 10) rfl rfl ?_
  refine ar_iadd rfl ?_
  refine ar_icmp_le rfl rfl (by omega) (by omega) (fun h652 => ?_) (fun hf => by omega)
  refine ar_aload_n rfl rfl ?_
  refine ar_iconst rfl ?_
  refine ar_iload rfl rfl ?_
  refine ar_imul rfl ?_
  refine ar_iload rfl rfl ?_
  refine ar_iadd rfl ?_
  refine ar_ial24 (n := 48) rfl H620 (by omega) rfl (by omega) ?_
  rw [m4]
  refine ar_stI19 rfl ?_
  refine ar_iload rfl rfl ?_
  refine ar_iload rfl rfl ?_
  refine ar_icmp_ne rfl rfl (by omega) (by omega) (fun ht => by omega) (fun h675 => ?_)
  refine ar_iconst rfl ?_
  refine ar_goto rfl rfl ?_
  refine ar_stI10 rfl ?_
  refine ar_aload_n rfl rfl ?_
  refine ar_iconst rfl ?_
  refine ar_iload rfl rfl ?_
  refine ar_imul rfl ?_
  refine ar_iload rfl rfl ?_
  refine ar_iadd rfl ?_
  refine ar_iload rfl rfl ?_
  refine ar_if_ge rfl rfl (by omega) (fun h695 => ?_) (fun hf => by omega)
  refine ar_iload rfl rfl ?_
  refine ar_ias24 (n := 48) rfl H620 (by omega) rfl (by omega) (fun q712 H712 W712 => ?_)
  refine ar_goto rfl rfl ?_
  exact K _ _ _ _ _ _ _ _ (CI_le (W712.1 _ _ I620) (by omega)) ⟨W712.2.1 F620, JJ_A J (by unfold ivA; omega) (by unfold jaA; omega), H712, PL_lim P⟩ (S31_t (S31_CY Y620) W712.2.2) (show rI s 0 ≤ rI s 0 ∧ rI s 0 ≤ rI s 0 + 14 by omega)
theorem lc_volN {d e : Nat} {q : am_A} {s : am_Z} {T : am_LT} {k o1 o2 : Int} {x15 x16 x17 x18 x19 : Option am_V} {Q : am_O → am_A → Prop} (I : am_CI e q s) (L : am_LS q s T) (b0 : 0 ≤ rI s 0 ∧ rI s 0 ≤ 1500) (b1 : 0 ≤ o1 ∧ o1 < 60000) (b2 : 0 ≤ o2 ∧ o2 < 70000) {w : Int} (hw : w = 34) (hb : o1 % (rI s 44 + 1) = rI s 44) (K : ∀ q1 s1 T1 y15 y16 y17 y18 y19, am_CI (e + 50) q1 s1 → am_LS q1 s1 T1 → am_S31 q q1 → (rI s 0 ≤ rI s1 0 ∧ rI s1 0 ≤ rI s 0 + 14) → am_W2 (d + 24) m_L_law 884 [some (aR 31 0), some (aR 8 0), some (aR 24 0), some (aR 24 1), some (aR 24 2), some (aR 24 3), some (aR 24 4), some (aR 24 5), some (aR 24 6), some (aR 24 7), some (aI (zI 1)), some (aI (zI k)), some (aI (zI w)), some (aI (zI o1)), some (aI (zI o2)), y15, y16, y17, y18, y19] [] q1 Q) : am_W2 (d + 24) m_L_law 312 [some (aR 31 0), some (aR 8 0), some (aR 24 0), some (aR 24 1), some (aR 24 2), some (aR 24 3), some (aR 24 4), some (aR 24 5), some (aR 24 6), some (aR 24 7), some (aI (zI 1)), some (aI (zI k)), some (aI (zI w)), some (aI (zI o1)), some (aI (zI o2)), x15, x16, x17, x18, x19] [] q Q := by
  obtain ⟨F, J, H, P⟩ := id L
  have B := CV_B I.1
  have b3 := B.2.1 3 0 12 rfl
  have b44 := B.2.1 44 0 40 rfl
  obtain ⟨⟨p0, p1, p2, p3, p4, p5, p6⟩, pn, pm, pf, pb, px⟩ := id P
  refine ar_iload rfl rfl ?_
  refine ar_iconst rfl ?_
  refine ar_icmp_ge rfl rfl (by omega) (by omega) (fun h315 => ?_) (fun hf => by omega)
  refine ar_iload rfl rfl ?_
  refine ar_iconst rfl ?_
  refine ar_icmp_ge rfl rfl (by omega) (by omega) (fun h338 => ?_) (fun hf => by omega)
  refine ar_iload rfl rfl ?_
  refine ar_bipush (x := 12) rfl rfl ?_
  refine ar_icmp_ge rfl rfl (by omega) (by omega) (fun h362 => ?_) (fun hf => by omega)
  refine ar_iload rfl rfl ?_
  refine ar_bipush (x := 18) rfl rfl ?_
  refine ar_icmp_ge rfl rfl (by omega) (by omega) (fun h421 => ?_) (fun hf => by omega)
  refine ar_iload rfl rfl ?_
  refine ar_bipush (x := 27) rfl rfl ?_
  refine ar_icmp_ge rfl rfl (by omega) (by omega) (fun h449 => ?_) (fun hf => by omega)
  refine ar_iload rfl rfl ?_
  refine ar_bipush (x := 32) rfl rfl ?_
  refine ar_icmp_ge rfl rfl (by omega) (by omega) (fun h509 => ?_) (fun hf => by omega)
  refine ar_iload rfl rfl ?_
  refine ar_bipush (x := 32) rfl rfl ?_
  refine ar_icmp_ne rfl rfl (by omega) (by omega) (fun h559 => ?_) (fun hf => by omega)
  refine ar_iload rfl rfl ?_
  refine ar_bipush (x := 33) rfl rfl ?_
  refine ar_icmp_ne rfl rfl (by omega) (by omega) (fun h583 => ?_) (fun hf => by omega)
  refine ar_iload rfl rfl ?_
  refine ar_bipush (x := 34) rfl rfl ?_
  refine ar_icmp_ne rfl rfl (by omega) (by omega) (fun ht => by omega) (fun h720 => ?_)
  refine ar_aload_n rfl rfl ?_
  refine ar_bipush (x := 24) rfl rfl ?_
  refine ar_iload rfl rfl ?_
  refine ar_aload rfl rfl ?_
  refine ar_iconst rfl ?_
  refine ar_ial24 (n := 7) rfl H (by omega) rfl (by omega) ?_
  refine ar_iconst rfl ?_
  refine ar_iadd rfl ?_
  rw [p4]
  have d1 := Int.emod_nonneg o1 (b := rI s 44 + 1) (by omega)
  have d2 := Int.emod_lt_of_pos o1 (b := rI s 44 + 1) (by omega)
  refine ar_irem rfl (by omega) (by omega) ?_
  refine ar_iconst rfl ?_
  refine ar_iconst rfl ?_
  refine ar_iconst rfl ?_
  refine ar_iconst rfl ?_
  refine ar_iconst rfl ?_
  refine ar_cs8 rfl rfl (Nat.le_of_ble_eq_true rfl) (dx_volunteer (d := 0) (R := -3000000) I F J (by omega) (k := 1) (by unfold kBooking; rw [if_neg (by omega)]) (by omega) rfl) (by omega) (fun o q740 hq => ?_)
  obtain ⟨rfl, I740, Y740, F740⟩ := hq
  have H740 := LA_CY H Y740
  refine ar_iload rfl rfl ?_
  refine ar_aload rfl rfl ?_
  refine ar_iconst rfl ?_
  refine ar_ial24 (n := 7) rfl H740 (by omega) rfl (by omega) ?_
  refine ar_iconst rfl ?_
  refine ar_iadd rfl ?_
  rw [p4]
  refine ar_irem rfl (by omega) (by omega) ?_
  refine ar_aload rfl rfl ?_
  refine ar_iconst rfl ?_
  refine ar_ial24 (n := 7) rfl H740 (by omega) rfl (by omega) ?_
  rw [p4]
  refine ar_icmp_ne rfl rfl (by omega) (by omega) (fun ht => by omega) (fun h756 => ?_)
  refine ar_ldc (x := -3000000) rfl rfl ?_
  refine ar_goto rfl rfl ?_
  refine ar_icmp_eq rfl rfl (by omega) (by omega) (fun h765 => ?_) (fun hf => by omega)
  refine ar_iconst rfl ?_
  refine ar_goto rfl rfl ?_
  refine ar_stI10 rfl ?_
  refine ar_goto rfl rfl ?_
  exact K _ _ _ _ _ _ _ _ (CI_le I740 (by omega)) ⟨F740, J, H740, P⟩ (S31_CY Y740) (by omega)
theorem lc_volZ {d e : Nat} {q : am_A} {s : am_Z} {T : am_LT} {k o1 o2 : Int} {x15 x16 x17 x18 x19 : Option am_V} {Q : am_O → am_A → Prop} (I : am_CI e q s) (L : am_LS q s T) (b0 : 0 ≤ rI s 0 ∧ rI s 0 ≤ 1500) (b1 : 0 ≤ o1 ∧ o1 < 60000) (b2 : 0 ≤ o2 ∧ o2 < 70000) {w : Int} (hw : w = 34) (hb : o1 % (rI s 44 + 1) < rI s 44) (K : ∀ q1 s1 T1 y15 y16 y17 y18 y19, am_CI (e + 50) q1 s1 → am_LS q1 s1 T1 → am_S31 q q1 → (rI s 0 ≤ rI s1 0 ∧ rI s1 0 ≤ rI s 0 + 14) → am_W2 (d + 24) m_L_law 884 [some (aR 31 0), some (aR 8 0), some (aR 24 0), some (aR 24 1), some (aR 24 2), some (aR 24 3), some (aR 24 4), some (aR 24 5), some (aR 24 6), some (aR 24 7), some (aI (zI 1)), some (aI (zI k)), some (aI (zI w)), some (aI (zI o1)), some (aI (zI o2)), y15, y16, y17, y18, y19] [] q1 Q) : am_W2 (d + 24) m_L_law 312 [some (aR 31 0), some (aR 8 0), some (aR 24 0), some (aR 24 1), some (aR 24 2), some (aR 24 3), some (aR 24 4), some (aR 24 5), some (aR 24 6), some (aR 24 7), some (aI (zI 1)), some (aI (zI k)), some (aI (zI w)), some (aI (zI o1)), some (aI (zI o2)), x15, x16, x17, x18, x19] [] q Q := by
  obtain ⟨F, J, H, P⟩ := id L
  have B := CV_B I.1
  have b3 := B.2.1 3 0 12 rfl
  have b44 := B.2.1 44 0 40 rfl
  obtain ⟨⟨p0, p1, p2, p3, p4, p5, p6⟩, pn, pm, pf, pb, px⟩ := id P
  have b51 := B.1 51 (o1 % (rI s 44 + 1)) 0 1 rfl
  refine ar_iload rfl rfl ?_
  refine ar_iconst rfl ?_
  refine ar_icmp_ge rfl rfl (by omega) (by omega) (fun h315 => ?_) (fun hf => by omega)
  refine ar_iload rfl rfl ?_
  refine ar_iconst rfl ?_
  refine ar_icmp_ge rfl rfl (by omega) (by omega) (fun h338 => ?_) (fun hf => by omega)
  refine ar_iload rfl rfl ?_
  refine ar_bipush (x := 12) rfl rfl ?_
  refine ar_icmp_ge rfl rfl (by omega) (by omega) (fun h362 => ?_) (fun hf => by omega)
  refine ar_iload rfl rfl ?_
  refine ar_bipush (x := 18) rfl rfl ?_
  refine ar_icmp_ge rfl rfl (by omega) (by omega) (fun h421 => ?_) (fun hf => by omega)
  refine ar_iload rfl rfl ?_
  refine ar_bipush (x := 27) rfl rfl ?_
  refine ar_icmp_ge rfl rfl (by omega) (by omega) (fun h449 => ?_) (fun hf => by omega)
  refine ar_iload rfl rfl ?_
  refine ar_bipush (x := 32) rfl rfl ?_
  refine ar_icmp_ge rfl rfl (by omega) (by omega) (fun h509 => ?_) (fun hf => by omega)
  refine ar_iload rfl rfl ?_
  refine ar_bipush (x := 32) rfl rfl ?_
  refine ar_icmp_ne rfl rfl (by omega) (by omega) (fun h559 => ?_) (fun hf => by omega)
  refine ar_iload rfl rfl ?_
  refine ar_bipush (x := 33) rfl rfl ?_
  refine ar_icmp_ne rfl rfl (by omega) (by omega) (fun h583 => ?_) (fun hf => by omega)
  refine ar_iload rfl rfl ?_
  refine ar_bipush (x := 34) rfl rfl ?_
  refine ar_icmp_ne rfl rfl (by omega) (by omega) (fun ht => by omega) (fun h720 => ?_)
  refine ar_aload_n rfl rfl ?_
  refine ar_bipush (x := 24) rfl rfl ?_
  refine ar_iload rfl rfl ?_
  refine ar_aload rfl rfl ?_
  refine ar_iconst rfl ?_
  refine ar_ial24 (n := 7) rfl H (by omega) rfl (by omega) ?_
  refine ar_iconst rfl ?_
  refine ar_iadd rfl ?_
  rw [p4]
  have d1 := Int.emod_nonneg o1 (b := rI s 44 + 1) (by omega)
  have d2 := Int.emod_lt_of_pos o1 (b := rI s 44 + 1) (by omega)
  refine ar_irem rfl (by omega) (by omega) ?_
  refine ar_iconst rfl ?_
  refine ar_iconst rfl ?_
  refine ar_iconst rfl ?_
  refine ar_iconst rfl ?_
  refine ar_iconst rfl ?_
  refine ar_cs8 rfl rfl (Nat.le_of_ble_eq_true rfl) (dz_volunteer (d := 0) I F J (by omega) (by unfold kBooking; rw [if_pos (by omega)])) (by omega) (fun o q740 hq => ?_)
  obtain ⟨rfl, I740, Y740, F740⟩ := hq
  have H740 := LA_CY H Y740
  refine ar_iload rfl rfl ?_
  refine ar_aload rfl rfl ?_
  refine ar_iconst rfl ?_
  refine ar_ial24 (n := 7) rfl H740 (by omega) rfl (by omega) ?_
  refine ar_iconst rfl ?_
  refine ar_iadd rfl ?_
  rw [p4]
  refine ar_irem rfl (by omega) (by omega) ?_
  refine ar_aload rfl rfl ?_
  refine ar_iconst rfl ?_
  refine ar_ial24 (n := 7) rfl H740 (by omega) rfl (by omega) ?_
  rw [p4]
  refine ar_icmp_ne rfl rfl (by omega) (by omega) (fun h756 => ?_) (fun hf => by omega)
  refine ar_iconst rfl ?_
  refine ar_icmp_eq rfl rfl (by omega) (by omega) (fun h765 => ?_) (fun h765 => ?_)
  · refine ar_iconst rfl ?_
    refine ar_goto rfl rfl ?_
    refine ar_stI10 rfl ?_
    refine ar_goto rfl rfl ?_
    exact K _ _ _ _ _ _ _ _ (CI_le I740 (by omega)) ⟨F740, JJ_A J (by unfold ivA; omega) (by unfold jaA; omega), H740, PL_KF P (KF_cg (fun j x h => wA_ne (by omega)) (fun _ _ => rfl)) rfl rfl⟩ (S31_CY Y740) (show rI s 0 ≤ rI s 0 ∧ rI s 0 ≤ rI s 0 + 14 by omega)
  · refine ar_iload rfl rfl ?_
    refine ar_aload rfl rfl ?_
    refine ar_iconst rfl ?_
    refine ar_ial24 (n := 7) rfl H740 (by omega) rfl (by omega) ?_
    refine ar_iconst rfl ?_
    refine ar_iadd rfl ?_
    rw [p4]
    refine ar_irem rfl (by omega) (by omega) ?_
    refine ar_aload rfl rfl ?_
    refine ar_iconst rfl ?_
    refine ar_ial24 (n := 7) rfl H740 (by omega) rfl (by omega) ?_
    rw [p4]
    refine ar_icmp_ge rfl rfl (by omega) (by omega) (fun ht => by omega) (fun h781 => ?_)
    refine ar_iconst rfl ?_
    refine ar_goto rfl rfl ?_
    refine ar_stI10 rfl ?_
    refine ar_goto rfl rfl ?_
    exact K _ _ _ _ _ _ _ _ (CI_le I740 (by omega)) ⟨F740, JJ_A J (by unfold ivA; omega) (by unfold jaA; omega), H740, PL_KF P (KF_cg (fun j x h => wA_ne (by omega)) (fun _ _ => rfl)) rfl rfl⟩ (S31_CY Y740) (show rI s 0 ≤ rI s 0 ∧ rI s 0 ≤ rI s 0 + 14 by omega)
theorem lc_passX {d e : Nat} {q : am_A} {s : am_Z} {T : am_LT} {k o1 o2 : Int} {x15 x16 x17 x18 x19 : Option am_V} {Q : am_O → am_A → Prop} (I : am_CI e q s) (L : am_LS q s T) (b0 : 0 ≤ rI s 0 ∧ rI s 0 ≤ 1500) (b1 : 0 ≤ o1 ∧ o1 < 60000) (b2 : 0 ≤ o2 ∧ o2 < 70000) {w : Int} (hw : 35 ≤ w) (hw2 : w < 40) (h0 : o1 % 30 = 0) (K : ∀ q1 s1 T1 y15 y16 y17 y18 y19, am_CI (e + 50) q1 s1 → am_LS q1 s1 T1 → am_S31 q q1 → (rI s 0 ≤ rI s1 0 ∧ rI s1 0 ≤ rI s 0 + 14) → am_W2 (d + 24) m_L_law 884 [some (aR 31 0), some (aR 8 0), some (aR 24 0), some (aR 24 1), some (aR 24 2), some (aR 24 3), some (aR 24 4), some (aR 24 5), some (aR 24 6), some (aR 24 7), some (aI (zI 1)), some (aI (zI k)), some (aI (zI w)), some (aI (zI o1)), some (aI (zI o2)), y15, y16, y17, y18, y19] [] q1 Q) : am_W2 (d + 24) m_L_law 312 [some (aR 31 0), some (aR 8 0), some (aR 24 0), some (aR 24 1), some (aR 24 2), some (aR 24 3), some (aR 24 4), some (aR 24 5), some (aR 24 6), some (aR 24 7), some (aI (zI 1)), some (aI (zI k)), some (aI (zI w)), some (aI (zI o1)), some (aI (zI o2)), x15, x16, x17, x18, x19] [] q Q := by
  obtain ⟨F, J, H, P⟩ := id L
  have B := CV_B I.1
  have b3 := B.2.1 3 0 12 rfl
  have b44 := B.2.1 44 0 40 rfl
  obtain ⟨⟨p0, p1, p2, p3, p4, p5, p6⟩, pn, pm, pf, pb, px⟩ := id P
  obtain ⟨d1, d2, d3⟩ := id p6
  refine ar_iload rfl rfl ?_
  refine ar_iconst rfl ?_
  refine ar_icmp_ge rfl rfl (by omega) (by omega) (fun h315 => ?_) (fun hf => by omega)
  refine ar_iload rfl rfl ?_
  refine ar_iconst rfl ?_
  refine ar_icmp_ge rfl rfl (by omega) (by omega) (fun h338 => ?_) (fun hf => by omega)
  refine ar_iload rfl rfl ?_
  refine ar_bipush (x := 12) rfl rfl ?_
  refine ar_icmp_ge rfl rfl (by omega) (by omega) (fun h362 => ?_) (fun hf => by omega)
  refine ar_iload rfl rfl ?_
  refine ar_bipush (x := 18) rfl rfl ?_
  refine ar_icmp_ge rfl rfl (by omega) (by omega) (fun h421 => ?_) (fun hf => by omega)
  refine ar_iload rfl rfl ?_
  refine ar_bipush (x := 27) rfl rfl ?_
  refine ar_icmp_ge rfl rfl (by omega) (by omega) (fun h449 => ?_) (fun hf => by omega)
  refine ar_iload rfl rfl ?_
  refine ar_bipush (x := 32) rfl rfl ?_
  refine ar_icmp_ge rfl rfl (by omega) (by omega) (fun h509 => ?_) (fun hf => by omega)
  refine ar_iload rfl rfl ?_
  refine ar_bipush (x := 32) rfl rfl ?_
  refine ar_icmp_ne rfl rfl (by omega) (by omega) (fun h559 => ?_) (fun hf => by omega)
  refine ar_iload rfl rfl ?_
  refine ar_bipush (x := 33) rfl rfl ?_
  refine ar_icmp_ne rfl rfl (by omega) (by omega) (fun h583 => ?_) (fun hf => by omega)
  refine ar_iload rfl rfl ?_
  refine ar_bipush (x := 34) rfl rfl ?_
  refine ar_icmp_ne rfl rfl (by omega) (by omega) (fun h720 => ?_) (fun hf => by omega)
  refine ar_aload rfl rfl ?_
  refine ar_bipush (x := 6) rfl rfl ?_
  refine ar_aload_n rfl rfl ?_
  refine ar_cv0 rfl rfl rfl (Nat.le_of_ble_eq_true rfl) (cs_denied (d := 0) I.1) (by omega) (fun o q799 hq => am_B2_is ?_ hq)
  refine ar_ias24 (n := 7) rfl H (by omega) rfl (by omega) (fun q802 H802 W802 => ?_)
  refine ar_iload rfl rfl ?_
  refine ar_bipush (x := 30) rfl rfl ?_
  refine ar_irem rfl (by omega) (by omega) ?_
  refine ar_if_ne rfl rfl (by omega) (fun ht => by omega) (fun h808 => ?_)
  refine ar_bipush (x := 101) rfl rfl ?_
  refine ar_goto rfl rfl ?_
  refine ar_stI15 rfl ?_
  refine ar_aload rfl rfl ?_
  refine ar_iconst rfl ?_
  refine ar_dup2 rfl rfl rfl ?_
  refine ar_ial24 (n := 7) rfl H802 (by omega) rfl (by omega) ?_
  refine ar_iload rfl rfl ?_
  refine ar_bipush (x := 100) rfl rfl ?_
  refine ar_icmp_le rfl rfl (by omega) (by omega) (fun ht => by omega) (fun h834 => ?_)
  refine ar_iconst rfl ?_
  refine ar_goto rfl rfl ?_
  refine ar_iadd rfl ?_
  refine ar_ias24 (n := 7) rfl H802 (by omega) rfl (by omega) (fun q844 H844 W844 => ?_)
  have I8 := W844.1 _ _ (W802.1 _ _ I)
  have F8 := W844.2.1 (W802.2.1 F)
  refine ar_aload_n rfl rfl ?_
  refine ar_bipush (x := 25) rfl rfl ?_
  refine ar_iload rfl rfl ?_
  refine ar_iconst rfl ?_
  refine ar_iconst rfl ?_
  refine ar_iconst rfl ?_
  refine ar_iconst rfl ?_
  refine ar_iconst rfl ?_
  refine ar_cs8 rfl rfl (Nat.le_of_ble_eq_true rfl) (dx_pass (d := 0) I8 F8 J (by omega) (if_neg (by omega))) (by omega) (fun o q855 hq => ?_)
  obtain ⟨rfl, I855, Y855, F855⟩ := hq
  have H855 := LA_CY H844 Y855
  refine ar_iload rfl rfl ?_
  refine ar_bipush (x := 100) rfl rfl ?_
  refine ar_icmp_le rfl rfl (by omega) (by omega) (fun ht => by omega) (fun h862 => ?_)
  refine ar_ldc (x := -2000000) rfl rfl ?_
  refine ar_goto rfl rfl ?_
  refine ar_icmp_ne rfl rfl (by omega) (by omega) (fun ht => by omega) (fun h874 => ?_)
  refine ar_iconst rfl ?_
  refine ar_goto rfl rfl ?_
  refine ar_stI10 rfl ?_
  exact K _ _ _ _ _ _ _ _ (CI_le I855 (by omega)) ⟨F855, J, H855, PL_pass (h := 0) P KF_r (by omega) (by omega) (by rw [uT_e, uT_n (by omega), p2]) (by rw [uT_n (by omega), uT_e]) (fun i x hx => by rw [uT_n (by omega), uT_n (by omega)])⟩ (S31_t W802.2.2 (S31_t W844.2.2 (S31_CY Y855))) (by omega)
theorem lc_passG {d e : Nat} {q : am_A} {s : am_Z} {T : am_LT} {k o1 o2 : Int} {x15 x16 x17 x18 x19 : Option am_V} {Q : am_O → am_A → Prop} (I : am_CI e q s) (L : am_LS q s T) (b0 : 0 ≤ rI s 0 ∧ rI s 0 ≤ 1500) (b1 : 0 ≤ o1 ∧ o1 < 60000) (b2 : 0 ≤ o2 ∧ o2 < 70000) {w : Int} (hw : 35 ≤ w) (hw2 : w < 40) (h0 : o1 % 30 ≠ 0) (HJ : am_J (fun t => am_INV t ∧ am_JA t) (itS (fun _ => hrS) (1 + o1 % 14).toNat s)) (K : ∀ q1 s1 T1 y15 y16 y17 y18 y19, am_CI (e + 50) q1 s1 → am_LS q1 s1 T1 → am_S31 q q1 → (rI s 0 ≤ rI s1 0 ∧ rI s1 0 ≤ rI s 0 + 14) → am_W2 (d + 24) m_L_law 884 [some (aR 31 0), some (aR 8 0), some (aR 24 0), some (aR 24 1), some (aR 24 2), some (aR 24 3), some (aR 24 4), some (aR 24 5), some (aR 24 6), some (aR 24 7), some (aI (zI 1)), some (aI (zI k)), some (aI (zI w)), some (aI (zI o1)), some (aI (zI o2)), y15, y16, y17, y18, y19] [] q1 Q) : am_W2 (d + 24) m_L_law 312 [some (aR 31 0), some (aR 8 0), some (aR 24 0), some (aR 24 1), some (aR 24 2), some (aR 24 3), some (aR 24 4), some (aR 24 5), some (aR 24 6), some (aR 24 7), some (aI (zI 1)), some (aI (zI k)), some (aI (zI w)), some (aI (zI o1)), some (aI (zI o2)), x15, x16, x17, x18, x19] [] q Q := by
  obtain ⟨F, J, H, P⟩ := id L
  have B := CV_B I.1
  have b3 := B.2.1 3 0 12 rfl
  have b44 := B.2.1 44 0 40 rfl
  obtain ⟨⟨p0, p1, p2, p3, p4, p5, p6⟩, pn, pm, pf, pb, px⟩ := id P
  obtain ⟨d1, d2, d3⟩ := id p6
  have KP := (PH_pass (n := (1 + o1 % 14).toNat) J.2.2 (fun x => (B.1 45 x 0 9 rfl).1)).2.1
  have hp0 := ps_68 (s := s) (fun x => (B.1 45 x 0 9 rfl).2) (by omega) (by omega) (1 + o1 % 14).toNat
  have n0 := pass_0 (s := s) (1 + o1 % 14).toNat
  have hn : (((1 + o1 % 14).toNat : Nat) : Int) = (1 + o1 % 14) := by omega
  rw [hn] at hp0 n0
  have hp : rI (itS (fun _ => hrS) (1 + o1 % 14).toNat s) 68 ≤ rI s 68 + 500000 * (1 + o1 % 14) := hp0
  refine ar_iload rfl rfl ?_
  refine ar_iconst rfl ?_
  refine ar_icmp_ge rfl rfl (by omega) (by omega) (fun h315 => ?_) (fun hf => by omega)
  refine ar_iload rfl rfl ?_
  refine ar_iconst rfl ?_
  refine ar_icmp_ge rfl rfl (by omega) (by omega) (fun h338 => ?_) (fun hf => by omega)
  refine ar_iload rfl rfl ?_
  refine ar_bipush (x := 12) rfl rfl ?_
  refine ar_icmp_ge rfl rfl (by omega) (by omega) (fun h362 => ?_) (fun hf => by omega)
  refine ar_iload rfl rfl ?_
  refine ar_bipush (x := 18) rfl rfl ?_
  refine ar_icmp_ge rfl rfl (by omega) (by omega) (fun h421 => ?_) (fun hf => by omega)
  refine ar_iload rfl rfl ?_
  refine ar_bipush (x := 27) rfl rfl ?_
  refine ar_icmp_ge rfl rfl (by omega) (by omega) (fun h449 => ?_) (fun hf => by omega)
  refine ar_iload rfl rfl ?_
  refine ar_bipush (x := 32) rfl rfl ?_
  refine ar_icmp_ge rfl rfl (by omega) (by omega) (fun h509 => ?_) (fun hf => by omega)
  refine ar_iload rfl rfl ?_
  refine ar_bipush (x := 32) rfl rfl ?_
  refine ar_icmp_ne rfl rfl (by omega) (by omega) (fun h559 => ?_) (fun hf => by omega)
  refine ar_iload rfl rfl ?_
  refine ar_bipush (x := 33) rfl rfl ?_
  refine ar_icmp_ne rfl rfl (by omega) (by omega) (fun h583 => ?_) (fun hf => by omega)
  refine ar_iload rfl rfl ?_
  refine ar_bipush (x := 34) rfl rfl ?_
  refine ar_icmp_ne rfl rfl (by omega) (by omega) (fun h720 => ?_) (fun hf => by omega)
  refine ar_aload rfl rfl ?_
  refine ar_bipush (x := 6) rfl rfl ?_
  refine ar_aload_n rfl rfl ?_
  refine ar_cv0 rfl rfl rfl (Nat.le_of_ble_eq_true rfl) (cs_denied (d := 0) I.1) (by omega) (fun o q799 hq => am_B2_is ?_ hq)
  refine ar_ias24 (n := 7) rfl H (by omega) rfl (by omega) (fun q802 H802 W802 => ?_)
  refine ar_iload rfl rfl ?_
  refine ar_bipush (x := 30) rfl rfl ?_
  refine ar_irem rfl (by omega) (by omega) ?_
  refine ar_if_ne rfl rfl (by omega) (fun h808 => ?_) (fun hf => by omega)
  refine ar_iconst rfl ?_
  refine ar_iload rfl rfl ?_
  refine ar_bipush (x := 14) rfl rfl ?_
  refine ar_irem rfl (by omega) (by omega) ?_
  refine ar_iadd rfl ?_
  refine ar_stI15 rfl ?_
  refine ar_aload rfl rfl ?_
  refine ar_iconst rfl ?_
  refine ar_dup2 rfl rfl rfl ?_
  refine ar_ial24 (n := 7) rfl H802 (by omega) rfl (by omega) ?_
  refine ar_iload rfl rfl ?_
  refine ar_bipush (x := 100) rfl rfl ?_
  refine ar_icmp_le rfl rfl (by omega) (by omega) (fun h834 => ?_) (fun hf => by omega)
  refine ar_iload rfl rfl ?_
  refine ar_iadd rfl ?_
  refine ar_ias24 (n := 7) rfl H802 (by omega) rfl (by omega) (fun q844 H844 W844 => ?_)
  have I8 := W844.1 _ _ (W802.1 _ _ I)
  have F8 := W844.2.1 (W802.2.1 F)
  refine ar_aload_n rfl rfl ?_
  refine ar_bipush (x := 25) rfl rfl ?_
  refine ar_iload rfl rfl ?_
  refine ar_iconst rfl ?_
  refine ar_iconst rfl ?_
  refine ar_iconst rfl ?_
  refine ar_iconst rfl ?_
  refine ar_iconst rfl ?_
  refine ar_cs8 rfl rfl (Nat.le_of_ble_eq_true rfl) (dz_pass (d := 0) I8 F8 J (by omega) (if_pos (by omega)) (by omega)) (by omega) (fun o q855 hq => ?_)
  obtain ⟨rfl, I855, Y855, F855⟩ := hq
  have H855 := LA_CY H844 Y855
  refine ar_iload rfl rfl ?_
  refine ar_bipush (x := 100) rfl rfl ?_
  refine ar_icmp_le rfl rfl (by omega) (by omega) (fun h862 => ?_) (fun hf => by omega)
  refine ar_aload rfl rfl ?_
  refine ar_iconst rfl ?_
  refine ar_ial24 (n := 7) rfl H855 (by omega) rfl (by omega) ?_
  rw [uT_e, uT_n (by omega), p2]
  refine ar_icmp_ne rfl rfl (by omega) (by omega) (fun ht => by omega) (fun h874 => ?_)
  refine ar_iconst rfl ?_
  refine ar_goto rfl rfl ?_
  refine ar_stI10 rfl ?_
  exact K _ _ _ _ _ _ _ _ (CI_le I855 (by omega)) ⟨F855, JJ_pass J B HJ, H855, PL_pass (h := (1 + o1 % 14)) P KP (by omega) hp (by rw [uT_e, uT_n (by omega), p2]) (by rw [uT_n (by omega), uT_e]) (fun i x hx => by rw [uT_n (by omega), uT_n (by omega)])⟩ (S31_t W802.2.2 (S31_t W844.2.2 (S31_CY Y855))) (by omega)
end

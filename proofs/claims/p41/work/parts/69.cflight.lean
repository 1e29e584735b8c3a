noncomputable section
def FlH (q : am_A) (i : Nat) (n c a b t w v : Int) : am_A := uFs (uFR (uNA (uFR (uNA q 1407 4) 407 (4, i) (some (1407, qCN q 1407))) 1408 61) 408 (4, i) (some (1408, qCN q 1408))) (4, i) [(400, n), (401, c), (402, a), (403, b), (404, t), (405, w), (406, v)]
section FLH
variable {q : am_A} {i : Nat} {n c a b t w v : Int}
theorem FlH_407 : qFR (FlH q i n c a b t w v) 407 (4, i) = some (1407, qCN q 1407) := by
  show (if 407 = 408 ∧ ((4, i) : am_R) = (4, i) then some ((1408, qCN q 1408) : am_R) else if 407 = 407 ∧ ((4, i) : am_R) = (4, i) then some (1407, qCN q 1407) else qFR q 407 (4, i)) = _
  rw [if_neg (fun z => absurd z.1 (by omega)), if_pos ⟨rfl, rfl⟩]
theorem FlH_408 : qFR (FlH q i n c a b t w v) 408 (4, i) = some (1408, qCN q 1408) := by
  show (if 408 = 408 ∧ ((4, i) : am_R) = (4, i) then some ((1408, qCN q 1408) : am_R) else if 408 = 407 ∧ ((4, i) : am_R) = (4, i) then some (1407, qCN q 1407) else qFR q 408 (4, i)) = _
  rw [if_pos ⟨rfl, rfl⟩]
theorem FlH_fr {f : Nat} {r : am_R} (h : f ≠ 407 ∧ f ≠ 408) : qFR (FlH q i n c a b t w v) f r = qFR q f r := by
  show (if f = 408 ∧ r = (4, i) then some ((1408, qCN q 1408) : am_R) else if f = 407 ∧ r = (4, i) then some (1407, qCN q 1407) else qFR q f r) = _
  rw [if_neg (fun z => h.2 z.1), if_neg (fun z => h.1 z.1)]
theorem FlH_l7 : qAL (FlH q i n c a b t w v) (1407, qCN q 1407) = 4 := by
  show am_u1 (am_u1 (qAL q) (1407, qCN q 1407) 4) (1408, qCN q 1408) 61 (1407, qCN q 1407) = 4
  rw [u1_ne (fun z => absurd (congrArg Prod.fst z) (by show ¬ 1407 = 1408; omega)), u1_eq]
theorem FlH_l8 : qAL (FlH q i n c a b t w v) (1408, qCN q 1408) = 61 := by
  show am_u1 (am_u1 (qAL q) (1407, qCN q 1407) 4) (1408, qCN q 1408) 61 (1408, qCN q 1408) = 61
  exact u1_eq
theorem FlH_ar {k : Nat} : qAR (FlH q i n c a b t w v) (1408, qCN q 1408) k = none := congrFun (if_pos rfl) k
theorem FlH_I {f : Nat} : qFI (FlH q i n c a b t w v) f (4, i) = (lkF f [(400, n), (401, c), (402, a), (403, b), (404, t), (405, w), (406, v)]).getD (qFI q f (4, i)) := uFs_eq _ _
theorem FlH_cn {x : Nat} : qCN (FlH q i n c a b t w v) x = am_u1 (am_u1 (qCN q) 1407 (qCN q 1407 + 1)) 1408 (qCN q 1408 + 1) x := rfl
end FLH
def FlJ (q : am_A) (i : Nat) (n c a b t w v : Int) : am_A := uAj (FlH q i n c a b t w v) (1407, qCN q 1407) (fun _ => v) 4
theorem lp_Fl {d : Nat} {q : am_A} {Q : am_O → am_A → Prop} {i m7 : Nat} {v : Int} {x1 x2 x3 x4 x5 x6 : Option am_V} (hF : qFR q 407 (4, i) = some (1407, m7)) (hL : qAL q (1407, m7) = 4) : ∀ (m : Nat) (j : Nat) (k : Int), 4 - j < m → (k = j ∧ j ≤ 4) → (∀ x8, am_W2 d m_Fl_init 83 [some (aR 4 i), x1, x2, x3, x4, x5, x6, some (aI (zI v)), x8] [] (uAj q (1407, m7) (fun _ => v) 4) Q) → am_W2 d m_Fl_init 62 [some (aR 4 i), x1, x2, x3, x4, x5, x6, some (aI (zI v)), some (aI (zI k))] [] (uAj q (1407, m7) (fun _ => v) j) Q := by
  intro m
  induction m with
  | zero => intro j k hm; exact absurd hm (Nat.not_lt_zero _)
  | succ m ih =>
    intro j k hm ⟨hj, hj2⟩ K
    subst hj
    refine ar_iload rfl rfl ?_
    refine ar_iconst rfl ?_
    refine ar_icmp_ge rfl rfl (by omega) (by omega) (fun h65 => ?_) (fun h65 => ?_)
    · rw [show j = 4 by omega]
      exact K _
    · refine ar_aload_n rfl rfl ?_
      refine ar_gfR rfl rfl rfl (by omega) (hF) ?_
      refine ar_iload rfl rfl ?_
      refine ar_iload rfl rfl ?_
      refine ar_ias rfl ⟨rfl, by omega⟩ (hL) (by omega) (by omega) ?_
      refine ar_inc8 rfl ?_
      refine ar_goto rfl rfl ?_
      rw [Int.toNat_natCast, uAj_s q (1407, m7) (fun _ => v) j]
      exact ih (j + 1) _ (by omega) ⟨by omega, by omega⟩ K
theorem cs_Fl_init {d : Nat} {q : am_A} {i : Nat} {n c a b t w v : Int} : am_C2 d m_Fl_init [aR 4 i, aI (zI n), aI (zI c), aI (zI a), aI (zI b), aI (zI t), aI (zI w), aI (zI v)] q (fun o q' => o = .inl none ∧ q' = FlJ q i n c a b t w v) := by
  refine am_C2_i (ls := [some (aR 4 i), some (aI (zI n)), some (aI (zI c)), some (aI (zI a)), some (aI (zI b)), some (aI (zI t)), some (aI (zI w)), some (aI (zI v)), none]) rfl ?_
  refine ar_aload_n rfl rfl ?_
  refine ar_objinit rfl rfl rfl rfl (Nat.le_of_ble_eq_true rfl) ?_
  refine ar_aload_n rfl rfl ?_
  refine ar_iconst rfl ?_
  refine ar_newa (kt := 1407) (m := 4) rfl (by intro z; cases z) (by omega) (by omega) rfl (by omega) ?_
  refine ar_pfR rfl rfl rfl rfl (by omega) ?_
  refine ar_aload_n rfl rfl ?_
  refine ar_bipush (x := 61) rfl rfl ?_
  refine ar_newa (kt := 1408) (m := 61) rfl (by intro z; cases z) (by omega) (by omega) rfl (by omega) ?_
  refine ar_pfR rfl rfl rfl rfl (by omega) ?_
  refine ar_aload_n rfl rfl ?_
  refine ar_iload_n rfl rfl ?_
  refine ar_pfI rfl rfl rfl rfl (by omega) (Or.inl rfl) ?_
  refine ar_aload_n rfl rfl ?_
  refine ar_iload_n rfl rfl ?_
  refine ar_pfI rfl rfl rfl rfl (by omega) (Or.inl rfl) ?_
  refine ar_aload_n rfl rfl ?_
  refine ar_iload_n rfl rfl ?_
  refine ar_pfI rfl rfl rfl rfl (by omega) (Or.inl rfl) ?_
  refine ar_aload_n rfl rfl ?_
  refine ar_iload rfl rfl ?_
  refine ar_pfI rfl rfl rfl rfl (by omega) (Or.inl rfl) ?_
  refine ar_aload_n rfl rfl ?_
  refine ar_iload rfl rfl ?_
  refine ar_pfI rfl rfl rfl rfl (by omega) (Or.inl rfl) ?_
  refine ar_aload_n rfl rfl ?_
  refine ar_iload rfl rfl ?_
  refine ar_pfI rfl rfl rfl rfl (by omega) (Or.inl rfl) ?_
  refine ar_aload_n rfl rfl ?_
  refine ar_iload rfl rfl ?_
  refine ar_pfI rfl rfl rfl rfl (by omega) (Or.inl rfl) ?_
  refine ar_iconst rfl ?_
  refine ar_stI8 rfl ?_
  refine (congrArg (fun z => am_W2 _ _ _ _ _ z _) (uAj_0 (FlH q i n c a b t w v) (1407, qCN q 1407) (fun _ => v))).mp ?_
  refine lp_Fl (d := d) (q := FlH q i n c a b t w v) (m7 := qCN q 1407) FlH_407 FlH_l7 5 0 0 (by omega) ⟨rfl, by omega⟩ (fun x8 => ?_)
  exact ar_ret rfl rfl (⟨rfl, rfl⟩)
def flH (q : am_A) (m c a b t w n h : Int) : am_A := uFI (FlJ (uNO q 4 13) (qCN q 4) m c a b t w n) 409 (4, qCN q 4) h
section FLHS
variable {q : am_A} {m c a b t w n h : Int}
theorem flH_cn {x : Nat} (h4 : x ≠ 4) (h7 : x ≠ 1407) (h8 : x ≠ 1408) : qCN (flH q m c a b t w n h) x = qCN q x := by
  show am_u1 (am_u1 (am_u1 (qCN q) 4 (qCN q 4 + 1)) 1407 (am_u1 (qCN q) 4 (qCN q 4 + 1) 1407 + 1)) 1408 (am_u1 (am_u1 (qCN q) 4 (qCN q 4 + 1)) 1407 (am_u1 (qCN q) 4 (qCN q 4 + 1) 1407 + 1) 1408 + 1) x = _
  unfold am_u1
  rw [if_neg h8, if_neg h7, if_neg h4]
theorem flH_cn4 : qCN (flH q m c a b t w n h) 4 = qCN q 4 + 1 := rfl
theorem flH_cn7 : qCN (flH q m c a b t w n h) 1407 = qCN q 1407 + 1 := rfl
theorem flH_cn8 : qCN (flH q m c a b t w n h) 1408 = qCN q 1408 + 1 := rfl
theorem flH_409 : qFI (flH q m c a b t w n h) 409 (4, qCN q 4) = h := ff_eq
theorem flH_I {f : Nat} (hf : f ≠ 409) : qFI (flH q m c a b t w n h) f (4, qCN q 4) = (lkF f [(400, m), (401, c), (402, a), (403, b), (404, t), (405, w), (406, n)]).getD 0 := by
  unfold flH
  rw [ff_ne hf]
  refine (FlH_I (q := uNO q 4 13) (i := qCN q 4) (n := m) (c := c) (a := a) (b := b) (t := t) (w := w) (v := n) (f := f)).trans ?_
  exact congrArg (fun y => (lkF f [(400, m), (401, c), (402, a), (403, b), (404, t), (405, w), (406, n)]).getD y) (if_pos rfl)
theorem flH_407 : qFR (flH q m c a b t w n h) 407 (4, qCN q 4) = some (1407, qCN q 1407) := FlH_407 (q := uNO q 4 13) (i := qCN q 4) (n := m) (c := c) (a := a) (b := b) (t := t) (w := w) (v := n)
theorem flH_408 : qFR (flH q m c a b t w n h) 408 (4, qCN q 4) = some (1408, qCN q 1408) := FlH_408 (q := uNO q 4 13) (i := qCN q 4) (n := m) (c := c) (a := a) (b := b) (t := t) (w := w) (v := n)
theorem flH_411 : qFR (flH q m c a b t w n h) 411 (4, qCN q 4) = none := (FlH_fr (q := uNO q 4 13) (i := qCN q 4) (n := m) (c := c) (a := a) (b := b) (t := t) (w := w) (v := n) (f := 411) (r := (4, qCN q 4)) ⟨by omega, by omega⟩).trans (if_pos rfl)
theorem flH_l7 : qAL (flH q m c a b t w n h) (1407, qCN q 1407) = 4 := FlH_l7 (q := uNO q 4 13) (i := qCN q 4) (n := m) (c := c) (a := a) (b := b) (t := t) (w := w) (v := n)
theorem flH_l8 : qAL (flH q m c a b t w n h) (1408, qCN q 1408) = 61 := FlH_l8 (q := uNO q 4 13) (i := qCN q 4) (n := m) (c := c) (a := a) (b := b) (t := t) (w := w) (v := n)
theorem flH_ar {k : Nat} : qAR (flH q m c a b t w n h) (1408, qCN q 1408) k = none := FlH_ar (q := uNO q 4 13) (i := qCN q 4) (n := m) (c := c) (a := a) (b := b) (t := t) (w := w) (v := n)
theorem flH_ai {k : Nat} (hk : k < 4) : qAI (flH q m c a b t w n h) (1407, qCN q 1407) k = n := (uAj_g (q := FlH (uNO q 4 13) (qCN q 4) m c a b t w n) (r := (1407, qCN q 1407)) (f := fun _ => n) (n := 4) (k := k)).trans (if_pos hk)
theorem flH_G (c7 : qCN q 1407 = qCN q 4) (c8 : qCN q 1408 = qCN q 4) : am_GD (fun t i => (t = 4 ∨ t = 1407 ∨ t = 1408) ∧ i = qCN q 4) q (flH q m c a b t w n h) := by
  refine GD_FI (GD_Aj (GD_Fs (GD_FR (GD_NA (GD_FR (GD_NA (GD_NO GD_r ?_) ?_) ?_) ?_) ?_) ?_) ?_) ?_
  · exact ⟨Or.inl rfl, rfl⟩
  · exact ⟨Or.inr (Or.inl rfl), c7⟩
  · exact ⟨Or.inl rfl, rfl⟩
  · exact ⟨Or.inr (Or.inr rfl), c8⟩
  · exact ⟨Or.inl rfl, rfl⟩
  · exact ⟨Or.inl rfl, rfl⟩
  · exact ⟨Or.inr (Or.inl rfl), c7⟩
  · exact ⟨Or.inl rfl, rfl⟩
theorem flH_RM {e : Nat} (h0 : am_RM e q) : am_RM e (flH q m c a b t w n h) := RM_FI (RM_Aj (RM_Fs (RM_FR (RM_NA (RM_FR (RM_NA (RM_NO h0 (by omega) (by omega)) (by omega) (by omega))) (by omega) (by omega)))))
theorem flH_CG : am_CG q (flH q m c a b t w n h) := by
  refine CG_FI (CG_Aj (CG_Fs (CG_FR (CG_NA (CG_FR (CG_NA (CG_NO CG_r ?_) ?_) ?_) ?_) ?_) ?_) ?_) ?_
  · omega
  · omega
  · show cK 4; omega
  · omega
  · show cK 4; omega
  · show cK 4; omega
  · show cK 1407; omega
  · show cK 4; omega
end FLHS
theorem cs_flight {d : Nat} {q : am_A} {s : am_Z} (V : am_CV q s) {c a b t w n : Int} (hc : in32 c) (ha : in32 a) (hb : in32 b) (ht : in32 t) (hw : in32 w) (hn : in32 n) : am_C2 (d + 6) m_X_flight [aR 8 0, aI (zI c), aI (zI a), aI (zI b), aI (zI t), aI (zI w), aI (zI n)] q (am_OK (kFlight s c a b t w n) kd3 (some (aI (zI (rI s 3)))) q (fun q2 => q2 = qAdd (flH q (rI s 3) c a b t w n (t - rA s 1 a)) (1802, 0) (4, qCN q 4) ∧ (qLS q (1802, 0)).length ≤ qCP q (1802, 0))) := by
  refine am_C2_i (ls := [some (aR 8 0), some (aI (zI c)), some (aI (zI a)), some (aI (zI b)), some (aI (zI t)), some (aI (zI w)), some (aI (zI n)), none, none]) rfl ?_
  have b3 := (CV_B V).2.1 3 0 12 rfl
  refine ar_iload_n rfl rfl ?_
  refine ar_iconst rfl ?_
  refine ar_cs2 rfl rfl (Nat.le_of_ble_eq_true rfl) (cs_needIndex (d := 0) (by omega) (by omega)) (by omega) (fun o q2 hq => am_B2_T rfl (fun h2 => ?_) (fun h2 => ?_) hq)
  · refine ar_iload_n rfl rfl ?_
    refine ar_bipush (x := 6) rfl rfl ?_
    refine ar_cs2 rfl rfl (Nat.le_of_ble_eq_true rfl) (cs_needIndex (d := 0) (by omega) (by omega)) (by omega) (fun o q8 hq => am_B2_T rfl (fun h8 => ?_) (fun h8 => ?_) hq)
    · refine ar_iload_n rfl rfl ?_
      refine ar_bipush (x := 6) rfl rfl ?_
      refine ar_cs2 rfl rfl (Nat.le_of_ble_eq_true rfl) (cs_needIndex (d := 0) (by omega) (by omega)) (by omega) (fun o q14 hq => am_B2_T rfl (fun h14 => ?_) (fun h14 => ?_) hq)
      · refine cq_join (pc' := 27) (V := if a = b then 0 else 1) ?_ (fun K27 => ?_)
        · refine ar_cs1 rfl rfl (Nat.le_of_ble_eq_true rfl) (cs_needArgument (d := 0) (by omega)) (by omega) (fun o q27 hq => am_B2_T rfl (fun h27 => ?_) (fun h27 => ?_) hq)
          · refine ar_iload rfl rfl ?_
            refine ar_iconst rfl ?_
            refine ar_bipush (x := 23) rfl rfl ?_
            refine ar_cs3 rfl rfl (Nat.le_of_ble_eq_true rfl) (cs_needRange (d := 0) (by omega) (by omega) (by omega)) (by omega) (fun o q35 hq => am_B2_T rfl (fun h35 => ?_) (fun h35 => ?_) hq)
            · refine ar_iload rfl rfl ?_
              refine ar_iconst rfl ?_
              refine ar_bipush (x := 20) rfl rfl ?_
              refine ar_cs3 rfl rfl (Nat.le_of_ble_eq_true rfl) (cs_needRange (d := 0) (by omega) (by omega) (by omega)) (by omega) (fun o q43 hq => am_B2_T rfl (fun h43 => ?_) (fun h43 => ?_) hq)
              · refine ar_iload rfl rfl ?_
                refine ar_iconst rfl ?_
                refine ar_bipush (x := 60) rfl rfl ?_
                refine ar_cs3 rfl rfl (Nat.le_of_ble_eq_true rfl) (cs_needRange (d := 0) (by omega) (by omega) (by omega)) (by omega) (fun o q51 hq => am_B2_T rfl (fun h51 => ?_) (fun h51 => ?_) hq)
                · refine cq_join (pc' := 71) (V := if rI s 3 < 12 then 1 else 0) ?_ (fun K71 => ?_)
                  · refine ar_cs1 rfl rfl (Nat.le_of_ble_eq_true rfl) (cs_needState (d := 0) (by omega)) (by omega) (fun o q71 hq => am_B2_T rfl (fun h71 => ?_) (fun h71 => ?_) hq)
                    · refine ar_aload_n rfl rfl ?_
                      refine ar_gfR rfl rfl rfl (by omega) (V.1.1 802 _ rfl) ?_
                      refine ar_cv0 rfl rfl rfl (Nat.le_of_ble_eq_true rfl) (cl_szF (d := 0) V) (by omega) (fun o q78 hq => am_B2_is ?_ hq)
                      refine ar_stI7 rfl ?_
                      refine ar_new (kt := 4) rfl (by intro z; cases z) (by omega) ?_
                      refine ar_dup rfl rfl ?_
                      refine ar_iload rfl rfl ?_
                      refine ar_iload_n rfl rfl ?_
                      refine ar_iload_n rfl rfl ?_
                      refine ar_iload_n rfl rfl ?_
                      refine ar_iload rfl rfl ?_
                      refine ar_iload rfl rfl ?_
                      refine ar_iload rfl rfl ?_
                      refine ar_cv7 rfl rfl rfl (Nat.le_of_ble_eq_true rfl) (cs_Fl_init (d := 0)) (by omega) (fun o q98 hq => ?_)
                      obtain ⟨rfl, rfl⟩ := hq
                      refine ar_stA8 rfl ?_
                      refine ar_aload rfl rfl ?_
                      refine ar_iload rfl rfl ?_
                      refine ar_aload_n rfl rfl ?_
                      refine ar_gfR rfl rfl rfl (by omega) (V.1.1 800 _ rfl) ?_
                      refine ar_iload_n rfl rfl ?_
                      refine ar_ia rfl rfl (V.1.2.2.1 1800 6 rfl) (by omega) (by omega) ?_
                      rw [show qAI (FlJ (uNO q 4 13) (qCN q 4) (rI s 3) c a b t w n) (1800, 0) a.toNat = rA s 1 a from V.2.1.1 a (by omega) (by omega)]
                      refine ar_isub rfl ?_
                      refine ar_pfI rfl rfl rfl rfl (by omega) (Or.inl rfl) ?_
                      refine ar_aload_n rfl rfl ?_
                      refine ar_gfR rfl rfl rfl (by omega) (V.1.1 802 _ rfl) ?_
                      refine ar_aload rfl rfl ?_
                      refine ar_cv1 rfl rfl rfl (Nat.le_of_ble_eq_true rfl) (sq_addL (d := 0) rfl (by omega) (V.1.2.2.2 1802 rfl) (Nat.le_trans (V.2.2.2.2.2.2.2.2.1 1802 rfl) (by omega)) ⟨rfl, by omega⟩) (by omega) (fun o q123 hq => ?_)
                      obtain ⟨rfl, rfl, hc123⟩ := hq
                      refine ar_pop rfl rfl ?_
                      refine ar_iload rfl rfl ?_
                      exact ar_iret rfl (Or.inl rfl) (⟨fun _ => ⟨rfl, ⟨rfl, hc123⟩⟩, fun z => absurd (by unfold kFlight; omega) z⟩)
                    · exact ⟨fun z => absurd z (by unfold kFlight; omega), fun _ => by { rw [show kFlight s c a b t w n = 3 from by { unfold kFlight; omega }]; exact ⟨rfl, rfl⟩ }⟩
                  · refine ar_aload_n rfl rfl ?_
                    refine ar_gfR rfl rfl rfl (by omega) (V.1.1 802 _ rfl) ?_
                    refine ar_cv0 rfl rfl rfl (Nat.le_of_ble_eq_true rfl) (cl_szF (d := 0) V) (by omega) (fun o q58 hq => am_B2_is ?_ hq)
                    refine ar_bipush (x := 12) rfl rfl ?_
                    refine ar_icmp_ge rfl rfl (by omega) (by omega) (fun h63 => ?_) (fun h63 => ?_)
                    · refine ar_iconst rfl ?_
                      exact K71 _ (by first | (rw [if_pos (by omega)]) | (rw [if_neg (by omega)]))
                    · refine ar_iconst rfl ?_
                      refine ar_goto rfl rfl ?_
                      exact K71 _ (by first | (rw [if_pos (by omega)]) | (rw [if_neg (by omega)]))
                · exact ⟨fun z => absurd z (by unfold kFlight; omega), fun _ => by { rw [show kFlight s c a b t w n = 2 from by { unfold kFlight; omega }]; exact ⟨rfl, rfl⟩ }⟩
              · exact ⟨fun z => absurd z (by unfold kFlight; omega), fun _ => by { rw [show kFlight s c a b t w n = 2 from by { unfold kFlight; omega }]; exact ⟨rfl, rfl⟩ }⟩
            · exact ⟨fun z => absurd z (by unfold kFlight; omega), fun _ => by { rw [show kFlight s c a b t w n = 2 from by { unfold kFlight; omega }]; exact ⟨rfl, rfl⟩ }⟩
          · exact ⟨fun z => absurd z (by unfold kFlight; omega), fun _ => by { rw [show kFlight s c a b t w n = 2 from by { unfold kFlight; omega }]; exact ⟨rfl, rfl⟩ }⟩
        · refine ar_iload_n rfl rfl ?_
          refine ar_iload_n rfl rfl ?_
          refine ar_icmp_eq rfl rfl (by omega) (by omega) (fun h19 => ?_) (fun h19 => ?_)
          · refine ar_iconst rfl ?_
            exact K27 _ (by first | (rw [if_pos (by omega)]) | (rw [if_neg (by omega)]))
          · refine ar_iconst rfl ?_
            refine ar_goto rfl rfl ?_
            exact K27 _ (by first | (rw [if_pos (by omega)]) | (rw [if_neg (by omega)]))
      · exact ⟨fun z => absurd z (by unfold kFlight; omega), fun _ => by { rw [show kFlight s c a b t w n = 1 from by { unfold kFlight; omega }]; exact ⟨rfl, rfl⟩ }⟩
    · exact ⟨fun z => absurd z (by unfold kFlight; omega), fun _ => by { rw [show kFlight s c a b t w n = 1 from by { unfold kFlight; omega }]; exact ⟨rfl, rfl⟩ }⟩
  · exact ⟨fun z => absurd z (by unfold kFlight; omega), fun _ => by { rw [show kFlight s c a b t w n = 1 from by { unfold kFlight; omega }]; exact ⟨rfl, rfl⟩ }⟩
def flightS (s : am_Z) (c a b t w n : Int) : am_Z := wI (wB (wA (wA (wA (wA (wA (wA s 4 (rI s 3) c) 5 (rI s 3) a) 6 (rI s 3) b) 7 (rI s 3) t) 8 (rI s 3) w) 9 (rI s 3) n) 14 (4 * rI s 3) 4 (fun _ => n)) 3 (rI s 3 + 1)
theorem flS_m {s : am_Z} {c a b t w n : Int} {j : Nat} {x : Int} (h : ¬ (4 ≤ j ∧ j ≤ 9 ∧ x = rI s 3) ∧ ¬ (j = 14 ∧ 4 * rI s 3 ≤ x ∧ x < 4 * rI s 3 + 4)) : rA (flightS s c a b t w n) j x = rA s j x := by
  unfold flightS; simp only [wI_A, wA_A, wB_A]
  rw [if_neg (by omega), if_neg (by omega), if_neg (by omega), if_neg (by omega), if_neg (by omega), if_neg (by omega), if_neg (by omega)]
theorem flS_14 {s : am_Z} {c a b t w n : Int} {x : Int} (h : 4 * rI s 3 ≤ x ∧ x < 4 * rI s 3 + 4) : rA (flightS s c a b t w n) 14 x = n := Eq.trans (wB_A _ 14 (4 * rI s 3) 4 (fun _ => n) 14 x) (if_pos ⟨rfl, h.1, by omega⟩)
theorem flS_n {s : am_Z} {c a b t w n : Int} : rA (flightS s c a b t w n) 4 (rI s 3) = c ∧ rA (flightS s c a b t w n) 5 (rI s 3) = a ∧ rA (flightS s c a b t w n) 6 (rI s 3) = b ∧ rA (flightS s c a b t w n) 7 (rI s 3) = t ∧ rA (flightS s c a b t w n) 8 (rI s 3) = w ∧ rA (flightS s c a b t w n) 9 (rI s 3) = n := by
  unfold flightS
  simp only [wI_A, wA_A, wB_A]
  refine ⟨?_, ?_, ?_, ?_, ?_, ?_⟩ <;> simp
theorem flS_I {s : am_Z} {c a b t w n : Int} {j : Nat} (h : j ≠ 3) : rI (flightS s c a b t w n) j = rI s j := if_neg h
theorem flS_3 {s : am_Z} {c a b t w n : Int} : rI (flightS s c a b t w n) 3 = rI s 3 + 1 := rfl
theorem flS_there {s : am_Z} {c a b t w n : Int} {f d : Int} : thereP (flightS s c a b t w n) f d ↔ thereP s f d := by
  unfold thereP
  rw [flS_m (j := 10) (by omega), flS_m (j := 11) (by omega), flS_m (j := 12) (by omega), flS_m (j := 13) (by omega)]
theorem CV_flight {q : am_A} {s : am_Z} {c a b t w n : Int} (V : am_CV q s) (Z : am_VG s) (hc : 0 ≤ c ∧ c ≤ 2) (ha : 0 ≤ a ∧ a ≤ 5) (hb : 0 ≤ b ∧ b ≤ 5) (ht : 0 ≤ t ∧ t ≤ 23) (hw : 1 ≤ w ∧ w ≤ 20) (hn : 1 ≤ n ∧ n ≤ 60) (h12 : rI s 3 ≤ 11) : am_CV (qAdd (flH q (rI s 3) c a b t w n (t - rA s 1 a)) (1802, 0) (4, qCN q 4)) (flightS s c a b t w n) := by
  have b3 := (CV_B V).2.1 3 0 12 rfl
  obtain ⟨v1, v2, v3, v4, v5, v6, v7, v8, v9, B⟩ := V
  obtain ⟨c4, c7, c8⟩ := v3.2.1
  have hN : ((qCN q 4 : Nat) : Int) = rI s 3 := by omega
  have G : am_GD (fun t i => ((t = 4 ∨ t = 1407 ∨ t = 1408) ∧ i = qCN q 4) ∨ t = 1802) q (qAdd (flH q (rI s 3) c a b t w n (t - rA s 1 a)) (1802, 0) (4, qCN q 4)) := GD_Add (GD_w (flH_G (by omega) (by omega)) (fun t i z => Or.inl z)) (Or.inr rfl)
  have cn : ∀ x : Nat, x ≠ 4 → x ≠ 1407 → x ≠ 1408 → qCN (qAdd (flH q (rI s 3) c a b t w n (t - rA s 1 a)) (1802, 0) (4, qCN q 4)) x = qCN q x := fun x h h7 h8 => by rw [qAdd_CN]; exact flH_cn h h7 h8
  have cn4 : qCN (qAdd (flH q (rI s 3) c a b t w n (t - rA s 1 a)) (1802, 0) (4, qCN q 4)) 4 = qCN q 4 + 1 := by rw [qAdd_CN]; exact flH_cn4
  have cn7 : qCN (qAdd (flH q (rI s 3) c a b t w n (t - rA s 1 a)) (1802, 0) (4, qCN q 4)) 1407 = qCN q 1407 + 1 := by rw [qAdd_CN]; exact flH_cn7
  have cn8 : qCN (qAdd (flH q (rI s 3) c a b t w n (t - rA s 1 a)) (1802, 0) (4, qCN q 4)) 1408 = qCN q 1408 + 1 := by rw [qAdd_CN]; exact flH_cn8
  have cnm : ∀ x : Nat, qCN q x ≤ qCN (qAdd (flH q (rI s 3) c a b t w n (t - rA s 1 a)) (1802, 0) (4, qCN q 4)) x := fun x => by
    by_cases h : x = 4
    · rw [h, cn4]; exact Nat.le_succ _
    · by_cases h7 : x = 1407
      · rw [h7, cn7]; exact Nat.le_succ _
      · by_cases h8 : x = 1408
        · rw [h8, cn8]; exact Nat.le_succ _
        · rw [cn x h h7 h8]; exact Nat.le_refl _
  have mm : ∀ j x, (j < 4 ∨ 9 < j) → j ≠ 14 → rA (flightS s c a b t w n) j x = rA s j x := fun j x h h14 => flS_m ⟨by omega, by omega⟩
  have hm : ∀ l, legP s l → legP (flightS s c a b t w n) l := fun l h => ⟨h.1, by rw [flS_3]; have := h.2.1; omega, h.2.2.1, flS_there.mpr h.2.2.2⟩
  have hO' : ∀ l, 0 ≤ l → l / 100 < rI s 3 → legO (qAdd (flH q (rI s 3) c a b t w n (t - rA s 1 a)) (1802, 0) (4, qCN q 4)) l = legO q l := fun l h0 h1 => legO_G G h0 h1 (fun i _ => by omega)
  have hO : ∀ l, legP s l → legO (qAdd (flH q (rI s 3) c a b t w n (t - rA s 1 a)) (1802, 0) (4, qCN q 4)) l = legO q l := fun l h => hO' l h.1 h.2.1
  have hB : in_S (flightS s c a b t w n) := by
    have B1 : in_S (wA (wA (wA (wA (wA (wA s 4 (rI s 3) c) 5 (rI s 3) a) 6 (rI s 3) b) 7 (rI s 3) t) 8 (rI s 3) w) 9 (rI s 3) n) := by
      refine in_S_A (in_S_A (in_S_A (in_S_A (in_S_A (in_S_A B ?_ ?_) ?_ ?_) ?_ ?_) ?_ ?_) ?_ ?_) ?_ ?_
      all_goals first | (intro lo hi h; cases h; omega) | (intro h; cases h)
    have B2 : in_S (wB (wA (wA (wA (wA (wA (wA s 4 (rI s 3) c) 5 (rI s 3) a) 6 (rI s 3) b) 7 (rI s 3) t) 8 (rI s 3) w) 9 (rI s 3) n) 14 (4 * rI s 3) 4 (fun _ => n)) := by
      refine ⟨fun j x lo hi h => ?_, B1.2.1, fun j x h => ?_⟩
      · rw [wB_A]
        split
        · rename_i hz
          rw [hz.1] at h
          cases h
          omega
        · exact B1.1 j x lo hi h
      · rw [wB_A]
        split
        · rename_i hz
          rw [hz.1] at h
          cases h
        · exact B1.2.2 j x h
    exact in_S_I B2 (fun lo hi h => by cases h; omega)
  have hF : ∀ f, f ≠ 409 → qFI (qAdd (flH q (rI s 3) c a b t w n (t - rA s 1 a)) (1802, 0) (4, qCN q 4)) f (4, qCN q 4) = (lkF f [(400, rI s 3), (401, c), (402, a), (403, b), (404, t), (405, w), (406, n)]).getD 0 := fun f hf => by
    rw [qAdd_FI]
    exact flH_I hf
  refine ⟨CT_G v1 G (by omega) (fun f _ => (G 6 0 (by omega)).2.1 f) (fun k c hk => (G k 0 (by have := cLen_r k c hk; omega)).2.2.2.2.1) cnm, CN_G v2 G (by omega) ⟨by omega, by omega, by omega, by omega⟩ (fun j x h => mm j x (by omega) (by omega)) (flS_I (by omega)) (flS_I (by omega)), ?_, ?_, ?_, ?_, ?_, ?_, ?_, hB⟩
  · refine ⟨?_, by rw [cn4, cn7, cn8, flS_3]; omega, fun i hi => ?_, fun i h5 h6 => ?_⟩
    · have hls : qLS (flH q (rI s 3) c a b t w n (t - rA s 1 a)) (1802, 0) = qLS q (1802, 0) := (flH_G (by omega) (by omega) 1802 0 (by omega)).2.2.2.2.2.1
      rw [qAdd_LS, flS_3, show (rI s 3 + 1).toNat = (rI s 3).toNat + 1 by omega, rng_s, hls, v3.1, show (rI s 3).toNat = qCN q 4 by omega]
    · rw [flS_3] at hi
      by_cases e : i = qCN q 4
      · have ei : (i : Int) = rI s 3 := by omega
        have z := Z.1 (i : Int) (by omega) (by omega)
        have sn := flS_n (s := s) (c := c) (a := a) (b := b) (t := t) (w := w) (n := n)
        rw [← ei] at sn
        have s10 : rA (flightS s c a b t w n) 10 i = 0 := (mm 10 _ (by omega) (by omega)).trans z.1
        have s15 : rA (flightS s c a b t w n) 15 i = -1 := (mm 15 _ (by omega) (by omega)).trans z.2.1
        have s16 : rA (flightS s c a b t w n) 16 i = 0 := (mm 16 _ (by omega) (by omega)).trans z.2.2
        have tb : am_all fFl (fun f j => f ≠ 409 ∧ (lkF f [(400, rI s 3), (401, c), (402, a), (403, b), (404, t), (405, w), (406, n)]).getD 0 = rA (flightS s c a b t w n) j i) := (am_nd_ok (am_nd_ok (am_nd_ok (am_lf_ok (⟨by decide, sn.1.symm⟩)) (am_lf_ok (⟨by decide, sn.2.1.symm⟩))) (am_nd_ok (am_lf_ok (⟨by decide, sn.2.2.1.symm⟩)) (am_lf_ok (⟨by decide, sn.2.2.2.1.symm⟩)))) (am_nd_ok (am_nd_ok (am_lf_ok (⟨by decide, sn.2.2.2.2.1.symm⟩)) (am_lf_ok (⟨by decide, sn.2.2.2.2.2.symm⟩))) (am_nd_ok (am_lf_ok (⟨by decide, s10.symm⟩)) (am_lf_ok (⟨by decide, s16.symm⟩)))))
        have e7 : qCN q 1407 = qCN q 4 := by omega
        have e8 : qCN q 1408 = qCN q 4 := by omega
        have ei4 : ((qCN q 4 : Nat) : Int) = rI s 3 := hN
        subst e
        have f7 : qFR (qAdd (flH q (rI s 3) c a b t w n (t - rA s 1 a)) (1802, 0) (4, qCN q 4)) 407 (4, qCN q 4) = some (1407, qCN q 4) := by rw [qAdd_FR, flH_407, e7]
        have f8 : qFR (qAdd (flH q (rI s 3) c a b t w n (t - rA s 1 a)) (1802, 0) (4, qCN q 4)) 408 (4, qCN q 4) = some (1408, qCN q 4) := by rw [qAdd_FR, flH_408, e8]
        have f11 : qFR (qAdd (flH q (rI s 3) c a b t w n (t - rA s 1 a)) (1802, 0) (4, qCN q 4)) 411 (4, qCN q 4) = none := by rw [qAdd_FR, flH_411]
        have l7 : qAL (qAdd (flH q (rI s 3) c a b t w n (t - rA s 1 a)) (1802, 0) (4, qCN q 4)) (1407, qCN q 4) = 4 := by rw [qAdd_AL, ← e7]; exact flH_l7
        have l8 : qAL (qAdd (flH q (rI s 3) c a b t w n (t - rA s 1 a)) (1802, 0) (4, qCN q 4)) (1408, qCN q 4) = 61 := by rw [qAdd_AL, ← e8]; exact flH_l8
        have i7 : ∀ k, k < 4 → qAI (qAdd (flH q (rI s 3) c a b t w n (t - rA s 1 a)) (1802, 0) (4, qCN q 4)) (1407, qCN q 4) k = n := fun k hk => by rw [qAdd_AI, ← e7]; exact flH_ai hk
        have f9 : qFI (qAdd (flH q (rI s 3) c a b t w n (t - rA s 1 a)) (1802, 0) (4, qCN q 4)) 409 (4, qCN q 4) = t - rA s 1 a := by rw [qAdd_FI]; exact flH_409
        refine ⟨fun f j hj => ?_, (hF 400 (by omega)).trans ei4.symm, ?_, f7, f8, ?_, l7, l8, fun b1 g1 g2 => ?_⟩
        · have y := tb f j hj
          rw [hF f y.1]
          exact y.2
        · rw [f9, sn.2.2.2.1, sn.2.1, mm 1 a (by omega) (by omega)]
        · rw [f11, s15, if_pos rfl]
        · rw [i7 _ (by omega), flS_14 (by omega)]
      · have hi2 : (i : Int) < rI s 3 := by omega
        exact Fl_G (v3.2.2.1 i hi2) G ⟨by omega, by omega⟩ ((G 1408 i (by omega)).2.2.2.2.1) (fun x => mm 1 x (by omega) (by omega)) (fun j _ _ h14 => flS_m ⟨by omega, by omega⟩) (fun b1 g1 g2 => flS_m ⟨by omega, by omega⟩)
    · rw [flS_3] at h6 ⊢
      rw [mm 15 _ (by omega) (by omega)]
      by_cases e : i = rI s 3
      · rw [(Z.1 i (by omega) (by omega)).2.1]
        omega
      · have := v3.2.2.2 i h5 (by omega)
        omega
  · constructor
    · intro l hl
      have hth := flS_there.mp hl.2.2.2
      have h3 := hl.2.1
      rw [flS_3] at h3
      by_cases e : l / 100 = rI s 3
      · exact absurd (Z.1 (l / 100) (by omega) (by omega)).1 hth.1
      · have hl2 : legP s l := ⟨hl.1, by omega, hl.2.2.1, hth⟩
        have e5 : rA (flightS s c a b t w n) 5 (l / 100) = rA s 5 (l / 100) := flS_m ⟨by omega, by omega⟩
        have ed : dep (flightS s c a b t w n) l = dep s l := by
          unfold dep
          rw [e5, flS_m (j := 7) ⟨by omega, by omega⟩, mm 1 _ (by omega) (by omega), mm 17 _ (by omega) (by omega)]
        exact Lg_G (v4.1 l hl2) G (hO l hl2) (fun j _ => by omega) (cnm 5) ed (flS_m ⟨by omega, by omega⟩) (fun j hj => mm j _ (by omega) (by omega))
    · intro l h1 h2 h3 h4
      rw [flS_3] at h2
      by_cases e : l / 100 = rI s 3
      · unfold legO
        rw [qAdd_AR, show (l / 100).toNat = qCN q 1408 by omega]
        exact flH_ar
      · rw [hO' l h1 (by omega)]
        exact v4.2 l h1 (by omega) h3 (fun z => h4 (flS_there.mpr z))
  · exact CA_G v5 G (by omega) (fun i _ => by omega) (cn 3 (by omega) (by omega) (by omega)) (fun j x h => mm j x (by omega) (by omega)) (flS_I (by omega))
  · exact LL_G v6 G (by omega) hO hm (flS_I (by omega)) (fun k _ _ => mm 34 _ (by omega) (by omega))
  · exact CB_G v7 G (by omega) (fun b _ => ⟨by omega, by omega, by omega, by omega⟩) (fun j _ => by omega) cnm hO hm (fun j x h => mm j x (by omega) (by omega)) (flS_I (by omega))
  · exact CW_G v8 G (by omega) (fun w _ => ⟨by omega, by omega⟩) cnm hO hm (fun j x h => mm j x (by omega) (by omega)) (flS_I (by omega))
  · have hls : qLS (flH q (rI s 3) c a b t w n (t - rA s 1 a)) (1802, 0) = qLS q (1802, 0) := (flH_G (by omega) (by omega) 1802 0 (by omega)).2.2.2.2.2.1
    have hle : (qLS q (1802, 0)).length = (rI s 3).toNat := by rw [v3.1, rng_l]
    have hcp : am_CP (flH q (rI s 3) c a b t w n (t - rA s 1 a)) := fun k' hk' => by
      rw [(flH_G (by omega) (by omega) k' 0 (by have := cLst_r k' () hk'; omega)).2.2.2.2.2.2]
      exact v9 k' hk'
    exact CP_add hcp (by rw [hls]; omega) rfl
theorem CI_flight {q : am_A} {s : am_Z} {e : Nat} {c a b t w n : Int} (I : am_CI e q s) (Z : am_VG s) (hc : 0 ≤ c ∧ c ≤ 2) (ha : 0 ≤ a ∧ a ≤ 5) (hb : 0 ≤ b ∧ b ≤ 5) (ht : 0 ≤ t ∧ t ≤ 23) (hw : 1 ≤ w ∧ w ≤ 20) (hn : 1 ≤ n ∧ n ≤ 60) (h12 : rI s 3 ≤ 11) (hl : (qLS q (1802, 0)).length ≤ qCP q (1802, 0)) : am_CI e (qAdd (flH q (rI s 3) c a b t w n (t - rA s 1 a)) (1802, 0) (4, qCN q 4)) (flightS s c a b t w n) := by
  have b3 := (CV_B I.1).2.1 3 0 12 rfl
  refine ⟨CV_flight I.1 Z hc ha hb ht hw hn h12, CX_G I.2.1 (fun x h => by rw [qAdd_CN]; exact flH_cn (by omega) (by omega) (by omega)) (fun x i h => (qAdd_CPn (fun z => by have := congrArg Prod.fst z; simp only at this; omega)).trans (flH_G (by have := I.1.2.2.1.2.1; omega) (by have := I.1.2.2.1.2.1; omega) x i (by omega)).2.2.2.2.2.2) (fun x => flS_m ⟨by omega, by omega⟩) ?_ ⟨rfl, rfl⟩, ?_⟩
  · rw [flS_3, show (rI s 3 + 1).toNat = (rI s 3).toNat + 1 by omega, sumI_s, flS_m (j := 10) ⟨by omega, by omega⟩, (Z.1 (0 + ((rI s 3).toNat : Int)) (by omega) (by omega)).1, Int.add_zero]
    exact sumI_c (fun i _ _ => flS_m ⟨by omega, by omega⟩)
  · have cc := I.1.2.2.1.2.1
    have hls : qLS (flH q (rI s 3) c a b t w n (t - rA s 1 a)) (1802, 0) = qLS q (1802, 0) := (flH_G (by omega) (by omega) 1802 0 (by omega)).2.2.2.2.2.1
    have hcp : qCP (flH q (rI s 3) c a b t w n (t - rA s 1 a)) (1802, 0) = qCP q (1802, 0) := (flH_G (by omega) (by omega) 1802 0 (by omega)).2.2.2.2.2.2
    have hle : (qLS q (1802, 0)).length = (rI s 3).toNat := by rw [I.1.2.2.1.1, rng_l]
    exact RM_Add (flH_RM I.2.2) (Or.inl ⟨rfl, Or.inl rfl⟩) (by rw [hls]; omega) (by rw [hls, hcp]; exact hl)
theorem CG_flight {q : am_A} {s : am_Z} {c a b t w n : Int} : am_CG q (qAdd (flH q (rI s 3) c a b t w n (t - rA s 1 a)) (1802, 0) (4, qCN q 4)) := CG_Add flH_CG (by show cK 1802; omega)
theorem co_flight {d e : Nat} {q : am_A} {s : am_Z} (I : am_CI e q s) (Z : am_VG s) {c a b t w n : Int} (hc : in32 c) (ha : in32 a) (hb : in32 b) (ht : in32 t) (hw : in32 w) (hn : in32 n) : am_C2 (d + 6) m_X_flight [aR 8 0, aI (zI c), aI (zI a), aI (zI b), aI (zI t), aI (zI w), aI (zI n)] q (am_OP e (kFlight s c a b t w n) kd3 (some (aI (zI (rI s 3)))) q (if kFlight s c a b t w n = 0 then flightS s c a b t w n else s)) := by
  have b3 := (CV_B I.1).2.1 3 0 12 rfl
  refine am_C2_imp (cs_flight (d := d) I.1 hc ha hb ht hw hn) (fun o q' h => OP_of I (fun _ => kd3_b) h (fun h0 hq => ?_) (fun h => if_neg h))
  rw [if_pos h0]
  unfold kFlight at h0
  obtain ⟨rfl, hq2⟩ := hq
  exact ⟨CI_le (CI_flight I Z (by omega) (by omega) (by omega) (by omega) (by omega) (by omega) (by omega) hq2) (Nat.le_succ e), CG_flight⟩
end

noncomputable section
/-- the first n elements of an array of numbers are set -/
def uAj (q : am_A) (r : am_R) (f : Nat → Int) (n : Nat) : am_A := (qFI q, qFR q, fun r' => if r' = r then (fun k => if k < n then f k else qAI q r k) else qAI q r', q.2.2.2)
theorem uAj_0 (q : am_A) (r : am_R) (f : Nat → Int) : uAj q r f 0 = q := by
  have e : (fun r' => if r' = r then (fun k => if k < 0 then f k else qAI q r k) else qAI q r') = qAI q := by
    funext r' k
    split
    · rename_i h; rw [h]; exact if_neg (Nat.not_lt_zero k)
    · rfl
  unfold uAj
  rw [e]
  rfl
theorem uAj_s (q : am_A) (r : am_R) (f : Nat → Int) (n : Nat) : uAI (uAj q r f n) r n (f n) = uAj q r f (n + 1) := by
  have e : am_u2 (qAI (uAj q r f n)) r n (f n) = (fun r' => if r' = r then (fun k => if k < n + 1 then f k else qAI q r k) else qAI q r') := by
    funext r' k
    show (if r' = r ∧ k = n then f n else (if r' = r then (fun k => if k < n then f k else qAI q r k) else qAI q r') k) = _
    by_cases hr : r' = r
    · rw [if_pos hr, if_pos hr]
      by_cases hk : k = n
      · rw [if_pos ⟨hr, hk⟩, hk]
        exact (if_pos (Nat.lt_succ_self n)).symm
      · rw [if_neg (fun z => hk z.2)]
        by_cases hk2 : k < n
        · exact (if_pos hk2).trans (if_pos (by omega)).symm
        · exact (if_neg hk2).trans (if_neg (by omega)).symm
    · rw [if_neg (fun z => hr z.1), if_neg hr, if_neg hr]
  unfold uAI
  rw [e]
  rfl
theorem uAj_g {q : am_A} {r : am_R} {f : Nat → Int} {n k : Nat} : qAI (uAj q r f n) r k = if k < n then f k else qAI q r k := congrFun (if_pos rfl) k
theorem GD_Aj {q q' : am_A} {D : Nat → Nat → Prop} (G : am_GD D q q') {t i n : Nat} {f : Nat → Int} (h : D t i) : am_GD D q (uAj q' (t, i) f n) := GD_t G (fun t' i' hr => ⟨fun _ => rfl, fun _ => rfl, fun k => congrFun (if_neg (GD_ne h hr)) k, fun _ => rfl, rfl, rfl, rfl⟩)
theorem RM_Aj {q : am_A} {e n : Nat} {r : am_R} {f : Nat → Int} (h : am_RM e q) : am_RM e (uAj q r f n) := h
theorem CG_Aj {q q' : am_A} (G : am_CG q q') {r : am_R} {n : Nat} {f : Nat → Int} (h : cK r.1) : am_CG q (uAj q' r f n) := ⟨CY_t G.1 ⟨fun r' hr => ⟨fun _ => rfl, fun _ => rfl, fun k => congrFun (if_neg (cK_ne h hr)) k, fun _ => rfl, fun _ => rfl, fun _ => rfl, rfl, rfl, rfl⟩, fun _ _ => rfl⟩, FP_e G.2 rfl⟩
theorem rng_s (n t : Nat) : rng (n + 1) t = rng n t ++ [(t, n)] := by simp [rng, List.range_succ]
/-- an add, and the class's counts -/
theorem CX_G {q q' : am_A} {s s' : am_Z} (X : am_CX q s) (h1 : ∀ t, (t = 0 ∨ t = 1 ∨ t = 5 ∨ t = 7 ∨ t = 1003 ∨ t = 1004 ∨ t = 1005 ∨ t = 1702) → qCN q' t = qCN q t) (h2 : ∀ t i, t = 1003 ∨ t = 1702 → qCP q' (t, i) = qCP q (t, i)) (m : ∀ x, rA s' 52 x = rA s 52 x) (m5 : sumI 0 (rI s' 3).toNat (rA s' 10) = sumI 0 (rI s 3).toNat (rA s 10)) (n : rI s' 44 = rI s 44 ∧ rI s' 61 = rI s 61) : am_CX q' s' := by
  obtain ⟨⟨a1, a2, a3, a4⟩, ⟨b1, b2⟩, c1, c2, d1, d2, d3⟩ := X
  unfold am_CX
  rw [n.1, n.2, show rA s' 52 = rA s 52 from funext m, m5, h1 0 (by omega), h1 1003 (by omega), h1 1004 (by omega), h1 1005 (by omega), h1 7 (by omega), h1 1702 (by omega), h1 1 (by omega), h1 5 (by omega)]
  exact ⟨⟨a1, a2, a3, a4⟩, ⟨b1, b2⟩, c1, c2, fun b hb => (h2 1003 b (by omega)).trans (d1 b hb), fun w hw => (h2 1702 w (by omega)).trans (d2 w hw), fun b => by rw [h2 1003 b (by omega)]; exact d3 b⟩
theorem CP_add {q : am_A} (h : am_CP q) {k : Nat} {v : am_R} (hl : (qLS q (k, 0)).length ≤ 40) (hk : cLst k = some ()) : am_CP (qAdd q (k, 0) v) := fun k' hk' => by
  by_cases e : k' = k
  · subst e
    exact qAdd_CP hl (h k' hk')
  · rw [qAdd_CPn (fun z => e (congrArg Prod.fst z))]
    exact h k' hk'
theorem cs_Fa_init {d : Nat} {q : am_A} {i : Nat} {n c a b k v : Int} : am_C2 d m_Fa_init [aR 3 i, aI (zI n), aI (zI c), aI (zI a), aI (zI b), aI (zI k), aI (zI v)] q (fun o q' => o = .inl none ∧ q' = uFs q (3, i) [(306, -1), (307, 61), (312, 50), (300, n), (301, c), (302, a), (303, b), (304, k), (305, v)]) := by
  refine am_C2_i (ls := [some (aR 3 i), some (aI (zI n)), some (aI (zI c)), some (aI (zI a)), some (aI (zI b)), some (aI (zI k)), some (aI (zI v))]) rfl ?_
  refine ar_aload_n rfl rfl ?_
  refine ar_objinit rfl rfl rfl rfl (Nat.le_of_ble_eq_true rfl) ?_
  refine ar_aload_n rfl rfl ?_
  refine ar_iconst rfl ?_
  refine ar_pfI rfl rfl rfl rfl (by omega) (Or.inl rfl) ?_
  refine ar_aload_n rfl rfl ?_
  refine ar_bipush (x := 61) rfl rfl ?_
  refine ar_pfI rfl rfl rfl rfl (by omega) (Or.inl rfl) ?_
  refine ar_aload_n rfl rfl ?_
  refine ar_bipush (x := 50) rfl rfl ?_
  refine ar_pfI rfl rfl rfl rfl (by omega) (Or.inl rfl) ?_
  refine ar_aload_n rfl rfl ?_
  refine ar_iload_n rfl rfl ?_
  refine ar_pfI rfl rfl rfl rfl (by omega) (Or.inl rfl) ?_
  refine ar_aload_n rfl rfl ?_
  refine ar_iload_n rfl rfl ?_
  refine ar_pfI rfl rfl rfl rfl (by omega) (Or.inl rfl) ?_
  refine ar_aload_n rfl rfl ?_
  refine ar_iload_n rfl rfl ?_
  refine ar_pfI rfl rfl rfl rfl (by omega) (Or.inl rfl) ?_
  refine ar_aload_n rfl rfl ?_
  refine ar_iload rfl rfl ?_
  refine ar_pfI rfl rfl rfl rfl (by omega) (Or.inl rfl) ?_
  refine ar_aload_n rfl rfl ?_
  refine ar_iload rfl rfl ?_
  refine ar_pfI rfl rfl rfl rfl (by omega) (Or.inl rfl) ?_
  refine ar_aload_n rfl rfl ?_
  refine ar_iload rfl rfl ?_
  refine ar_pfI rfl rfl rfl rfl (by omega) (Or.inl rfl) ?_
  exact ar_ret rfl rfl (⟨rfl, rfl⟩)
theorem cs_fare {d : Nat} {q : am_A} {s : am_Z} (V : am_CV q s) {c a b k v : Int} (hc : in32 c) (ha : in32 a) (hb : in32 b) (hk : in32 k) (hv : in32 v) : am_C2 (d + 6) m_X_fare [aR 8 0, aI (zI c), aI (zI a), aI (zI b), aI (zI k), aI (zI v)] q (am_OK (kFare s c a b k v) kd3 (some (aI (zI (rI s 20)))) q (fun q2 => q2 = qAdd (uFs (uNO q 3 13) (3, qCN q 3) [(306, -1), (307, 61), (312, 50), (300, rI s 20), (301, c), (302, a), (303, b), (304, k), (305, v)]) (1803, 0) (3, qCN q 3) ∧ (qLS q (1803, 0)).length ≤ qCP q (1803, 0))) := by
  refine am_C2_i (ls := [some (aR 8 0), some (aI (zI c)), some (aI (zI a)), some (aI (zI b)), some (aI (zI k)), some (aI (zI v)), none]) rfl ?_
  have b20 := (CV_B V).2.1 20 0 16 rfl
  refine ar_iload_n rfl rfl ?_
  refine ar_iconst rfl ?_
  refine ar_cs2 rfl rfl (Nat.le_of_ble_eq_true rfl) (cs_needIndexOrNone (d := 0) (by omega) (by omega)) (by omega) (fun o q2 hq => am_B2_T rfl (fun h2 => ?_) (fun h2 => ?_) hq)
  · refine ar_iload_n rfl rfl ?_
    refine ar_bipush (x := 6) rfl rfl ?_
    refine ar_cs2 rfl rfl (Nat.le_of_ble_eq_true rfl) (cs_needIndex (d := 0) (by omega) (by omega)) (by omega) (fun o q8 hq => am_B2_T rfl (fun h8 => ?_) (fun h8 => ?_) hq)
    · refine ar_iload_n rfl rfl ?_
      refine ar_bipush (x := 6) rfl rfl ?_
      refine ar_cs2 rfl rfl (Nat.le_of_ble_eq_true rfl) (cs_needIndex (d := 0) (by omega) (by omega)) (by omega) (fun o q14 hq => am_B2_T rfl (fun h14 => ?_) (fun h14 => ?_) hq)
      · refine ar_iload rfl rfl ?_
        refine ar_iconst rfl ?_
        refine ar_cs2 rfl rfl (Nat.le_of_ble_eq_true rfl) (cs_needIndex (d := 0) (by omega) (by omega)) (by omega) (fun o q20 hq => am_B2_T rfl (fun h20 => ?_) (fun h20 => ?_) hq)
        · refine cq_join (pc' := 33) (V := if a = b then 0 else 1) ?_ (fun K33 => ?_)
          · refine ar_cs1 rfl rfl (Nat.le_of_ble_eq_true rfl) (cs_needArgument (d := 0) (by omega)) (by omega) (fun o q33 hq => am_B2_T rfl (fun h33 => ?_) (fun h33 => ?_) hq)
            · refine ar_iload rfl rfl ?_
              refine ar_iconst rfl ?_
              refine ar_sipush (x := 5000) rfl rfl ?_
              refine ar_cs3 rfl rfl (Nat.le_of_ble_eq_true rfl) (cs_needRange (d := 0) (by omega) (by omega) (by omega)) (by omega) (fun o q42 hq => am_B2_T rfl (fun h42 => ?_) (fun h42 => ?_) hq)
              · refine cq_join (pc' := 62) (V := if rI s 20 < 16 then 1 else 0) ?_ (fun K62 => ?_)
                · refine ar_cs1 rfl rfl (Nat.le_of_ble_eq_true rfl) (cs_needState (d := 0) (by omega)) (by omega) (fun o q62 hq => am_B2_T rfl (fun h62 => ?_) (fun h62 => ?_) hq)
                  · refine ar_aload_n rfl rfl ?_
                    refine ar_gfR rfl rfl rfl (by omega) (V.1.1 803 _ rfl) ?_
                    refine ar_cv0 rfl rfl rfl (Nat.le_of_ble_eq_true rfl) (cl_szA (d := 0) V) (by omega) (fun o q69 hq => am_B2_is ?_ hq)
                    refine ar_stI6 rfl ?_
                    refine ar_aload_n rfl rfl ?_
                    refine ar_gfR rfl rfl rfl (by omega) (V.1.1 803 _ rfl) ?_
                    refine ar_new (kt := 3) rfl (by intro z; cases z) (by omega) ?_
                    refine ar_dup rfl rfl ?_
                    refine ar_iload rfl rfl ?_
                    refine ar_iload_n rfl rfl ?_
                    refine ar_iload_n rfl rfl ?_
                    refine ar_iload_n rfl rfl ?_
                    refine ar_iload rfl rfl ?_
                    refine ar_iload rfl rfl ?_
                    refine ar_cv6 rfl rfl rfl (Nat.le_of_ble_eq_true rfl) (cs_Fa_init (d := 0)) (by omega) (fun o q91 hq => ?_)
                    obtain ⟨rfl, rfl⟩ := hq
                    refine ar_cv1 rfl rfl rfl (Nat.le_of_ble_eq_true rfl) (sq_addL (d := 0) rfl (by omega) (V.1.2.2.2 1803 rfl) (Nat.le_trans (V.2.2.2.2.2.2.2.2.1 1803 rfl) (by omega)) ⟨rfl, by omega⟩) (by omega) (fun o q94 hq => ?_)
                    obtain ⟨rfl, rfl, hc94⟩ := hq
                    refine ar_pop rfl rfl ?_
                    refine ar_iload rfl rfl ?_
                    exact ar_iret rfl (Or.inl rfl) (⟨fun _ => ⟨rfl, ⟨rfl, hc94⟩⟩, fun z => absurd (by unfold kFare; omega) z⟩)
                  · exact ⟨fun z => absurd z (by unfold kFare; omega), fun _ => by { rw [show kFare s c a b k v = 3 from by { unfold kFare; omega }]; exact ⟨rfl, rfl⟩ }⟩
                · refine ar_aload_n rfl rfl ?_
                  refine ar_gfR rfl rfl rfl (by omega) (V.1.1 803 _ rfl) ?_
                  refine ar_cv0 rfl rfl rfl (Nat.le_of_ble_eq_true rfl) (cl_szA (d := 0) V) (by omega) (fun o q49 hq => am_B2_is ?_ hq)
                  refine ar_bipush (x := 16) rfl rfl ?_
                  refine ar_icmp_ge rfl rfl (by omega) (by omega) (fun h54 => ?_) (fun h54 => ?_)
                  · refine ar_iconst rfl ?_
                    exact K62 _ (by first | (rw [if_pos (by omega)]) | (rw [if_neg (by omega)]))
                  · refine ar_iconst rfl ?_
                    refine ar_goto rfl rfl ?_
                    exact K62 _ (by first | (rw [if_pos (by omega)]) | (rw [if_neg (by omega)]))
              · exact ⟨fun z => absurd z (by unfold kFare; omega), fun _ => by { rw [show kFare s c a b k v = 2 from by { unfold kFare; omega }]; exact ⟨rfl, rfl⟩ }⟩
            · exact ⟨fun z => absurd z (by unfold kFare; omega), fun _ => by { rw [show kFare s c a b k v = 2 from by { unfold kFare; omega }]; exact ⟨rfl, rfl⟩ }⟩
          · refine ar_iload_n rfl rfl ?_
            refine ar_iload_n rfl rfl ?_
            refine ar_icmp_eq rfl rfl (by omega) (by omega) (fun h25 => ?_) (fun h25 => ?_)
            · refine ar_iconst rfl ?_
              exact K33 _ (by first | (rw [if_pos (by omega)]) | (rw [if_neg (by omega)]))
            · refine ar_iconst rfl ?_
              refine ar_goto rfl rfl ?_
              exact K33 _ (by first | (rw [if_pos (by omega)]) | (rw [if_neg (by omega)]))
        · exact ⟨fun z => absurd z (by unfold kFare; omega), fun _ => by { rw [show kFare s c a b k v = 1 from by { unfold kFare; omega }]; exact ⟨rfl, rfl⟩ }⟩
      · exact ⟨fun z => absurd z (by unfold kFare; omega), fun _ => by { rw [show kFare s c a b k v = 1 from by { unfold kFare; omega }]; exact ⟨rfl, rfl⟩ }⟩
    · exact ⟨fun z => absurd z (by unfold kFare; omega), fun _ => by { rw [show kFare s c a b k v = 1 from by { unfold kFare; omega }]; exact ⟨rfl, rfl⟩ }⟩
  · exact ⟨fun z => absurd z (by unfold kFare; omega), fun _ => by { rw [show kFare s c a b k v = 1 from by { unfold kFare; omega }]; exact ⟨rfl, rfl⟩ }⟩
def fareS (s : am_Z) (c a b k v : Int) : am_Z := wI (wA (wA (wA (wA (wA (wA (wA (wA s 21 (rI s 20) c) 22 (rI s 20) a) 23 (rI s 20) b) 24 (rI s 20) k) 25 (rI s 20) v) 26 (rI s 20) (-1)) 27 (rI s 20) 61) 32 (rI s 20) 50) 20 (rI s 20 + 1)
theorem CV_fare {q : am_A} {s : am_Z} {c a b k v : Int} (V : am_CV q s) (Z : am_VG s) (hc : -1 ≤ c ∧ c ≤ 2) (ha : 0 ≤ a ∧ a ≤ 5) (hb : 0 ≤ b ∧ b ≤ 5) (hk : 0 ≤ k ∧ k ≤ 3) (hv : 1 ≤ v ∧ v ≤ 5000) (hn : rI s 20 ≤ 15) : am_CV (qAdd (uFs (uNO q 3 13) (3, qCN q 3) [(306, -1), (307, 61), (312, 50), (300, rI s 20), (301, c), (302, a), (303, b), (304, k), (305, v)]) (1803, 0) (3, qCN q 3)) (fareS s c a b k v) := by
  have b20 := (CV_B V).2.1 20 0 16 rfl
  have hN : ((qCN q 3 : Nat) : Int) = rI s 20 := by have := V.2.2.2.2.1.2.1; omega
  have hq3 : qCN q 3 = (rI s 20).toNat := by omega
  have G : am_GD (fun t i => (t = 3 ∧ i = qCN q 3) ∨ t = 1803) q (qAdd (uFs (uNO q 3 13) (3, qCN q 3) [(306, -1), (307, 61), (312, 50), (300, rI s 20), (301, c), (302, a), (303, b), (304, k), (305, v)]) (1803, 0) (3, qCN q 3)) := GD_Add (GD_Fs (GD_NO GD_r (Or.inl ⟨rfl, rfl⟩)) (Or.inl ⟨rfl, rfl⟩)) (Or.inr rfl)
  have cn : ∀ t, t ≠ 3 → qCN (qAdd (uFs (uNO q 3 13) (3, qCN q 3) [(306, -1), (307, 61), (312, 50), (300, rI s 20), (301, c), (302, a), (303, b), (304, k), (305, v)]) (1803, 0) (3, qCN q 3)) t = qCN q t := fun t h => (congrFun qAdd_CN t).trans (if_neg h)
  have cn3 : qCN (qAdd (uFs (uNO q 3 13) (3, qCN q 3) [(306, -1), (307, 61), (312, 50), (300, rI s 20), (301, c), (302, a), (303, b), (304, k), (305, v)]) (1803, 0) (3, qCN q 3)) 3 = qCN q 3 + 1 := (congrFun qAdd_CN 3).trans rfl
  have cnm : ∀ t, qCN q t ≤ qCN (qAdd (uFs (uNO q 3 13) (3, qCN q 3) [(306, -1), (307, 61), (312, 50), (300, rI s 20), (301, c), (302, a), (303, b), (304, k), (305, v)]) (1803, 0) (3, qCN q 3)) t := fun t => by
    by_cases h : t = 3
    · rw [h, cn3]; exact Nat.le_succ _
    · rw [cn t h]; exact Nat.le_refl _
  have mm : ∀ j x, (j < 21 ∨ 32 < j) → rA (fareS s c a b k v) j x = rA s j x := fun j x h => by
    unfold fareS
    simp only [wI_A, wA_A]
    rw [if_neg (by omega), if_neg (by omega), if_neg (by omega), if_neg (by omega), if_neg (by omega), if_neg (by omega), if_neg (by omega), if_neg (by omega)]
  have mx : ∀ j x, x ≠ rI s 20 → rA (fareS s c a b k v) j x = rA s j x := fun j x h => by
    unfold fareS
    simp only [wI_A, wA_A]
    rw [if_neg (by omega), if_neg (by omega), if_neg (by omega), if_neg (by omega), if_neg (by omega), if_neg (by omega), if_neg (by omega), if_neg (by omega)]
  have nn : ∀ j, j ≠ 20 → rI (fareS s c a b k v) j = rI s j := fun j h => if_neg h
  have n20 : rI (fareS s c a b k v) 20 = rI s 20 + 1 := rfl
  obtain ⟨v1, v2, v3, v4, v5, v6, v7, v8, v9, B⟩ := V
  have hm : ∀ l, legP s l → legP (fareS s c a b k v) l := fun l h => (legP_cg (fun j x hj => mm j x (by omega)) (nn 3 (by omega))).mpr h
  have hO : ∀ l, legP s l → legO (qAdd (uFs (uNO q 3 13) (3, qCN q 3) [(306, -1), (307, 61), (312, 50), (300, rI s 20), (301, c), (302, a), (303, b), (304, k), (305, v)]) (1803, 0) (3, qCN q 3)) l = legO q l := fun l h => legO_G G h.1 h.2.1 (fun i _ => by omega)
  have hB : in_S (fareS s c a b k v) := by
    unfold fareS
    refine in_S_I (in_S_A (in_S_A (in_S_A (in_S_A (in_S_A (in_S_A (in_S_A (in_S_A B ?_ ?_) ?_ ?_) ?_ ?_) ?_ ?_) ?_ ?_) ?_ ?_) ?_ ?_) ?_ ?_) ?_
    all_goals first | (intro lo hi h; cases h; omega) | (intro h; cases h)
  refine ⟨CT_G v1 G (by omega) (fun f _ => (G 6 0 (by omega)).2.1 f) (fun k c hk => (G k 0 (by have := cLen_r k c hk; omega)).2.2.2.2.1) cnm, CN_G v2 G (by omega) ⟨by omega, by omega, by omega, by omega⟩ (fun j x h => mm j x (by omega)) (nn 0 (by omega)) (nn 68 (by omega)), ?_, ?_, ?_, ?_, ?_, ?_, ?_, hB⟩
  · exact CF_G v3 G (by omega) (fun i _ => ⟨by omega, by omega⟩) (fun i _ => (G 1408 i (by omega)).2.2.2.2.1) (fun t h => cn t (by omega)) (fun j x h => mm j x (by omega)) (nn 3 (by omega))
  · exact CL_G v4 G (fun i _ => by omega) (fun j _ => by omega) (cnm 5) (fun j x h => mm j x (by omega)) (nn 3 (by omega))
  · refine ⟨?_, by rw [cn3, n20, hq3]; omega, fun i hi => ?_⟩
    · rw [qAdd_LS, n20, show (rI s 20 + 1).toNat = (rI s 20).toNat + 1 by omega, rng_s, ← hq3]
      exact congrArg (· ++ [(3, qCN q 3)]) (v5.1.trans (by rw [hq3]))
    · rw [n20] at hi
      by_cases e : i = qCN q 3
      · have z := Z.2.2.1 (i : Int) (by omega)
        have ei : (i : Int) = rI s 20 := by omega
        have hf : ∀ f, qFI (qAdd (uFs (uNO q 3 13) (3, qCN q 3) [(306, -1), (307, 61), (312, 50), (300, rI s 20), (301, c), (302, a), (303, b), (304, k), (305, v)]) (1803, 0) (3, qCN q 3)) f (3, i) = (lkF f [(306, -1), (307, 61), (312, 50), (300, rI s 20), (301, c), (302, a), (303, b), (304, k), (305, v)]).getD 0 := fun f => by
          rw [qAdd_FI, e, uFs_eq]
          exact congrArg (fun y => (lkF f [(306, -1), (307, 61), (312, 50), (300, rI s 20), (301, c), (302, a), (303, b), (304, k), (305, v)]).getD y) (if_pos rfl)
        refine ⟨fun f j hj => ?_, ?_⟩
        · rw [hf]
          have e21 : rA (fareS s c a b k v) 21 i = c := by rw [ei]; unfold fareS; simp only [wI_A, wA_A]; simp
          have e22 : rA (fareS s c a b k v) 22 i = a := by rw [ei]; unfold fareS; simp only [wI_A, wA_A]; simp
          have e23 : rA (fareS s c a b k v) 23 i = b := by rw [ei]; unfold fareS; simp only [wI_A, wA_A]; simp
          have e24 : rA (fareS s c a b k v) 24 i = k := by rw [ei]; unfold fareS; simp only [wI_A, wA_A]; simp
          have e25 : rA (fareS s c a b k v) 25 i = v := by rw [ei]; unfold fareS; simp only [wI_A, wA_A]; simp
          have e26 : rA (fareS s c a b k v) 26 i = -1 := by rw [ei]; unfold fareS; simp only [wI_A, wA_A]; simp
          have e27 : rA (fareS s c a b k v) 27 i = 61 := by rw [ei]; unfold fareS; simp only [wI_A, wA_A]; simp
          have e32 : rA (fareS s c a b k v) 32 i = 50 := by rw [ei]; unfold fareS; simp only [wI_A, wA_A]; simp
          have e28 : rA (fareS s c a b k v) 28 i = 0 := by rw [← z.1]; unfold fareS; simp only [wI_A, wA_A]; simp
          have e29 : rA (fareS s c a b k v) 29 i = 0 := by rw [← z.2.1]; unfold fareS; simp only [wI_A, wA_A]; simp
          have e30 : rA (fareS s c a b k v) 30 i = 0 := by rw [← z.2.2.1]; unfold fareS; simp only [wI_A, wA_A]; simp
          have e31 : rA (fareS s c a b k v) 31 i = 0 := by rw [← z.2.2.2]; unfold fareS; simp only [wI_A, wA_A]; simp
          exact ((am_nd_ok (am_nd_ok (am_nd_ok (am_lf_ok (e21.symm)) (am_nd_ok (am_lf_ok (e22.symm)) (am_lf_ok (e23.symm)))) (am_nd_ok (am_lf_ok (e24.symm)) (am_nd_ok (am_lf_ok (e25.symm)) (am_lf_ok (e26.symm))))) (am_nd_ok (am_nd_ok (am_lf_ok (e27.symm)) (am_nd_ok (am_lf_ok (e28.symm)) (am_lf_ok (e29.symm)))) (am_nd_ok (am_lf_ok (e30.symm)) (am_nd_ok (am_lf_ok (e31.symm)) (am_lf_ok (e32.symm)))))) : am_all fFa (fun f j => (lkF f [(306, -1), (307, 61), (312, 50), (300, rI s 20), (301, c), (302, a), (303, b), (304, k), (305, v)]).getD 0 = rA (fareS s c a b k v) j i)) f j hj
        · rw [hf]
          exact ei.symm
      · have g := (G 3 i (by omega)).1
        exact ⟨fun f j hf => (g f).trans (((v5.2.2 i (by omega)).1 f j hf).trans (mx j _ (by omega)).symm), (g 300).trans (v5.2.2 i (by omega)).2⟩
  · exact LL_G v6 G (by omega) hO hm (nn 33 (by omega)) (fun k _ _ => mm 34 _ (by omega))
  · exact CB_G v7 G (by omega) (fun b _ => ⟨by omega, by omega, by omega, by omega⟩) (fun j _ => by omega) cnm hO hm (fun j x h => mm j x (by omega)) (nn 44 (by omega))
  · exact CW_G v8 G (by omega) (fun w _ => ⟨by omega, by omega⟩) cnm hO hm (fun j x h => mm j x (by omega)) (nn 61 (by omega))
  · refine CP_add (q := uFs (uNO q 3 13) (3, qCN q 3) [(306, -1), (307, 61), (312, 50), (300, rI s 20), (301, c), (302, a), (303, b), (304, k), (305, v)]) (fun k' hk' => v9 k' hk') ?_ rfl
    show (qLS q (1803, 0)).length ≤ 40
    rw [v5.1, rng_l]
    omega
theorem CI_fare {q : am_A} {s : am_Z} {e : Nat} {c a b k v : Int} (I : am_CI e q s) (Z : am_VG s) (hc : -1 ≤ c ∧ c ≤ 2) (ha : 0 ≤ a ∧ a ≤ 5) (hb : 0 ≤ b ∧ b ≤ 5) (hk : 0 ≤ k ∧ k ≤ 3) (hv : 1 ≤ v ∧ v ≤ 5000) (hn : rI s 20 ≤ 15) (hl : (qLS q (1803, 0)).length ≤ qCP q (1803, 0)) : am_CI e (qAdd (uFs (uNO q 3 13) (3, qCN q 3) [(306, -1), (307, 61), (312, 50), (300, rI s 20), (301, c), (302, a), (303, b), (304, k), (305, v)]) (1803, 0) (3, qCN q 3)) (fareS s c a b k v) := by
  have b20 := (CV_B I.1).2.1 20 0 16 rfl
  refine ⟨CV_fare I.1 Z hc ha hb hk hv hn, CX_G I.2.1 (fun t h => (congrFun qAdd_CN t).trans (if_neg (by omega))) (fun t i h => qAdd_CPn (fun z => by have := congrArg Prod.fst z; simp only at this; omega)) (fun x => ?_) ?_ ⟨rfl, rfl⟩, ?_⟩
  · unfold fareS; simp only [wI_A, wA_A]; simp
  · exact sumI_c (fun i _ _ => by unfold fareS; simp only [wI_A, wA_A]; simp)
  · refine RM_Add (RM_NO (n := 13) (t := 3) I.2.2 (by omega) (by omega)) (Or.inl ⟨rfl, Or.inr (Or.inl rfl)⟩) ?_ hl
    show (qLS q (1803, 0)).length ≤ 40
    rw [I.1.2.2.2.2.1.1, rng_l]
    omega
theorem co_fare {d e : Nat} {q : am_A} {s : am_Z} (I : am_CI e q s) (Z : am_VG s) {c a b k v : Int} (hc : in32 c) (ha : in32 a) (hb : in32 b) (hk : in32 k) (hv : in32 v) : am_C2 (d + 6) m_X_fare [aR 8 0, aI (zI c), aI (zI a), aI (zI b), aI (zI k), aI (zI v)] q (am_OP e (kFare s c a b k v) kd3 (some (aI (zI (rI s 20)))) q (if kFare s c a b k v = 0 then fareS s c a b k v else s)) := by
  have b20 := (CV_B I.1).2.1 20 0 16 rfl
  refine am_C2_imp (cs_fare (d := d) I.1 hc ha hb hk hv) (fun o q' h => OP_of I (fun _ => kd3_b) h (fun h0 hq => ?_) (fun h => if_neg h))
  rw [if_pos h0]
  unfold kFare at h0
  obtain ⟨rfl, hq2⟩ := hq
  refine ⟨CI_le (CI_fare I Z (by omega) (by omega) (by omega) (by omega) (by omega) (by omega) hq2) (Nat.le_succ e), ?_⟩
  exact CG_Add (CG_FI (CG_FI (CG_FI (CG_FI (CG_FI (CG_FI (CG_FI (CG_FI (CG_FI (CG_NO CG_r (by omega)) (by omega)) (by omega)) (by omega)) (by omega)) (by omega)) (by omega)) (by omega)) (by omega)) (by omega)) (by omega)
end

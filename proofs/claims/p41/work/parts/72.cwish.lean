noncomputable section
theorem cs_Wi_init {d : Nat} {q : am_A} {i : Nat} {n m : Int} : am_C2 (d + 3) m_Wi_init [aR 7 i, aI (zI n), aI (zI m)] q (fun o q' => o = .inl none ∧ q' = uFs (uFR (uNL q 1702) 702 (7, i) (some (1702, qCN q 1702))) (7, i) [(703, -1), (700, n), (701, m)]) := by
  refine am_C2_i (ls := [some (aR 7 i), some (aI (zI n)), some (aI (zI m))]) rfl ?_
  refine ar_aload_n rfl rfl ?_
  refine ar_objinit rfl rfl rfl rfl (Nat.le_of_ble_eq_true rfl) ?_
  refine ar_aload_n rfl rfl ?_
  refine ar_newL (kt := 1702) rfl rfl (by omega) rfl rfl (Nat.le_of_ble_eq_true rfl) ?_
  refine ar_pfR rfl rfl rfl rfl (by omega) ?_
  refine ar_aload_n rfl rfl ?_
  refine ar_iconst rfl ?_
  refine ar_pfI rfl rfl rfl rfl (by omega) (Or.inl rfl) ?_
  refine ar_aload_n rfl rfl ?_
  refine ar_iload_n rfl rfl ?_
  refine ar_pfI rfl rfl rfl rfl (by omega) (Or.inl rfl) ?_
  refine ar_aload_n rfl rfl ?_
  refine ar_iload_n rfl rfl ?_
  refine ar_pfI rfl rfl rfl rfl (by omega) (Or.inl rfl) ?_
  exact ar_ret rfl rfl (⟨rfl, rfl⟩)
/-- the wish that is being made -/
def wiH (q : am_A) (w : Nat) (n m : Int) : am_A := uFs (uFR (uNL (uNO q 7 4) 1702) 702 (7, w) (some (1702, qCN q 1702))) (7, w) [(703, -1), (700, n), (701, m)]
def am_WJ (e : Nat) (q : am_A) (s : am_Z) (w : Nat) (n m : Int) (j : Nat) (q1 : am_A) : Prop := am_CV q1 s ∧ am_LL q1 s (1702, w) j (fun k => rA s 34 k) ∧ (qCP q1 (1702, w) = 0 ∨ qCP q1 (1702, w) = 10) ∧ (∀ t, qCN q1 t = qCN (wiH q w n m) t) ∧ am_GD (fun t i => (t = 7 ∨ t = 1702) ∧ i = w) q q1 ∧ (qFR q1 702 (7, w) = some (1702, w) ∧ qFI q1 703 (7, w) = -1 ∧ qFI q1 700 (7, w) = n ∧ qFI q1 701 (7, w) = m) ∧ am_RM e q1 ∧ am_CG q q1
theorem WJ_0 {e : Nat} {q : am_A} {s : am_Z} {n m : Int} (I : am_CI e q s) : am_WJ e q s (rI s 61).toNat n m 0 (wiH q (rI s 61).toNat n m) := by
  have b61 := (CV_B I.1).2.1 61 0 20 rfl
  obtain ⟨⟨a1, a2, a3, a4⟩, ⟨c7, c17⟩, -, -, d1, d2, d3⟩ := I.2.1
  have hw : ¬ vO q s (7, (rI s 61).toNat) := by
    unfold vO
    simp only [Prod.mk.injEq]
    omega
  have hV1 : am_CV (uNO q 7 4) s := CV_EQ I.1 (EQ_NO I.1 (by omega))
  have hV2 : am_CV (uNL (uNO q 7 4) 1702) s := CV_EQ hV1 (EQ_NL hV1 (Or.inr rfl))
  have hw2 : ∀ x : am_A, ¬ vO x s (7, (rI s 61).toNat) := fun x => by
    unfold vO
    simp only [Prod.mk.injEq]
    omega
  have c2 : qCN (uNO q 7 4) 1702 = (rI s 61).toNat := c17
  refine ⟨?_, ⟨?_, fun k hk => ?_⟩, Or.inl ?_, fun t => rfl, ?_, ⟨?_, ?_, ?_, ?_⟩, ?_, ?_⟩
  · unfold wiH
    refine CV_EQ (CV_EQ (CV_EQ (CV_EQ hV2 (EQ_FR (fun z => ?_))) (EQ_FI (Or.inr (hw2 _)))) (EQ_FI (Or.inr (hw2 _)))) (EQ_FI (Or.inr (hw2 _)))
    rcases z with z | z
    · exact hw2 _ z
    · have := congrArg Prod.fst z.1
      simp only at this
      omega
  · show (((if (((1702, (rI s 61).toNat)) : am_R) = (1702, qCN (uNO q 7 4) 1702) then [] else qLS q (1702, (rI s 61).toNat)).length : Nat) : Int) = _
    rw [if_pos (by rw [c2])]
    rfl
  · have : (k : Int) < (0 : Nat) := hk
    omega
  · show (if (((1702, (rI s 61).toNat)) : am_R) = (1702, qCN (uNO q 7 4) 1702) then 0 else qCP q (1702, (rI s 61).toNat)) = 0
    rw [if_pos (by rw [c2])]
  · exact GD_Fs (GD_FR (GD_NL (GD_NO GD_r ⟨Or.inl rfl, c7⟩) ⟨Or.inr rfl, c17⟩) ⟨Or.inl rfl, rfl⟩) ⟨Or.inl rfl, rfl⟩
  · show (if 702 = 702 ∧ (((7, (rI s 61).toNat)) : am_R) = (7, (rI s 61).toNat) then some ((1702, qCN q 1702) : am_R) else _) = _
    rw [if_pos ⟨rfl, rfl⟩, c17]
  · exact uFs_eq _ _
  · exact uFs_eq _ _
  · exact uFs_eq _ _
  · exact RM_NL (t := 1702) (RM_NO (n := 4) (t := 7) I.2.2 (by omega) (by omega)) (Or.inr rfl) (by rw [c2]; exact d2 _ (by omega))
  · exact CG_Fs (CG_FR (CG_NL (CG_NO CG_r (by show cK 7; omega)) (by show cK 1702; omega)) (by show cK 7; omega)) (by show cK 7; omega)
theorem WJ_s {e : Nat} {q q1 : am_A} {s : am_Z} {w : Nat} {n m : Int} {j : Nat} (H : am_WJ e q s w n m j q1) (hw : w = (rI s 61).toNat) (h20 : w < 20) (hj : (j : Int) < rI s 33) (hc : (qLS q1 (1702, w)).length ≤ qCP q1 (1702, w)) : am_WJ e q s w n m (j + 1) (qAdd q1 (1702, w) (5, lId q1 (rA s 34 j))) := by
  obtain ⟨h1, h2, h3, h4, h5, h6, h7, h8⟩ := H
  have b33 := (CV_B h1).2.1 33 0 4 rfl
  have b61 := (CV_B h1).2.1 61 0 20 rfl
  have hl := h2.1
  have hnv : ¬ vL s (1702, w) := by
    unfold vL
    simp only
    omega
  have hI : ∀ x, lId (qAdd q1 (1702, w) (5, lId q1 (rA s 34 j))) x = lId q1 x := fun x => lId_cg (fun i k => by rw [qAdd_AR])
  have hx := h1.2.2.2.2.2.1.2 j hj
  refine ⟨CV_EQ h1 (EQ_Add hnv (by omega) (by omega)), ⟨?_, fun k hk => ?_⟩, Or.inr (qAdd_CP10 (by omega) h3), fun t => (congrFun qAdd_CN t).trans (h4 t), GD_Add h5 ⟨Or.inr rfl, rfl⟩, by rw [qAdd_FR, qAdd_FI]; exact h6, RM_Add h7 (Or.inr (Or.inr ⟨rfl, h20⟩)) (by omega) hc, CG_Add h8 (by show cK 1702; omega)⟩
  · rw [qAdd_LS, List.length_append]
    show (((qLS q1 (1702, w)).length + 1 : Nat) : Int) = _
    omega
  · rw [qAdd_LS, hI]
    by_cases ek : k = j
    · subst ek
      have e2 : k = (qLS q1 (1702, w)).length := by omega
      refine ⟨?_, hx.2⟩
      rw [List.getElem?_append_right (by omega), show k - (qLS q1 (1702, w)).length = 0 by omega]
      rfl
    · have h9 := h2.2 k (by omega)
      rw [List.getElem?_append_left (by omega)]
      exact h9
def wishS (s : am_Z) (n m : Int) : am_Z := wI (wI (wA (wB (wA (wA (wA s 62 (rI s 61) n) 63 (rI s 61) m) 64 (rI s 61) (rI s 33)) 65 (4 * rI s 61) (rI s 33).toNat (fun i => rA s 34 (i - 4 * rI s 61))) 66 (rI s 61) (-1)) 33 0) 61 (rI s 61 + 1)
def wish0 (s : am_Z) (n m : Int) : am_Z := wI (wA (wB (wA (wA (wA s 62 (rI s 61) n) 63 (rI s 61) m) 64 (rI s 61) (rI s 33)) 65 (4 * rI s 61) (rI s 33).toNat (fun i => rA s 34 (i - 4 * rI s 61))) 66 (rI s 61) (-1)) 61 (rI s 61 + 1)
section WSH
variable {s : am_Z} {n m : Int}
theorem wi0_m {j : Nat} {x : Int} (h : ¬ (62 ≤ j ∧ j ≤ 66)) : rA (wish0 s n m) j x = rA s j x := by
  unfold wish0
  simp only [wI_A, wA_A, wB_A]
  rw [if_neg (by omega), if_neg (by omega), if_neg (by omega), if_neg (by omega), if_neg (by omega)]
theorem wi0_n {j : Nat} {x : Int} (h : j ≠ 65) (hx : x ≠ rI s 61) : rA (wish0 s n m) j x = rA s j x := by
  unfold wish0
  simp only [wI_A, wA_A, wB_A]
  rw [if_neg (by omega), if_neg (by omega), if_neg (by omega), if_neg (by omega), if_neg (by omega)]
theorem wi0_65 {x : Int} (hx : x < 4 * rI s 61) : rA (wish0 s n m) 65 x = rA s 65 x := by
  unfold wish0
  simp only [wI_A, wA_A, wB_A]
  rw [if_neg (by omega), if_neg (by omega), if_neg (by omega), if_neg (by omega), if_neg (by omega)]
theorem wi0_v : rA (wish0 s n m) 62 (rI s 61) = n ∧ rA (wish0 s n m) 63 (rI s 61) = m ∧ rA (wish0 s n m) 64 (rI s 61) = rI s 33 ∧ rA (wish0 s n m) 66 (rI s 61) = -1 := by
  unfold wish0
  simp only [wI_A, wA_A, wB_A]
  refine ⟨?_, ?_, ?_, ?_⟩ <;> simp
theorem wi0_k {k : Int} (h : 0 ≤ k ∧ k < rI s 33) : rA (wish0 s n m) 65 (4 * rI s 61 + k) = rA s 34 k := by
  have e : rA (wish0 s n m) 65 (4 * rI s 61 + k) = rA (wB (wA (wA (wA s 62 (rI s 61) n) 63 (rI s 61) m) 64 (rI s 61) (rI s 33)) 65 (4 * rI s 61) (rI s 33).toNat (fun i => rA s 34 (i - 4 * rI s 61))) 65 (4 * rI s 61 + k) := rfl
  rw [e, wB_A, if_pos ⟨rfl, by omega, by omega⟩]
  exact congrArg (rA s 34) (by omega)
theorem wi0_I {j : Nat} (h : j ≠ 61) : rI (wish0 s n m) j = rI s j := if_neg h
theorem wi0_61 : rI (wish0 s n m) 61 = rI s 61 + 1 := rfl
theorem wi0_B (B : in_S s) (hn : 1 ≤ n ∧ n ≤ 9) (hm : -1 ≤ m ∧ m ≤ 4) (h20 : rI s 61 ≤ 19) : in_S (wish0 s n m) := by
  have b33 := B.2.1 33 0 4 rfl
  have b61 := B.2.1 61 0 20 rfl
  have B1 : in_S (wA (wA (wA s 62 (rI s 61) n) 63 (rI s 61) m) 64 (rI s 61) (rI s 33)) := by
    refine in_S_A (in_S_A (in_S_A B ?_ ?_) ?_ ?_) ?_ ?_
    all_goals first | (intro lo hi h; cases h; omega) | (intro h; cases h)
  have B2 : in_S (wB (wA (wA (wA s 62 (rI s 61) n) 63 (rI s 61) m) 64 (rI s 61) (rI s 33)) 65 (4 * rI s 61) (rI s 33).toNat (fun i => rA s 34 (i - 4 * rI s 61))) := by
    refine ⟨fun j x lo hi h => ?_, B1.2.1, fun j x h => ?_⟩
    · rw [wB_A]
      split
      · rename_i hz
        rw [hz.1] at h
        have h34 := B.1 34 (x - 4 * rI s 61) _ _ (show rRg 34 = some (0, 1160) from rfl)
        cases h
        exact h34
      · exact B1.1 j x lo hi h
    · rw [wB_A]
      split
      · rename_i hz
        exact B.2.2 34 _ rfl
      · exact B1.2.2 j x h
  unfold wish0
  refine in_S_I (in_S_A B2 ?_ ?_) ?_
  all_goals first | (intro lo hi h; cases h; omega) | (intro h; cases h)
end WSH
theorem CV_wish0 {e : Nat} {q q1 : am_A} {s : am_Z} {n m : Int} (X : am_CX q s) (hn : 1 ≤ n ∧ n ≤ 9) (hm : -1 ≤ m ∧ m ≤ 4) (h20 : rI s 61 ≤ 19) (H : am_WJ e q s (rI s 61).toNat n m (rI s 33).toNat q1) : am_CV (qAdd q1 (1807, 0) (7, (rI s 61).toNat)) (wish0 s n m) := by
  obtain ⟨V, h2, h3, h4, h5, h6, h7, h8⟩ := H
  have b61 := (CV_B V).2.1 61 0 20 rfl
  have b33 := (CV_B V).2.1 33 0 4 rfl
  have G : am_GD (fun t _ => t = 1807) q1 (qAdd q1 (1807, 0) (7, (rI s 61).toNat)) := GD_Add GD_r rfl
  obtain ⟨v1, v2, v3, v4, v5, v6, v7, v8, v9, B⟩ := V
  have cn : ∀ t, qCN (qAdd q1 (1807, 0) (7, (rI s 61).toNat)) t = qCN q1 t := fun t => congrFun qAdd_CN t
  have cnm : ∀ t, qCN q1 t ≤ qCN (qAdd q1 (1807, 0) (7, (rI s 61).toNat)) t := fun t => by rw [cn t]; exact Nat.le_refl _
  have hl : ∀ l, legP s l → legP (wish0 s n m) l := fun l h => (legP_cg (fun j x hj => wi0_m (by omega)) (wi0_I (by omega))).mpr h
  have hO : ∀ l, legP s l → legO (qAdd q1 (1807, 0) (7, (rI s 61).toNat)) l = legO q1 l := fun l h => legO_G G h.1 h.2.1 (fun i _ => by omega)
  have hlen : (qLS q1 (1807, 0)).length = (rI s 61).toNat := by rw [v8.1, rng_l]
  have c7 : qCN q1 7 = (rI s 61).toNat + 1 := by
    rw [h4 7]
    show am_u1 (qCN q) 7 (qCN q 7 + 1) 7 = _
    rw [show am_u1 (qCN q) 7 (qCN q 7 + 1) 7 = qCN q 7 + 1 from if_pos rfl, X.2.1.1]
  have c17 : qCN q1 1702 = (rI s 61).toNat + 1 := by
    rw [h4 1702]
    show am_u1 (am_u1 (qCN q) 7 (qCN q 7 + 1)) 1702 (am_u1 (qCN q) 7 (qCN q 7 + 1) 1702 + 1) 1702 = _
    rw [show am_u1 (am_u1 (qCN q) 7 (qCN q 7 + 1)) 1702 (am_u1 (qCN q) 7 (qCN q 7 + 1) 1702 + 1) 1702 = am_u1 (qCN q) 7 (qCN q 7 + 1) 1702 + 1 from if_pos rfl, show am_u1 (qCN q) 7 (qCN q 7 + 1) 1702 = qCN q 1702 from if_neg (by omega), X.2.1.2]
  refine ⟨CT_G v1 G (by omega) (fun x _ => (G 6 0 (by omega)).2.1 x) (fun k c hk => (G k 0 (by have := cLen_r k c hk; omega)).2.2.2.2.1) cnm, CN_G v2 G (by omega) ⟨by omega, by omega, by omega, by omega⟩ (fun j x h => wi0_m (by omega)) (wi0_I (by omega)) (wi0_I (by omega)), ?_, ?_, ?_, ?_, ?_, ?_, CP_add v9 (by omega) rfl, wi0_B B hn hm h20⟩
  · exact CF_G v3 G (by omega) (fun i _ => ⟨by omega, by omega⟩) (fun i _ => (G 1408 i (by omega)).2.2.2.2.1) (fun t h => cn t) (fun j x h => wi0_m (by omega)) (wi0_I (by omega))
  · exact CL_G v4 G (fun i _ => by omega) (fun j _ => by omega) (cnm 5) (fun j x h => wi0_m (by omega)) (wi0_I (by omega))
  · exact CA_G v5 G (by omega) (fun i _ => by omega) (cn 3) (fun j x h => wi0_m (by omega)) (wi0_I (by omega))
  · exact LL_G v6 G (by omega) hO hl (wi0_I (by omega)) (fun k _ _ => wi0_m (by omega))
  · exact CB_G v7 G (by omega) (fun b _ => ⟨by omega, by omega, by omega, by omega⟩) (fun j _ => by omega) cnm hO hl (fun j x h => wi0_m (by omega)) (wi0_I (by omega))
  · refine ⟨?_, by rw [cn, cn, c7, c17, wi0_61]; omega, fun w hw => ?_⟩
    · rw [qAdd_LS, wi0_61, show (rI s 61 + 1).toNat = (rI s 61).toNat + 1 by omega, rng_s, v8.1]
    · rw [wi0_61] at hw
      by_cases ew : (w : Int) = rI s 61
      · have ew2 : w = (rI s 61).toNat := by omega
        have sv := wi0_v (s := s) (n := n) (m := m)
        rw [← ew] at sv
        obtain ⟨g0, g3, g1, g2⟩ := h6
        rw [← ew2] at g0 g1 g2 g3 h2
        refine ⟨(am_nd_ok (am_lf_ok (by rw [qAdd_FI, g1, sv.1])) (am_nd_ok (am_lf_ok (by rw [qAdd_FI, g2, sv.2.1])) (am_lf_ok (by rw [qAdd_FI, g3, sv.2.2.2]))) : am_all fWi (fun f j => qFI (qAdd q1 (1807, 0) (7, (rI s 61).toNat)) f (7, w) = rA (wish0 s n m) j w)), by rw [qAdd_FR]; exact g0, ?_⟩
        rw [sv.2.2.1]
        refine LL_G h2 G (by omega) hO hl (by omega) (fun k z1 z2 => ?_)
        show rA (wish0 s n m) 65 (4 * (w : Int) + k) = rA s 34 k
        rw [ew]
        exact wi0_k ⟨z1, by omega⟩
      · have b64 := B.1 64 (w : Int) 0 4 rfl
        exact Wi_G (v8.2.2 w (by omega)) G ⟨by omega, by omega⟩ hO hl (fun j _ _ h65 => wi0_n h65 ew) (fun k _ z2 => wi0_65 (by omega))

theorem CI_wish {e : Nat} {q q1 : am_A} {s : am_Z} {n m : Int} (X : am_CX q s) (hn : 1 ≤ n ∧ n ≤ 9) (hm : -1 ≤ m ∧ m ≤ 4) (h20 : rI s 61 ≤ 19) (H : am_WJ e q s (rI s 61).toNat n m (rI s 33).toNat q1) (hc : (qLS q1 (1807, 0)).length ≤ qCP q1 (1807, 0)) : am_CI e (uLS (qAdd q1 (1807, 0) (7, (rI s 61).toNat)) (1804, 0) []) (wishS s n m) := by
  have V := CV_wish0 X hn hm h20 H
  have b61 := (CV_B H.1).2.1 61 0 20 rfl
  have V2 := CV_drop V
  have hI : ∀ j, rI (wishS s n m) j = rI (wI (wish0 s n m) 33 0) j := fun j => by
    show (if j = 61 then rI s 61 + 1 else if j = 33 then 0 else rI s j) = if j = 33 then 0 else if j = 61 then rI s 61 + 1 else rI s j
    by_cases e : j = 61
    · subst e
      rfl
    · rw [if_neg e, if_neg e]
  have B : in_S (wishS s n m) := ⟨(CV_B V2).1, fun j lo hi h => by rw [hI]; exact (CV_B V2).2.1 j lo hi h, (CV_B V2).2.2⟩
  refine ⟨CV_s V2 (fun _ _ _ => rfl) (fun j _ => hI j) B, ?_, ?_⟩
  · obtain ⟨V0, h2, h3, h4, h5, h6, h7, h8⟩ := H
    obtain ⟨⟨a1, a2, a3, a4⟩, ⟨c7, c17⟩, p1, p5, d1, d2, d3⟩ := X
    have cn : ∀ t, qCN (uLS (qAdd q1 (1807, 0) (7, (rI s 61).toNat)) (1804, 0) []) t = am_u1 (am_u1 (qCN q) 7 (qCN q 7 + 1)) 1702 (am_u1 (qCN q) 7 (qCN q 7 + 1) 1702 + 1) t := fun t => (congrFun qAdd_CN t).trans (h4 t)
    have cn' : ∀ t, t ≠ 7 → t ≠ 1702 → qCN (uLS (qAdd q1 (1807, 0) (7, (rI s 61).toNat)) (1804, 0) []) t = qCN q t := fun t z1 z2 => (cn t).trans ((if_neg z2).trans (if_neg z1))
    have cp : ∀ t i, t ≠ 1807 → ¬ (t = 1702 ∧ i = (rI s 61).toNat) → t ≠ 7 → qCP (uLS (qAdd q1 (1807, 0) (7, (rI s 61).toNat)) (1804, 0) []) (t, i) = qCP q (t, i) := fun t i z1 z2 z3 => (qAdd_CPn (fun z => z1 (congrArg Prod.fst z))).trans (h5 t i (by omega)).2.2.2.2.2.2
    have mm : ∀ j x, j < 62 → rA (wishS s n m) j x = rA s j x := fun j x h => wi0_m (n := n) (m := m) (by omega)
    have s44 : rI (wishS s n m) 44 = rI s 44 := rfl
    have s61 : rI (wishS s n m) 61 = rI s 61 + 1 := rfl
    have s3 : rI (wishS s n m) 3 = rI s 3 := rfl
    unfold am_CX
    rw [cn' 0 (by omega) (by omega), cn' 1003 (by omega) (by omega), cn' 1004 (by omega) (by omega), cn' 1005 (by omega) (by omega), cn' 1 (by omega) (by omega), cn' 5 (by omega) (by omega), s44, s61, s3, show rA (wishS s n m) 52 = rA s 52 from funext (fun x => mm 52 x (by omega)), show rA (wishS s n m) 10 = rA s 10 from funext (fun x => mm 10 x (by omega))]
    refine ⟨⟨a1, a2, a3, a4⟩, ⟨?_, ?_⟩, p1, p5, fun b hb => (cp 1003 b (by omega) (by omega) (by omega)).trans (d1 b hb), fun w hw => (cp 1702 w (by omega) (by omega) (by omega)).trans (d2 w (by omega)), fun b => by rw [cp 1003 b (by omega) (by omega) (by omega)]; exact d3 b⟩
    · rw [cn, show am_u1 (am_u1 (qCN q) 7 (qCN q 7 + 1)) 1702 (am_u1 (qCN q) 7 (qCN q 7 + 1) 1702 + 1) 7 = qCN q 7 + 1 from (if_neg (by omega)).trans (if_pos rfl), c7]
      omega
    · rw [cn, show am_u1 (am_u1 (qCN q) 7 (qCN q 7 + 1)) 1702 (am_u1 (qCN q) 7 (qCN q 7 + 1) 1702 + 1) 1702 = qCN q 1702 + 1 from (if_pos rfl).trans (congrArg (· + 1) (if_neg (by omega))), c17]
      omega
  · refine RM_Add H.2.2.2.2.2.2.1 (Or.inl ⟨rfl, by show 1807 = 1802 ∨ 1807 = 1803 ∨ 1807 = 1804 ∨ 1807 = 1806 ∨ 1807 = 1807 ∨ 1807 = 1808 ∨ 1807 = 1809 ∨ 1807 = 1601 ∨ 1807 = 1603; omega⟩) ?_ hc
    rw [H.1.2.2.2.2.2.2.2.1.1, rng_l]
    omega
theorem lp_cwish {d : Nat} {q : am_A} {Q : am_O → am_A → Prop} {e w : Nat} {s : am_Z} {n mb : Int} {x1 x2 : Option am_V} (hw : w = (rI s 61).toNat) (h20 : w < 20) (hc17 : w < qCN (wiH q w n mb) 1702) : ∀ (m : Nat) (j : Nat) (k : Int) (q1 : am_A), (rI s 33).toNat - j < m → (k = j ∧ (j : Int) ≤ rI s 33 ∧ am_WJ e q s w n mb j q1) → (∀ x4 q1, am_WJ e q s w n mb (rI s 33).toNat q1 → am_W2 (d + 6) m_X_wish 93 [some (aR 8 0), x1, x2, some (aR 7 w), x4] [] (q1) Q) → am_W2 (d + 6) m_X_wish 55 [some (aR 8 0), x1, x2, some (aR 7 w), some (aI (zI k))] [] (q1) Q := by
  intro m
  induction m with
  | zero => intro j k q1 hm; exact absurd hm (Nat.not_lt_zero _)
  | succ m ih =>
    intro j k q1 hm ⟨hj, hj2, H⟩ K
    subst hj
    have V := H.1
    have b33 := (CV_B V).2.1 33 0 4 rfl
    refine ar_iload rfl rfl ?_
    refine ar_aload_n rfl rfl ?_
    refine ar_gfR rfl rfl rfl (by omega) (V.1.1 804 _ rfl) ?_
    refine ar_cv0 rfl rfl rfl (Nat.le_of_ble_eq_true rfl) (cl_szD (d := 0) V) (by omega) (fun o q61 hq => am_B2_is ?_ hq)
    refine ar_icmp_ge rfl rfl (by omega) (by omega) (fun h64 => ?_) (fun h64 => ?_)
    · have ej : j = (rI s 33).toNat := by omega
      rw [ej] at H
      exact K _ _ H
    · refine ar_aload_n rfl rfl ?_
      refine ar_gfR rfl rfl rfl (by omega) (H.2.2.2.2.2.1.1) ?_
      refine ar_aload_n rfl rfl ?_
      refine ar_gfR rfl rfl rfl (by omega) (V.1.1 804 _ rfl) ?_
      refine ar_iload rfl rfl ?_
      refine ar_cv1 rfl rfl rfl (Nat.le_of_ble_eq_true rfl) (cl_getD (d := 0) V (by omega)) (by omega) (fun o q77 hq => am_B2_is ?_ hq)
      refine ar_cast rfl rfl rfl ?_
      refine ar_cv1 rfl rfl rfl (Nat.le_of_ble_eq_true rfl) (sq_addL (d := 0) rfl (by omega) (by rw [H.2.2.2.1 1702]; exact hc17) (by have := H.2.2.1; omega) ⟨rfl, by omega⟩) (by omega) (fun o q83 hq => ?_)
      obtain ⟨rfl, rfl, hc83⟩ := hq
      refine ar_pop rfl rfl ?_
      refine ar_inc4 rfl ?_
      refine ar_goto rfl rfl ?_
      exact ih (j + 1) _ _ (by omega) ⟨by omega, by omega, WJ_s H hw h20 (by omega) hc83⟩ K
theorem cs_wish {d : Nat} {q : am_A} {e : Nat} {s : am_Z} (I : am_CI e q s) {n m : Int} (hn : in32 n) (hm : in32 m) : am_C2 (d + 6) m_X_wish [aR 8 0, aI (zI n), aI (zI m)] q (am_OK (kWish s n m) kd3 (some (aI (zI (rI s 61)))) q (fun q2 => am_CI e q2 (wishS s n m) ∧ am_CG q q2)) := by
  refine am_C2_i (ls := [some (aR 8 0), some (aI (zI n)), some (aI (zI m)), none, none]) rfl ?_
  have V := I.1
  have b61 := (CV_B V).2.1 61 0 20 rfl
  have b33 := (CV_B V).2.1 33 0 4 rfl
  have c7 := I.2.1.2.1.1
  have c17 := I.2.1.2.1.2
  refine ar_iload_n rfl rfl ?_
  refine ar_iconst rfl ?_
  refine ar_cs2 rfl rfl (Nat.le_of_ble_eq_true rfl) (cs_needIndexOrNone (d := 0) (by omega) (by omega)) (by omega) (fun o q2 hq => am_B2_T rfl (fun h2 => ?_) (fun h2 => ?_) hq)
  · refine ar_iload_n rfl rfl ?_
    refine ar_iconst rfl ?_
    refine ar_bipush (x := 9) rfl rfl ?_
    refine ar_cs3 rfl rfl (Nat.le_of_ble_eq_true rfl) (cs_needRange (d := 0) (by omega) (by omega) (by omega)) (by omega) (fun o q9 hq => am_B2_T rfl (fun h9 => ?_) (fun h9 => ?_) hq)
    · refine cq_join (pc' := 39) (V := if rI s 33 ≠ 0 ∧ rI s 61 < 20 then 1 else 0) ?_ (fun K39 => ?_)
      · refine ar_cs1 rfl rfl (Nat.le_of_ble_eq_true rfl) (cs_needState (d := 0) (by omega)) (by omega) (fun o q39 hq => am_B2_T rfl (fun h39 => ?_) (fun h39 => ?_) hq)
        · refine ar_new (kt := 7) rfl (by intro z; cases z) (by omega) ?_
          refine ar_dup rfl rfl ?_
          refine ar_iload_n rfl rfl ?_
          refine ar_iload_n rfl rfl ?_
          refine ar_cv2 rfl rfl rfl (Nat.le_of_ble_eq_true rfl) (cs_Wi_init (d := 0)) (by omega) (fun o q48 hq => ?_)
          obtain ⟨rfl, rfl⟩ := hq
          refine ar_stA3 rfl ?_
          refine (congrArg (fun z => am_W2 _ _ 52 [some (aR 8 0), some (aI (zI n)), some (aI (zI m)), some (aR 7 z), none] _ (wiH q z n m) _) c7.symm).mp ?_
          refine ar_iconst rfl ?_
          refine ar_stI4 rfl ?_
          refine lp_cwish (d := d) (q := q) (e := e) (s := s) (n := n) (mb := m) rfl (by omega) (by show (rI s 61).toNat < am_u1 (am_u1 (qCN q) 7 (qCN q 7 + 1)) 1702 (am_u1 (qCN q) 7 (qCN q 7 + 1) 1702 + 1) 1702; rw [show am_u1 (am_u1 (qCN q) 7 (qCN q 7 + 1)) 1702 (am_u1 (qCN q) 7 (qCN q 7 + 1) 1702 + 1) 1702 = am_u1 (qCN q) 7 (qCN q 7 + 1) 1702 + 1 from if_pos rfl, show am_u1 (qCN q) 7 (qCN q 7 + 1) 1702 = qCN q 1702 from if_neg (by omega), c17]; omega) ((rI s 33).toNat + 1) 0 0 _ (by omega) ⟨rfl, by omega, WJ_0 I⟩ (fun x4 q1 H => ?_)
          have V1 := H.1
          refine ar_aload_n rfl rfl ?_
          refine ar_gfR rfl rfl rfl (by omega) (V1.1.1 807 _ rfl) ?_
          refine ar_aload_n rfl rfl ?_
          refine ar_cv1 rfl rfl rfl (Nat.le_of_ble_eq_true rfl) (sq_addL (d := 0) rfl (by omega) (V1.1.2.2.2 1807 rfl) (Nat.le_trans (V1.2.2.2.2.2.2.2.2.1 1807 rfl) (by omega)) ⟨rfl, by omega⟩) (by omega) (fun o q98 hq => ?_)
          obtain ⟨rfl, rfl, hc98⟩ := hq
          have hk : 1 ≤ n ∧ n ≤ 9 ∧ -1 ≤ m ∧ m ≤ 4 ∧ rI s 61 ≤ 19 := by omega
          have I3 := CI_wish I.2.1 ⟨hk.1, hk.2.1⟩ ⟨hk.2.2.1, hk.2.2.2.1⟩ hk.2.2.2.2 H hc98
          have V2 := CV_wish0 I.2.1 ⟨hk.1, hk.2.1⟩ ⟨hk.2.2.1, hk.2.2.2.1⟩ hk.2.2.2.2 H
          refine ar_pop rfl rfl ?_
          refine ar_aload_n rfl rfl ?_
          refine ar_gfR rfl rfl rfl (by omega) (V2.1.1 804 _ rfl) ?_
          refine ar_cv0 rfl rfl rfl (Nat.le_of_ble_eq_true rfl) (sq_clear (d := 0) rfl (by omega) (V2.1.2.2.2 1804 rfl)) (by omega) (fun o q106 hq => ?_)
          obtain ⟨rfl, rfl⟩ := hq
          refine ar_aload_n rfl rfl ?_
          refine ar_gfR rfl rfl rfl (by omega) (I3.1.1.1 807 _ rfl) ?_
          refine ar_cv0 rfl rfl rfl (Nat.le_of_ble_eq_true rfl) (cl_szW (d := 0) I3.1) (by omega) (fun o q113 hq => am_B2_is ?_ hq)
          refine ar_iconst rfl ?_
          refine ar_isub rfl ?_
          exact ar_iret rfl (Or.inl rfl) (⟨fun _ => ⟨congrArg (fun x => (Sum.inl (some (aI (zI x))) : am_O)) (by show rI s 61 + 1 - 1 = rI s 61; omega), I3, CG_LS (CG_Add H.2.2.2.2.2.2.2 (by show cK 1807; omega)) (by show cK 1804; omega)⟩, fun z => absurd (by unfold kWish; omega) z⟩)
        · exact ⟨fun z => absurd z (by unfold kWish; omega), fun _ => by { rw [show kWish s n m = 3 from by { unfold kWish; omega }]; exact ⟨rfl, rfl⟩ }⟩
      · refine ar_aload_n rfl rfl ?_
        refine ar_gfR rfl rfl rfl (by omega) (V.1.1 804 _ rfl) ?_
        refine ar_cv0 rfl rfl rfl (Nat.le_of_ble_eq_true rfl) (cl_emL (d := 0) rfl (by omega) (V.1.2.2.2 1804 rfl) V.2.2.2.2.2.1) (by omega) (fun o q16 hq => am_B2_is ?_ hq)
        refine ar_if_neB rfl rfl (fun h19 => ?_) (fun h19 => ?_)
        · refine ar_iconst rfl ?_
          exact K39 _ (by first | (rw [if_pos (by omega)]) | (rw [if_neg (by omega)]))
        · refine ar_aload_n rfl rfl ?_
          refine ar_gfR rfl rfl rfl (by omega) (V.1.1 807 _ rfl) ?_
          refine ar_cv0 rfl rfl rfl (Nat.le_of_ble_eq_true rfl) (cl_szW (d := 0) V) (by omega) (fun o q26 hq => am_B2_is ?_ hq)
          refine ar_bipush (x := 20) rfl rfl ?_
          refine ar_icmp_ge rfl rfl (by omega) (by omega) (fun h31 => ?_) (fun h31 => ?_)
          · refine ar_iconst rfl ?_
            exact K39 _ (by first | (rw [if_pos (by omega)]) | (rw [if_neg (by omega)]))
          · refine ar_iconst rfl ?_
            refine ar_goto rfl rfl ?_
            exact K39 _ (by first | (rw [if_pos (by omega)]) | (rw [if_neg (by omega)]))
    · exact ⟨fun z => absurd z (by unfold kWish; omega), fun _ => by { rw [show kWish s n m = 2 from by { unfold kWish; omega }]; exact ⟨rfl, rfl⟩ }⟩
  · exact ⟨fun z => absurd z (by unfold kWish; omega), fun _ => by { rw [show kWish s n m = 1 from by { unfold kWish; omega }]; exact ⟨rfl, rfl⟩ }⟩
theorem co_wish {d e : Nat} {q : am_A} {s : am_Z} (I : am_CI e q s) {n m : Int} (hn : in32 n) (hm : in32 m) : am_C2 (d + 6) m_X_wish [aR 8 0, aI (zI n), aI (zI m)] q (am_OP e (kWish s n m) kd3 (some (aI (zI (rI s 61)))) q (if kWish s n m = 0 then wishS s n m else s)) := by
  refine am_C2_imp (cs_wish (d := d) I hn hm) (fun o q' h => OP_of I (fun _ => kd3_b) h (fun h0 hq => ?_) (fun h => if_neg h))
  rw [if_pos h0]
  exact ⟨CI_le hq.1 (Nat.le_succ e), hq.2⟩
end

noncomputable section
/-- the latest arrival that is of use -/
def latD (N : Int) (W : am_Y) : Int := if W.2.1 = -1 then N else W.1
def oLg (q : am_A) (v : Int) : Option am_R := if v = -1 then none else some (5, lId q v)
def am_DR (q : am_A) (N : Int) (W : am_Y) : Prop := qFR q 200 (2, 0) = oLg q W.2.1 ∧ qFR q 201 (2, 0) = oLg q W.2.2 ∧ qFI q 202 (2, 0) = latD N W
def ofW (N t : Int) (W : am_Y) (a k : Int) : am_Y := if latD N W < t ∨ (t = latD N W ∧ W.2.1 ≠ -1 ∧ ¬ (k = -1 ∧ W.2.2 ≠ -1)) then W else (t, a, k)
/-- the same arrays of legs and lists -/
def am_SM (q q' : am_A) : Prop := qAR q' = qAR q ∧ qLS q' = qLS q ∧ qCN q' = qCN q ∧ qCP q' = qCP q
theorem SM_r {q : am_A} : am_SM q q := ⟨rfl, rfl, rfl, rfl⟩
theorem SM_t {q q' q2 : am_A} (a : am_SM q q') (b : am_SM q' q2) : am_SM q q2 := ⟨b.1.trans a.1, b.2.1.trans a.2.1, b.2.2.1.trans a.2.2.1, b.2.2.2.trans a.2.2.2⟩
theorem SM_l {q q' : am_A} (a : am_SM q q') (l : Int) : lId q' l = lId q l := by unfold lId legO; rw [a.1]
theorem SM_c {q q' : am_A} (a : am_SM q q') (b k : Nat) : cId q' b k = cId q b k := by unfold cId; rw [a.2.1]
theorem oLg_n {q : am_A} {v : Int} (h : oLg q v = none) : v = -1 := Classical.byContradiction (fun z => by unfold oLg at h; rw [if_neg z] at h; cases h)
theorem oLg_s {q : am_A} {v : Int} {r : am_R} (h : oLg q v = some r) : v ≠ -1 := fun z => by unfold oLg at h; rw [if_pos z] at h; cases h
theorem SM_o {q q' : am_A} (a : am_SM q q') (v : Int) : oLg q' v = oLg q v := by unfold oLg; rw [SM_l a]
def dtH (q : am_A) (x y : Option am_R) (t : Int) : am_A := uFI (uFR (uFR q 200 (2, 0) x) 201 (2, 0) y) 202 (2, 0) t
theorem dtH_CI {e : Nat} {q : am_A} {s : am_Z} {x y : Option am_R} {t : Int} (I : am_CI e q s) : am_CI e (dtH q x y t) s := by
  have h2 : ∀ z : am_A, ¬ vO z s (2, 0) := fun z => by
    unfold vO
    simp only [Prod.mk.injEq]
    omega
  have h6 : ∀ (z : am_A) (f : Nat), ¬ (vO z s (2, 0) ∨ (((2, 0)) : am_R) = (6, 0) ∧ f < 605) := fun z f y => by
    rcases y with y | y
    · exact h2 z y
    · exact absurd (congrArg Prod.fst y.1) (by show ¬ 2 = 6; omega)
  exact ⟨CV_EQ (CV_EQ (CV_EQ I.1 (EQ_FR (h6 _ _))) (EQ_FR (h6 _ _))) (EQ_FI (Or.inr (h2 _))), I.2.1, I.2.2⟩
theorem dtH_SM {q : am_A} {x y : Option am_R} {t : Int} : am_SM q (dtH q x y t) := ⟨rfl, rfl, rfl, rfl⟩
theorem dtH_CG {q : am_A} {x y : Option am_R} {t : Int} : am_CG q (dtH q x y t) := CG_FI (CG_FR (CG_FR CG_r (by show cK 2; omega)) (by show cK 2; omega)) (by show cK 2; omega)
theorem dtH_DR {q : am_A} {N t a k : Int} (ha : a ≠ -1) : am_DR (dtH q (oLg q a) (oLg q k) t) N (t, a, k) := ⟨rfl, rfl, (show t = latD N (t, a, k) from (if_neg ha).symm)⟩
/-- what offer does -/
def am_OFP (e : Nat) (q : am_A) (s : am_Z) (N : Int) (W : am_Y) : am_O → am_A → Prop := fun o q' => o = .inl none ∧ am_CI e q' s ∧ am_DR q' N W ∧ am_SM q q' ∧ am_CG q q'
theorem OF_c {e : Nat} {q : am_A} {s : am_Z} {N t a k : Int} {W : am_Y} (I : am_CI e q s) (ha : a ≠ -1) (h : ¬ (latD N W < t ∨ (t = latD N W ∧ W.2.1 ≠ -1 ∧ ¬ (k = -1 ∧ W.2.2 ≠ -1)))) : am_OFP e q s N (ofW N t W a k) (.inl none) (dtH q (oLg q a) (oLg q k) t) := by
  unfold ofW
  rw [if_neg h]
  exact ⟨rfl, dtH_CI I, dtH_DR ha, dtH_SM, dtH_CG⟩
theorem OF_n {e : Nat} {q : am_A} {s : am_Z} {N t a k : Int} {W : am_Y} (I : am_CI e q s) (D : am_DR q N W) (h : latD N W < t ∨ (t = latD N W ∧ W.2.1 ≠ -1 ∧ ¬ (k = -1 ∧ W.2.2 ≠ -1))) : am_OFP e q s N (ofW N t W a k) (.inl none) q := by
  unfold ofW
  rw [if_pos h]
  exact ⟨rfl, I, D, SM_r, CG_r⟩
theorem cs_offer1 {d : Nat} {q : am_A} {e : Nat} {s : am_Z} {N a : Int} {W : am_Y} (I : am_CI e q s) (D : am_DR q N W) (ha : legP s a) (bN : in32 (latD N W))  : am_C2 d m_Dt_offer [aR 2 0, aR 5 (lId q a), aN] q (am_OFP e q s N (ofW N (arv s a) W a (-1))) := by
  refine am_C2_i (ls := [some (aR 2 0), some (aR 5 (lId q a)), some (aN), none, none]) rfl ?_
  have V := I.1
  have b3 := (CV_B V).2.1 3 0 12 rfl
  have hga := V.2.2.2.1.1 a ha
  have bta := arv_b (CV_B V) (l := a) (by have h1 := ha.1; have h2 := ha.2.1; have h3 := ha.2.2.1; exact ⟨h1, by omega, by omega⟩)
  have ha0 := ha.1
  refine ar_aload_n rfl rfl ?_
  refine ar_ifnonnull rfl rfl (fun _ => ?_) (fun r hr => absurd hr (by simp))
  refine ar_aload_n rfl rfl ?_
  refine ar_gfIv rfl rfl rfl (by omega) (hga.2.2.2.2.2.2.1) ?_
  refine ar_goto rfl rfl ?_
  refine ar_stI3 rfl ?_
  refine ar_aload_n rfl rfl ?_
  refine ar_ifnonnull rfl rfl (fun _ => ?_) (fun r hr => absurd hr (by simp))
  refine cq_join (pc' := 32) (V := if W.2.2 ≠ -1 then 1 else 0) ?_ (fun K32 => ?_)
  · refine ar_stI4 rfl ?_
    refine ar_iload_n rfl rfl ?_
    refine ar_aload_n rfl rfl ?_
    refine ar_gfIv rfl rfl rfl (by omega) (D.2.2) ?_
    refine ar_icmp_gt rfl rfl (by omega) (by omega) (fun h39 => ?_) (fun h39 => ?_)
    · exact ar_ret rfl rfl (OF_n (a := a) (k := (-1)) I D (by first | omega | (have zf := oLg_s hr54; omega)))
    · refine ar_iload_n rfl rfl ?_
      refine ar_aload_n rfl rfl ?_
      refine ar_gfIv rfl rfl rfl (by omega) (D.2.2) ?_
      refine ar_icmp_ne rfl rfl (by omega) (by omega) (fun h47 => ?_) (fun h47 => ?_)
      · refine ar_aload_n rfl rfl ?_
        refine ar_aload_n rfl rfl ?_
        refine ar_pfR rfl rfl rfl rfl (by omega) ?_
        refine ar_aload_n rfl rfl ?_
        refine ar_aload_n rfl rfl ?_
        refine ar_pfR rfl rfl rfl rfl (by omega) ?_
        refine ar_aload_n rfl rfl ?_
        refine ar_iload_n rfl rfl ?_
        refine ar_pfI rfl rfl rfl rfl (by omega) (Or.inl rfl) ?_
        have hz : ¬ (latD N W < arv s a ∨ (arv s a = latD N W ∧ W.2.1 ≠ -1 ∧ ¬ ((-1) = -1 ∧ W.2.2 ≠ -1))) := by first | omega | (have zf := oLg_n hn54; omega)
        have ho := OF_c I (a := a) (k := (-1)) (t := arv s a) (by omega) hz
        have e1 : some (5, lId q a) = oLg q a := (if_neg (by omega)).symm
        have e2 : (none : Option am_R) = oLg q (-1) := (if_pos rfl).symm
        rw [e1, e2]
        exact ar_ret rfl rfl ho
      · refine ar_aload_n rfl rfl ?_
        refine ar_gfR rfl rfl rfl (by omega) (D.1) ?_
        refine ar_ifnull rfl rfl (fun hn54 => ?_) (fun r54 hr54 => ?_)
        · refine ar_aload_n rfl rfl ?_
          refine ar_aload_n rfl rfl ?_
          refine ar_pfR rfl rfl rfl rfl (by omega) ?_
          refine ar_aload_n rfl rfl ?_
          refine ar_aload_n rfl rfl ?_
          refine ar_pfR rfl rfl rfl rfl (by omega) ?_
          refine ar_aload_n rfl rfl ?_
          refine ar_iload_n rfl rfl ?_
          refine ar_pfI rfl rfl rfl rfl (by omega) (Or.inl rfl) ?_
          have hz : ¬ (latD N W < arv s a ∨ (arv s a = latD N W ∧ W.2.1 ≠ -1 ∧ ¬ ((-1) = -1 ∧ W.2.2 ≠ -1))) := by first | omega | (have zf := oLg_n hn54; omega)
          have ho := OF_c I (a := a) (k := (-1)) (t := arv s a) (by omega) hz
          have e1 : some (5, lId q a) = oLg q a := (if_neg (by omega)).symm
          have e2 : (none : Option am_R) = oLg q (-1) := (if_pos rfl).symm
          rw [e1, e2]
          exact ar_ret rfl rfl ho
        · refine ar_iload rfl rfl ?_
          refine ar_if_neB rfl rfl (fun h59 => ?_) (fun h59 => ?_)
          · refine ar_aload_n rfl rfl ?_
            refine ar_aload_n rfl rfl ?_
            refine ar_pfR rfl rfl rfl rfl (by omega) ?_
            refine ar_aload_n rfl rfl ?_
            refine ar_aload_n rfl rfl ?_
            refine ar_pfR rfl rfl rfl rfl (by omega) ?_
            refine ar_aload_n rfl rfl ?_
            refine ar_iload_n rfl rfl ?_
            refine ar_pfI rfl rfl rfl rfl (by omega) (Or.inl rfl) ?_
            have hz : ¬ (latD N W < arv s a ∨ (arv s a = latD N W ∧ W.2.1 ≠ -1 ∧ ¬ ((-1) = -1 ∧ W.2.2 ≠ -1))) := by first | omega | (have zf := oLg_n hn54; omega)
            have ho := OF_c I (a := a) (k := (-1)) (t := arv s a) (by omega) hz
            have e1 : some (5, lId q a) = oLg q a := (if_neg (by omega)).symm
            have e2 : (none : Option am_R) = oLg q (-1) := (if_pos rfl).symm
            rw [e1, e2]
            exact ar_ret rfl rfl ho
          · exact ar_ret rfl rfl (OF_n (a := a) (k := (-1)) I D (by first | omega | (have zf := oLg_s hr54; omega)))
  · refine ar_aload_n rfl rfl ?_
    refine ar_gfR rfl rfl rfl (by omega) (D.2.1) ?_
    refine ar_ifnull rfl rfl (fun hn24 => ?_) (fun r24 hr24 => ?_)
    · refine ar_iconst rfl ?_
      exact K32 _ (by first | (have z24 := oLg_s hr24; rw [if_pos z24]) | (have z24 := oLg_n hn24; rw [if_neg (fun z => z z24)]))
    · refine ar_iconst rfl ?_
      refine ar_goto rfl rfl ?_
      exact K32 _ (by first | (have z24 := oLg_s hr24; rw [if_pos z24]) | (have z24 := oLg_n hn24; rw [if_neg (fun z => z z24)]))
theorem cs_offer2 {d : Nat} {q : am_A} {e : Nat} {s : am_Z} {N a k : Int} {W : am_Y} (I : am_CI e q s) (D : am_DR q N W) (ha : legP s a) (hk : legP s k) (bN : in32 (latD N W))  : am_C2 d m_Dt_offer [aR 2 0, aR 5 (lId q a), aR 5 (lId q k)] q (am_OFP e q s N (ofW N (arv s k) W a k)) := by
  refine am_C2_i (ls := [some (aR 2 0), some (aR 5 (lId q a)), some (aR 5 (lId q k)), none, none]) rfl ?_
  have V := I.1
  have b3 := (CV_B V).2.1 3 0 12 rfl
  have hga := V.2.2.2.1.1 a ha
  have bta := arv_b (CV_B V) (l := a) (by have h1 := ha.1; have h2 := ha.2.1; have h3 := ha.2.2.1; exact ⟨h1, by omega, by omega⟩)
  have ha0 := ha.1
  have hgk := V.2.2.2.1.1 k hk
  have btk := arv_b (CV_B V) (l := k) (by have h1 := hk.1; have h2 := hk.2.1; have h3 := hk.2.2.1; exact ⟨h1, by omega, by omega⟩)
  have hk0 := hk.1
  refine ar_aload_n rfl rfl ?_
  refine ar_ifnonnull rfl rfl (fun hn => absurd hn (by simp)) (fun _ _ => ?_)
  refine ar_aload_n rfl rfl ?_
  refine ar_gfIv rfl rfl rfl (by omega) (hgk.2.2.2.2.2.2.1) ?_
  refine ar_stI3 rfl ?_
  refine ar_aload_n rfl rfl ?_
  refine ar_ifnonnull rfl rfl (fun hn => absurd hn (by simp)) (fun _ _ => ?_)
  refine ar_iconst rfl ?_
  refine ar_stI4 rfl ?_
  refine ar_iload_n rfl rfl ?_
  refine ar_aload_n rfl rfl ?_
  refine ar_gfIv rfl rfl rfl (by omega) (D.2.2) ?_
  refine ar_icmp_gt rfl rfl (by omega) (by omega) (fun h39 => ?_) (fun h39 => ?_)
  · exact ar_ret rfl rfl (OF_n (a := a) (k := k) I D (by first | omega | (have zf := oLg_s hr54; omega)))
  · refine ar_iload_n rfl rfl ?_
    refine ar_aload_n rfl rfl ?_
    refine ar_gfIv rfl rfl rfl (by omega) (D.2.2) ?_
    refine ar_icmp_ne rfl rfl (by omega) (by omega) (fun h47 => ?_) (fun h47 => ?_)
    · refine ar_aload_n rfl rfl ?_
      refine ar_aload_n rfl rfl ?_
      refine ar_pfR rfl rfl rfl rfl (by omega) ?_
      refine ar_aload_n rfl rfl ?_
      refine ar_aload_n rfl rfl ?_
      refine ar_pfR rfl rfl rfl rfl (by omega) ?_
      refine ar_aload_n rfl rfl ?_
      refine ar_iload_n rfl rfl ?_
      refine ar_pfI rfl rfl rfl rfl (by omega) (Or.inl rfl) ?_
      have hz : ¬ (latD N W < arv s k ∨ (arv s k = latD N W ∧ W.2.1 ≠ -1 ∧ ¬ (k = -1 ∧ W.2.2 ≠ -1))) := by first | omega | (have zf := oLg_n hn54; omega)
      have ho := OF_c I (a := a) (k := k) (t := arv s k) (by omega) hz
      have e1 : some (5, lId q a) = oLg q a := (if_neg (by omega)).symm
      have e2 : some (5, lId q k) = oLg q k := (if_neg (by omega)).symm
      rw [e1, e2]
      exact ar_ret rfl rfl ho
    · refine ar_aload_n rfl rfl ?_
      refine ar_gfR rfl rfl rfl (by omega) (D.1) ?_
      refine ar_ifnull rfl rfl (fun hn54 => ?_) (fun r54 hr54 => ?_)
      · refine ar_aload_n rfl rfl ?_
        refine ar_aload_n rfl rfl ?_
        refine ar_pfR rfl rfl rfl rfl (by omega) ?_
        refine ar_aload_n rfl rfl ?_
        refine ar_aload_n rfl rfl ?_
        refine ar_pfR rfl rfl rfl rfl (by omega) ?_
        refine ar_aload_n rfl rfl ?_
        refine ar_iload_n rfl rfl ?_
        refine ar_pfI rfl rfl rfl rfl (by omega) (Or.inl rfl) ?_
        have hz : ¬ (latD N W < arv s k ∨ (arv s k = latD N W ∧ W.2.1 ≠ -1 ∧ ¬ (k = -1 ∧ W.2.2 ≠ -1))) := by first | omega | (have zf := oLg_n hn54; omega)
        have ho := OF_c I (a := a) (k := k) (t := arv s k) (by omega) hz
        have e1 : some (5, lId q a) = oLg q a := (if_neg (by omega)).symm
        have e2 : some (5, lId q k) = oLg q k := (if_neg (by omega)).symm
        rw [e1, e2]
        exact ar_ret rfl rfl ho
      · refine ar_iload rfl rfl ?_
        refine ar_if_ne rfl rfl (by omega) (fun h59 => ?_) (fun h59 => ?_)
        · refine ar_aload_n rfl rfl ?_
          refine ar_aload_n rfl rfl ?_
          refine ar_pfR rfl rfl rfl rfl (by omega) ?_
          refine ar_aload_n rfl rfl ?_
          refine ar_aload_n rfl rfl ?_
          refine ar_pfR rfl rfl rfl rfl (by omega) ?_
          refine ar_aload_n rfl rfl ?_
          refine ar_iload_n rfl rfl ?_
          refine ar_pfI rfl rfl rfl rfl (by omega) (Or.inl rfl) ?_
          have hz : ¬ (latD N W < arv s k ∨ (arv s k = latD N W ∧ W.2.1 ≠ -1 ∧ ¬ (k = -1 ∧ W.2.2 ≠ -1))) := by first | omega | (have zf := oLg_n hn54; omega)
          have ho := OF_c I (a := a) (k := k) (t := arv s k) (by omega) hz
          have e1 : some (5, lId q a) = oLg q a := (if_neg (by omega)).symm
          have e2 : some (5, lId q k) = oLg q k := (if_neg (by omega)).symm
          rw [e1, e2]
          exact ar_ret rfl rfl ho
        · exact ar_ret rfl rfl (OF_n (a := a) (k := k) I D (by first | omega | (have zf := oLg_s hr54; omega)))
theorem cs_dtLegsD {d : Nat} {q : am_A} {N : Int} {W : am_Y} (D : am_DR q N W) : am_C2 d m_Dt_legs [aR 2 0] q (am_is2 (aI (zI (if W.2.1 = -1 then 0 else if W.2.2 = -1 then 1 else 2))) q) := by
  have h := cs_dtLegs (d := d) (q := q)
  rw [D.1, D.2.1] at h
  have e1 : (oLg q W.2.1 = none) = (W.2.1 = -1) := propext ⟨oLg_n, fun z => if_pos z⟩
  have e2 : (oLg q W.2.2 = none) = (W.2.2 = -1) := propext ⟨oLg_n, fun z => if_pos z⟩
  simp only [e1, e2] at h
  exact h
end

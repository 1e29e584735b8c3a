noncomputable section
section TSG
variable {s : am_Z} {n p : Int} {f : Int → Int} {w : am_wP} {W : am_wQ}
theorem fit_iff (h35 : rI s 35 = n) (hJ : ∀ k, 0 ≤ k → k < n → rA s 36 k = f k) {fa b c : Int} (hfa : 0 ≤ fa) (hb : 0 ≤ b) (hc : 1 ≤ c ∧ b + c ≤ n) : fitQ s n f p fa.toNat b c ↔ canH s b c fa p ≠ 0 := by
  have efa : ((fa.toNat : Nat) : Int) = fa := by omega
  unfold canH
  rw [andN_iff]
  have e1 : (if canH0 s b c fa then (1 : Int) else 0) ≠ 0 ↔ canH0 s b c fa := by
    split
    · rename_i h; exact ⟨fun _ => h, fun _ => by omega⟩
    · rename_i h; exact ⟨fun z => absurd rfl z, fun z => absurd z h⟩
  have e2 : ∀ k : Nat, fCh s b fa p k ≠ 0 ↔ canK s b fa p (b + k) := fun k => by
    unfold fCh
    split
    · rename_i h; exact ⟨fun _ => h, fun _ => by omega⟩
    · rename_i h; exact ⟨fun z => absurd rfl z, fun z => absurd z h⟩
  rw [e1]
  have e3 : rA s 36 b = f b := hJ b hb (by omega)
  have e4 : rA s 36 (b + c - 1) = f (b + c - 1) := hJ _ (by omega) (by omega)
  have ed : (dep s (f b) + rA s 1 (rA s 5 (f b / 100))) / 24 = f b % 100 + (rA s 7 (f b / 100) + rA s 17 (61 * (f b / 100) + f b % 100)) / 24 := by
    unfold dep
    omega
  have e5 : canH0 s b c fa ↔ (bgP s fa (f b) (rI s 0) ∧ enQ s n f fa.toNat (b + c)) := by
    unfold canH0 bgP enQ
    rw [e3, e4, ed, efa]
    constructor
    · intro ⟨a1, a2, a3, a4⟩
      exact ⟨⟨a1, a3, a4⟩, ⟨by omega, by omega⟩, a2⟩
    · intro ⟨⟨a1, a3, a4⟩, _, a2⟩
      exact ⟨a1, a2, a3, a4⟩
  unfold fitQ
  rw [e5, efa]
  constructor
  · intro ⟨a1, a2, a3⟩
    refine ⟨⟨a1, a2⟩, fun k hk => (e2 k).mpr ?_⟩
    have z := a3 (b + k) (by omega) (by omega)
    have ek : rA s 36 (b + k) = f (b + k) := hJ _ (by omega) (by omega)
    refine ⟨?_, ?_, ?_⟩
    · rw [ek]
      have := z.1.2.1
      rw [efa] at this
      exact this
    · rw [ek]
      have := z.1.2.2
      rw [efa] at this
      exact this
    · rcases z.2 with y | y
      · exact Or.inl (by omega)
      · refine Or.inr ?_
        rw [ek, hJ (b + k - 1) (by omega) (by omega)]
        exact y.2
  · intro ⟨⟨a1, a2⟩, a3⟩
    refine ⟨a1, a2, fun k k1 k2 => ?_⟩
    have z := (e2 (k - b).toNat).mp (a3 _ (by omega))
    rw [show b + (((k - b).toNat : Nat) : Int) = k by omega] at z
    obtain ⟨z1, z2, z3⟩ := z
    have ek : rA s 36 k = f k := hJ _ (by omega) (by omega)
    rw [ek] at z1 z2 z3
    refine ⟨⟨by omega, by rw [efa]; exact z1, by rw [efa]; exact z2⟩, ?_⟩
    rcases z3 with y | y
    · exact Or.inl (by omega)
    · by_cases e : k ≤ b
      · exact Or.inl e
      · rw [hJ (k - 1) (by omega) (by omega)] at y
        exact Or.inr ⟨by omega, y⟩
/-- the ways from b on, with D stretches to come -/
def cS (s : am_Z) (p n : Int) (D : Nat) (b : Int) (w : am_wP) : List am_wP := if b = n then [w] else wSub s p D b w
theorem wRem_s {sub : Int → am_wP → List am_wP} {k : Nat} {b c i : Int} (h0 : 0 ≤ i) (h1 : i < rI s 20) (h2 : b + c ≤ rI s 35) : wRem s p sub (k + 1) b w c (i - 1) = wNode s p sub b w c i ++ wRem s p sub k b w c i := by
  have e1 : nxC s c (i - 1) = c := if_neg (by omega)
  have e2 : nxF s (i - 1) = i := (if_neg (by omega)).trans (by omega)
  simp only [wRem]
  rw [e1, e2, if_neg (by omega)]
theorem wRem_c {sub : Int → am_wP → List am_wP} {k : Nat} {b c : Int} (h0 : 0 ≤ rI s 20) : wRem s p sub k b w c (rI s 20 - 1) = wRem s p sub k b w (c + 1) (-1) := by
  cases k with
  | zero => rfl
  | succ k =>
    simp only [wRem]
    by_cases e : rI s 20 = 0
    · rw [if_pos (Or.inr e), if_pos (Or.inr e)]
    · have e1 : nxC s c (rI s 20 - 1) = c + 1 := if_pos (by omega)
      have e2 : nxF s (rI s 20 - 1) = 0 := if_pos (by omega)
      have e3 : nxC s (c + 1) (-1) = c + 1 := if_neg (by omega)
      have e4 : nxF s (-1) = 0 := (if_neg (by omega)).trans (by omega)
      rw [e1, e2, e3, e4]
theorem wRem_e {sub : Int → am_wP → List am_wP} {k : Nat} {b c : Int} (h : rI s 35 < b + c) : wRem s p sub k b w c (-1) = [] := by
  cases k with
  | zero => rfl
  | succ k =>
    simp only [wRem]
    have e1 : c ≤ nxC s c (-1) := by unfold nxC; split <;> omega
    rw [if_pos (Or.inl (by omega))]
theorem node_ge (B : in_S s) {sub : Int → am_wP → List am_wP} (hs : ∀ b w x, x ∈ sub b w → pSum s w ≤ pSum s x) {b c f : Int} {x : am_wP} (h : x ∈ wNode s p sub b w c f) : pSum s w + rA s 25 f ≤ pSum s x := by
  unfold wNode at h
  have e := pSum_app s w (f, c)
  have e2 : pSum s (w ++ [(f, c)]) = pSum s w + rA s 25 f := e
  split at h
  · split at h
    · rw [List.mem_singleton.mp h]
      omega
    · have := hs _ _ _ h
      omega
  · simp at h
theorem rem_ge (B : in_S s) {sub : Int → am_wP → List am_wP} (hs : ∀ b w x, x ∈ sub b w → pSum s w ≤ pSum s x) {b : Int} {x : am_wP} : ∀ (k : Nat) (c f : Int), x ∈ wRem s p sub k b w c f → pSum s w ≤ pSum s x := by
  intro k
  induction k with
  | zero => intro c f h; simp [wRem] at h
  | succ k ih =>
    intro c f h
    simp only [wRem] at h
    split at h
    · simp at h
    · rcases List.mem_append.mp h with h | h
      · have z := node_ge B hs h
        have := B.1 25 (nxF s f) 0 5000 rfl
        omega
      · exact ih _ _ h
theorem sub_ge (B : in_S s) : ∀ (D : Nat) (b : Int) (w x : am_wP), x ∈ wSub s p D b w → pSum s w ≤ pSum s x := by
  intro D
  induction D with
  | zero => intro b w x h; simp [wSub] at h
  | succ D ih => intro b w x h; exact rem_ge B ih 100 1 (-1) h
theorem fold_no {x : Int} : ∀ (l : List am_wP) (W : am_wQ), ¬ chpP W.1 x → (∀ v ∈ l, x ≤ pSum s v) → l.foldl (tk s) W = W := by
  intro l
  induction l with
  | nil => intro W _ _; rfl
  | cons v l ih =>
    intro W h hv
    have e : tk s W v = W := by
      unfold tk
      rw [if_neg]
      intro z
      have := hv v (by simp)
      exact h (z.1.imp id (fun y => by omega))
    rw [List.foldl_cons, e]
    exact ih W h (fun u hu => hv u (List.mem_cons_of_mem _ hu))
/-- a node that is not looked into, or is -/
theorem node_no (B : in_S s) {D : Nat} {b c i : Int} (h : ¬ chpP W.1 (pSum s w + rA s 25 i)) : (wNode s p (wSub s p D) b w c i).foldl (tk s) W = W := fold_no _ W h (fun _ hv => node_ge B (sub_ge B D) hv)
theorem node_nf {D : Nat} {b c i : Int} (h : ¬ canH s b c i p ≠ 0) : (wNode s p (wSub s p D) b w c i).foldl (tk s) W = W := by
  unfold wNode
  rw [if_neg h]
  rfl
theorem node_f {D : Nat} {b c i : Int} (h35 : rI s 35 = n) (h : canH s b c i p ≠ 0) : wNode s p (wSub s p D) b w c i = cS s p n D (b + c) (w ++ [(i, c)]) := by
  unfold wNode cS
  rw [if_pos h, h35]
/-- what tryStretches answers -/
def am_TSp (e : Nat) (q0 : am_A) (s : am_Z) (r : am_R) (n : Int) (f : Int → Int) (p : Int) (w : am_wP) (W : am_wQ) : am_O → am_A → Prop := fun o q' => o = .inl none ∧ am_PS e q0 q' s r n f p W.1 ∧ am_BW q' s W ∧ am_TR q' s w
def am_TSc (d e : Nat) (q0 : am_A) (s : am_Z) (r : am_R) (n : Int) (f : Int → Int) (p : Int) (D : Nat) : Prop := ∀ (q : am_A) (w : am_wP) (b sm : Int) (W : am_wQ), am_PS e q0 q s r n f p W.1 → am_BW q s W → am_TR q s w → okP w → pLen w = b → b ≤ n → w.length + D = 4 → sm = pSum s w → am_C2 d m_Pr_tryStretches [aR 6 0, aI (zI b), aI (zI (w.length : Int)), aI (zI sm)] q (am_TSp e q0 s r n f p w ((cS s p n D b w).foldl (tk s) W))
end TSG
theorem lp_ts {d : Nat} {q : am_A} {Q : am_O → am_A → Prop} {e : Nat} {q0 : am_A} {s : am_Z} {t i : Nat} {n p : Int} {f : Int → Int} (h35 : rI s 35 = n) (hJ : ∀ k, 0 ≤ k → k < n → rA s 36 k = f k) (h1 : 1 ≤ n) {w : am_wP} {b : Int} {D : Nat} {WF : am_wQ} (hok : okP w) (hl : pLen w = b) (hb : b < n) (hD : w.length + (D + 1) = 4) (IH : am_TSc (d + 9) e q0 s (t, i) n f p D) : ∀ (m : Nat) (k : Nat) (c i0 : Int) (W1 : am_wQ) (q1 : am_A) (x6 : Option am_V), (17 * (n - b - c + 1) + 17 - i0).toNat < m → ((1 ≤ c ∧ b + c ≤ n) ∧ (0 ≤ i0 ∧ i0 ≤ rI s 20) ∧ 16 * (n - b - c + 1) - i0 ≤ k ∧ am_PS e q0 q1 s (t, i) n f p W1.1 ∧ am_BW q1 s W1 ∧ am_TR q1 s w ∧ (wRem s p (wSub s p D) k b w c (i0 - 1)).foldl (tk s) W1 = WF) → (∀ c i0 x6 q2, am_PS e q0 q2 s (t, i) n f p WF.1 → am_BW q2 s WF → am_TR q2 s w → am_W2 (d + 10) m_Pr_tryStretches 159 [some (aR 6 0), some (aI (zI b)), some (aI (zI (w.length : Int))), some (aI (zI (pSum s w))), some (aI (zI c)), some (aI (zI i0)), x6] [] (q2) Q) → am_W2 (d + 10) m_Pr_tryStretches 51 [some (aR 6 0), some (aI (zI b)), some (aI (zI (w.length : Int))), some (aI (zI (pSum s w))), some (aI (zI c)), some (aI (zI i0)), x6] [] (q1) Q := by
  intro m
  induction m with
  | zero => intro k c i0 W1 q1 x6 hm; exact absurd hm (Nat.not_lt_zero _)
  | succ m ih =>
    intro k c i0 W1 q1 x6 hm ⟨hc, hi, hk2, hP, hB, hT, hF⟩ K
    have V := hP.1.1
    have H := hP.2.2
    have B := CV_B V
    obtain ⟨⟨hk, h30, hn⟩, ⟨L, n0, n4⟩, ⟨r605, r606, r607, r608, r610⟩, bp, bam, hop, hr16⟩ := H
    have H := hP.2.2
    have h4 := hT.1
    have bS := pSum_b B h4
    have bw := pLen_b hok
    have b20 := B.2.1 20 0 16 rfl
    have p601 : qFR q1 601 (6, 0) = some (1601, 0) := V.1.2.1 601 _ rfl
    have p602 : qFR q1 602 (6, 0) = some (1602, 0) := V.1.2.1 602 _ rfl
    refine ar_iload rfl rfl ?_
    refine ar_aload_n rfl rfl ?_
    refine ar_gfR rfl rfl rfl (by omega) (r605) ?_
    refine ar_cv0 rfl rfl rfl (Nat.le_of_ble_eq_true rfl) (cl_szA (d := 0) V) (by omega) (fun o q57 hq => am_B2_is ?_ hq)
    refine ar_icmp_ge rfl rfl (by omega) (by omega) (fun h62 => ?_) (fun h62 => ?_)
    · have hie : i0 = rI s 20 := by omega
      rw [hie] at hF
      have hw := wRem_c (s := s) (p := p) (w := w) (sub := wSub s p D) (k := k) (b := b) (c := c) (by omega)
      refine ar_inc4 rfl ?_
      refine ar_goto rfl rfl ?_
      refine ar_iload_n rfl rfl ?_
      refine ar_iload rfl rfl ?_
      refine ar_iadd rfl ?_
      refine ar_aload_n rfl rfl ?_
      refine ar_gfR rfl rfl rfl (by omega) (r606) ?_
      refine ar_cv0 rfl hk rfl (Nat.le_of_ble_eq_true rfl) (cl_szL (d := 0) hk h30 hn L) (by omega) (fun o q40 hq => am_B2_is ?_ hq)
      refine ar_icmp_gt rfl rfl (by omega) (by omega) (fun h45 => ?_) (fun h45 => ?_)
      · rw [hw, wRem_e (s := s) (p := p) (w := w) (sub := wSub s p D) (k := k) (b := b) (c := c + 1) (by omega)] at hF
        have hF2 : W1 = WF := hF
        rw [hF2] at hP hB
        exact K _ _ _ _ hP hB hT
      · refine ar_iconst rfl ?_
        refine ar_stI5 rfl ?_
        exact ih k (c + 1) 0 _ _ _ (by omega) ⟨by omega, by omega, by omega, hP, hB, hT, by rw [hw] at hF; exact hF⟩ K
    · letI iD1 : Decidable (fitQ s n f p i0.toNat b c) := Classical.propDecidable _
      obtain ⟨k, rfl⟩ : ∃ k2, k = k2 + 1 := ⟨k - 1, by omega⟩
      have hA := (V.2.2.2.2.1.2.2 i0.toNat (by omega)).1
      have ei : ((i0.toNat : Nat) : Int) = i0 := by omega
      have b25 := B.1 25 i0 0 5000 rfl
      rw [wRem_s (s := s) (p := p) (w := w) (sub := wSub s p D) (k := k) (b := b) (c := c) (i := i0) (by omega) (by omega) (by omega), List.foldl_append] at hF
      refine ar_aload_n rfl rfl ?_
      refine ar_gfR rfl rfl rfl (by omega) (r605) ?_
      refine ar_iload rfl rfl ?_
      refine ar_cv1 rfl rfl rfl (Nat.le_of_ble_eq_true rfl) (cl_getA (d := 0) V (by omega)) (by omega) (fun o q71 hq => am_B2_is ?_ hq)
      refine ar_cast rfl rfl rfl ?_
      refine ar_stA6 rfl ?_
      refine ar_aload_n rfl rfl ?_
      refine ar_iload_n rfl rfl ?_
      refine ar_aload rfl rfl ?_
      refine ar_gfIv rfl rfl rfl (by omega) ((hA 305 25 rfl).trans (by rw [ei])) ?_
      refine ar_iadd rfl ?_
      refine ar_cv1 rfl rfl rfl (Nat.le_of_ble_eq_true rfl) (cs_isCheaper (d := 0) V H (by omega)) (by omega) (fun o q89 hq => am_B2_is ?_ hq)
      refine ar_if_eqB rfl rfl (fun h92 => ?_) (fun h92 => ?_)
      · refine ar_inc5 rfl ?_
        refine ar_goto rfl rfl ?_
        first
          | exact ih k c (i0 + 1) _ _ _ (by omega) ⟨hc, by omega, by omega, PS_L hP2 (Or.inl rfl), BW_L hB2, TR_pop hT2, by rw [show i0 + 1 - 1 = i0 by omega]; exact hF⟩ K
          | exact ih k c (i0 + 1) W1 _ _ (by omega) ⟨hc, by omega, by omega, hP, hB, hT, by rw [node_no B h92] at hF; rw [show i0 + 1 - 1 = i0 by omega]; exact hF⟩ K
          | exact ih k c (i0 + 1) W1 _ _ (by omega) ⟨hc, by omega, by omega, hP, hB, hT, by rw [node_nf (s := s) (p := p) (w := w) (W := W1) (D := D) (b := b) (c := c) (i := i0) (fun z => h104 ((fit_iff h35 hJ (fa := i0) (b := b) (c := c) (by omega) (by omega) (by omega)).mpr z))] at hF; rw [show i0 + 1 - 1 = i0 by omega]; exact hF⟩ K
      · refine ar_aload_n rfl rfl ?_
        refine ar_aload rfl rfl ?_
        refine ar_iload_n rfl rfl ?_
        refine ar_iload rfl rfl ?_
        refine ar_cv3 rfl rfl rfl (Nat.le_of_ble_eq_true rfl) (G_B (cs_fits (d := 0) V H (fa := i0.toNat) (by omega) (b := b) (c := c) (by omega) (by omega))) (by omega) (fun o q101 hq => am_B2_is ?_ hq)
        refine ar_if_eqB rfl rfl (fun h104 => ?_) (fun h104 => ?_)
        · refine ar_inc5 rfl ?_
          refine ar_goto rfl rfl ?_
          first
            | exact ih k c (i0 + 1) _ _ _ (by omega) ⟨hc, by omega, by omega, PS_L hP2 (Or.inl rfl), BW_L hB2, TR_pop hT2, by rw [show i0 + 1 - 1 = i0 by omega]; exact hF⟩ K
            | exact ih k c (i0 + 1) W1 _ _ (by omega) ⟨hc, by omega, by omega, hP, hB, hT, by rw [node_no B h92] at hF; rw [show i0 + 1 - 1 = i0 by omega]; exact hF⟩ K
            | exact ih k c (i0 + 1) W1 _ _ (by omega) ⟨hc, by omega, by omega, hP, hB, hT, by rw [node_nf (s := s) (p := p) (w := w) (W := W1) (D := D) (b := b) (c := c) (i := i0) (fun z => h104 ((fit_iff h35 hJ (fa := i0) (b := b) (c := c) (by omega) (by omega) (by omega)).mpr z))] at hF; rw [show i0 + 1 - 1 = i0 by omega]; exact hF⟩ K
        · have hcan := (fit_iff h35 hJ (fa := i0) (b := b) (c := c) (by omega) (by omega) (by omega)).mp h104
          rw [node_f h35 hcan] at hF
          refine ar_aload_n rfl rfl ?_
          refine ar_gfR rfl rfl rfl (by omega) (p601) ?_
          refine ar_aload rfl rfl ?_
          refine ar_cv1 rfl rfl rfl (Nat.le_of_ble_eq_true rfl) (sq_addL (d := 0) rfl (by omega) (V.1.2.2.2 1601 rfl) (Nat.le_trans (V.2.2.2.2.2.2.2.2.1 1601 rfl) (by omega)) ⟨rfl, by omega⟩) (by omega) (fun o q113 hq => ?_)
          obtain ⟨rfl, rfl, hcA⟩ := hq
          have h40 : (qLS q1 (1601, 0)).length ≤ 40 := by { rw [hT.2.2]; omega }
          have pA : qFR (qAdd q1 (1601, 0) (3, i0.toNat)) = qFR q1 := qAdd_FR
          have pB : qAL (qAdd q1 (1601, 0) (3, i0.toNat)) = qAL q1 := qAdd_AL
          have pF : qFI (qAdd q1 (1601, 0) (3, i0.toNat)) = qFI q1 := qAdd_FI
          refine ar_pop rfl rfl ?_
          refine ar_aload_n rfl rfl ?_
          refine ar_gfR rfl rfl rfl (by omega) ((congrFun (congrFun pA 602) (6, 0)).trans p602) ?_
          refine ar_iload_n rfl rfl ?_
          refine ar_iload rfl rfl ?_
          refine ar_ias rfl ⟨rfl, by omega⟩ ((congrFun pB (1602, 0)).trans (V.1.2.2.1 1602 4 rfl)) (by omega) (by omega) ?_
          refine ar_aload_n rfl rfl ?_
          refine ar_iload_n rfl rfl ?_
          refine ar_iload rfl rfl ?_
          refine ar_iadd rfl ?_
          refine ar_iload_n rfl rfl ?_
          refine ar_iconst rfl ?_
          refine ar_iadd rfl ?_
          refine ar_iload_n rfl rfl ?_
          refine ar_aload rfl rfl ?_
          refine ar_gfIv rfl rfl rfl (by omega) ((congrFun (congrFun pF 305) (3, i0.toNat)).trans ((hA 305 25 rfl).trans (by rw [ei]))) ?_
          refine ar_iadd rfl ?_
          have hT3 := TR_push (c := c) hT (by omega) (fa := i0) (by omega)
          have el : ((w ++ [(i0, c)]).length : Int) = (w.length : Int) + 1 := by { rw [List.length_append]; rfl }
          refine ar_cs4 rfl rfl (Nat.le_of_ble_eq_true rfl) (by { have z := IH _ (w ++ [(i0, c)]) (b + c) (pSum s w + rA s 25 i0) W1 (PS_I (PS_A hP (Or.inl rfl) h40 hcA) (Or.inl rfl)) (BW_I (BW_A hB)) hT3 (okP_app hok ⟨by omega, by omega⟩) (by rw [pLen_app, hl]) (by omega) (by rw [List.length_append]; show w.length + 1 + D = 4; omega) (pSum_app s w (i0, c)).symm; rw [el] at z; exact z }) (by omega) (fun o q140 hq => ?_)
          obtain ⟨rfl, hP2, hB2, hT2⟩ := hq
          refine ar_aload_n rfl rfl ?_
          refine ar_cv0 rfl rfl rfl (Nat.le_of_ble_eq_true rfl) (cs_dropLast (d := 0) hP2.1.1 hT2) (by omega) (fun o q144 hq => ?_)
          obtain ⟨rfl, rfl⟩ := hq
          refine ar_inc5 rfl ?_
          refine ar_goto rfl rfl ?_
          first
            | exact ih k c (i0 + 1) _ _ _ (by omega) ⟨hc, by omega, by omega, PS_L hP2 (Or.inl rfl), BW_L hB2, TR_pop hT2, by rw [show i0 + 1 - 1 = i0 by omega]; exact hF⟩ K
            | exact ih k c (i0 + 1) W1 _ _ (by omega) ⟨hc, by omega, by omega, hP, hB, hT, by rw [node_no B h92] at hF; rw [show i0 + 1 - 1 = i0 by omega]; exact hF⟩ K
            | exact ih k c (i0 + 1) W1 _ _ (by omega) ⟨hc, by omega, by omega, hP, hB, hT, by rw [node_nf (s := s) (p := p) (w := w) (W := W1) (D := D) (b := b) (c := c) (i := i0) (fun z => h104 ((fit_iff h35 hJ (fa := i0) (b := b) (c := c) (by omega) (by omega) (by omega)).mpr z))] at hF; rw [show i0 + 1 - 1 = i0 by omega]; exact hF⟩ K
theorem cs_ts {d : Nat} {q : am_A} {e : Nat} {q0 : am_A} {s : am_Z} {t i : Nat} {n p : Int} {f : Int → Int} (h35 : rI s 35 = n) (hJ : ∀ k, 0 ≤ k → k < n → rA s 36 k = f k) (h1 : 1 ≤ n) {w : am_wP} {b : Int} {D : Nat} {W : am_wQ} (hP : am_PS e q0 q s (t, i) n f p W.1) (hB : am_BW q s W) (hT : am_TR q s w) (hok : okP w) (hl : pLen w = b) (hb : b ≤ n) (hD : w.length + D = 4) (IH : ∀ D2, D = D2 + 1 → am_TSc (d + 9) e q0 s (t, i) n f p D2) : am_C2 (d + 10) m_Pr_tryStretches [aR 6 0, aI (zI b), aI (zI (w.length : Int)), aI (zI (pSum s w))] q (am_TSp e q0 s (t, i) n f p w ((cS s p n D b w).foldl (tk s) W)) := by
  refine am_C2_i (ls := [some (aR 6 0), some (aI (zI b)), some (aI (zI (w.length : Int))), some (aI (zI (pSum s w))), none, none, none]) rfl ?_
  have V := hP.1.1
  have H := hP.2.2
  have B := CV_B V
  obtain ⟨⟨hk, h30, hn⟩, ⟨L, n0, n4⟩, ⟨r605, r606, r607, r608, r610⟩, bp, bam, hop, hr16⟩ := H
  have H := hP.2.2
  have h4 := hT.1
  have bS := pSum_b B h4
  have bw := pLen_b hok
  have b20 := B.2.1 20 0 16 rfl
  have p601 : qFR q 601 (6, 0) = some (1601, 0) := V.1.2.1 601 _ rfl
  have p602 : qFR q 602 (6, 0) = some (1602, 0) := V.1.2.1 602 _ rfl
  refine ar_iload_n rfl rfl ?_
  refine ar_aload_n rfl rfl ?_
  refine ar_gfR rfl rfl rfl (by omega) (r606) ?_
  refine ar_cv0 rfl hk rfl (Nat.le_of_ble_eq_true rfl) (cl_szL (d := 0) hk h30 hn L) (by omega) (fun o q5 hq => am_B2_is ?_ hq)
  refine ar_icmp_lt rfl rfl (by omega) (by omega) (fun h10 => ?_) (fun h10 => ?_)
  · refine ar_iload_n rfl rfl ?_
    refine ar_if_lt rfl rfl (by omega) (fun ht => by omega) (fun h20 => ?_)
    refine ar_iload_n rfl rfl ?_
    refine ar_iconst rfl ?_
    refine ar_icmp_lt rfl rfl (by omega) (by omega) (fun h25 => ?_) (fun h25 => ?_)
    · obtain ⟨D, rfl⟩ : ∃ k2, D = k2 + 1 := ⟨D - 1, by omega⟩
      have hcs : cS s p n (D + 1) b w = wRem s p (wSub s p D) 100 b w 1 (0 - 1) := by { unfold cS; rw [if_neg (by omega)]; rfl }
      rw [hcs]
      refine ar_iconst rfl ?_
      refine ar_stI4 rfl ?_
      refine ar_iload_n rfl rfl ?_
      refine ar_iload rfl rfl ?_
      refine ar_iadd rfl ?_
      refine ar_aload_n rfl rfl ?_
      refine ar_gfR rfl rfl rfl (by omega) (r606) ?_
      refine ar_cv0 rfl hk rfl (Nat.le_of_ble_eq_true rfl) (cl_szL (d := 0) hk h30 hn L) (by omega) (fun o q40 hq => am_B2_is ?_ hq)
      refine ar_icmp_gt rfl rfl (by omega) (by omega) (fun ht => by omega) (fun h45 => ?_)
      refine ar_iconst rfl ?_
      refine ar_stI5 rfl ?_
      refine lp_ts (d := d) (q := q) (e := e) (q0 := q0) (s := s) (t := t) (i := i) (n := n) (p := p) (f := f) h35 hJ h1 (w := w) (b := b) (D := D) hok hl (by omega) hD (IH D rfl) 1000 100 1 0 W q _ (by omega) ⟨by omega, by omega, by omega, hP, hB, hT, rfl⟩ (fun c i0 x6 q2 hP2 hB2 hT2 => ?_)
      exact ar_ret rfl rfl (⟨rfl, hP2, hB2, hT2⟩)
    · exact ar_ret rfl rfl (⟨rfl, by { unfold cS; rw [if_neg (by omega), show D = 0 by omega]; exact ⟨hP, hB, hT⟩ }⟩)
  · refine ar_aload_n rfl rfl ?_
    refine ar_iload_n rfl rfl ?_
    refine ar_cv1 rfl rfl rfl (Nat.le_of_ble_eq_true rfl) (cs_keep (d := 0) h35 hJ h1 hP hB hT hok (by omega)) (by omega) (fun o q15 hq => ?_)
    obtain ⟨rfl, hP2, hB2, hT2⟩ := hq
    exact ar_ret rfl rfl (⟨rfl, by { unfold cS; rw [if_pos (by omega)]; exact ⟨hP2, hB2, hT2⟩ }⟩)
theorem ts_all {e : Nat} {q0 : am_A} {s : am_Z} {t i : Nat} {n p : Int} {f : Int → Int} (h35 : rI s 35 = n) (hJ : ∀ k, 0 ≤ k → k < n → rA s 36 k = f k) (h1 : 1 ≤ n) : ∀ D d : Nat, am_TSc (d + 10 + D) e q0 s (t, i) n f p D := by
  intro D
  induction D with
  | zero => intro d q w b sm W hP hB hT hok hl hb hD hs; subst hs; exact cs_ts (d := d) h35 hJ h1 hP hB hT hok hl hb hD (fun D2 h => by omega)
  | succ D ih =>
    intro d q w b sm W hP hB hT hok hl hb hD hs
    subst hs
    have z := cs_ts (d := d + 1 + D) h35 hJ h1 hP hB hT hok hl hb hD (fun D2 h => by
      have e : D2 = D := by omega
      rw [e]
      have y := ih d
      rw [show d + 10 + D = d + 1 + D + 9 by omega] at y
      exact y)
    rw [show d + 1 + D + 10 = d + 10 + (D + 1) by omega] at z
    exact z
end

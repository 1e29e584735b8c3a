noncomputable section
theorem rpr_u {nb : Nat} (hnb : nb ≤ 40) : ∀ (i : Nat) (X : am_X), (rpr1 nb i X).2 ≤ X.2 + 48000 * i := by
  have h3 : ∀ (b : Int) (m : Nat) (k : Int) (X : am_X), (rpr3 b m k X).2 ≤ X.2 + 100 * m := fun b m => by
    induction m with
    | zero => intro k X; show X.2 ≤ X.2 + 100 * 0; omega
    | succ m ih =>
      intro k X
      rw [rpr3]
      split
      · split
        · have z := ih (k + 1) (moveS X.1 b k, X.2 + (if mvP X.1 b k then 100 else 1))
          have y : (if mvP X.1 b k then (100 : Int) else 1) ≤ 100 := by split <;> omega
          have z' : (rpr3 b m (k + 1) (moveS X.1 b k, X.2 + (if mvP X.1 b k then 100 else 1))).2 ≤ X.2 + (if mvP X.1 b k then 100 else 1) + 100 * m := z
          omega
        · have z := ih (k + 1) X
          omega
      · omega
  have h2 : ∀ (t : Int) (n : Nat) (X : am_X), (rpr2 t n X).2 ≤ X.2 + 1200 * n := fun t n => by
    induction n with
    | zero => intro X; show X.2 ≤ X.2 + 1200 * 0; omega
    | succ n ih =>
      intro X
      have z := ih X
      rw [rpr2]
      unfold rprB
      split
      · have y := h3 n 12 0 (rpr2 t n X)
        omega
      · omega
  intro i
  induction i with
  | zero => intro X; show X.2 ≤ X.2 + 48000 * 0; omega
  | succ i ih =>
    intro X
    have z := ih X
    rw [rpr1]
    have y := h2 (3 - i) nb (rpr1 nb i X)
    omega
theorem tkV_b {s : am_Z} (B : in_S s) {l : Int} : 0 ≤ tkVc s l ∧ tkVc s l ≤ 400 := by
  have b44 := B.2.1 44 0 40 rfl
  have z := sumI_b (a := 0) (n := (rI s 44).toNat) (f := tkFc s l) (M := 9) (fun i => by
    have := B.1 45 i 0 9 rfl
    unfold tkFc
    split <;> omega)
  unfold tkVc
  omega
theorem st_b {s : am_Z} (B : in_S s) {l : Int} : 10 * rA s 17 (61 * (l / 100) + l % 100) ≤ standing s l ∧ standing s l ≤ 82 ∧ 0 ≤ standing s l := by
  have h := standing_b B (l := l)
  have h17 := B.1 17 (61 * (l / 100) + l % 100) 0 8 rfl
  refine ⟨?_, h.2.2.2.2, h.1⟩
  unfold standing
  split
  · omega
  · split <;> omega
theorem st_free {s : am_Z} {l : Int} (f : freeP s l) : standing s l = 10 * rA s 17 (61 * (l / 100) + l % 100) := by
  unfold standing
  rw [if_neg (fun z => z f.1), if_neg (fun z => by have y := z.2; have y2 := f.2; omega)]
  omega
theorem st_off {s : am_Z} {l : Int} (h : rA s 18 (61 * (l / 100) + l % 100) = 1) : standing s l = 10 * rA s 17 (61 * (l / 100) + l % 100) + 2 := by
  unfold standing
  rw [if_pos (by rw [h]; omega)]
theorem canc_17 {s : am_Z} (h52 : h52P s) {l x : Int} : rA (cancS s l) 17 x = rA s 17 x := (cancS_p (l := l) h52).2.1 17 x (by omega) (by omega) (by omega)
theorem canc_lP {s : am_Z} (h52 : h52P s) {l l' : Int} (h : legP s l') : legP (cancS s l) l' := (legP_cg (fun j x hj => (cancS_p (l := l) h52).2.1 j x (by omega) (by omega) (by omega)) ((cancS_p (l := l) h52).2.2 3)).mpr h
theorem ib_0N {d e : Nat} {q : am_A} {s : am_Z} {T : am_LT} (I : am_CI e q s) (L : am_LS q s T) {o1 o2 l : Int} (b1 : 0 ≤ o1 ∧ o1 ≤ 100000) (b2 : 0 ≤ o2 ∧ o2 ≤ 100000) (bl : 0 ≤ l ∧ l ≤ 1200) (hl : ¬ legP s l) {Q : am_O → am_A → Prop} (K : ∀ o q', am_LR 6 e q s o q' → Q o q') : am_W2 (d + 22) m_L_isBad 23 [some (aR 8 0), some (aR 24 0), some (aR 24 5), some (aI (zI 0)), some (aI (zI o1)), some (aI (zI o2)), some (aI (zI l)), some (aI (zI (-3000000))), none, none, none, none] [] q Q := by
  obtain ⟨F, J, H, P⟩ := L
  have B := CV_B I.1
  have b3 := B.2.1 3 0 12 rfl
  have sb := st_b B (l := l)
  have h52 : h52P s := fun x => B.1 52 x 0 10 rfl
  obtain ⟨⟨p0, p1, p2, p3, p4, p5, p6⟩, pn, pm, pf, pb, px⟩ := id P
  refine ar_iload_n rfl rfl ?_
  refine ar_if_ne rfl rfl (by omega) (fun ht => by omega) (fun h24 => ?_)
  refine ar_aload_n rfl rfl ?_
  refine ar_bipush (x := 8) rfl rfl ?_
  refine ar_iload rfl rfl ?_
  refine ar_iconst rfl ?_
  refine ar_iconst rfl ?_
  refine ar_iconst rfl ?_
  refine ar_iconst rfl ?_
  refine ar_iconst rfl ?_
  refine ar_cs8 rfl rfl (Nat.le_of_ble_eq_true rfl) (dx_cancelLeg (d := 0) (R := -3000000) I F J (by omega) (k := 1) (kCL_1 hl) (by omega) rfl) (by omega) (fun o q37 hq => ?_)
  obtain ⟨rfl, I37, Y37, F37⟩ := hq
  have H37 := LA_CY H Y37
  refine ar_stI8 rfl ?_
  refine ar_iload rfl rfl ?_
  refine ar_if_ge rfl rfl (by omega) (fun ht => by omega) (fun h44 => ?_)
  refine ar_iload rfl rfl ?_
  refine ar_ldc (x := -3000000) rfl rfl ?_
  refine ar_icmp_ne rfl rfl (by omega) (by omega) (fun ht => by omega) (fun h51 => ?_)
  refine ar_iconst rfl ?_
  refine ar_goto rfl rfl ?_
  exact ar_iret rfl (Or.inr ⟨rfl, by first | omega | (split <;> omega)⟩) (K _ _ ⟨rfl, s, T, CI_le I37 (by omega), ⟨F37, J, H37, P⟩, S31_CY Y37, rfl⟩)
theorem ib_0G {d e : Nat} {q : am_A} {s : am_Z} {T : am_LT} (I : am_CI e q s) (L : am_LS q s T) {o1 o2 l : Int} (b1 : 0 ≤ o1 ∧ o1 ≤ 100000) (b2 : 0 ≤ o2 ∧ o2 ≤ 100000) (bl : 0 ≤ l ∧ l ≤ 1200) (hl : legP s l) (hf : ¬ freeP s l) {Q : am_O → am_A → Prop} (K : ∀ o q', am_LR 6 e q s o q' → Q o q') : am_W2 (d + 22) m_L_isBad 23 [some (aR 8 0), some (aR 24 0), some (aR 24 5), some (aI (zI 0)), some (aI (zI o1)), some (aI (zI o2)), some (aI (zI l)), some (aI (zI (standing s l))), none, none, none, none] [] q Q := by
  obtain ⟨F, J, H, P⟩ := L
  have B := CV_B I.1
  have b3 := B.2.1 3 0 12 rfl
  have sb := st_b B (l := l)
  have h52 : h52P s := fun x => B.1 52 x 0 10 rfl
  obtain ⟨⟨p0, p1, p2, p3, p4, p5, p6⟩, pn, pm, pf, pb, px⟩ := id P
  have sm := (standing_b B (l := l)).2.2.2.1.mpr hf
  refine ar_iload_n rfl rfl ?_
  refine ar_if_ne rfl rfl (by omega) (fun ht => by omega) (fun h24 => ?_)
  refine ar_aload_n rfl rfl ?_
  refine ar_bipush (x := 8) rfl rfl ?_
  refine ar_iload rfl rfl ?_
  refine ar_iconst rfl ?_
  refine ar_iconst rfl ?_
  refine ar_iconst rfl ?_
  refine ar_iconst rfl ?_
  refine ar_iconst rfl ?_
  refine ar_cs8 rfl rfl (Nat.le_of_ble_eq_true rfl) (dx_cancelLeg (d := 0) (R := -1000000) I F J (by omega) (k := 2) (kCL_2 hl hf) (by omega) rfl) (by omega) (fun o q37 hq => ?_)
  obtain ⟨rfl, I37, Y37, F37⟩ := hq
  have H37 := LA_CY H Y37
  refine ar_stI8 rfl ?_
  refine ar_iload rfl rfl ?_
  refine ar_if_ge rfl rfl (by omega) (fun h44 => ?_) (fun hf => by omega)
  refine ar_iload rfl rfl ?_
  refine ar_bipush (x := 10) rfl rfl ?_
  refine ar_irem rfl (by omega) (by omega) ?_
  refine ar_if_le rfl rfl (by omega) (fun ht => by omega) (fun h67 => ?_)
  refine ar_iload rfl rfl ?_
  refine ar_ldc (x := -1000000) rfl rfl ?_
  refine ar_icmp_ne rfl rfl (by omega) (by omega) (fun ht => by omega) (fun h74 => ?_)
  refine ar_iconst rfl ?_
  refine ar_goto rfl rfl ?_
  exact ar_iret rfl (Or.inr ⟨rfl, by first | omega | (split <;> omega)⟩) (K _ _ ⟨rfl, s, T, CI_le I37 (by omega), ⟨F37, J, H37, P⟩, S31_CY Y37, rfl⟩)
theorem ib_0F {d e : Nat} {q : am_A} {s : am_Z} {T : am_LT} (I : am_CI e q s) (L : am_LS q s T) {o1 o2 l : Int} (b1 : 0 ≤ o1 ∧ o1 ≤ 100000) (b2 : 0 ≤ o2 ∧ o2 ≤ 100000) (bl : 0 ≤ l ∧ l ≤ 1200) (hl : legP s l) (hf : freeP s l) {Q : am_O → am_A → Prop} (K : ∀ o q', am_LR 6 e q s o q' → Q o q') : am_W2 (d + 22) m_L_isBad 23 [some (aR 8 0), some (aR 24 0), some (aR 24 5), some (aI (zI 0)), some (aI (zI o1)), some (aI (zI o2)), some (aI (zI l)), some (aI (zI (standing s l))), none, none, none, none] [] q Q := by
  obtain ⟨F, J, H, P⟩ := L
  have B := CV_B I.1
  have b3 := B.2.1 3 0 12 rfl
  have sb := st_b B (l := l)
  have h52 : h52P s := fun x => B.1 52 x 0 10 rfl
  obtain ⟨⟨p0, p1, p2, p3, p4, p5, p6⟩, pn, pm, pf, pb, px⟩ := id P
  have sf := st_free hf
  have h17 := B.1 17 (61 * (l / 100) + l % 100) 0 8 rfl
  have tb := tkV_b B (l := l)
  have J1 := JJ_cancelLeg J B hl hf
  have s1 : standing (cancS s l) l = 10 * rA s 17 (61 * (l / 100) + l % 100) + 2 := by rw [st_off (canc_18 h52), canc_17 h52]
  have K1 := (canc_J (fun x => B.1 52 x 0 10 rfl) (fun x => B.2.2 53 x rfl) ⟨hl.1, hl.2.2.1⟩ hf J.2.1 J.2.2).2.2
  refine ar_iload_n rfl rfl ?_
  refine ar_if_ne rfl rfl (by omega) (fun ht => by omega) (fun h24 => ?_)
  refine ar_aload_n rfl rfl ?_
  refine ar_bipush (x := 8) rfl rfl ?_
  refine ar_iload rfl rfl ?_
  refine ar_iconst rfl ?_
  refine ar_iconst rfl ?_
  refine ar_iconst rfl ?_
  refine ar_iconst rfl ?_
  refine ar_iconst rfl ?_
  refine ar_cs8 rfl rfl (Nat.le_of_ble_eq_true rfl) (dz_cancelLeg (d := 0) I F J (by omega) (by unfold kCancelLeg; rw [if_neg (fun z => z hl), if_pos hf])) (by omega) (fun o q37 hq => ?_)
  obtain ⟨rfl, I37, Y37, F37⟩ := hq
  have H37 := LA_CY H Y37
  refine ar_stI8 rfl ?_
  refine ar_iload rfl rfl ?_
  refine ar_if_ge rfl rfl (by omega) (fun h44 => ?_) (fun hf => by omega)
  refine ar_iload rfl rfl ?_
  refine ar_bipush (x := 10) rfl rfl ?_
  refine ar_irem rfl (by omega) (by omega) ?_
  refine ar_if_le rfl rfl (by omega) (fun h67 => ?_) (fun hf => by omega)
  refine ar_iload rfl rfl ?_
  refine ar_if_lt rfl rfl (by omega) (fun ht => by omega) (fun h87 => ?_)
  refine ar_aload_n rfl rfl ?_
  refine ar_iload rfl rfl ?_
  refine ar_cv1 rfl rfl rfl (Nat.le_of_ble_eq_true rfl) (T2_is (cs_standing (d := 0) I37.1 (by omega)) (canc_lP h52 hl)) (by omega) (fun o q93 hq => am_B2_is ?_ hq)
  rw [s1]
  refine ar_iload rfl rfl ?_
  refine ar_iconst rfl ?_
  refine ar_iadd rfl ?_
  refine ar_icmp_ne rfl rfl (by omega) (by omega) (fun ht => by omega) (fun h100 => ?_)
  refine ar_iconst rfl ?_
  refine ar_goto rfl rfl ?_
  exact ar_iret rfl (Or.inr ⟨rfl, by first | omega | (split <;> omega)⟩) (K _ _ ⟨rfl, _, T, CI_le I37 (by omega), ⟨F37, J1, H37, PL_KF P K1 ((cancS_p (l := l) h52).2.2 0) ((cancS_p (l := l) h52).2.2 68)⟩, S31_CY Y37, (cancS_p (l := l) h52).2.2 0⟩)
theorem ib_1N {d e : Nat} {q : am_A} {s : am_Z} {T : am_LT} (I : am_CI e q s) (L : am_LS q s T) {o1 o2 l : Int} (b1 : 0 ≤ o1 ∧ o1 ≤ 100000) (b2 : 0 ≤ o2 ∧ o2 ≤ 100000) (bl : 0 ≤ l ∧ l ≤ 1200) {hh : Int} (bh : 1 ≤ hh ∧ hh ≤ 9) (hl : ¬ legP s l) {Q : am_O → am_A → Prop} (K : ∀ o q', am_LR 6 e q s o q' → Q o q') : am_W2 (d + 22) m_L_isBad 136 [some (aR 8 0), some (aR 24 0), some (aR 24 5), some (aI (zI 1)), some (aI (zI o1)), some (aI (zI o2)), some (aI (zI l)), some (aI (zI (-3000000))), some (aI (zI hh)), none, none, none] [] q Q := by
  obtain ⟨F, J, H, P⟩ := L
  have B := CV_B I.1
  have b3 := B.2.1 3 0 12 rfl
  have sb := st_b B (l := l)
  have h52 : h52P s := fun x => B.1 52 x 0 10 rfl
  obtain ⟨⟨p0, p1, p2, p3, p4, p5, p6⟩, pn, pm, pf, pb, px⟩ := id P
  refine ar_aload_n rfl rfl ?_
  refine ar_bipush (x := 9) rfl rfl ?_
  refine ar_iload rfl rfl ?_
  refine ar_iload rfl rfl ?_
  refine ar_iconst rfl ?_
  refine ar_iconst rfl ?_
  refine ar_iconst rfl ?_
  refine ar_iconst rfl ?_
  refine ar_cs8 rfl rfl (Nat.le_of_ble_eq_true rfl) (dx_delay (d := 0) (R := -3000000) I F J (by omega) (by omega) (k := 1) (if_pos hl) (by omega) rfl) (by omega) (fun o q147 hq => ?_)
  obtain ⟨rfl, I147, Y147, F147⟩ := hq
  have H147 := LA_CY H Y147
  refine ar_stI9 rfl ?_
  refine ar_iload rfl rfl ?_
  refine ar_if_ge rfl rfl (by omega) (fun ht => by omega) (fun h154 => ?_)
  refine ar_iload rfl rfl ?_
  refine ar_ldc (x := -3000000) rfl rfl ?_
  refine ar_icmp_ne rfl rfl (by omega) (by omega) (fun ht => by omega) (fun h161 => ?_)
  refine ar_iconst rfl ?_
  refine ar_goto rfl rfl ?_
  exact ar_iret rfl (Or.inr ⟨rfl, by first | omega | (split <;> omega)⟩) (K _ _ ⟨rfl, s, T, CI_le I147 (by omega), ⟨F147, J, H147, P⟩, S31_CY Y147, rfl⟩)
theorem ib_1B {d e : Nat} {q : am_A} {s : am_Z} {T : am_LT} (I : am_CI e q s) (L : am_LS q s T) {o1 o2 l : Int} (b1 : 0 ≤ o1 ∧ o1 ≤ 100000) (b2 : 0 ≤ o2 ∧ o2 ≤ 100000) (bl : 0 ≤ l ∧ l ≤ 1200) {hh : Int} (bh : 1 ≤ hh ∧ hh ≤ 9) (hl : legP s l) (h8 : 8 < hh) {Q : am_O → am_A → Prop} (K : ∀ o q', am_LR 6 e q s o q' → Q o q') : am_W2 (d + 22) m_L_isBad 136 [some (aR 8 0), some (aR 24 0), some (aR 24 5), some (aI (zI 1)), some (aI (zI o1)), some (aI (zI o2)), some (aI (zI l)), some (aI (zI (standing s l))), some (aI (zI hh)), none, none, none] [] q Q := by
  obtain ⟨F, J, H, P⟩ := L
  have B := CV_B I.1
  have b3 := B.2.1 3 0 12 rfl
  have sb := st_b B (l := l)
  have h52 : h52P s := fun x => B.1 52 x 0 10 rfl
  obtain ⟨⟨p0, p1, p2, p3, p4, p5, p6⟩, pn, pm, pf, pb, px⟩ := id P
  refine ar_aload_n rfl rfl ?_
  refine ar_bipush (x := 9) rfl rfl ?_
  refine ar_iload rfl rfl ?_
  refine ar_iload rfl rfl ?_
  refine ar_iconst rfl ?_
  refine ar_iconst rfl ?_
  refine ar_iconst rfl ?_
  refine ar_iconst rfl ?_
  refine ar_cs8 rfl rfl (Nat.le_of_ble_eq_true rfl) (dx_delay (d := 0) (R := -2000000) I F J (by omega) (by omega) (k := 2) (by unfold kDelay; rw [if_neg (fun z => z hl), if_pos (by omega)]) (by omega) rfl) (by omega) (fun o q147 hq => ?_)
  obtain ⟨rfl, I147, Y147, F147⟩ := hq
  have H147 := LA_CY H Y147
  refine ar_stI9 rfl ?_
  refine ar_iload rfl rfl ?_
  refine ar_if_ge rfl rfl (by omega) (fun h154 => ?_) (fun hf => by omega)
  refine ar_iload rfl rfl ?_
  refine ar_bipush (x := 8) rfl rfl ?_
  refine ar_icmp_le rfl rfl (by omega) (by omega) (fun ht => by omega) (fun h176 => ?_)
  refine ar_iload rfl rfl ?_
  refine ar_ldc (x := -2000000) rfl rfl ?_
  refine ar_icmp_ne rfl rfl (by omega) (by omega) (fun ht => by omega) (fun h183 => ?_)
  refine ar_iconst rfl ?_
  refine ar_goto rfl rfl ?_
  exact ar_iret rfl (Or.inr ⟨rfl, by first | omega | (split <;> omega)⟩) (K _ _ ⟨rfl, s, T, CI_le I147 (by omega), ⟨F147, J, H147, P⟩, S31_CY Y147, rfl⟩)
theorem ib_1G {d e : Nat} {q : am_A} {s : am_Z} {T : am_LT} (I : am_CI e q s) (L : am_LS q s T) {o1 o2 l : Int} (b1 : 0 ≤ o1 ∧ o1 ≤ 100000) (b2 : 0 ≤ o2 ∧ o2 ≤ 100000) (bl : 0 ≤ l ∧ l ≤ 1200) {hh : Int} (bh : 1 ≤ hh ∧ hh ≤ 9) (hl : legP s l) (h8 : hh ≤ 8) (hf : ¬ freeP s l) {Q : am_O → am_A → Prop} (K : ∀ o q', am_LR 6 e q s o q' → Q o q') : am_W2 (d + 22) m_L_isBad 136 [some (aR 8 0), some (aR 24 0), some (aR 24 5), some (aI (zI 1)), some (aI (zI o1)), some (aI (zI o2)), some (aI (zI l)), some (aI (zI (standing s l))), some (aI (zI hh)), none, none, none] [] q Q := by
  obtain ⟨F, J, H, P⟩ := L
  have B := CV_B I.1
  have b3 := B.2.1 3 0 12 rfl
  have sb := st_b B (l := l)
  have h52 : h52P s := fun x => B.1 52 x 0 10 rfl
  obtain ⟨⟨p0, p1, p2, p3, p4, p5, p6⟩, pn, pm, pf, pb, px⟩ := id P
  have sm := (standing_b B (l := l)).2.2.2.1.mpr hf
  refine ar_aload_n rfl rfl ?_
  refine ar_bipush (x := 9) rfl rfl ?_
  refine ar_iload rfl rfl ?_
  refine ar_iload rfl rfl ?_
  refine ar_iconst rfl ?_
  refine ar_iconst rfl ?_
  refine ar_iconst rfl ?_
  refine ar_iconst rfl ?_
  refine ar_cs8 rfl rfl (Nat.le_of_ble_eq_true rfl) (dx_delay (d := 0) (R := -1000000) I F J (by omega) (by omega) (k := 3) (by unfold kDelay; rw [if_neg (fun z => z hl), if_neg (by omega), if_neg hf]) (by omega) rfl) (by omega) (fun o q147 hq => ?_)
  obtain ⟨rfl, I147, Y147, F147⟩ := hq
  have H147 := LA_CY H Y147
  refine ar_stI9 rfl ?_
  refine ar_iload rfl rfl ?_
  refine ar_if_ge rfl rfl (by omega) (fun h154 => ?_) (fun hf => by omega)
  refine ar_iload rfl rfl ?_
  refine ar_bipush (x := 8) rfl rfl ?_
  refine ar_icmp_le rfl rfl (by omega) (by omega) (fun h176 => ?_) (fun hf => by omega)
  refine ar_iload rfl rfl ?_
  refine ar_bipush (x := 10) rfl rfl ?_
  refine ar_irem rfl (by omega) (by omega) ?_
  refine ar_if_le rfl rfl (by omega) (fun ht => by omega) (fun h199 => ?_)
  refine ar_iload rfl rfl ?_
  refine ar_ldc (x := -1000000) rfl rfl ?_
  refine ar_icmp_ne rfl rfl (by omega) (by omega) (fun ht => by omega) (fun h206 => ?_)
  refine ar_iconst rfl ?_
  refine ar_goto rfl rfl ?_
  exact ar_iret rfl (Or.inr ⟨rfl, by first | omega | (split <;> omega)⟩) (K _ _ ⟨rfl, s, T, CI_le I147 (by omega), ⟨F147, J, H147, P⟩, S31_CY Y147, rfl⟩)
theorem ib_1X {d e : Nat} {q : am_A} {s : am_Z} {T : am_LT} (I : am_CI e q s) (L : am_LS q s T) {o1 o2 l : Int} (b1 : 0 ≤ o1 ∧ o1 ≤ 100000) (b2 : 0 ≤ o2 ∧ o2 ≤ 100000) (bl : 0 ≤ l ∧ l ≤ 1200) {hh : Int} (bh : 1 ≤ hh ∧ hh ≤ 9) (hl : legP s l) (h8 : hh ≤ 8) (hf : freeP s l) (hx : 8 < rA s 17 (61 * (l / 100) + l % 100) + hh) {Q : am_O → am_A → Prop} (K : ∀ o q', am_LR 6 e q s o q' → Q o q') : am_W2 (d + 22) m_L_isBad 136 [some (aR 8 0), some (aR 24 0), some (aR 24 5), some (aI (zI 1)), some (aI (zI o1)), some (aI (zI o2)), some (aI (zI l)), some (aI (zI (standing s l))), some (aI (zI hh)), none, none, none] [] q Q := by
  obtain ⟨F, J, H, P⟩ := L
  have B := CV_B I.1
  have b3 := B.2.1 3 0 12 rfl
  have sb := st_b B (l := l)
  have h52 : h52P s := fun x => B.1 52 x 0 10 rfl
  obtain ⟨⟨p0, p1, p2, p3, p4, p5, p6⟩, pn, pm, pf, pb, px⟩ := id P
  have sf := st_free hf
  have h17 := B.1 17 (61 * (l / 100) + l % 100) 0 8 rfl
  have J1 := JJ_delay (h := hh) J B hl hf
  have K1 := (delay_J (h := hh) B J.2.1 J.2.2 hl hf).2.2
  obtain ⟨dv1, dv2, dv3⟩ := delay_v (h := hh) B hl hf ⟨bh.1, h8⟩
  have d0 := (INV_delay (l := l) (h := hh) J.1 B hl).2 0
  have d68 := (INV_delay (l := l) (h := hh) J.1 B hl).2 68
  have hl1 : legP (delayS s l hh) l := (legP_cg (fun j x hj => K1.2.1 j x (by omega)) (K1.1 3 (by omega))).mpr hl
  obtain ⟨x1, x2, x3⟩ := dv2 hx
  have s1 : standing (delayS s l hh) l = 10 * rA s 17 (61 * (l / 100) + l % 100) + 2 := by rw [st_off x2, x3]
  refine ar_aload_n rfl rfl ?_
  refine ar_bipush (x := 9) rfl rfl ?_
  refine ar_iload rfl rfl ?_
  refine ar_iload rfl rfl ?_
  refine ar_iconst rfl ?_
  refine ar_iconst rfl ?_
  refine ar_iconst rfl ?_
  refine ar_iconst rfl ?_
  refine ar_cs8 rfl rfl (Nat.le_of_ble_eq_true rfl) (dz_delay (d := 0) I F J (by omega) (by omega) (by unfold kDelay; rw [if_neg (fun z => z hl), if_neg (by omega), if_pos hf])) (by omega) (fun o q147 hq => ?_)
  obtain ⟨rfl, I147, Y147, F147⟩ := hq
  have H147 := LA_CY H Y147
  have sb1 := st_b (CV_B I147.1) (l := l)
  refine ar_stI9 rfl ?_
  refine ar_iload rfl rfl ?_
  refine ar_if_ge rfl rfl (by omega) (fun h154 => ?_) (fun hf => by omega)
  refine ar_iload rfl rfl ?_
  refine ar_bipush (x := 8) rfl rfl ?_
  refine ar_icmp_le rfl rfl (by omega) (by omega) (fun h176 => ?_) (fun hf => by omega)
  refine ar_iload rfl rfl ?_
  refine ar_bipush (x := 10) rfl rfl ?_
  refine ar_irem rfl (by omega) (by omega) ?_
  refine ar_if_le rfl rfl (by omega) (fun h199 => ?_) (fun hf => by omega)
  refine ar_iload rfl rfl ?_
  refine ar_if_le rfl rfl (by omega) (fun ht => by omega) (fun h219 => ?_)
  refine ar_iload rfl rfl ?_
  refine ar_bipush (x := 8) rfl rfl ?_
  refine ar_icmp_ge rfl rfl (by omega) (by omega) (fun ht => by omega) (fun h226 => ?_)
  refine ar_iload rfl rfl ?_
  refine ar_bipush (x := 10) rfl rfl ?_
  refine ar_idiv rfl (by omega) (by omega) ?_
  refine ar_iload rfl rfl ?_
  refine ar_iadd rfl ?_
  refine ar_bipush (x := 8) rfl rfl ?_
  refine ar_icmp_le rfl rfl (by omega) (by omega) (fun ht => by omega) (fun h239 => ?_)
  refine ar_aload_n rfl rfl ?_
  refine ar_iload rfl rfl ?_
  refine ar_cv1 rfl rfl rfl (Nat.le_of_ble_eq_true rfl) (T2_is (cs_standing (d := 0) I147.1 (by omega)) hl1) (by omega) (fun o q245 hq => am_B2_is ?_ hq)
  refine ar_iload rfl rfl ?_
  refine ar_iconst rfl ?_
  refine ar_iadd rfl ?_
  refine ar_icmp_ne rfl rfl (by omega) (by omega) (fun ht => by omega) (fun h252 => ?_)
  refine ar_iload rfl rfl ?_
  refine ar_iconst rfl ?_
  refine ar_icmp_ne rfl rfl (by omega) (by omega) (fun ht => by omega) (fun h258 => ?_)
  refine ar_goto rfl rfl ?_
  refine ar_iconst rfl ?_
  refine ar_goto rfl rfl ?_
  exact ar_iret rfl (Or.inr ⟨rfl, by first | omega | (split <;> omega)⟩) (K _ _ ⟨rfl, _, T, CI_le I147 (by omega), ⟨F147, J1, H147, PL_KF P K1 d0 d68⟩, S31_CY Y147, d0⟩)
theorem ib_1Y {d e : Nat} {q : am_A} {s : am_Z} {T : am_LT} (I : am_CI e q s) (L : am_LS q s T) {o1 o2 l : Int} (b1 : 0 ≤ o1 ∧ o1 ≤ 100000) (b2 : 0 ≤ o2 ∧ o2 ≤ 100000) (bl : 0 ≤ l ∧ l ≤ 1200) {hh : Int} (bh : 1 ≤ hh ∧ hh ≤ 9) (hl : legP s l) (h8 : hh ≤ 8) (hf : freeP s l) (hx : ¬ 8 < rA s 17 (61 * (l / 100) + l % 100) + hh) {Q : am_O → am_A → Prop} (K : ∀ o q', am_LR 6 e q s o q' → Q o q') : am_W2 (d + 22) m_L_isBad 136 [some (aR 8 0), some (aR 24 0), some (aR 24 5), some (aI (zI 1)), some (aI (zI o1)), some (aI (zI o2)), some (aI (zI l)), some (aI (zI (standing s l))), some (aI (zI hh)), none, none, none] [] q Q := by
  obtain ⟨F, J, H, P⟩ := L
  have B := CV_B I.1
  have b3 := B.2.1 3 0 12 rfl
  have sb := st_b B (l := l)
  have h52 : h52P s := fun x => B.1 52 x 0 10 rfl
  obtain ⟨⟨p0, p1, p2, p3, p4, p5, p6⟩, pn, pm, pf, pb, px⟩ := id P
  have sf := st_free hf
  have h17 := B.1 17 (61 * (l / 100) + l % 100) 0 8 rfl
  have J1 := JJ_delay (h := hh) J B hl hf
  have K1 := (delay_J (h := hh) B J.2.1 J.2.2 hl hf).2.2
  obtain ⟨dv1, dv2, dv3⟩ := delay_v (h := hh) B hl hf ⟨bh.1, h8⟩
  have d0 := (INV_delay (l := l) (h := hh) J.1 B hl).2 0
  have d68 := (INV_delay (l := l) (h := hh) J.1 B hl).2 68
  have hl1 : legP (delayS s l hh) l := (legP_cg (fun j x hj => K1.2.1 j x (by omega)) (K1.1 3 (by omega))).mpr hl
  have x1 := dv3 (by omega)
  refine ar_aload_n rfl rfl ?_
  refine ar_bipush (x := 9) rfl rfl ?_
  refine ar_iload rfl rfl ?_
  refine ar_iload rfl rfl ?_
  refine ar_iconst rfl ?_
  refine ar_iconst rfl ?_
  refine ar_iconst rfl ?_
  refine ar_iconst rfl ?_
  refine ar_cs8 rfl rfl (Nat.le_of_ble_eq_true rfl) (dz_delay (d := 0) I F J (by omega) (by omega) (by unfold kDelay; rw [if_neg (fun z => z hl), if_neg (by omega), if_pos hf])) (by omega) (fun o q147 hq => ?_)
  obtain ⟨rfl, I147, Y147, F147⟩ := hq
  have H147 := LA_CY H Y147
  have sb1 := st_b (CV_B I147.1) (l := l)
  refine ar_stI9 rfl ?_
  refine ar_iload rfl rfl ?_
  refine ar_if_ge rfl rfl (by omega) (fun h154 => ?_) (fun hf => by omega)
  refine ar_iload rfl rfl ?_
  refine ar_bipush (x := 8) rfl rfl ?_
  refine ar_icmp_le rfl rfl (by omega) (by omega) (fun h176 => ?_) (fun hf => by omega)
  refine ar_iload rfl rfl ?_
  refine ar_bipush (x := 10) rfl rfl ?_
  refine ar_irem rfl (by omega) (by omega) ?_
  refine ar_if_le rfl rfl (by omega) (fun h199 => ?_) (fun hf => by omega)
  refine ar_iload rfl rfl ?_
  refine ar_if_le rfl rfl (by omega) (fun ht => by omega) (fun h219 => ?_)
  refine ar_iload rfl rfl ?_
  refine ar_bipush (x := 8) rfl rfl ?_
  refine ar_icmp_ge rfl rfl (by omega) (by omega) (fun ht => by omega) (fun h226 => ?_)
  refine ar_iload rfl rfl ?_
  refine ar_bipush (x := 10) rfl rfl ?_
  refine ar_idiv rfl (by omega) (by omega) ?_
  refine ar_iload rfl rfl ?_
  refine ar_iadd rfl ?_
  refine ar_bipush (x := 8) rfl rfl ?_
  refine ar_icmp_le rfl rfl (by omega) (by omega) (fun h239 => ?_) (fun hf => by omega)
  refine ar_aload_n rfl rfl ?_
  refine ar_iload rfl rfl ?_
  refine ar_cv1 rfl rfl rfl (Nat.le_of_ble_eq_true rfl) (T2_is (cs_standing (d := 0) I147.1 (by omega)) hl1) (by omega) (fun o q267 hq => am_B2_is ?_ hq)
  refine ar_bipush (x := 10) rfl rfl ?_
  refine ar_irem rfl (by omega) (by omega) ?_
  refine ar_if_gt rfl rfl (by omega) (fun h273 => ?_) (fun h273 => ?_)
  · refine ar_iconst rfl ?_
    refine ar_goto rfl rfl ?_
    exact ar_iret rfl (Or.inr ⟨rfl, by first | omega | (split <;> omega)⟩) (K _ _ ⟨rfl, _, T, CI_le I147 (by omega), ⟨F147, J1, H147, PL_KF P K1 d0 d68⟩, S31_CY Y147, d0⟩)
  · refine ar_aload_n rfl rfl ?_
    refine ar_iload rfl rfl ?_
    refine ar_cv1 rfl rfl rfl (Nat.le_of_ble_eq_true rfl) (T2_is (cs_standing (d := 0) I147.1 (by omega)) hl1) (by omega) (fun o q279 hq => am_B2_is ?_ hq)
    refine ar_iload rfl rfl ?_
    refine ar_bipush (x := 10) rfl rfl ?_
    refine ar_iload rfl rfl ?_
    refine ar_imul rfl ?_
    refine ar_iadd rfl ?_
    refine ar_icmp_lt rfl rfl (by omega) (by omega) (fun ht => by omega) (fun h290 => ?_)
    refine ar_iconst rfl ?_
    refine ar_goto rfl rfl ?_
    exact ar_iret rfl (Or.inr ⟨rfl, by first | omega | (split <;> omega)⟩) (K _ _ ⟨rfl, _, T, CI_le I147 (by omega), ⟨F147, J1, H147, PL_KF P K1 d0 d68⟩, S31_CY Y147, d0⟩)
theorem ib_2N {d e : Nat} {q : am_A} {s : am_Z} {T : am_LT} (I : am_CI e q s) (L : am_LS q s T) {o1 o2 l : Int} (b1 : 0 ≤ o1 ∧ o1 ≤ 100000) (b2 : 0 ≤ o2 ∧ o2 ≤ 100000) (bl : 0 ≤ l ∧ l ≤ 1200) {was : Int} (hx : ¬ (o1 % 12 < rI s 3 ∧ o2 % 13 - 1 < rI s 3)) {Q : am_O → am_A → Prop} (K : ∀ o q', am_LR 6 e q s o q' → Q o q') : am_W2 (d + 22) m_L_isBad 23 [some (aR 8 0), some (aR 24 0), some (aR 24 5), some (aI (zI 2)), some (aI (zI o1)), some (aI (zI o2)), some (aI (zI l)), some (aI (zI was)), none, none, none, none] [] q Q := by
  obtain ⟨F, J, H, P⟩ := L
  have B := CV_B I.1
  have b3 := B.2.1 3 0 12 rfl
  have sb := st_b B (l := l)
  have h52 : h52P s := fun x => B.1 52 x 0 10 rfl
  obtain ⟨⟨p0, p1, p2, p3, p4, p5, p6⟩, pn, pm, pf, pb, px⟩ := id P
  have hk : kLink s (o1 % 12) (o2 % 13 - 1) = 1 := by { unfold kLink; rw [if_pos (by omega)] }
  refine ar_iload_n rfl rfl ?_
  refine ar_if_ne rfl rfl (by omega) (fun h24 => ?_) (fun hf => by omega)
  refine ar_iload_n rfl rfl ?_
  refine ar_iconst rfl ?_
  refine ar_icmp_ne rfl rfl (by omega) (by omega) (fun h111 => ?_) (fun hf => by omega)
  refine ar_iload_n rfl rfl ?_
  refine ar_iconst rfl ?_
  refine ar_icmp_ne rfl rfl (by omega) (by omega) (fun ht => by omega) (fun h301 => ?_)
  refine ar_iload rfl rfl ?_
  refine ar_bipush (x := 13) rfl rfl ?_
  refine ar_irem rfl (by omega) (by omega) ?_
  refine ar_iconst rfl ?_
  refine ar_isub rfl ?_
  refine ar_stI8 rfl ?_
  refine ar_aload_n rfl rfl ?_
  refine ar_iconst rfl ?_
  refine ar_iload rfl rfl ?_
  refine ar_bipush (x := 12) rfl rfl ?_
  refine ar_irem rfl (by omega) (by omega) ?_
  refine ar_iload rfl rfl ?_
  refine ar_iload rfl rfl ?_
  refine ar_bipush (x := 13) rfl rfl ?_
  refine ar_idiv rfl (by omega) (by omega) ?_
  refine ar_iconst rfl ?_
  refine ar_irem rfl (by omega) (by omega) ?_
  refine ar_iconst rfl ?_
  refine ar_iconst rfl ?_
  refine ar_iconst rfl ?_
  refine ar_cs8 rfl rfl (Nat.le_of_ble_eq_true rfl) (dx_link (d := 0) (R := -3000000) I F J (by omega) (by omega) (by omega) hk (by omega) rfl) (by omega) (fun o q332 hq => ?_)
  obtain ⟨rfl, I332, Y332, F332⟩ := hq
  have H332 := LA_CY H Y332
  refine ar_stI9 rfl ?_
  refine cq_join (pc' := 361) (V := 0) ?_ (fun K361 => ?_)
  · refine ar_stI10 rfl ?_
    refine ar_iload rfl rfl ?_
    refine ar_if_eq rfl rfl (by omega) (fun h365 => ?_) (fun hf => by omega)
    refine ar_iconst rfl ?_
    refine ar_stI11 rfl ?_
    refine ar_iload rfl rfl ?_
    refine ar_if_ne rfl rfl (by omega) (fun ht => by omega) (fun h404 => ?_)
    refine ar_iload rfl rfl ?_
    refine ar_ldc (x := -3000000) rfl rfl ?_
    refine ar_icmp_ne rfl rfl (by omega) (by omega) (fun ht => by omega) (fun h411 => ?_)
    refine ar_iconst rfl ?_
    refine ar_goto rfl rfl ?_
    exact ar_iret rfl (Or.inr ⟨rfl, by first | omega | (split <;> omega)⟩) (K _ _ ⟨rfl, s, T, CI_le I332 (by omega), ⟨F332, J, H332, P⟩, S31_CY Y332, rfl⟩)
  · refine ar_iload rfl rfl ?_
    refine ar_bipush (x := 12) rfl rfl ?_
    refine ar_irem rfl (by omega) (by omega) ?_
    refine ar_aload_n rfl rfl ?_
    refine ar_iconst rfl ?_
    refine ar_ial24 (n := 7) rfl H332 (by omega) rfl (by omega) ?_
    refine ar_icmp_ge rfl rfl (by omega) (by omega) (fun h345 => ?_) (fun h345 => ?_)
    · refine ar_iconst rfl ?_
      exact K361 _ (by first | rfl | omega)
    · refine ar_iload rfl rfl ?_
      refine ar_aload_n rfl rfl ?_
      refine ar_iconst rfl ?_
      refine ar_ial24 (n := 7) rfl H332 (by omega) rfl (by omega) ?_
      refine ar_icmp_ge rfl rfl (by omega) (by omega) (fun h353 => ?_) (fun h353 => ?_)
      · refine ar_iconst rfl ?_
        exact K361 _ (by first | rfl | omega)
      · refine ar_iconst rfl ?_
        refine ar_goto rfl rfl ?_
        exact K361 _ (by first | rfl | omega)
theorem ib_2B {d e : Nat} {q : am_A} {s : am_Z} {T : am_LT} (I : am_CI e q s) (L : am_LS q s T) {o1 o2 l : Int} (b1 : 0 ≤ o1 ∧ o1 ≤ 100000) (b2 : 0 ≤ o2 ∧ o2 ≤ 100000) (bl : 0 ≤ l ∧ l ≤ 1200) {was : Int} (h1 : o1 % 12 < rI s 3) (h2 : o2 % 13 - 1 < rI s 3) (hx : o2 % 13 - 1 ≠ -1) (hy : rA s 5 (o2 % 13 - 1) ≠ rA s 6 (o1 % 12)) {Q : am_O → am_A → Prop} (K : ∀ o q', am_LR 6 e q s o q' → Q o q') : am_W2 (d + 22) m_L_isBad 23 [some (aR 8 0), some (aR 24 0), some (aR 24 5), some (aI (zI 2)), some (aI (zI o1)), some (aI (zI o2)), some (aI (zI l)), some (aI (zI was)), none, none, none, none] [] q Q := by
  obtain ⟨F, J, H, P⟩ := L
  have B := CV_B I.1
  have b3 := B.2.1 3 0 12 rfl
  have sb := st_b B (l := l)
  have h52 : h52P s := fun x => B.1 52 x 0 10 rfl
  obtain ⟨⟨p0, p1, p2, p3, p4, p5, p6⟩, pn, pm, pf, pb, px⟩ := id P
  have hk : kLink s (o1 % 12) (o2 % 13 - 1) = 2 := by { unfold kLink; rw [if_neg (by omega), if_neg (fun z => z.elim hx hy)] }
  have n5 := (pn (o2 % 13 - 1) (by omega) h2).2.1
  have n6 := (pn (o1 % 12) (by omega) h1).2.2.1
  have b5 := B.1 5 (o2 % 13 - 1) 0 5 rfl
  have b6 := B.1 6 (o1 % 12) 0 5 rfl
  refine ar_iload_n rfl rfl ?_
  refine ar_if_ne rfl rfl (by omega) (fun h24 => ?_) (fun hf => by omega)
  refine ar_iload_n rfl rfl ?_
  refine ar_iconst rfl ?_
  refine ar_icmp_ne rfl rfl (by omega) (by omega) (fun h111 => ?_) (fun hf => by omega)
  refine ar_iload_n rfl rfl ?_
  refine ar_iconst rfl ?_
  refine ar_icmp_ne rfl rfl (by omega) (by omega) (fun ht => by omega) (fun h301 => ?_)
  refine ar_iload rfl rfl ?_
  refine ar_bipush (x := 13) rfl rfl ?_
  refine ar_irem rfl (by omega) (by omega) ?_
  refine ar_iconst rfl ?_
  refine ar_isub rfl ?_
  refine ar_stI8 rfl ?_
  refine ar_aload_n rfl rfl ?_
  refine ar_iconst rfl ?_
  refine ar_iload rfl rfl ?_
  refine ar_bipush (x := 12) rfl rfl ?_
  refine ar_irem rfl (by omega) (by omega) ?_
  refine ar_iload rfl rfl ?_
  refine ar_iload rfl rfl ?_
  refine ar_bipush (x := 13) rfl rfl ?_
  refine ar_idiv rfl (by omega) (by omega) ?_
  refine ar_iconst rfl ?_
  refine ar_irem rfl (by omega) (by omega) ?_
  refine ar_iconst rfl ?_
  refine ar_iconst rfl ?_
  refine ar_iconst rfl ?_
  refine ar_cs8 rfl rfl (Nat.le_of_ble_eq_true rfl) (dx_link (d := 0) (R := -2000000) I F J (by omega) (by omega) (by omega) hk (by omega) rfl) (by omega) (fun o q332 hq => ?_)
  obtain ⟨rfl, I332, Y332, F332⟩ := hq
  have H332 := LA_CY H Y332
  refine ar_stI9 rfl ?_
  refine ar_iload rfl rfl ?_
  refine ar_bipush (x := 12) rfl rfl ?_
  refine ar_irem rfl (by omega) (by omega) ?_
  refine ar_aload_n rfl rfl ?_
  refine ar_iconst rfl ?_
  refine ar_ial24 (n := 7) rfl H332 (by omega) rfl (by omega) ?_
  refine ar_icmp_ge rfl rfl (by omega) (by omega) (fun ht => by omega) (fun h345 => ?_)
  refine ar_iload rfl rfl ?_
  refine ar_aload_n rfl rfl ?_
  refine ar_iconst rfl ?_
  refine ar_ial24 (n := 7) rfl H332 (by omega) rfl (by omega) ?_
  refine ar_icmp_ge rfl rfl (by omega) (by omega) (fun ht => by omega) (fun h353 => ?_)
  refine ar_iconst rfl ?_
  refine ar_goto rfl rfl ?_
  refine ar_stI10 rfl ?_
  refine ar_iload rfl rfl ?_
  refine ar_if_eq rfl rfl (by omega) (fun ht => by omega) (fun h365 => ?_)
  refine ar_iload rfl rfl ?_
  refine ar_if_lt rfl rfl (by omega) (fun ht => by omega) (fun h370 => ?_)
  refine ar_aload_n rfl rfl ?_
  refine ar_iconst rfl ?_
  refine ar_iload rfl rfl ?_
  refine ar_imul rfl ?_
  refine ar_iconst rfl ?_
  refine ar_iadd rfl ?_
  refine ar_ial24 (n := 60) rfl H332 (by omega) rfl (by omega) ?_
  rw [n5]
  refine ar_aload_n rfl rfl ?_
  refine ar_iconst rfl ?_
  refine ar_iload rfl rfl ?_
  refine ar_bipush (x := 12) rfl rfl ?_
  refine ar_irem rfl (by omega) (by omega) ?_
  refine ar_imul rfl ?_
  refine ar_iconst rfl ?_
  refine ar_iadd rfl ?_
  refine ar_ial24 (n := 60) rfl H332 (by omega) rfl (by omega) ?_
  rw [n6]
  refine ar_icmp_ne rfl rfl (by omega) (by omega) (fun h392 => ?_) (fun hf => by omega)
  refine ar_iconst rfl ?_
  refine ar_stI11 rfl ?_
  refine ar_iload rfl rfl ?_
  refine ar_if_ne rfl rfl (by omega) (fun h404 => ?_) (fun hf => by omega)
  refine ar_iload rfl rfl ?_
  refine ar_if_eq rfl rfl (by omega) (fun h424 => ?_) (fun hf => by omega)
  refine ar_iload rfl rfl ?_
  refine ar_ldc (x := -2000000) rfl rfl ?_
  refine ar_icmp_ne rfl rfl (by omega) (by omega) (fun ht => by omega) (fun h453 => ?_)
  refine ar_iconst rfl ?_
  refine ar_goto rfl rfl ?_
  exact ar_iret rfl (Or.inr ⟨rfl, by first | omega | (split <;> omega)⟩) (K _ _ ⟨rfl, s, T, CI_le I332 (by omega), ⟨F332, J, H332, P⟩, S31_CY Y332, rfl⟩)
theorem ib_2Y {d e : Nat} {q : am_A} {s : am_Z} {T : am_LT} (I : am_CI e q s) (L : am_LS q s T) {o1 o2 l : Int} (b1 : 0 ≤ o1 ∧ o1 ≤ 100000) (b2 : 0 ≤ o2 ∧ o2 ≤ 100000) (bl : 0 ≤ l ∧ l ≤ 1200) {was : Int} (h1 : o1 % 12 < rI s 3) (h2 : o2 % 13 - 1 < rI s 3) (hx : o2 % 13 - 1 = -1) {Q : am_O → am_A → Prop} (K : ∀ o q', am_LR 6 e q s o q' → Q o q') : am_W2 (d + 22) m_L_isBad 23 [some (aR 8 0), some (aR 24 0), some (aR 24 5), some (aI (zI 2)), some (aI (zI o1)), some (aI (zI o2)), some (aI (zI l)), some (aI (zI was)), none, none, none, none] [] q Q := by
  obtain ⟨F, J, H, P⟩ := L
  have B := CV_B I.1
  have b3 := B.2.1 3 0 12 rfl
  have sb := st_b B (l := l)
  have h52 : h52P s := fun x => B.1 52 x 0 10 rfl
  obtain ⟨⟨p0, p1, p2, p3, p4, p5, p6⟩, pn, pm, pf, pb, px⟩ := id P
  have hk : kLink s (o1 % 12) (o2 % 13 - 1) = 0 := by { unfold kLink; rw [if_neg (by omega), if_pos (Or.inl hx)] }
  have b15 := I.1.2.2.1.2.2.2 (o1 % 12) (by omega) h1
  have J1 := JJ_link (f := o1 % 12) (g := o2 % 13 - 1) (n := if o2 / 13 % 2 = 1 then 1 else 0) J h1
  have K1 : am_KF s (wA (wA s 15 (o1 % 12) (o2 % 13 - 1)) 16 (o1 % 12) (if o2 / 13 % 2 = 1 then 1 else 0)) := KF_cg (fun j x h => (wA_ne (by omega)).trans (wA_ne (by omega))) (fun _ _ => rfl)
  refine ar_iload_n rfl rfl ?_
  refine ar_if_ne rfl rfl (by omega) (fun h24 => ?_) (fun hf => by omega)
  refine ar_iload_n rfl rfl ?_
  refine ar_iconst rfl ?_
  refine ar_icmp_ne rfl rfl (by omega) (by omega) (fun h111 => ?_) (fun hf => by omega)
  refine ar_iload_n rfl rfl ?_
  refine ar_iconst rfl ?_
  refine ar_icmp_ne rfl rfl (by omega) (by omega) (fun ht => by omega) (fun h301 => ?_)
  refine ar_iload rfl rfl ?_
  refine ar_bipush (x := 13) rfl rfl ?_
  refine ar_irem rfl (by omega) (by omega) ?_
  refine ar_iconst rfl ?_
  refine ar_isub rfl ?_
  refine ar_stI8 rfl ?_
  refine ar_aload_n rfl rfl ?_
  refine ar_iconst rfl ?_
  refine ar_iload rfl rfl ?_
  refine ar_bipush (x := 12) rfl rfl ?_
  refine ar_irem rfl (by omega) (by omega) ?_
  refine ar_iload rfl rfl ?_
  refine ar_iload rfl rfl ?_
  refine ar_bipush (x := 13) rfl rfl ?_
  refine ar_idiv rfl (by omega) (by omega) ?_
  refine ar_iconst rfl ?_
  refine ar_irem rfl (by omega) (by omega) ?_
  refine ar_iconst rfl ?_
  refine ar_iconst rfl ?_
  refine ar_iconst rfl ?_
  refine ar_cs8 rfl rfl (Nat.le_of_ble_eq_true rfl) (dz_link (d := 0) I F J (by omega) (by omega) (by omega) hk) (by omega) (fun o q332 hq => ?_)
  obtain ⟨rfl, I332, Y332, F332⟩ := hq
  have H332 := LA_CY H Y332
  refine ar_stI9 rfl ?_
  refine ar_iload rfl rfl ?_
  refine ar_bipush (x := 12) rfl rfl ?_
  refine ar_irem rfl (by omega) (by omega) ?_
  refine ar_aload_n rfl rfl ?_
  refine ar_iconst rfl ?_
  refine ar_ial24 (n := 7) rfl H332 (by omega) rfl (by omega) ?_
  refine ar_icmp_ge rfl rfl (by omega) (by omega) (fun ht => by omega) (fun h345 => ?_)
  refine ar_iload rfl rfl ?_
  refine ar_aload_n rfl rfl ?_
  refine ar_iconst rfl ?_
  refine ar_ial24 (n := 7) rfl H332 (by omega) rfl (by omega) ?_
  refine ar_icmp_ge rfl rfl (by omega) (by omega) (fun ht => by omega) (fun h353 => ?_)
  refine ar_iconst rfl ?_
  refine ar_goto rfl rfl ?_
  refine ar_stI10 rfl ?_
  refine ar_iload rfl rfl ?_
  refine ar_if_eq rfl rfl (by omega) (fun ht => by omega) (fun h365 => ?_)
  refine ar_iload rfl rfl ?_
  refine ar_if_lt rfl rfl (by omega) (fun h370 => ?_) (fun hf => by omega)
  refine ar_iconst rfl ?_
  refine ar_goto rfl rfl ?_
  refine ar_stI11 rfl ?_
  refine ar_iload rfl rfl ?_
  refine ar_if_ne rfl rfl (by omega) (fun h404 => ?_) (fun hf => by omega)
  refine ar_iload rfl rfl ?_
  refine ar_if_eq rfl rfl (by omega) (fun ht => by omega) (fun h424 => ?_)
  refine ar_iload rfl rfl ?_
  refine ar_iconst rfl ?_
  refine ar_icmp_lt rfl rfl (by omega) (by omega) (fun ht => by omega) (fun h430 => ?_)
  refine ar_iload rfl rfl ?_
  refine ar_aload_n rfl rfl ?_
  refine ar_iconst rfl ?_
  refine ar_ial24 (n := 7) rfl H332 (by omega) rfl (by omega) ?_
  refine ar_icmp_ge rfl rfl (by omega) (by omega) (fun ht => by omega) (fun h438 => ?_)
  refine ar_iconst rfl ?_
  refine ar_goto rfl rfl ?_
  exact ar_iret rfl (Or.inr ⟨rfl, by first | omega | (split <;> omega)⟩) (K _ _ ⟨rfl, _, T, CI_le I332 (by omega), ⟨F332, J1, H332, PL_KF P K1 rfl rfl⟩, S31_CY Y332, rfl⟩)
theorem ib_2Z {d e : Nat} {q : am_A} {s : am_Z} {T : am_LT} (I : am_CI e q s) (L : am_LS q s T) {o1 o2 l : Int} (b1 : 0 ≤ o1 ∧ o1 ≤ 100000) (b2 : 0 ≤ o2 ∧ o2 ≤ 100000) (bl : 0 ≤ l ∧ l ≤ 1200) {was : Int} (h1 : o1 % 12 < rI s 3) (h2 : o2 % 13 - 1 < rI s 3) (hx : o2 % 13 - 1 ≠ -1) (hy : rA s 5 (o2 % 13 - 1) = rA s 6 (o1 % 12)) {Q : am_O → am_A → Prop} (K : ∀ o q', am_LR 6 e q s o q' → Q o q') : am_W2 (d + 22) m_L_isBad 23 [some (aR 8 0), some (aR 24 0), some (aR 24 5), some (aI (zI 2)), some (aI (zI o1)), some (aI (zI o2)), some (aI (zI l)), some (aI (zI was)), none, none, none, none] [] q Q := by
  obtain ⟨F, J, H, P⟩ := L
  have B := CV_B I.1
  have b3 := B.2.1 3 0 12 rfl
  have sb := st_b B (l := l)
  have h52 : h52P s := fun x => B.1 52 x 0 10 rfl
  obtain ⟨⟨p0, p1, p2, p3, p4, p5, p6⟩, pn, pm, pf, pb, px⟩ := id P
  have hk : kLink s (o1 % 12) (o2 % 13 - 1) = 0 := by { unfold kLink; rw [if_neg (by omega), if_pos (Or.inr hy)] }
  have b15 := I.1.2.2.1.2.2.2 (o1 % 12) (by omega) h1
  have J1 := JJ_link (f := o1 % 12) (g := o2 % 13 - 1) (n := if o2 / 13 % 2 = 1 then 1 else 0) J h1
  have K1 : am_KF s (wA (wA s 15 (o1 % 12) (o2 % 13 - 1)) 16 (o1 % 12) (if o2 / 13 % 2 = 1 then 1 else 0)) := KF_cg (fun j x h => (wA_ne (by omega)).trans (wA_ne (by omega))) (fun _ _ => rfl)
  have n5 := (pn (o2 % 13 - 1) (by omega) h2).2.1
  have n6 := (pn (o1 % 12) (by omega) h1).2.2.1
  have b5 := B.1 5 (o2 % 13 - 1) 0 5 rfl
  have b6 := B.1 6 (o1 % 12) 0 5 rfl
  refine ar_iload_n rfl rfl ?_
  refine ar_if_ne rfl rfl (by omega) (fun h24 => ?_) (fun hf => by omega)
  refine ar_iload_n rfl rfl ?_
  refine ar_iconst rfl ?_
  refine ar_icmp_ne rfl rfl (by omega) (by omega) (fun h111 => ?_) (fun hf => by omega)
  refine ar_iload_n rfl rfl ?_
  refine ar_iconst rfl ?_
  refine ar_icmp_ne rfl rfl (by omega) (by omega) (fun ht => by omega) (fun h301 => ?_)
  refine ar_iload rfl rfl ?_
  refine ar_bipush (x := 13) rfl rfl ?_
  refine ar_irem rfl (by omega) (by omega) ?_
  refine ar_iconst rfl ?_
  refine ar_isub rfl ?_
  refine ar_stI8 rfl ?_
  refine ar_aload_n rfl rfl ?_
  refine ar_iconst rfl ?_
  refine ar_iload rfl rfl ?_
  refine ar_bipush (x := 12) rfl rfl ?_
  refine ar_irem rfl (by omega) (by omega) ?_
  refine ar_iload rfl rfl ?_
  refine ar_iload rfl rfl ?_
  refine ar_bipush (x := 13) rfl rfl ?_
  refine ar_idiv rfl (by omega) (by omega) ?_
  refine ar_iconst rfl ?_
  refine ar_irem rfl (by omega) (by omega) ?_
  refine ar_iconst rfl ?_
  refine ar_iconst rfl ?_
  refine ar_iconst rfl ?_
  refine ar_cs8 rfl rfl (Nat.le_of_ble_eq_true rfl) (dz_link (d := 0) I F J (by omega) (by omega) (by omega) hk) (by omega) (fun o q332 hq => ?_)
  obtain ⟨rfl, I332, Y332, F332⟩ := hq
  have H332 := LA_CY H Y332
  refine ar_stI9 rfl ?_
  refine ar_iload rfl rfl ?_
  refine ar_bipush (x := 12) rfl rfl ?_
  refine ar_irem rfl (by omega) (by omega) ?_
  refine ar_aload_n rfl rfl ?_
  refine ar_iconst rfl ?_
  refine ar_ial24 (n := 7) rfl H332 (by omega) rfl (by omega) ?_
  refine ar_icmp_ge rfl rfl (by omega) (by omega) (fun ht => by omega) (fun h345 => ?_)
  refine ar_iload rfl rfl ?_
  refine ar_aload_n rfl rfl ?_
  refine ar_iconst rfl ?_
  refine ar_ial24 (n := 7) rfl H332 (by omega) rfl (by omega) ?_
  refine ar_icmp_ge rfl rfl (by omega) (by omega) (fun ht => by omega) (fun h353 => ?_)
  refine ar_iconst rfl ?_
  refine ar_goto rfl rfl ?_
  refine ar_stI10 rfl ?_
  refine ar_iload rfl rfl ?_
  refine ar_if_eq rfl rfl (by omega) (fun ht => by omega) (fun h365 => ?_)
  refine ar_iload rfl rfl ?_
  refine ar_if_lt rfl rfl (by omega) (fun ht => by omega) (fun h370 => ?_)
  refine ar_aload_n rfl rfl ?_
  refine ar_iconst rfl ?_
  refine ar_iload rfl rfl ?_
  refine ar_imul rfl ?_
  refine ar_iconst rfl ?_
  refine ar_iadd rfl ?_
  refine ar_ial24 (n := 60) rfl H332 (by omega) rfl (by omega) ?_
  rw [n5]
  refine ar_aload_n rfl rfl ?_
  refine ar_iconst rfl ?_
  refine ar_iload rfl rfl ?_
  refine ar_bipush (x := 12) rfl rfl ?_
  refine ar_irem rfl (by omega) (by omega) ?_
  refine ar_imul rfl ?_
  refine ar_iconst rfl ?_
  refine ar_iadd rfl ?_
  refine ar_ial24 (n := 60) rfl H332 (by omega) rfl (by omega) ?_
  rw [n6]
  refine ar_icmp_ne rfl rfl (by omega) (by omega) (fun ht => by omega) (fun h392 => ?_)
  refine ar_iconst rfl ?_
  refine ar_goto rfl rfl ?_
  refine ar_stI11 rfl ?_
  refine ar_iload rfl rfl ?_
  refine ar_if_ne rfl rfl (by omega) (fun h404 => ?_) (fun hf => by omega)
  refine ar_iload rfl rfl ?_
  refine ar_if_eq rfl rfl (by omega) (fun ht => by omega) (fun h424 => ?_)
  refine ar_iload rfl rfl ?_
  refine ar_iconst rfl ?_
  refine ar_icmp_lt rfl rfl (by omega) (by omega) (fun ht => by omega) (fun h430 => ?_)
  refine ar_iload rfl rfl ?_
  refine ar_aload_n rfl rfl ?_
  refine ar_iconst rfl ?_
  refine ar_ial24 (n := 7) rfl H332 (by omega) rfl (by omega) ?_
  refine ar_icmp_ge rfl rfl (by omega) (by omega) (fun ht => by omega) (fun h438 => ?_)
  refine ar_iconst rfl ?_
  refine ar_goto rfl rfl ?_
  exact ar_iret rfl (Or.inr ⟨rfl, by first | omega | (split <;> omega)⟩) (K _ _ ⟨rfl, _, T, CI_le I332 (by omega), ⟨F332, J1, H332, PL_KF P K1 rfl rfl⟩, S31_CY Y332, rfl⟩)
theorem ib_3 {d e : Nat} {q : am_A} {s : am_Z} {T : am_LT} (I : am_CI e q s) (L : am_LS q s T) {o1 o2 l : Int} (b1 : 0 ≤ o1 ∧ o1 ≤ 100000) (b2 : 0 ≤ o2 ∧ o2 ≤ 100000) (bl : 0 ≤ l ∧ l ≤ 1200) {was : Int} {Q : am_O → am_A → Prop} (K : ∀ o q', am_LR 6 e q s o q' → Q o q') : am_W2 (d + 10) m_L_isBad 23 [some (aR 8 0), some (aR 24 0), some (aR 24 5), some (aI (zI 3)), some (aI (zI o1)), some (aI (zI o2)), some (aI (zI l)), some (aI (zI was)), none, none, none, none] [] q Q := by
  obtain ⟨F, J, H, P⟩ := L
  have B := CV_B I.1
  have b3 := B.2.1 3 0 12 rfl
  have sb := st_b B (l := l)
  have h52 : h52P s := fun x => B.1 52 x 0 10 rfl
  obtain ⟨⟨p0, p1, p2, p3, p4, p5, p6⟩, pn, pm, pf, pb, px⟩ := id P
  have b44 := B.2.1 44 0 40 rfl
  have v1 := rpr_v (nb := (rI s 44).toNat) 4 (s, 0) (Int.le_refl _)
  have v2 := rpr_u (nb := (rI s 44).toNat) (by omega) 4 (s, 0)
  have v2b : (rpr1 (rI s 44).toNat 4 (s, 0)).2 ≤ 192000 := v2
  have J1 := JJ_repair J B
  have r0 := rpr_twice J.1 B
  have e0 : rI (rprS s) 0 = rI s 0 := (INV_repair J.1 B).2 0 (by omega) (by omega)
  have e68 : rI (rprS s) 68 = rI s 68 := (INV_repair J.1 B).2 68 (by omega) (by omega)
  refine ar_iload_n rfl rfl ?_
  refine ar_if_ne rfl rfl (by omega) (fun h24 => ?_) (fun hf => by omega)
  refine ar_iload_n rfl rfl ?_
  refine ar_iconst rfl ?_
  refine ar_icmp_ne rfl rfl (by omega) (by omega) (fun h111 => ?_) (fun hf => by omega)
  refine ar_iload_n rfl rfl ?_
  refine ar_iconst rfl ?_
  refine ar_icmp_ne rfl rfl (by omega) (by omega) (fun h301 => ?_) (fun hf => by omega)
  refine ar_aload_n rfl rfl ?_
  refine ar_cv0 rfl rfl rfl (Nat.le_of_ble_eq_true rfl) (co_repair (d := 0) I J.1.2.1.2.2.2.2.1) (by omega) (fun o q463 hq => ?_)
  obtain ⟨o463, -, I463, G463⟩ := hq
  obtain rfl := o463 rfl
  have Y463 := G463.1
  have F463 := DF_FP F G463.2
  have H463 := LA_CY H Y463
  have B1 := CV_B I463.1
  have J2 := JJ_repair (s := rprS s) J1 B1
  have f0 : rI (rprS (rprS s)) 0 = rI (rprS s) 0 := (INV_repair J1.1 B1).2 0 (by omega) (by omega)
  have f68 : rI (rprS (rprS s)) 68 = rI (rprS s) 68 := (INV_repair J1.1 B1).2 68 (by omega) (by omega)
  refine ar_stI8 rfl ?_
  refine ar_iload rfl rfl ?_
  refine ar_if_lt rfl rfl (by omega) (fun ht => by omega) (fun h470 => ?_)
  refine ar_aload_n rfl rfl ?_
  refine ar_cv0 rfl rfl rfl (Nat.le_of_ble_eq_true rfl) (co_repair (d := 0) I463 J1.1.2.1.2.2.2.2.1) (by omega) (fun o q474 hq => ?_)
  obtain ⟨o474, -, I474, G474⟩ := hq
  obtain rfl := o474 rfl
  have Y474 := G474.1
  have F474 := DF_FP F463 G474.2
  have H474 := LA_CY H463 Y474
  rw [r0]
  refine ar_if_ne rfl rfl (by omega) (fun ht => by omega) (fun h477 => ?_)
  refine ar_iconst rfl ?_
  refine ar_goto rfl rfl ?_
  exact ar_iret rfl (Or.inr ⟨rfl, by first | omega | (split <;> omega)⟩) (K _ _ ⟨rfl, _, T, CI_le I474 (by omega), ⟨F474, J2, H474, PL_KF P (KF_t rpr_KF rpr_KF) (f0.trans e0) (f68.trans e68)⟩, S31_t (S31_CY Y463) (S31_CY Y474), f0.trans e0⟩)
theorem ib_d {d e : Nat} {q : am_A} {s : am_Z} {T : am_LT} (I : am_CI e q s) (L : am_LS q s T) {o1 o2 l : Int} (b1 : 0 ≤ o1 ∧ o1 ≤ 100000) (b2 : 0 ≤ o2 ∧ o2 ≤ 100000) (bl : 0 ≤ l ∧ l ≤ 1200) {was : Int} (hw : was = if legP s l then standing s l else -3000000) {hh : Int} (bh : 1 ≤ hh ∧ hh ≤ 9) {Q : am_O → am_A → Prop} (K : ∀ o q', am_LR 6 e q s o q' → Q o q') : am_W2 (d + 22) m_L_isBad 136 [some (aR 8 0), some (aR 24 0), some (aR 24 5), some (aI (zI 1)), some (aI (zI o1)), some (aI (zI o2)), some (aI (zI l)), some (aI (zI was)), some (aI (zI hh)), none, none, none] [] q Q := by
  by_cases hl : legP s l
  · rw [hw, if_pos hl]
    by_cases h8 : 8 < hh
    · exact ib_1B (d := d) I L b1 b2 bl bh hl h8 K
    · by_cases hf : freeP s l
      · by_cases hx : 8 < rA s 17 (61 * (l / 100) + l % 100) + hh
        · exact ib_1X (d := d) I L b1 b2 bl bh hl (by omega) hf hx K
        · exact ib_1Y (d := d) I L b1 b2 bl bh hl (by omega) hf hx K
      · exact ib_1G (d := d) I L b1 b2 bl bh hl (by omega) hf K
  · rw [hw, if_neg hl]
    exact ib_1N (d := d) I L b1 b2 bl bh hl K
theorem ib_0 {d e : Nat} {q : am_A} {s : am_Z} {T : am_LT} (I : am_CI e q s) (L : am_LS q s T) {o1 o2 l : Int} (b1 : 0 ≤ o1 ∧ o1 ≤ 100000) (b2 : 0 ≤ o2 ∧ o2 ≤ 100000) (bl : 0 ≤ l ∧ l ≤ 1200) {was : Int} (hw : was = if legP s l then standing s l else -3000000) {Q : am_O → am_A → Prop} (K : ∀ o q', am_LR 6 e q s o q' → Q o q') : am_W2 (d + 22) m_L_isBad 23 [some (aR 8 0), some (aR 24 0), some (aR 24 5), some (aI (zI 0)), some (aI (zI o1)), some (aI (zI o2)), some (aI (zI l)), some (aI (zI was)), none, none, none, none] [] q Q := by
  by_cases hl : legP s l
  · rw [hw, if_pos hl]
    by_cases hf : freeP s l
    · exact ib_0F (d := d) I L b1 b2 bl hl hf K
    · exact ib_0G (d := d) I L b1 b2 bl hl hf K
  · rw [hw, if_neg hl]
    exact ib_0N (d := d) I L b1 b2 bl hl K
theorem ib_2 {d e : Nat} {q : am_A} {s : am_Z} {T : am_LT} (I : am_CI e q s) (L : am_LS q s T) {o1 o2 l : Int} (b1 : 0 ≤ o1 ∧ o1 ≤ 100000) (b2 : 0 ≤ o2 ∧ o2 ≤ 100000) (bl : 0 ≤ l ∧ l ≤ 1200) {was : Int} {Q : am_O → am_A → Prop} (K : ∀ o q', am_LR 6 e q s o q' → Q o q') : am_W2 (d + 22) m_L_isBad 23 [some (aR 8 0), some (aR 24 0), some (aR 24 5), some (aI (zI 2)), some (aI (zI o1)), some (aI (zI o2)), some (aI (zI l)), some (aI (zI was)), none, none, none, none] [] q Q := by
  by_cases hx : o1 % 12 < rI s 3 ∧ o2 % 13 - 1 < rI s 3
  · by_cases hy : o2 % 13 - 1 = -1
    · exact ib_2Y (d := d) I L b1 b2 bl hx.1 hx.2 hy K
    · by_cases hz : rA s 5 (o2 % 13 - 1) = rA s 6 (o1 % 12)
      · exact ib_2Z (d := d) I L b1 b2 bl hx.1 hx.2 hy hz K
      · exact ib_2B (d := d) I L b1 b2 bl hx.1 hx.2 hy hz K
  · exact ib_2N (d := d) I L b1 b2 bl hx K
theorem cs_isBad0 {d : Nat} {q : am_A} {e : Nat} {s : am_Z} {T : am_LT} (I : am_CI e q s) (L : am_LS q s T) {o1 o2 : Int} (b1 : 0 ≤ o1 ∧ o1 ≤ 100000) (b2 : 0 ≤ o2 ∧ o2 ≤ 100000)  : am_C2 (d + 22) m_L_isBad [aR 8 0, aR 24 0, aR 24 5, aI (zI 0), aI (zI o1), aI (zI o2)] q (am_LR 8 e q s) := by
  refine am_C2_i (ls := [some (aR 8 0), some (aR 24 0), some (aR 24 5), some (aI (zI 0)), some (aI (zI o1)), some (aI (zI o2)), none, none, none, none, none, none]) rfl ?_
  obtain ⟨F, J, H, P⟩ := L
  have B := CV_B I.1
  have b3 := B.2.1 3 0 12 rfl
  have p0 := P.1.1
  refine ar_aload_n rfl rfl ?_
  refine ar_iload rfl rfl ?_
  refine ar_cs2 rfl rfl (Nat.le_of_ble_eq_true rfl) (cs_lleg (d := 0) H (by omega) (by omega)) (by omega) (fun o q3 hq => am_B2_is ?_ hq)
  have bl := lleg_b (T := T) (x := o1) (by omega)
  generalize (if T 5 0 = 0 then (0 : Int) else 100 * (o1 % T 5 0) + o1 / 12 % 9) = l at bl ⊢
  refine ar_stI6 rfl ?_
  refine ar_aload_n rfl rfl ?_
  refine ar_bipush (x := 27) rfl rfl ?_
  refine ar_iload rfl rfl ?_
  refine ar_iconst rfl ?_
  refine ar_iconst rfl ?_
  refine ar_iconst rfl ?_
  refine ar_iconst rfl ?_
  refine ar_iconst rfl ?_
  refine ar_cs8 rfl rfl (Nat.le_of_ble_eq_true rfl) ((show am_C2 (0 + 21) m_L_does [aR 8 0, aI (zI 27), aI (zI l), aI (zI 0), aI (zI 0), aI (zI 0), aI (zI 0), aI (zI 0)] q (am_OX e q s (if legP s l then standing s l else -3000000)) by { by_cases hl : legP s l; rw [if_pos hl]; exact dp_standing (d := 0) I F (by omega) hl; rw [if_neg hl]; exact dn_standing (d := 0) I F (by omega) hl })) (by omega) (fun o q18 hq => ?_)
  obtain ⟨rfl, I18, Y18, F18⟩ := hq
  have H18 := LA_CY H Y18
  obtain ⟨was, hw⟩ : ∃ was : Int, was = if legP s l then standing s l else -3000000 := ⟨_, rfl⟩
  rw [← hw]
  refine ar_stI7 rfl ?_
  exact ib_0 (d := d) I18 ⟨F18, J, H18, P⟩ b1 b2 (by omega) hw (fun o q2 h => by { obtain ⟨z1, s2, T2, z2, z3, z4, z5⟩ := h; exact ⟨z1, s2, T2, CI_le z2 (by omega), z3, S31_t (S31_CY Y18) z4, z5⟩ })
theorem cs_isBad1 {d : Nat} {q : am_A} {e : Nat} {s : am_Z} {T : am_LT} (I : am_CI e q s) (L : am_LS q s T) {o1 o2 : Int} (b1 : 0 ≤ o1 ∧ o1 ≤ 100000) (b2 : 0 ≤ o2 ∧ o2 ≤ 100000)  : am_C2 (d + 22) m_L_isBad [aR 8 0, aR 24 0, aR 24 5, aI (zI 1), aI (zI o1), aI (zI o2)] q (am_LR 8 e q s) := by
  refine am_C2_i (ls := [some (aR 8 0), some (aR 24 0), some (aR 24 5), some (aI (zI 1)), some (aI (zI o1)), some (aI (zI o2)), none, none, none, none, none, none]) rfl ?_
  obtain ⟨F, J, H, P⟩ := L
  have B := CV_B I.1
  have b3 := B.2.1 3 0 12 rfl
  have p0 := P.1.1
  refine ar_aload_n rfl rfl ?_
  refine ar_iload rfl rfl ?_
  refine ar_cs2 rfl rfl (Nat.le_of_ble_eq_true rfl) (cs_lleg (d := 0) H (by omega) (by omega)) (by omega) (fun o q3 hq => am_B2_is ?_ hq)
  have bl := lleg_b (T := T) (x := o1) (by omega)
  generalize (if T 5 0 = 0 then (0 : Int) else 100 * (o1 % T 5 0) + o1 / 12 % 9) = l at bl ⊢
  refine ar_stI6 rfl ?_
  refine ar_aload_n rfl rfl ?_
  refine ar_bipush (x := 27) rfl rfl ?_
  refine ar_iload rfl rfl ?_
  refine ar_iconst rfl ?_
  refine ar_iconst rfl ?_
  refine ar_iconst rfl ?_
  refine ar_iconst rfl ?_
  refine ar_iconst rfl ?_
  refine ar_cs8 rfl rfl (Nat.le_of_ble_eq_true rfl) ((show am_C2 (0 + 21) m_L_does [aR 8 0, aI (zI 27), aI (zI l), aI (zI 0), aI (zI 0), aI (zI 0), aI (zI 0), aI (zI 0)] q (am_OX e q s (if legP s l then standing s l else -3000000)) by { by_cases hl : legP s l; rw [if_pos hl]; exact dp_standing (d := 0) I F (by omega) hl; rw [if_neg hl]; exact dn_standing (d := 0) I F (by omega) hl })) (by omega) (fun o q18 hq => ?_)
  obtain ⟨rfl, I18, Y18, F18⟩ := hq
  have H18 := LA_CY H Y18
  obtain ⟨was, hw⟩ : ∃ was : Int, was = if legP s l then standing s l else -3000000 := ⟨_, rfl⟩
  rw [← hw]
  refine ar_stI7 rfl ?_
  refine ar_iload_n rfl rfl ?_
  refine ar_if_ne rfl rfl (by omega) (fun h24 => ?_) (fun hf => by omega)
  refine ar_iload_n rfl rfl ?_
  refine ar_iconst rfl ?_
  refine ar_icmp_ne rfl rfl (by omega) (by omega) (fun ht => by omega) (fun h111 => ?_)
  refine cq_join (pc' := 134) (V := if o2 % 20 = 0 then 9 else 1 + o2 % 6) ?_ (fun K134 => ?_)
  · refine ar_stI8 rfl ?_
    exact ib_d (d := d) I18 ⟨F18, J, H18, P⟩ b1 b2 (by omega) hw (by split <;> omega) (fun o q2 h => by { obtain ⟨z1, s2, T2, z2, z3, z4, z5⟩ := h; exact ⟨z1, s2, T2, CI_le z2 (by omega), z3, S31_t (S31_CY Y18) z4, z5⟩ })
  · refine ar_iload rfl rfl ?_
    refine ar_bipush (x := 20) rfl rfl ?_
    refine ar_irem rfl (by omega) (by omega) ?_
    refine ar_if_ne rfl rfl (by omega) (fun h119 => ?_) (fun h119 => ?_)
    · refine ar_iconst rfl ?_
      refine ar_iload rfl rfl ?_
      refine ar_bipush (x := 6) rfl rfl ?_
      refine ar_irem rfl (by omega) (by omega) ?_
      refine ar_iadd rfl ?_
      exact K134 _ (by first | rw [if_pos (by omega)] | rw [if_neg (by omega)])
    · refine ar_bipush (x := 9) rfl rfl ?_
      refine ar_goto rfl rfl ?_
      exact K134 _ (by first | rw [if_pos (by omega)] | rw [if_neg (by omega)])
theorem cs_isBad2 {d : Nat} {q : am_A} {e : Nat} {s : am_Z} {T : am_LT} (I : am_CI e q s) (L : am_LS q s T) {o1 o2 : Int} (b1 : 0 ≤ o1 ∧ o1 ≤ 100000) (b2 : 0 ≤ o2 ∧ o2 ≤ 100000)  : am_C2 (d + 22) m_L_isBad [aR 8 0, aR 24 0, aR 24 5, aI (zI 2), aI (zI o1), aI (zI o2)] q (am_LR 8 e q s) := by
  refine am_C2_i (ls := [some (aR 8 0), some (aR 24 0), some (aR 24 5), some (aI (zI 2)), some (aI (zI o1)), some (aI (zI o2)), none, none, none, none, none, none]) rfl ?_
  obtain ⟨F, J, H, P⟩ := L
  have B := CV_B I.1
  have b3 := B.2.1 3 0 12 rfl
  have p0 := P.1.1
  refine ar_aload_n rfl rfl ?_
  refine ar_iload rfl rfl ?_
  refine ar_cs2 rfl rfl (Nat.le_of_ble_eq_true rfl) (cs_lleg (d := 0) H (by omega) (by omega)) (by omega) (fun o q3 hq => am_B2_is ?_ hq)
  have bl := lleg_b (T := T) (x := o1) (by omega)
  generalize (if T 5 0 = 0 then (0 : Int) else 100 * (o1 % T 5 0) + o1 / 12 % 9) = l at bl ⊢
  refine ar_stI6 rfl ?_
  refine ar_aload_n rfl rfl ?_
  refine ar_bipush (x := 27) rfl rfl ?_
  refine ar_iload rfl rfl ?_
  refine ar_iconst rfl ?_
  refine ar_iconst rfl ?_
  refine ar_iconst rfl ?_
  refine ar_iconst rfl ?_
  refine ar_iconst rfl ?_
  refine ar_cs8 rfl rfl (Nat.le_of_ble_eq_true rfl) ((show am_C2 (0 + 21) m_L_does [aR 8 0, aI (zI 27), aI (zI l), aI (zI 0), aI (zI 0), aI (zI 0), aI (zI 0), aI (zI 0)] q (am_OX e q s (if legP s l then standing s l else -3000000)) by { by_cases hl : legP s l; rw [if_pos hl]; exact dp_standing (d := 0) I F (by omega) hl; rw [if_neg hl]; exact dn_standing (d := 0) I F (by omega) hl })) (by omega) (fun o q18 hq => ?_)
  obtain ⟨rfl, I18, Y18, F18⟩ := hq
  have H18 := LA_CY H Y18
  obtain ⟨was, hw⟩ : ∃ was : Int, was = if legP s l then standing s l else -3000000 := ⟨_, rfl⟩
  rw [← hw]
  refine ar_stI7 rfl ?_
  exact ib_2 (d := d) I18 ⟨F18, J, H18, P⟩ b1 b2 (by omega) (fun o q2 h => by { obtain ⟨z1, s2, T2, z2, z3, z4, z5⟩ := h; exact ⟨z1, s2, T2, CI_le z2 (by omega), z3, S31_t (S31_CY Y18) z4, z5⟩ })
theorem cs_isBad3 {d : Nat} {q : am_A} {e : Nat} {s : am_Z} {T : am_LT} (I : am_CI e q s) (L : am_LS q s T) {o1 o2 : Int} (b1 : 0 ≤ o1 ∧ o1 ≤ 100000) (b2 : 0 ≤ o2 ∧ o2 ≤ 100000)  : am_C2 (d + 22) m_L_isBad [aR 8 0, aR 24 0, aR 24 5, aI (zI 3), aI (zI o1), aI (zI o2)] q (am_LR 8 e q s) := by
  refine am_C2_i (ls := [some (aR 8 0), some (aR 24 0), some (aR 24 5), some (aI (zI 3)), some (aI (zI o1)), some (aI (zI o2)), none, none, none, none, none, none]) rfl ?_
  obtain ⟨F, J, H, P⟩ := L
  have B := CV_B I.1
  have b3 := B.2.1 3 0 12 rfl
  have p0 := P.1.1
  refine ar_aload_n rfl rfl ?_
  refine ar_iload rfl rfl ?_
  refine ar_cs2 rfl rfl (Nat.le_of_ble_eq_true rfl) (cs_lleg (d := 0) H (by omega) (by omega)) (by omega) (fun o q3 hq => am_B2_is ?_ hq)
  have bl := lleg_b (T := T) (x := o1) (by omega)
  generalize (if T 5 0 = 0 then (0 : Int) else 100 * (o1 % T 5 0) + o1 / 12 % 9) = l at bl ⊢
  refine ar_stI6 rfl ?_
  refine ar_aload_n rfl rfl ?_
  refine ar_bipush (x := 27) rfl rfl ?_
  refine ar_iload rfl rfl ?_
  refine ar_iconst rfl ?_
  refine ar_iconst rfl ?_
  refine ar_iconst rfl ?_
  refine ar_iconst rfl ?_
  refine ar_iconst rfl ?_
  refine ar_cs8 rfl rfl (Nat.le_of_ble_eq_true rfl) ((show am_C2 (0 + 21) m_L_does [aR 8 0, aI (zI 27), aI (zI l), aI (zI 0), aI (zI 0), aI (zI 0), aI (zI 0), aI (zI 0)] q (am_OX e q s (if legP s l then standing s l else -3000000)) by { by_cases hl : legP s l; rw [if_pos hl]; exact dp_standing (d := 0) I F (by omega) hl; rw [if_neg hl]; exact dn_standing (d := 0) I F (by omega) hl })) (by omega) (fun o q18 hq => ?_)
  obtain ⟨rfl, I18, Y18, F18⟩ := hq
  have H18 := LA_CY H Y18
  obtain ⟨was, hw⟩ : ∃ was : Int, was = if legP s l then standing s l else -3000000 := ⟨_, rfl⟩
  rw [← hw]
  refine ar_stI7 rfl ?_
  exact ib_3 (d := d + 12) I18 ⟨F18, J, H18, P⟩ b1 b2 (by omega) (fun o q2 h => by { obtain ⟨z1, s2, T2, z2, z3, z4, z5⟩ := h; exact ⟨z1, s2, T2, CI_le z2 (by omega), z3, S31_t (S31_CY Y18) z4, z5⟩ })
end

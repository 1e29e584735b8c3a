noncomputable section
section MOV
variable {s : am_Z} {b c : Int}
theorem mv_57 (hm : mvP s b c) (hc : 0 ≤ c ∧ c < rA s 52 b) : ∀ i, 0 ≤ i → i < rA s 52 b + nWay s b c → rA (moveS s b c) 57 (10 * b + i) = if i < c then rA s 57 (10 * b + i) else if i = c then 0 else if i = c + 1 then rA s 57 (10 * b + c) else if i ≤ c + nWay s b c then 0 else rA s 57 (10 * b + i - nWay s b c) := fun i h1 h2 => by
  have hw := nWay_12 hm.1
  rcases hw.1 with ⟨n1, n2⟩ | ⟨n1, n2⟩
  · rw [mv_1 hc hm n1]
    rw [n1] at h2 ⊢
    clear hw n2 n1
    unfold mv1S
    rw [wA_A, if_neg (fun z => absurd z.1 (by omega)), wA_A]
    by_cases q0 : i = c
    · rw [if_pos ⟨rfl, by omega⟩, if_neg (by omega), if_pos q0]
    · rw [if_neg (fun z => q0 (by omega)), wA_A, if_neg (fun z => absurd z.1 (by omega))]
      by_cases q1 : i < c
      · rw [if_pos q1, ins_o (by omega) (by omega)]
      · rw [if_neg q1, if_neg q0]
        by_cases q2 : i = c + 1
        · rw [if_pos q2, q2, ins_n (by omega) (by omega), if_neg (by omega), if_neg (by omega), if_pos rfl]
        · rw [if_neg q2, if_neg (by omega), ins_u (by omega) ⟨by omega, by omega⟩]
          exact congrArg (rA s 57) (by omega)
  · rw [mv_2 hc hm n1]
    rw [n1] at h2 ⊢
    clear hw n2 n1
    unfold mv2S
    rw [wA_A, if_neg (fun z => absurd z.1 (by omega)), wA_A]
    by_cases q0 : i = c
    · rw [if_pos ⟨rfl, by omega⟩, if_neg (by omega), if_pos q0]
    · rw [if_neg (fun z => q0 (by omega)), wA_A, if_neg (fun z => absurd z.1 (by omega))]
      by_cases q1 : i < c
      · rw [if_pos q1, ins_o (by omega) (by omega), ins_o (by omega) (by omega)]
      · rw [if_neg q1, if_neg q0]
        by_cases q2 : i = c + 1
        · rw [if_pos q2, q2, ins_o (by omega) (by omega), ins_n (by omega) (by omega), if_neg (by omega), if_neg (by omega), if_pos rfl]
        · rw [if_neg q2]
          by_cases q3 : i = c + 2
          · rw [if_pos (by omega), q3, ins_n (by omega) (by rw [ins_52]; omega), if_neg (by omega), if_neg (by omega), if_pos rfl]
          · rw [if_neg (by omega), ins_u (by omega) ⟨by omega, by rw [ins_52]; omega⟩, ins_u (by omega) ⟨by omega, by omega⟩]
            exact congrArg (rA s 57) (by omega)
theorem mv_n (hm : mvP s b c) : 1 ≤ nWay s b c ∧ nWay s b c ≤ 2 := by
  rcases (nWay_12 hm.1).1 with ⟨n1, _⟩ | ⟨n1, _⟩ <;> omega
theorem mv_lo (hm : mvP s b c) (hc : 0 ≤ c ∧ c < rA s 52 b) {i : Int} (h0 : 0 ≤ i) (hi : i < c) : rA (moveS s b c) 53 (10 * b + i) = rA s 53 (10 * b + i) ∧ rA (moveS s b c) 55 (10 * b + i) = rA s 55 (10 * b + i) ∧ rA (moveS s b c) 57 (10 * b + i) = rA s 57 (10 * b + i) := by
  have hn := mv_n hm
  obtain ⟨_, r53, r55⟩ := moveS_r hm hc
  exact ⟨(r53 i h0 (by omega)).trans (if_pos (by omega)), (r55 i h0 (by omega)).trans (if_pos hi), (mv_57 hm hc i h0 (by omega)).trans (if_pos hi)⟩
theorem mv_c (hm : mvP s b c) (hc : 0 ≤ c ∧ c < rA s 52 b) : rA (moveS s b c) 53 (10 * b + c) = rA s 53 (10 * b + c) ∧ rA (moveS s b c) 55 (10 * b + c) = 4 ∧ rA (moveS s b c) 57 (10 * b + c) = 0 := by
  have hn := mv_n hm
  obtain ⟨_, r53, r55⟩ := moveS_r hm hc
  exact ⟨(r53 c hc.1 (by omega)).trans (if_pos (by omega)), (r55 c hc.1 (by omega)).trans ((if_neg (by omega)).trans (if_pos rfl)), (mv_57 hm hc c hc.1 (by omega)).trans ((if_neg (by omega)).trans (if_pos rfl))⟩
theorem mv_in (hm : mvP s b c) (hc : 0 ≤ c ∧ c < rA s 52 b) {i : Int} (h1 : c < i) (h2 : i ≤ c + nWay s b c) : rA (moveS s b c) 53 (10 * b + i) / 100 < rI s 3 ∧ rA (moveS s b c) 55 (10 * b + i) = 0 ∧ rA (moveS s b c) 57 (10 * b + i) = if i = c + 1 then rA s 57 (10 * b + c) else 0 := by
  have hw := nWay_12 hm.1
  have hn := mv_n hm
  have hway : wayOk s b (rA s 53 (10 * b + c)) (earS s b c) (dep s (rA s 53 (10 * b + c)) + 48) (endS s b c) (rA s 6 (rA s 53 (10 * b + c) / 100)) (wayS s b c) := itA_way _
  have hw1 := hway hw.2
  have l1 : (wayS s b c).2.1 / 100 < rI s 3 := hw1.1.1.2.1
  have l2 : nWay s b c = 2 → (wayS s b c).2.2 / 100 < rI s 3 := fun z => by
    have y : (wayS s b c).2.2 ≠ -1 := by
      rcases hw.1 with ⟨y1, y2⟩ | ⟨y1, y2⟩
      · omega
      · exact y2
    exact (hw1.2 y).2.1.1.2.1
  obtain ⟨_, r53, r55⟩ := moveS_r hm hc
  clear hway hw hw1
  refine ⟨?_, (r55 i (by omega) (by omega)).trans ((if_neg (by omega)).trans ((if_neg (by omega)).trans (if_pos h2))), ?_⟩
  · rw [r53 i (by omega) (by omega), if_neg (by omega)]
    by_cases e : i = c + 1
    · rw [if_pos e]; exact l1
    · rw [if_neg e, if_pos h2]; exact l2 (by omega)
  · rw [mv_57 hm hc i (by omega) (by omega), if_neg (by omega), if_neg (by omega)]
    by_cases e : i = c + 1
    · rw [if_pos e, if_pos e]
    · rw [if_neg e, if_pos h2, if_neg e]
theorem mv_hi (hm : mvP s b c) (hc : 0 ≤ c ∧ c < rA s 52 b) {i : Int} (h1 : c + nWay s b c < i) (h2 : i < rA s 52 b + nWay s b c) : rA (moveS s b c) 53 (10 * b + i) = rA s 53 (10 * b + i - nWay s b c) ∧ rA (moveS s b c) 55 (10 * b + i) = rA s 55 (10 * b + i - nWay s b c) ∧ rA (moveS s b c) 57 (10 * b + i) = rA s 57 (10 * b + i - nWay s b c) := by
  have hn := mv_n hm
  obtain ⟨_, r53, r55⟩ := moveS_r hm hc
  refine ⟨?_, ?_, ?_⟩
  · rw [r53 i (by omega) h2, if_neg (by omega), if_neg (by omega), if_neg (by omega)]
  · rw [r55 i (by omega) h2, if_neg (by omega), if_neg (by omega), if_neg (by omega)]
  · rw [mv_57 hm hc i (by omega) h2, if_neg (by omega), if_neg (by omega), if_neg (by omega), if_neg (by omega)]
theorem sum3 {a : Int} {g : Int → Int} : sumI a 2 g = g a + g (a + 1) ∧ sumI a 3 g = g a + g (a + 1) + g (a + 2) := by
  have e : ∀ x : Int, x + ((0 : Nat) : Int) = x := fun x => by omega
  constructor
  · show 0 + g (a + ((0 : Nat) : Int)) + g (a + ((1 : Nat) : Int)) = _
    rw [e, show ((1 : Nat) : Int) = 1 from rfl]
    omega
  · show 0 + g (a + ((0 : Nat) : Int)) + g (a + ((1 : Nat) : Int)) + g (a + ((2 : Nat) : Int)) = _
    rw [e, show ((1 : Nat) : Int) = 1 from rfl, show ((2 : Nat) : Int) = 2 from rfl]
    omega
/-- a sum over the coupons of what moves -/
theorem mv_sum (hm : mvP s b c) (hc : 0 ≤ c ∧ c < rA s 52 b) {f g : Int → Int} (h1 : ∀ i : Int, 0 ≤ i → i < c → g (10 * b + i) = f (10 * b + i)) (h2 : g (10 * b + c) + g (10 * b + (c + 1)) + (if nWay s b c = 1 then 0 else g (10 * b + (c + 2))) = f (10 * b + c)) (h3 : ∀ i : Int, c + nWay s b c < i → i < rA s 52 b + nWay s b c → g (10 * b + i) = f (10 * b + i - nWay s b c)) : sumI (10 * b) (rA s 52 b + nWay s b c).toNat g = sumI (10 * b) (rA s 52 b).toNat f := by
  have hw := (nWay_12 hm.1).1
  have z := sum_ins (a := 10 * b) (f := f) (g := g) (c := c.toNat) (r := (rA s 52 b).toNat - c.toNat - 1) (n := (nWay s b c).toNat) (fun i i1 i2 => by
    have y := h1 (i - 10 * b) (by omega) (by omega)
    rw [show 10 * b + (i - 10 * b) = i by omega] at y
    exact y) (by
    rw [show ((c.toNat : Nat) : Int) = c by omega]
    rcases hw with ⟨n1, _⟩ | ⟨n1, _⟩
    · rw [n1] at h2 ⊢
      rw [if_pos rfl] at h2
      show sumI (10 * b + c) 2 g = _
      rw [sum3.1, show 10 * b + c + 1 = 10 * b + (c + 1) by omega]
      omega
    · rw [n1] at h2 ⊢
      rw [if_neg (by omega)] at h2
      show sumI (10 * b + c) 3 g = _
      rw [sum3.2, show 10 * b + c + 1 = 10 * b + (c + 1) by omega, show 10 * b + c + 2 = 10 * b + (c + 2) by omega]
      omega) (fun i i1 i2 => by
    have y := h3 (i + nWay s b c - 10 * b) (by omega) (by omega)
    rw [show 10 * b + (i + nWay s b c - 10 * b) = i + nWay s b c by omega, show i + nWay s b c - nWay s b c = i by omega] at y
    rw [show (((nWay s b c).toNat : Nat) : Int) = nWay s b c by omega]
    exact y)
  rw [show (rA s 52 b + nWay s b c).toNat = c.toNat + ((nWay s b c).toNat + 1) + ((rA s 52 b).toNat - c.toNat - 1) by omega, z, show c.toNat + 1 + ((rA s 52 b).toNat - c.toNat - 1) = (rA s 52 b).toNat by omega]
theorem mv_no (hm : ¬ mvP s b c) : moveS s b c = wA (findS s b c) 55 (10 * b + c) 5 := by unfold moveS; rw [if_neg hm]
theorem mv_oc (hc : 0 ≤ c ∧ c < rA s 52 b) (h10 : rA s 52 b ≤ 10) {b' k : Int} {j : Nat} (e : b' ≠ b) (hj : 53 ≤ j) (k1 : 0 ≤ k) (k2 : k < 10) : rA (moveS s b c) j (10 * b' + k) = rA s j (10 * b' + k) := moveS_A hc h10 (Or.inr (Or.inr (Or.inr ⟨hj, by omega⟩)))
theorem mv_ob (hc : 0 ≤ c ∧ c < rA s 52 b) (h10 : rA s 52 b ≤ 10) {b' : Int} (e : b' ≠ b) : rA (moveS s b c) 52 b' = rA s 52 b' := moveS_A hc h10 (Or.inr (Or.inr (Or.inl ⟨rfl, e⟩)))
theorem mv_a {j : Nat} (h : j < 52 ∨ 58 < j) : rA (moveS s b c) j = rA s j := funext (fun _ => mv_any h)
theorem mv_fB {u : am_U} (hm : mvP s b c) (hc : 0 ≤ c ∧ c < rA s 52 b) (h55 : rA s 55 (10 * b + c) ≤ 1) : fB (moveS s b c) u b = fB s u b := by
  have hn := mv_n hm
  unfold fB
  rw [(moveS_r hm hc).1]
  refine mv_sum hm hc (fun i i1 i2 => ?_) ?_ (fun i i1 i2 => ?_)
  · obtain ⟨z1, z2, z3⟩ := mv_lo hm hc i1 i2
    unfold fw
    rw [z1, z2, z3, mv_a (j := 45) (by omega), mv_a (j := 46) (by omega), mv_a (j := 50) (by omega)]
  · have z0 : fw (moveS s b c) u b (10 * b + c) = 0 := if_neg (by rw [(mv_c hm hc).2.1]; omega)
    have z1 : fw (moveS s b c) u b (10 * b + (c + 1)) = 0 := if_neg (by rw [(mv_in hm hc (i := c + 1) (by omega) (by omega)).2.1]; omega)
    have z3 : fw s u b (10 * b + c) = 0 := if_neg (by omega)
    rw [z0, z1, z3]
    by_cases y : nWay s b c = 1
    · rw [if_pos y]; rfl
    · have z2 : fw (moveS s b c) u b (10 * b + (c + 2)) = 0 := if_neg (by rw [(mv_in hm hc (i := c + 2) (by omega) (by omega)).2.1]; omega)
      rw [if_neg y, z2]; rfl
  · obtain ⟨z1, z2, z3⟩ := mv_hi hm hc i1 i2
    unfold fw
    rw [z1, z2, z3, mv_a (j := 45) (by omega), mv_a (j := 46) (by omega), mv_a (j := 50) (by omega)]
theorem mv_fF {u : am_U} (h52 : h52P s) (hm : mvP s b c) (hc : 0 ≤ c ∧ c < rA s 52 b) (h55 : rA s 55 (10 * b + c) ≤ 1) : fF (moveS s b c) u = fF s u := by
  have h10 := (h52 b).2
  unfold fF
  rw [mv_I (by omega)]
  refine sumI_c (fun b' b1 b2 => ?_)
  have c52 := h52 b'
  by_cases e : b' = b
  · rw [e]; exact mv_fB hm hc h55
  · unfold fB
    rw [mv_ob hc h10 e]
    refine sumI_c (fun x x1 x2 => ?_)
    have z := fun j hj => mv_oc hc h10 (b' := b') (k := x - 10 * b') (j := j) e hj (by omega) (by omega)
    rw [show 10 * b' + (x - 10 * b') = x by omega] at z
    unfold fw
    rw [z 55 (by omega), z 53 (by omega), z 57 (by omega), mv_a (j := 45) (by omega), mv_a (j := 46) (by omega), mv_a (j := 50) (by omega)]
theorem mv_ja (J : am_ja s b) (hm : mvP s b c) (hc : 0 ≤ c ∧ c < rA s 52 b) (h47 : rA s 47 b = 1) : am_ja (moveS s b c) b := by
  have hn := mv_n hm
  obtain ⟨⟨a1, a2, a3⟩, a4, a5⟩ := J
  have r52 := (moveS_r hm hc).1
  refine ⟨⟨by rw [r52]; omega, by rw [mv_a (j := 46) (by omega)]; exact a2, ?_⟩, ?_, fun k k1 k2 => ?_⟩
  · have e : rA (moveS s b c) 53 (10 * b) = rA s 53 (10 * b) := by
      rw [← Int.add_zero (10 * b)]
      by_cases y : 0 < c
      · exact (mv_lo hm hc (Int.le_refl 0) y).1
      · have z := (mv_c hm hc).1
        rw [show c = 0 by omega] at z ⊢
        exact z
    rw [mv_a (j := 50) (by omega), e, mv_a (j := 4) (by omega)]
    exact a3
  · rw [r52, mv_a (j := 59) (by omega), ← a4]
    refine mv_sum hm hc (fun i i1 i2 => (mv_lo hm hc i1 i2).2.2) ?_ (fun i i1 i2 => (mv_hi hm hc i1 i2).2.2)
    rw [(mv_c hm hc).2.2, (mv_in hm hc (i := c + 1) (by omega) (by omega)).2.2, if_pos rfl]
    by_cases y : nWay s b c = 1
    · rw [if_pos y]; omega
    · rw [if_neg y, (mv_in hm hc (i := c + 2) (by omega) (by omega)).2.2, if_neg (by omega)]; omega
  · rw [r52] at k2
    rw [mv_I (by omega), mv_a (j := 47) (by omega)]
    refine ⟨?_, fun z => absurd z (by omega), ?_⟩
    · by_cases y1 : k < c
      · rw [(mv_lo hm hc k1 y1).1]; exact (a5 k k1 (by omega)).1
      · by_cases y2 : k = c
        · rw [y2, (mv_c hm hc).1]; exact (a5 c hc.1 hc.2).1
        · by_cases y3 : k ≤ c + nWay s b c
          · exact (mv_in hm hc (by omega) y3).1
          · rw [(mv_hi hm hc (by omega) k2).1, show 10 * b + k - nWay s b c = 10 * b + (k - nWay s b c) by omega]
            exact (a5 (k - nWay s b c) (by omega) (by omega)).1
    · by_cases y1 : k < c
      · obtain ⟨_, z2, z3⟩ := mv_lo hm hc k1 y1
        rw [z2, z3]; exact (a5 k k1 (by omega)).2.2
      · by_cases y2 : k = c
        · rw [y2, (mv_c hm hc).2.2]; exact fun _ => rfl
        · by_cases y3 : k ≤ c + nWay s b c
          · rw [(mv_in hm hc (by omega) y3).2.1]; exact fun z => absurd z (by omega)
          · obtain ⟨_, z2, z3⟩ := mv_hi hm hc (by omega) k2
            rw [z2, z3, show 10 * b + k - nWay s b c = 10 * b + (k - nWay s b c) by omega]
            exact (a5 (k - nWay s b c) (by omega) (by omega)).2.2
/-- one coupon moves, or is void -/
theorem JA_move (J : am_JA s) (h52 : h52P s) (hb : 0 ≤ b ∧ b < rI s 44) (h47 : rA s 47 b = 1) (hc : 0 ≤ c ∧ c < rA s 52 b) (h55 : rA s 55 (10 * b + c) ≤ 1) : am_JA (moveS s b c) := by
  by_cases hm : mvP s b c
  · obtain ⟨jb, js, jw, jl⟩ := J
    have h10 := (h52 b).2
    refine ⟨fun b' h1 h2 => ?_, ⟨fun i h1 h2 => ?_, fun i h1 h2 => ?_⟩, jw_cg jw (fun j x h => mv_any (by omega)) (mv_I (by omega)) (mv_I (by omega)), jl_cg jl (fun j x h => mv_any (by omega)) (mv_I (by omega)) (mv_I (by omega)) (by rw [mv_I (by omega)]; exact Int.le_refl _)⟩
    · rw [mv_I (by omega)] at h2
      by_cases e : b' = b
      · rw [e]; exact mv_ja (jb b hb.1 hb.2) hm hc h47
      · obtain ⟨⟨a1, a2, a3⟩, a4, a5⟩ := jb b' h1 h2
        have c52 := h52 b'
        have z0 := mv_oc hc h10 (b' := b') (k := 0) (j := 53) e (by omega) (by omega) (by omega)
        rw [Int.add_zero] at z0
        refine ⟨⟨by rw [mv_ob hc h10 e]; exact a1, by rw [mv_a (j := 46) (by omega)]; exact a2, by rw [mv_a (j := 50) (by omega), z0, mv_a (j := 4) (by omega)]; exact a3⟩, ?_, fun k k1 k2 => ?_⟩
        · rw [mv_ob hc h10 e, mv_a (j := 59) (by omega), ← a4]
          refine sumI_c (fun x x1 x2 => ?_)
          have z := mv_oc hc h10 (b' := b') (k := x - 10 * b') (j := 57) e (by omega) (by omega) (by omega)
          rw [show 10 * b' + (x - 10 * b') = x by omega] at z
          exact z
        · rw [mv_ob hc h10 e] at k2
          rw [mv_I (by omega), mv_a (j := 47) (by omega), mv_oc hc h10 (j := 53) e (by omega) k1 (by omega), mv_oc hc h10 (j := 55) e (by omega) k1 (by omega), mv_oc hc h10 (j := 57) e (by omega) k1 (by omega)]
          exact a5 k k1 k2
    · rw [mv_a (j := 70) (by omega), js.1 i h1 h2, mv_a (j := 4) (by omega), mv_fF h52 hm hc h55]
    · rw [mv_a (j := 69) (by omega), js.2 i h1 h2, mv_a (j := 8) (by omega), mv_fF h52 hm hc h55]
  · rw [mv_no hm]
    have e55 : ∀ x, rA (wA (findS s b c) 55 (10 * b + c) 5) 55 x = if x = 10 * b + c then 5 else rA s 55 x := fun x => by
      rw [wA_A]
      by_cases e : x = 10 * b + c
      · rw [if_pos ⟨rfl, e⟩, if_pos e]
      · rw [if_neg (fun z => e z.2), if_neg e]
        rfl
    have m : ∀ j x, j ≠ 55 → rA (wA (findS s b c) 55 (10 * b + c) 5) j x = rA s j x := fun j x h => if_neg (fun z => h z.1)
    refine JA_w J rfl (Int.le_refl _) (fun j x h => m j x (by omega)) (fun f _ => ⟨rfl, rfl⟩) (fun x => ?_) (fun b' k' h1 h2 h3 h4 h5 => ?_) J.2.2.1 J.2.2.2
    · rw [e55]
      by_cases e : x = 10 * b + c
      · rw [if_pos e, e]; omega
      · rw [if_neg e]; omega
    · rw [e55]
      split
      · omega
      · exact ((J.1 b' h1 h2).2.2 k' h3 h4).2.1 h5
end MOV
theorem gmN_JA {l n : Int} {s3 : am_Z} (J : am_JA s3) (h52 : h52P s3) (hT : ∀ i : Nat, (i : Int) < n → (0 ≤ rA s3 71 i ∧ rA s3 71 i < rI s3 44) ∧ cfS s3 (rA s3 71 i) l ≠ -1) (hD : ∀ i i2 : Nat, i < i2 → (i2 : Int) < n → rA s3 71 i ≠ rA s3 71 i2) : ∀ j : Nat, (j : Int) ≤ n → am_JA (itS (gmF l) j s3) ∧ (∀ i : Nat, j ≤ i → (i : Int) < n → cfS (itS (gmF l) j s3) (rA s3 71 i) l = cfS s3 (rA s3 71 i) l) ∧ (∀ x, rA (itS (gmF l) j s3) 71 x = rA s3 71 x) ∧ (h52P (itS (gmF l) j s3)) ∧ rI (itS (gmF l) j s3) 44 = rI s3 44
  | 0, _ => ⟨J, fun _ _ _ => rfl, fun _ => rfl, h52, rfl⟩
  | j + 1, hj => by
    have ih := gmN_JA J h52 hT hD j (by omega)
    have hjT := hT j (by omega)
    have e71 := ih.2.2.1
    have e52 := ih.2.2.2.1
    have e44 := ih.2.2.2.2
    have ec := ih.2.1 j (Nat.le_refl _) (by omega)
    rw [itS_s]
    have hne : cfS (itS (gmF l) j s3) (rA s3 71 j) l ≠ -1 := by rw [ec]; exact hjT.2
    have hw := cf_w hne
    have eg : gmF l j (itS (gmF l) j s3) = moveS (itS (gmF l) j s3) (rA s3 71 j) (cfS (itS (gmF l) j s3) (rA s3 71 j) l) := by
      rw [show gmF l j (itS (gmF l) j s3) = moveS (itS (gmF l) j s3) (rA (itS (gmF l) j s3) 71 j) (cfS (itS (gmF l) j s3) (rA (itS (gmF l) j s3) 71 j) l) from rfl, e71]
    rw [eg]
    refine ⟨JA_move ih.1 e52 (by rw [e44]; exact hjT.1) hw.1 hw.2.1 (by have := hw.2.2.2; omega), fun i i1 i2 => ?_, fun x => (mv_any (by omega)).trans (e71 x), fun x => mv_52 e52 hw.2.1 x, (mv_I (by omega)).trans e44⟩
    rw [moveS_cf hw.2.1 (fun b => (e52 b).2) (fun z => hD j i (by omega) i2 z.symm)]
    exact ih.2.1 i (by omega) i2
theorem go_JA {s : am_Z} (B : in_S s) (U : am_UQ s) {l : Int} (J : am_JA s) : am_JA (goS s l) := by
  obtain ⟨a2, D⟩ := glX_DS B U l
  have b44 := B.2.1 44 0 40 rfl
  have hS := D.2.2.2.2.1
  have hg : ∀ j i, j ≠ 67 → j ≠ 71 → rA (glX s l).1 j i = rA s j i := fun j i h1 h2 => (hS.1 j i h1 h2).trans ((gl0_S s).1 j i h1)
  have hgI : ∀ j, j ≠ 68 → rI (glX s l).1 j = rI s j := fun j h => hS.2 j h
  have e44 : rI (glX s l).1 44 = rI s 44 := hgI 44 (by omega)
  have B2 : in_S (glX s l).1 := glX_B B D
  have J2 : am_JA (glX s l).1 := JA_cg J (fun j x h => hg j x (by omega) (by omega)) (fun j h => hgI j (by omega))
  have h10 : ∀ b, rA (glX s l).1 52 b ≤ 10 := fun b => (B2.1 52 b 0 10 rfl).2
  have hu := glN_u (l := l) h10 (rI s 44).toNat
  have J3 : am_JA (itS (glB l) (rI s 44).toNat (glX s l).1) := glN_JA J2 (jr_B B2) _ (by omega)
  have HO := D.2.2.2.1
  have hn := D.2.1.1
  have e71 : ∀ x, rA (itS (glB l) (rI s 44).toNat (glX s l).1) 71 x = rA (glX s l).1 71 x := fun x => hu.1 71 x (by omega) (by omega) (by omega)
  have f44 : rI (itS (glB l) (rI s 44).toNat (glX s l).1) 44 = rI s 44 := (congrFun hu.2.1 44).trans e44
  unfold goS
  refine (gmN_JA (n := (glX s l).2) J3 (fun b => ?_) (fun i hi => ?_) (fun i i2 h1 h2 => ?_) (glX s l).2.toNat (by omega)).1
  · rw [hu.1 52 b (by omega) (by omega) (by omega)]
    exact B2.1 52 b 0 10 rfl
  · have ho := HO.1 i (by omega) hi
    rw [e71, glN_cf h10 _ ho.1.1 ho.2.1]
    exact ⟨⟨ho.1.1, by rw [f44]; exact ho.1.2⟩, ho.2.2⟩
  · rw [e71, e71]
    exact HO.2 i i2 (by omega) (by omega) h2
theorem PX_JA : am_PX (fun t => am_INV t ∧ am_JA t) := by
  refine ⟨fun t B I => PX_INV.1 t B I.1, fun t l B U hl I U2 C2 E2 => ⟨PX_INV.2.1 t l B U hl I.1 U2 C2 E2, go_JA B U I.2⟩, fun t v I => ⟨PX_INV.2.2.1 t v I.1, JA_cg I.2 (fun _ _ _ => rfl) (fun j h => if_neg (by omega))⟩, fun t i B I => ⟨PX_INV.2.2.2 t i B I.1, JA_VB I.2 (VB_void (fun x => B.1 52 x 0 10 rfl) (by omega)) (fun j x h => vd_A (by omega)) (fun _ _ => rfl)⟩⟩
end

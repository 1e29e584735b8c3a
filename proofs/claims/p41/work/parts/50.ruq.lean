noncomputable section
theorem cpyS_r {t : am_Z} {a b x : Int} {j : Nat} (hj : 53 ≤ j ∧ j ≤ 58) : rA (cpyS t a b) j x = if x = b then rA t j a else rA t j x := by
  have h : j = 53 ∨ j = 54 ∨ j = 55 ∨ j = 56 ∨ j = 57 ∨ j = 58 := by omega
  rcases h with rfl | rfl | rfl | rfl | rfl | rfl <;> simp [cpyS, wA_A]
theorem shF_r {s : am_Z} {top n : Int} (hn : 1 ≤ n) {j : Nat} (hj : 53 ≤ j ∧ j ≤ 58) (i : Nat) (x : Int) : rA (itS (shF top n) i s) j x = if top - i + n < x ∧ x ≤ top + n then rA s j (x - n) else rA s j x := by
  induction i generalizing x with
  | zero => rw [if_neg (by omega)]; rfl
  | succ i ih =>
    rw [itS_s]
    unfold shF
    rw [cpyS_r hj]
    by_cases h : x = top - i + n
    · rw [if_pos h]
      show rA (itS (shF top n) i s) j (top - i) = _
      rw [ih, if_neg (by omega), if_pos (by omega), show x - n = top - i by omega]
    · rw [if_neg h]
      show rA (itS (shF top n) i s) j x = _
      rw [ih]
      by_cases h2 : top - i + n < x ∧ x ≤ top + n
      · rw [if_pos h2, if_pos (by omega)]
      · rw [if_neg h2, if_neg (by omega)]
theorem mvF_53 (t : am_Z) (k : Int) (i : Nat) (x : Int) : rA (mvF k i t) 53 x = if x = k + ((i : Int) + 1) then (if (i : Int) + 1 = 1 then rI t 72 else rI t 73) else rA t 53 x := by simp [mvF, wA_A]
theorem mvF_54 (t : am_Z) (k : Int) (i : Nat) (x : Int) : rA (mvF k i t) 54 x = if x = k + ((i : Int) + 1) then 0 else rA t 54 x := by simp [mvF, wA_A]
theorem mvF_55 (t : am_Z) (k : Int) (i : Nat) (x : Int) : rA (mvF k i t) 55 x = if x = k + ((i : Int) + 1) then 0 else rA t 55 x := by simp [mvF, wA_A]
theorem mvF_56 (t : am_Z) (k : Int) (i : Nat) (x : Int) : rA (mvF k i t) 56 x = if x = k + ((i : Int) + 1) then rA t 56 k else rA t 56 x := by simp [mvF, wA_A]
theorem mvF_57 (t : am_Z) (k : Int) (i : Nat) (x : Int) : rA (mvF k i t) 57 x = if x = k + ((i : Int) + 1) then (if (i : Int) + 1 = 1 then rA t 57 k else 0) else rA t 57 x := by simp [mvF, wA_A]
theorem mvF_58 (t : am_Z) (k : Int) (i : Nat) (x : Int) : rA (mvF k i t) 58 x = if x = k + ((i : Int) + 1) then (if (i : Int) + 1 = 1 then rA t 58 k else 0) else rA t 58 x := by simp [mvF, wA_A]
/-- the heap before the new coupons are written -/
def mv0 (s : am_Z) (b c : Int) : am_Z := wA (itS (shF (10 * b + rA s 52 b - 1) (nWay s b c)) (rA s 52 b - 1 - c).toNat (findS s b c)) 52 b (rA s 52 b + nWay s b c)
theorem mv0_r {s : am_Z} {b c : Int} (hn : 1 ≤ nWay s b c) (hc : 0 ≤ c ∧ c < rA s 52 b) {j : Nat} (hj : 53 ≤ j ∧ j ≤ 58) (x : Int) : rA (mv0 s b c) j x = if 10 * b + c + nWay s b c < x ∧ x < 10 * b + rA s 52 b + nWay s b c then rA s j (x - nWay s b c) else rA s j x := by
  unfold mv0
  rw [wA_A, if_neg (by omega), shF_r hn hj]
  by_cases h : 10 * b + c + nWay s b c < x ∧ x < 10 * b + rA s 52 b + nWay s b c
  · rw [if_pos h, if_pos (by omega)]; rfl
  · rw [if_neg h, if_neg (by omega)]; rfl
theorem mv0_I (s : am_Z) (b c : Int) : rI (mv0 s b c) 72 = (wayS s b c).2.1 ∧ rI (mv0 s b c) 73 = (wayS s b c).2.2 := by
  have e := itS_I (f := shF (10 * b + rA s 52 b - 1) (nWay s b c)) (fun _ _ => rfl) (rA s 52 b - 1 - c).toNat (findS s b c)
  exact ⟨congrFun e 72, congrFun e 73⟩
theorem itS_2 (f : Nat → am_Z → am_Z) (s : am_Z) : itS f 1 s = f 0 s ∧ itS f 2 s = f 1 (f 0 s) := ⟨rfl, rfl⟩
theorem nWay_12 {s : am_Z} {b c : Int} (h : nWay s b c ≠ 0) : ((nWay s b c = 1 ∧ (wayS s b c).2.2 = -1) ∨ (nWay s b c = 2 ∧ (wayS s b c).2.2 ≠ -1)) ∧ (wayS s b c).2.1 ≠ -1 := by
  unfold nWay at h ⊢
  by_cases h1 : (wayS s b c).2.1 = -1
  · rw [if_pos h1] at h; exact absurd rfl h
  · rw [if_neg h1]
    by_cases h2 : (wayS s b c).2.2 = -1
    · rw [if_pos h2]; exact ⟨Or.inl ⟨rfl, h2⟩, h1⟩
    · rw [if_neg h2]; exact ⟨Or.inr ⟨rfl, h2⟩, h1⟩
/-- legs and states of the booking's coupons behind moves -/
theorem moveS_r {s : am_Z} {b c : Int} (hm : mvP s b c) (hc : 0 ≤ c ∧ c < rA s 52 b) :
    rA (moveS s b c) 52 b = rA s 52 b + nWay s b c ∧
    (∀ i, 0 ≤ i → i < rA s 52 b + nWay s b c → rA (moveS s b c) 53 (10 * b + i) = if i ≤ c then rA s 53 (10 * b + i) else if i = c + 1 then (wayS s b c).2.1 else if i ≤ c + nWay s b c then (wayS s b c).2.2 else rA s 53 (10 * b + i - nWay s b c)) ∧
    (∀ i, 0 ≤ i → i < rA s 52 b + nWay s b c → rA (moveS s b c) 55 (10 * b + i) = if i < c then rA s 55 (10 * b + i) else if i = c then 4 else if i ≤ c + nWay s b c then 0 else rA s 55 (10 * b + i - nWay s b c)) := by
  have hw := nWay_12 hm.1
  have hI := mv0_I s b c
  have e0 : moveS s b c = wA (wA (wA (itS (mvF (10 * b + c)) (nWay s b c).toNat (mv0 s b c)) 55 (10 * b + c) 4) 57 (10 * b + c) 0) 58 (10 * b + c) 0 := by unfold moveS; rw [if_pos hm]; rfl
  have r53 := fun x => mv0_r (s := s) (b := b) (c := c) (by omega) hc (j := 53) (by omega) x
  have r55 := fun x => mv0_r (s := s) (b := b) (c := c) (by omega) hc (j := 55) (by omega) x
  have e52 : rA (mv0 s b c) 52 b = rA s 52 b + nWay s b c := if_pos ⟨rfl, rfl⟩
  rw [e0]
  refine ⟨?_, fun i h1 h2 => ?_, fun i h1 h2 => ?_⟩
  · rw [wA_A, if_neg (by omega), wA_A, if_neg (by omega), wA_A, if_neg (by omega), itS_An (fun i t' _ => mvF_A (by omega))]
    exact e52
  · rw [wA_A, if_neg (by omega), wA_A, if_neg (by omega), wA_A, if_neg (by omega)]
    rcases hw.1 with ⟨n1, n2⟩ | ⟨n1, n2⟩
    · rw [n1] at r53 h2 ⊢
      rw [show (1 : Int).toNat = 1 from rfl, (itS_2 _ _).1, mvF_53, hI.1, r53]
      clear r53 r55 hI hw e0 e52
      repeat' split
      all_goals first | rfl | omega
    · rw [n1] at r53 h2 ⊢
      have e72 : rI (mvF (10 * b + c) 0 (mv0 s b c)) 73 = (wayS s b c).2.2 := hI.2
      rw [show (2 : Int).toNat = 2 from rfl, (itS_2 _ _).2, mvF_53, e72, mvF_53, hI.1, r53]
      clear r53 r55 hI hw e0 e52
      repeat' split
      all_goals first | rfl | omega
  · rw [wA_A, if_neg (by omega), wA_A, if_neg (by omega), wA_A]
    by_cases q0 : i = c
    · rw [if_pos ⟨rfl, by omega⟩, if_neg (by omega), if_pos q0]
    · rw [if_neg (fun z => by omega)]
      rcases hw.1 with ⟨n1, n2⟩ | ⟨n1, n2⟩
      · rw [n1] at r55 h2 ⊢
        rw [show (1 : Int).toNat = 1 from rfl, (itS_2 _ _).1, mvF_55, r55]
        clear r53 r55 hI hw e0 e52
        repeat' split
        all_goals first | rfl | omega
      · rw [n1] at r55 h2 ⊢
        rw [show (2 : Int).toNat = 2 from rfl, (itS_2 _ _).2, mvF_55, mvF_55, r55]
        clear r53 r55 hI hw e0 e52
        repeat' split
        all_goals first | rfl | omega
/-- what is found as a way -/
abbrev wayOk (s : am_Z) (b own E L N g : Int) (W : am_Y) : Prop := W.2.1 ≠ -1 → canA s b own E L W.2.1 ∧ (W.2.2 ≠ -1 → (rA s 6 (W.2.1 / 100) ≠ g ∧ goOn s N g W.2.1 W.2.2 ∧ canGo s W.2.2 b own ≠ 0))
theorem itA_way {s : am_Z} {b own E L N g : Int} (n : Nat) : wayOk s b own E L N g (itA s b own E L N g n (0, -1, -1)) := by
  induction n with
  | zero => exact fun h => absurd rfl h
  | succ n ih =>
    have h1 : wayOk s b own E L N g (stp1 s b own E L N g n (itA s b own E L N g n (0, -1, -1))) := by
      unfold stp1
      split
      · rename_i h
        exact fun _ => ⟨h.1, fun z => absurd rfl z⟩
      · exact ih
    rw [itA]
    unfold stpA
    split
    · rename_i h
      have h2 : ∀ m, wayOk s b own E L N g (it2 s b own N g n m (stp1 s b own E L N g n (itA s b own E L N g n (0, -1, -1)))) := by
        intro m
        induction m with
        | zero => exact h1
        | succ m ihm =>
          rw [it2]
          unfold stp2
          split
          · rename_i h3
            exact fun _ => ⟨h.1, fun _ => ⟨h.2, h3.1, h3.2.1⟩⟩
          · exact ihm
      exact h2 _
    · exact h1
theorem canGo_w {s : am_Z} {l b w : Int} (h : canGo s l b w ≠ 0) : l ≠ w ∧ freeP s l ∧ ∀ k : Nat, k < (rA s 52 b).toNat → rA s 53 (10 * b + k) ≠ l ∨ 4 ≤ rA s 55 (10 * b + k) := by
  have h1 := andN_iff.mp h
  have h2 := h1.1
  refine ⟨Classical.byContradiction fun z => h2 (if_neg (fun y => z y.1)), Classical.byContradiction fun z => h2 (if_neg (fun y => z y.2.1)), fun k hk => ?_⟩
  have h3 := h1.2 k hk
  unfold fCan at h3
  exact Classical.byContradiction fun z => h3 (if_neg z)
theorem ins_cls {F G F' G' : Int → Int} {c cn n w1 w2 : Int} (hc : 0 ≤ c ∧ c < cn) (hn : n = 1 ∨ n = 2)
    (f : ∀ i, 0 ≤ i → i < cn + n → F' i = if i ≤ c then F i else if i = c + 1 then w1 else if i ≤ c + n then w2 else F (i - n)) (g : ∀ i, 0 ≤ i → i < cn + n → G' i = if i < c then G i else if i = c then 4 else if i ≤ c + n then 0 else G (i - n)) (i : Int) (h1 : 0 ≤ i) (h2 : i < cn + n) :
    (i < c ∧ F' i = F i ∧ G' i = G i) ∨ (i = c ∧ F' i = F i ∧ G' i = 4) ∨ (i = c + 1 ∧ F' i = w1 ∧ G' i = 0) ∨ (n = 2 ∧ i = c + 2 ∧ F' i = w2 ∧ G' i = 0) ∨ (c + n < i ∧ F' i = F (i - n) ∧ G' i = G (i - n)) := by
  rw [f i h1 h2, g i h1 h2]
  by_cases c1 : i < c
  · exact Or.inl ⟨c1, if_pos (by omega), if_pos c1⟩
  · by_cases c2 : i = c
    · exact Or.inr (Or.inl ⟨c2, if_pos (by omega), by rw [if_neg c1, if_pos c2]⟩)
    · by_cases c3 : i = c + 1
      · exact Or.inr (Or.inr (Or.inl ⟨c3, by rw [if_neg (by omega), if_pos c3], by rw [if_neg c1, if_neg c2, if_pos (by omega)]⟩))
      · by_cases c4 : i ≤ c + n
        · exact Or.inr (Or.inr (Or.inr (Or.inl ⟨by omega, by omega, by rw [if_neg (by omega), if_neg c3, if_pos c4], by rw [if_neg c1, if_neg c2, if_pos c4]⟩)))
        · exact Or.inr (Or.inr (Or.inr (Or.inr ⟨by omega, by rw [if_neg (by omega), if_neg c3, if_neg c4], by rw [if_neg c1, if_neg c2, if_neg c4]⟩)))
theorem ins_uq {F G F' G' : Int → Int} {c cn n w1 w2 : Int} (hc : 0 ≤ c ∧ c < cn) (hn : n = 1 ∨ n = 2) (hu : ∀ i j, 0 ≤ i → i < j → j < cn → G i ≤ 3 → G j ≤ 3 → F i ≠ F j) (u1 : ∀ k, 0 ≤ k → k < cn → G k ≤ 3 → F k ≠ w1) (u2 : n = 2 → w1 ≠ w2) (u3 : n = 2 → ∀ k, 0 ≤ k → k < cn → G k ≤ 3 → F k ≠ w2)
    (f : ∀ i, 0 ≤ i → i < cn + n → F' i = if i ≤ c then F i else if i = c + 1 then w1 else if i ≤ c + n then w2 else F (i - n)) (g : ∀ i, 0 ≤ i → i < cn + n → G' i = if i < c then G i else if i = c then 4 else if i ≤ c + n then 0 else G (i - n)) :
    ∀ i j, 0 ≤ i → i < j → j < cn + n → G' i ≤ 3 → G' j ≤ 3 → F' i ≠ F' j := by
  intro i j i1 i2 i3 s1 s2
  have ci := ins_cls hc hn f g i i1 (by omega)
  have cj := ins_cls hc hn f g j (by omega) i3
  rcases ci with ⟨a1, a2, a3⟩ | ⟨a1, a2, a3⟩ | ⟨a1, a2, a3⟩ | ⟨a0, a1, a2, a3⟩ | ⟨a1, a2, a3⟩
  · rw [a2]; rw [a3] at s1
    rcases cj with ⟨b1, b2, b3⟩ | ⟨b1, b2, b3⟩ | ⟨b1, b2, b3⟩ | ⟨b0, b1, b2, b3⟩ | ⟨b1, b2, b3⟩
    · rw [b2]; rw [b3] at s2; exact hu i j i1 i2 (by omega) s1 s2
    · omega
    · rw [b2]; exact u1 i i1 (by omega) s1
    · rw [b2]; exact u3 b0 i i1 (by omega) s1
    · rw [b2]; rw [b3] at s2; exact hu i (j - n) i1 (by omega) (by omega) s1 s2
  · omega
  · rw [a2]
    rcases cj with ⟨b1, b2, b3⟩ | ⟨b1, b2, b3⟩ | ⟨b1, b2, b3⟩ | ⟨b0, b1, b2, b3⟩ | ⟨b1, b2, b3⟩
    · omega
    · omega
    · omega
    · rw [b2]; exact u2 b0
    · rw [b2]; rw [b3] at s2; exact (u1 (j - n) (by omega) (by omega) s2).symm
  · rw [a2]
    rcases cj with ⟨b1, b2, b3⟩ | ⟨b1, b2, b3⟩ | ⟨b1, b2, b3⟩ | ⟨b0, b1, b2, b3⟩ | ⟨b1, b2, b3⟩
    · omega
    · omega
    · omega
    · omega
    · rw [b2]; rw [b3] at s2; exact (u3 a0 (j - n) (by omega) (by omega) s2).symm
  · rw [a2]; rw [a3] at s1
    rcases cj with ⟨b1, b2, b3⟩ | ⟨b1, b2, b3⟩ | ⟨b1, b2, b3⟩ | ⟨b0, b1, b2, b3⟩ | ⟨b1, b2, b3⟩
    · omega
    · omega
    · omega
    · omega
    · rw [b2]; rw [b3] at s2; exact hu (i - n) (j - n) (by omega) (by omega) (by omega) s1 s2
theorem moveS_UQ {s : am_Z} (B : in_S s) (hU : am_UQ s) {b c : Int} (hb : 0 ≤ b ∧ b < rI s 44) (hc : 0 ≤ c ∧ c < rA s 52 b) : am_UQ (moveS s b c) := by
  have h10 : ∀ b, rA s 52 b ≤ 10 := fun b => (B.1 52 b 0 10 rfl).2
  intro b' h1 h2
  rw [moveS_I (by omega) (by omega)] at h2
  by_cases hbb : b' = b
  · rw [hbb]
    have hu := hU b hb.1 hb.2
    by_cases hm : mvP s b c
    · obtain ⟨r52, r53, r55⟩ := moveS_r hm hc
      have hw := nWay_12 hm.1
      have hway : wayOk s b (rA s 53 (10 * b + c)) (earS s b c) (dep s (rA s 53 (10 * b + c)) + 48) (endS s b c) (rA s 6 (rA s 53 (10 * b + c) / 100)) (wayS s b c) := itA_way _
      have hw1 := hway hw.2
      have hg1 := (canGo_w hw1.1.2.2.2).2.2
      have nx : ∀ l : Int, (∀ k : Nat, k < (rA s 52 b).toNat → rA s 53 (10 * b + k) ≠ l ∨ 4 ≤ rA s 55 (10 * b + k)) → ∀ k, 0 ≤ k → k < rA s 52 b → rA s 55 (10 * b + k) ≤ 3 → rA s 53 (10 * b + k) ≠ l := fun l hl k k1 k2 k3 => by
        have := hl k.toNat (by omega)
        rw [show ((k.toNat : Nat) : Int) = k by omega] at this
        rcases this with z | z
        · exact z
        · omega
      have hz : nWay s b c = 2 → (wayS s b c).2.2 ≠ -1 := fun z => by
        rcases hw.1 with ⟨y1, y2⟩ | ⟨y1, y2⟩
        · omega
        · exact y2
      have hn : nWay s b c = 1 ∨ nWay s b c = 2 := hw.1.imp And.left And.left
      have p : ∀ i, 10 * b + (i - nWay s b c) = 10 * b + i - nWay s b c := fun i => by omega
      intro i j i1 i2 i3
      rw [r52] at i3
      exact ins_uq (F := fun i => rA s 53 (10 * b + i)) (G := fun i => rA s 55 (10 * b + i)) (F' := fun i => rA (moveS s b c) 53 (10 * b + i)) (G' := fun i => rA (moveS s b c) 55 (10 * b + i)) hc hn hu (nx _ hg1) (fun z e => (hw1.2 (hz z)).1 (by rw [e]; exact (hw1.2 (hz z)).2.1.2.2.1)) (fun z => nx _ (canGo_w (hw1.2 (hz z)).2.2).2.2) (fun i h1 h2 => (by rw [p]; exact r53 i h1 h2)) (fun i h1 h2 => (by rw [p]; exact r55 i h1 h2)) i j i1 i2 i3
    · have e : moveS s b c = wA (findS s b c) 55 (10 * b + c) 5 := by unfold moveS; rw [if_neg hm]
      intro i j i1 i2 i3 s1 s2
      rw [e] at i3 s1 s2 ⊢
      rw [wA_A] at s1 s2
      have f1 : ∀ x, rA (wA (findS s b c) 55 (10 * b + c) 5) 53 x = rA s 53 x := fun x => rfl
      rw [f1, f1]
      refine hu i j i1 i2 i3 ?_ ?_
      · split at s1
        · omega
        · exact s1
      · split at s2
        · omega
        · exact s2
  · intro i j i1 i2 i3 s1 s2
    rw [moveS_A hc (h10 b) (Or.inr (Or.inr (Or.inl ⟨rfl, hbb⟩)))] at i3
    have h3 := h10 b'
    have q : ∀ k, 0 ≤ k → k < 10 → ∀ j, 53 ≤ j → rA (moveS s b c) j (10 * b' + k) = rA s j (10 * b' + k) := fun k k1 k2 j hj => moveS_A hc (h10 b) (Or.inr (Or.inr (Or.inr ⟨hj, by omega⟩)))
    rw [q i i1 (by omega) 55 (by omega)] at s1
    rw [q j (by omega) (by omega) 55 (by omega)] at s2
    rw [q i i1 (by omega) 53 (by omega), q j (by omega) (by omega) 53 (by omega)]
    exact hU b' h1 h2 i j i1 i2 i3 s1 s2
theorem UQ_cg {s s' : am_Z} (h44 : rI s' 44 = rI s 44) (h52 : ∀ b, rA s' 52 b = rA s 52 b) (h53 : ∀ x, rA s' 53 x = rA s 53 x) (h55 : ∀ x, rA s' 55 x ≤ 3 → rA s 55 x ≤ 3) (hU : am_UQ s) : am_UQ s' := by
  intro b h1 h2 i j i1 i2 i3 s1 s2
  rw [h52] at i3
  rw [h53, h53]
  exact hU b h1 (by rw [← h44]; exact h2) i j i1 i2 i3 (h55 _ s1) (h55 _ s2)
theorem glC_3 (l b : Int) (i : Nat) (t : am_Z) (x : Int) (h : rA (glC l b i t) 55 x ≤ 3) : rA t 55 x ≤ 3 := by
  by_cases hx : x = 10 * b + i
  · subst hx
    unfold glC at h
    split at h
    · rename_i hc; omega
    · split at h
      · rename_i hc; omega
      · exact h
  · rw [(glC_u l b i t).2.1 x hx] at h
    exact h
theorem glN_3 (l : Int) (n : Nat) (t : am_Z) (x : Int) (h : rA (itS (glB l) n t) 55 x ≤ 3) : rA t 55 x ≤ 3 := by
  induction n with
  | zero => exact h
  | succ n ih =>
    rw [itS_s] at h
    refine ih ?_
    unfold glB at h
    split at h
    · have : ∀ m, rA (itS (glC l n) m (itS (glB l) n t)) 55 x ≤ 3 → rA (itS (glB l) n t) 55 x ≤ 3 := by
        intro m
        induction m with
        | zero => exact fun z => z
        | succ m ihm => exact fun z => ihm (glC_3 l n m _ x z)
      exact this _ h
    · exact h
theorem voidS_UQ {s : am_Z} {b : Int} (hU : am_UQ s) : am_UQ (voidS s b) := by
  refine UQ_cg (s := s) (s' := voidS s b) rfl (fun _ => rfl) (fun _ => rfl) (fun x h => ?_) hU
  unfold voidS at h
  rw [wB_A] at h
  split at h
  · unfold gVoid at h
    split at h <;> omega
  · exact h
theorem gdS_u {l : Int} (m : Nat) (s : am_Z) (a n : Int) : (∀ j i, j ≠ 67 → j ≠ 71 → rA (gdS l m s a n).1 j i = rA s j i) ∧ ∀ j, j ≠ 68 → rI (gdS l m s a n).1 j = rI s j := by
  induction m generalizing s a n with
  | zero => exact ⟨fun _ _ _ _ => rfl, fun _ _ => rfl⟩
  | succ m ih =>
    rw [gdS]
    split
    · have h := ih (dnS s (ndN s l (rI s 44).toNat) n) (a - rA s 45 (ndN s l (rI s 44).toNat)) (n + 1)
      exact ⟨fun j i h1 h2 => (h.1 j i h1 h2).trans (dn_A s _ _ h1 h2 i), fun j h1 => (h.2 j h1).trans (dn_I s _ _ h1)⟩
    · exact ⟨fun _ _ _ _ => rfl, fun _ _ => rfl⟩
theorem itS_J {f : Nat → am_Z → am_Z} {j : Nat} (h : ∀ i t, rI (f i t) j = rI t j) (n : Nat) (s : am_Z) : rI (itS f n s) j = rI s j := by
  induction n with
  | zero => rfl
  | succ n ih => rw [itS_s, h, ih]
theorem itSC_2 {l b : Int} (n : Nat) (t : am_Z) : (itS (glC l b) n t).2 = t.2 := (glI_u l b n t).2.2.1
theorem glB_2 (l : Int) (b : Nat) (t : am_Z) : (glB l b t).2 = t.2 := by
  unfold glB
  split
  · exact itSC_2 _ _
  · rfl
theorem goS_I (s : am_Z) (l : Int) {j : Nat} (h1 : j ≠ 68) (h2 : j ≠ 72) (h3 : j ≠ 73) : rI (goS s l) j = rI s j := by
  unfold goS
  rw [itS_J (f := gmF l) (fun i t => moveS_I h2 h3), itS_J (f := glB l) (fun i t => congrFun (glB_2 l i t) j)]
  exact ((gdS_u _ _ _ _).2 j h1)
end


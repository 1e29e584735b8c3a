noncomputable section
theorem moveU_h {s : am_Z} (h10 : ∀ b, rA s 52 b ≤ 10) (hU : am_UQ s) {b c : Int} (hb : 0 ≤ b ∧ b < rI s 44) (hc : 0 ≤ c ∧ c < rA s 52 b) : am_UQ (moveS s b c) := by
  intro b' h1 h2
  rw [moveS_I (by omega) (by omega)] at h2
  by_cases hbb : b' = b
  · rw [hbb]
    have hu := hU b hb.1 hb.2
    by_cases hm : mvP s b c
    · obtain ⟨r52, r53, r55⟩ := moveS_r hm hc
      have hw := nWay_12 hm.1
      have hway : wayOk s b (rA s 53 (10 * b + c)) (earS s b c) (dep s (rA s 53 (10 * b + c)) + 48) (endS s b c) (rA s 6 (rA s 53 (10 * b + c) / 100)) (wayS s b c) := itA_way _
      have hw1 := hway hw.2
      have hg1 := (canGo_w hw1.1.2.2.2).2.2
      have nx : ∀ l : Int, (∀ k : Nat, k < (rA s 52 b).toNat → rA s 53 (10 * b + k) ≠ l ∨ 4 ≤ rA s 55 (10 * b + k)) → ∀ k, 0 ≤ k → k < rA s 52 b → rA s 55 (10 * b + k) ≤ 3 → rA s 53 (10 * b + k) ≠ l := fun l hl k k1 k2 k3 => by
        have := hl k.toNat (by omega)
        rw [show ((k.toNat : Nat) : Int) = k by omega] at this
        rcases this with z | z
        · exact z
        · omega
      have hz : nWay s b c = 2 → (wayS s b c).2.2 ≠ -1 := fun z => by
        rcases hw.1 with ⟨y1, y2⟩ | ⟨y1, y2⟩
        · omega
        · exact y2
      have hn : nWay s b c = 1 ∨ nWay s b c = 2 := hw.1.imp And.left And.left
      have p : ∀ i, 10 * b + (i - nWay s b c) = 10 * b + i - nWay s b c := fun i => by omega
      intro i j i1 i2 i3
      rw [r52] at i3
      exact ins_uq (F := fun i => rA s 53 (10 * b + i)) (G := fun i => rA s 55 (10 * b + i)) (F' := fun i => rA (moveS s b c) 53 (10 * b + i)) (G' := fun i => rA (moveS s b c) 55 (10 * b + i)) hc hn hu (nx _ hg1) (fun z e => (hw1.2 (hz z)).1 (by rw [e]; exact (hw1.2 (hz z)).2.1.2.2.1)) (fun z => nx _ (canGo_w (hw1.2 (hz z)).2.2).2.2) (fun i h1 h2 => (by rw [p]; exact r53 i h1 h2)) (fun i h1 h2 => (by rw [p]; exact r55 i h1 h2)) i j i1 i2 i3
    · have e : moveS s b c = wA (findS s b c) 55 (10 * b + c) 5 := by unfold moveS; rw [if_neg hm]
      intro i j i1 i2 i3 s1 s2
      rw [e] at i3 s1 s2 ⊢
      rw [wA_A] at s1 s2
      have f1 : ∀ x, rA (wA (findS s b c) 55 (10 * b + c) 5) 53 x = rA s 53 x := fun x => rfl
      rw [f1, f1]
      refine hu i j i1 i2 i3 ?_ ?_
      · split at s1
        · omega
        · exact s1
      · split at s2
        · omega
        · exact s2
  · intro i j i1 i2 i3 s1 s2
    rw [moveS_A hc (h10 b) (Or.inr (Or.inr (Or.inl ⟨rfl, hbb⟩)))] at i3
    have h3 := h10 b'
    have q : ∀ k, 0 ≤ k → k < 10 → ∀ j, 53 ≤ j → rA (moveS s b c) j (10 * b' + k) = rA s j (10 * b' + k) := fun k k1 k2 j hj => moveS_A hc (h10 b) (Or.inr (Or.inr (Or.inr ⟨hj, by omega⟩)))
    rw [q i i1 (by omega) 55 (by omega)] at s1
    rw [q j (by omega) (by omega) 55 (by omega)] at s2
    rw [q i i1 (by omega) 53 (by omega), q j (by omega) (by omega) 53 (by omega)]
    exact hU b' h1 h2 i j i1 i2 i3 s1 s2
theorem moveK_h {t : am_Z} (h52 : h52P t) (C : am_CK t) {b c : Int} (h47 : rA t 47 b = 1) (hc : 0 ≤ c ∧ c < rA t 52 b) : am_CK (moveS t b c) := fun b' k h1 h2 h3 => by
  have h10 : rA t 52 b ≤ 10 := (h52 b).2
  rw [mv_o hc (by omega)]
  by_cases e : (b' : Int) = b
  · rw [e]; exact h47
  · rw [mv_I (by omega)] at h1
    rw [moveS_A hc h10 (Or.inr (Or.inr (Or.inl ⟨rfl, e⟩)))] at h2
    have c52 := h52 b'
    rw [moveS_A hc h10 (Or.inr (Or.inr (Or.inr ⟨by omega, by omega⟩)))] at h3
    exact C b' k h1 h2 h3
theorem mvP_h {t : am_Z} (h52 : ∀ b, 0 ≤ rA t 52 b ∧ rA t 52 b ≤ 10) (P : am_PT t) {b c : Int} (hb : 0 ≤ b) (hc : 0 ≤ c ∧ c < rA t 52 b) (h55 : rA t 55 (10 * b + c) ≤ 1) : am_PT (moveS t b c) := by
  have h10 : ∀ b, rA t 52 b ≤ 10 := fun b => (h52 b).2
  have key : nFb t b ≤ nFb (moveS t b c) b := by
    by_cases hm : mvP t b c
    · have hr := moveS_r hm hc
      have hw := nWay_12 hm.1
      have hm2 := hm.2
      have c52 := h52 b
      unfold nFb
      rw [hr.1, show (rA t 52 b).toNat = c.toNat + ((rA t 52 b).toNat - c.toNat) by omega, show (rA t 52 b + nWay t b c).toNat = c.toNat + ((rA t 52 b).toNat - c.toNat) + (nWay t b c).toNat by omega]
      refine Int.le_trans (sumI_le (g := fun x => if x < 10 * b + rA t 52 b then nF1 t x else nF1 (moveS t b c) (x + ((nWay t b c).toNat : Int))) (fun x x1 x2 => ?_)) (sum_sh (p := c.toNat) (nF1_0 _) (fun x x1 x2 => ?_) (fun x x1 => ?_) _)
      · rw [if_pos (by omega)]
        exact Int.le_refl _
      · rw [if_pos (by omega)]
        have z := hr.2.2 (x - 10 * b) (by omega) (by omega)
        rw [show 10 * b + (x - 10 * b) = x by omega, if_pos (by omega)] at z
        unfold nF1
        rw [z]
      · by_cases y : x < 10 * b + rA t 52 b
        · rw [if_pos y]
          have z := hr.2.2 (x + nWay t b c - 10 * b) (by omega) (by omega)
          rw [show 10 * b + (x + nWay t b c - 10 * b) = x + ((nWay t b c).toNat : Int) by omega, if_neg (by omega), if_neg (by omega)] at z
          by_cases e : x = 10 * b + c
          · rw [if_pos (by omega)] at z
            unfold nF1
            rw [z, e, if_neg (show ¬ rA t 55 (10 * b + c) = 2 by omega)]
            rfl
          · rw [if_neg (by omega), show x + ((nWay t b c).toNat : Int) - nWay t b c = x by omega] at z
            unfold nF1
            rw [z]
        · rw [if_neg y]
    · have e : moveS t b c = wA (findS t b c) 55 (10 * b + c) 5 := by unfold moveS; rw [if_neg hm]
      rw [e]
      show sumI (10 * b) (rA t 52 b).toNat (nF1 t) ≤ sumI (10 * b) (rA t 52 b).toNat (nF1 (wA (findS t b c) 55 (10 * b + c) 5))
      refine sumI_le (fun x _ _ => ?_)
      unfold nF1
      by_cases ex : x = 10 * b + c
      · have y1 : (if rA t 55 x = 2 then (1 : Int) else 0) = 0 := by
          rw [ex, if_neg (show ¬ rA t 55 (10 * b + c) = 2 by omega)]
        rw [y1]
        split <;> omega
      · have y2 : rA (wA (findS t b c) 55 (10 * b + c) 5) 55 x = rA t 55 x := if_neg (fun z => ex z.2)
        rw [y2]
        exact Int.le_refl _
  have hn : nF t ≤ nF (moveS t b c) := by
    unfold nF
    rw [show rI (moveS t b c) 44 = rI t 44 from mv_I (by omega)]
    refine sumI_le (fun x x1 _ => ?_)
    by_cases ex : x = b
    · rw [ex]; exact key
    · have := h10 x
      unfold nFb
      rw [moveS_A hc (h10 b) (Or.inr (Or.inr (Or.inl ⟨rfl, ex⟩)))]
      refine Int.le_of_eq (sumI_c (fun y y1 y2 => ?_))
      unfold nF1
      rw [moveS_A hc (h10 b) (Or.inr (Or.inr (Or.inr ⟨by omega, by omega⟩)))]
  intro i i1 i2
  have p := P i i1 i2
  rw [mv_any (by omega)]
  omega
/-- only the coupons of ticketed bookings change, and no stretch is lost -/
def am_TB (s s' : am_Z) : Prop := rI s' 44 = rI s 44 ∧ (∀ j x, (j = 45 ∨ j = 47 ∨ j = 49 ∨ j = 59 ∨ j = 60) → rA s' j x = rA s j x) ∧ (∀ b : Nat, (b : Int) < rI s 44 → rA s 47 b ≠ 1 → rA s' 52 b = rA s 52 b ∧ ∀ k : Nat, (k : Int) < rA s 52 b → rA s' 55 (10 * b + k) = rA s 55 (10 * b + k) ∧ rA s' 58 (10 * b + k) = rA s 58 (10 * b + k)) ∧ ∀ b : Nat, (b : Int) < rI s 44 → ∀ k : Nat, (k : Int) < rA s 52 b → ∃ k' : Nat, (k' : Int) < rA s' 52 b ∧ rA s' 56 (10 * b + k') = rA s 56 (10 * b + k)
section TBS
variable {s s' s2 : am_Z}
theorem TB_s {t : am_Z} (m : ∀ j x, (45 ≤ j ∧ j ≤ 60 ∧ j ≠ 51) → rA t j x = rA s j x) (n : rI t 44 = rI s 44) : am_TB s t := ⟨n, fun j x h => m j x (by omega), fun b _ _ => ⟨m 52 _ (by omega), fun k _ => ⟨m 55 _ (by omega), m 58 _ (by omega)⟩⟩, fun b _ k hk => ⟨k, by rw [m 52 _ (by omega)]; exact hk, m 56 _ (by omega)⟩⟩
theorem TB_r : am_TB s s := TB_s (fun _ _ _ => rfl) rfl
theorem TB_t (a : am_TB s s') (b : am_TB s' s2) : am_TB s s2 := by
  obtain ⟨a1, a2, a3, a4⟩ := a
  obtain ⟨b1, b2, b3, b4⟩ := b
  refine ⟨b1.trans a1, fun j x h => (b2 j x h).trans (a2 j x h), fun c hc h => ?_, fun c hc k hk => ?_⟩
  · have y := a3 c hc h
    have z := b3 c (by omega) (by rw [a2 47 _ (by omega)]; exact h)
    refine ⟨z.1.trans y.1, fun k hk => ?_⟩
    have u := y.2 k hk
    have v := z.2 k (by rw [y.1]; exact hk)
    exact ⟨v.1.trans u.1, v.2.trans u.2⟩
  · obtain ⟨k1, p1, p2⟩ := a4 c hc k hk
    obtain ⟨k2, r1, r2⟩ := b4 c (by omega) k1 p1
    exact ⟨k2, r1, r2.trans p2⟩
theorem IB_TB (I : am_IB s) (h52 : h52P s) (T : am_TB s s') (U : am_UQ s') (C : am_CK s') (P : am_PT s') : am_IB s' := by
  obtain ⟨V4, HO, _, _, PE, _, PD, SX⟩ := I
  obtain ⟨n44, m, h3, h4⟩ := T
  refine ⟨fun i hi => ?_, fun b k hb h0 hk => ?_, U, C, PE_s PE (fun x => m 45 x (by omega)) n44, P, fun b hb h0 => ?_, fun b hb t t0 t4 hk => ?_⟩
  · rw [m 59 _ (by omega), m 60 _ (by omega)]
    exact V4 i (by omega)
  · rw [m 47 _ (by omega)] at h0
    have y := h3 b (by omega) (by omega)
    rw [y.1] at hk
    exact (y.2 k hk).1.trans (HO b k (by omega) h0 hk)
  · rw [m 47 _ (by omega)] at h0
    have y := h3 b (by omega) (by omega)
    have c52 := h52 b
    rw [m 49 _ (by omega), PD b (by omega) h0]
    unfold pfoS
    rw [y.1, show rA s' 59 = rA s 59 from funext (fun x => m 59 x (by omega))]
    refine congrArg (fun z => sumI (4 * (b : Int)) 4 (rA s 59) + z) (sumI_c (fun x x1 x2 => ?_))
    have z := (y.2 (x - 10 * b).toNat (by omega)).2
    rw [show 10 * (b : Int) + ((x - 10 * b).toNat : Int) = x by omega] at z
    exact z.symm
  · rw [m 60 _ (by omega)]
    refine SX b (by omega) t t0 t4 (fun k hk2 => ?_)
    obtain ⟨k', p1, p2⟩ := h4 b (by omega) k hk2
    rw [← p2]
    exact hk k' p1
end TBS
theorem ins_T {s : am_Z} {b p l sh tx st : Int} (hp : 0 ≤ p ∧ p ≤ rA s 52 b) {k : Nat} (hk : (k : Int) < rA s 52 b) : ∃ k' : Nat, (k' : Int) < rA (insC s b p l sh tx st) 52 b ∧ rA (insC s b p l sh tx st) 56 (10 * b + k') = rA s 56 (10 * b + k) := by
  have e : rA (insC s b p l sh tx st) 52 b = rA s 52 b + 1 := by rw [ins_A, if_neg (by omega), if_pos ⟨rfl, rfl⟩]
  by_cases c : (k : Int) < p
  · exact ⟨k, by omega, ins_o (by omega) (by omega)⟩
  · refine ⟨k + 1, by omega, ?_⟩
    have z := ins_u (s := s) (b := b) (p := p) (l := l) (sh := sh) (tx := tx) (st := st) (j := 56) (k := (k : Int) + 1) (by omega) (by omega)
    rw [show (k : Int) + 1 - 1 = k by omega] at z
    rw [show (((k + 1 : Nat)) : Int) = (k : Int) + 1 by omega]
    exact z
theorem insC_52 {s : am_Z} {b p l sh tx st : Int} : rA (insC s b p l sh tx st) 52 b = rA s 52 b + 1 := by rw [ins_A, if_neg (by omega), if_pos ⟨rfl, rfl⟩]
theorem TB_move {t : am_Z} {b c : Int} (h52 : h52P t) (h47 : rA t 47 b = 1) (hc : 0 ≤ c ∧ c < rA t 52 b) : am_TB t (moveS t b c) := by
  have h10 : ∀ b, rA t 52 b ≤ 10 := fun b => (h52 b).2
  have uo : ∀ b' : Nat, (b' : Int) ≠ b → rA (moveS t b c) 52 b' = rA t 52 b' ∧ ∀ k : Nat, (k : Int) < rA t 52 b' → ∀ j, 53 ≤ j → rA (moveS t b c) j (10 * b' + k) = rA t j (10 * b' + k) := fun b' hb => ⟨moveS_A hc (h10 b) (Or.inr (Or.inr (Or.inl ⟨rfl, hb⟩))), fun k hk j hj => by
    have := h10 b'
    exact moveS_A hc (h10 b) (Or.inr (Or.inr (Or.inr ⟨hj, by omega⟩)))⟩
  refine ⟨mv_I (by omega), fun j x h => mv_any (by omega), fun b' hb h => ?_, fun b' hb k hk => ?_⟩
  · have y := uo b' (fun z => h (by rw [z]; exact h47))
    exact ⟨y.1, fun k hk => ⟨y.2 k hk 55 (by omega), y.2 k hk 58 (by omega)⟩⟩
  · by_cases e : (b' : Int) = b
    · rw [e] at hk ⊢
      by_cases hm : mvP t b c
      · rcases nWay_12 hm.1 with ⟨⟨w, _⟩ | ⟨w, _⟩, _⟩
        · have r := mv_1 hc hm w
          have e52 : rA (moveS t b c) 52 b = rA (insC t b (c + 1) (wayS t b c).2.1 (rA t 57 (10 * b + c)) (rA t 58 (10 * b + c)) (rA t 56 (10 * b + c))) 52 b := by
            rw [r]
            unfold mv1S
            rw [wA_A, if_neg (fun z => absurd z.1 (by omega)), wA_A, if_neg (fun z => absurd z.1 (by omega)), wA_A, if_neg (fun z => absurd z.1 (by omega))]
          have e56 : ∀ x, rA (moveS t b c) 56 x = rA (insC t b (c + 1) (wayS t b c).2.1 (rA t 57 (10 * b + c)) (rA t 58 (10 * b + c)) (rA t 56 (10 * b + c))) 56 x := fun x => by
            rw [r]
            unfold mv1S
            rw [wA_A, if_neg (fun z => absurd z.1 (by omega)), wA_A, if_neg (fun z => absurd z.1 (by omega)), wA_A, if_neg (fun z => absurd z.1 (by omega))]
          obtain ⟨k', p1, p2⟩ := ins_T (s := t) (b := b) (p := c + 1) (l := (wayS t b c).2.1) (sh := rA t 57 (10 * b + c)) (tx := rA t 58 (10 * b + c)) (st := rA t 56 (10 * b + c)) (by omega) hk
          exact ⟨k', by rw [e52]; exact p1, (e56 _).trans p2⟩
        · have r := mv_2 hc hm w
          have e52 : rA (moveS t b c) 52 b = rA (insC (insC t b (c + 1) (wayS t b c).2.1 (rA t 57 (10 * b + c)) (rA t 58 (10 * b + c)) (rA t 56 (10 * b + c))) b (c + 2) (wayS t b c).2.2 0 0 (rA t 56 (10 * b + c))) 52 b := by
            rw [r]
            unfold mv2S
            rw [wA_A, if_neg (fun z => absurd z.1 (by omega)), wA_A, if_neg (fun z => absurd z.1 (by omega)), wA_A, if_neg (fun z => absurd z.1 (by omega))]
          have e56 : ∀ x, rA (moveS t b c) 56 x = rA (insC (insC t b (c + 1) (wayS t b c).2.1 (rA t 57 (10 * b + c)) (rA t 58 (10 * b + c)) (rA t 56 (10 * b + c))) b (c + 2) (wayS t b c).2.2 0 0 (rA t 56 (10 * b + c))) 56 x := fun x => by
            rw [r]
            unfold mv2S
            rw [wA_A, if_neg (fun z => absurd z.1 (by omega)), wA_A, if_neg (fun z => absurd z.1 (by omega)), wA_A, if_neg (fun z => absurd z.1 (by omega))]
          obtain ⟨k1, p1, p2⟩ := ins_T (s := t) (b := b) (p := c + 1) (l := (wayS t b c).2.1) (sh := rA t 57 (10 * b + c)) (tx := rA t 58 (10 * b + c)) (st := rA t 56 (10 * b + c)) (by omega) hk
          obtain ⟨k', r1, r2⟩ := ins_T (s := insC t b (c + 1) (wayS t b c).2.1 (rA t 57 (10 * b + c)) (rA t 58 (10 * b + c)) (rA t 56 (10 * b + c))) (b := b) (p := c + 2) (l := (wayS t b c).2.2) (sh := 0) (tx := 0) (st := rA t 56 (10 * b + c)) (by rw [insC_52]; omega) p1
          exact ⟨k', by rw [e52]; exact r1, (e56 _).trans (r2.trans p2)⟩
      · have e : moveS t b c = wA (findS t b c) 55 (10 * b + c) 5 := by unfold moveS; rw [if_neg hm]
        refine ⟨k, ?_, ?_⟩
        · rw [e, wA_A, if_neg (fun z => absurd z.1 (by omega))]
          exact hk
        · rw [e, wA_A, if_neg (fun z => absurd z.1 (by omega))]
          rfl
    · have y := uo b' e
      exact ⟨k, by rw [y.1]; exact hk, y.2 k hk 56 (by omega)⟩
/-- repair on its way -/
def am_RP (s X : am_Z) : Prop := h52P X ∧ am_TB s X ∧ am_UQ X ∧ am_CK X ∧ am_PT X ∧ (∀ j x, (j < 52 ∨ 58 < j) → rA X j x = rA s j x) ∧ ∀ j, j ≠ 72 → j ≠ 73 → rI X j = rI s j
section RPS
variable {s : am_Z}
theorem RP_move {X : am_Z} {b c : Int} (H : am_RP s X) (hb : 0 ≤ b ∧ b < rI X 44) (h47 : rA X 47 b = 1) (hc : 0 ≤ c ∧ c < rA X 52 b) (h55 : rA X 55 (10 * b + c) ≤ 1) : am_RP s (moveS X b c) := by
  obtain ⟨h52, T, U, C, P, m, n⟩ := H
  exact ⟨fun x => mv_52 h52 hc x, TB_t T (TB_move h52 h47 hc), moveU_h (fun b => (h52 b).2) U hb hc, moveK_h h52 C h47 hc, mvP_h h52 P hb.1 hc h55, fun j x h => (mv_any h).trans (m j x h), fun j h1 h2 => (mv_I ⟨h1, h2⟩).trans (n j h1 h2)⟩
theorem RP_3 {b : Int} : ∀ (m : Nat) (k : Int) (X : am_X), 0 ≤ k → am_RP s X.1 → (0 ≤ b ∧ b < rI X.1 44) → rA X.1 47 b = 1 → am_RP s (rpr3 b m k X).1
  | 0, _, _, _, H, _, _ => H
  | m + 1, k, X, hk, H, hb, h47 => by
    rw [rpr3]
    split
    · rename_i hl
      split
      · rename_i hr
        refine RP_3 m (k + 1) _ (by omega) (RP_move H hb h47 ⟨hk, hl⟩ hr.1) ?_ ?_
        · show 0 ≤ b ∧ b < rI (moveS X.1 b k) 44
          rw [mv_I (by omega)]
          exact hb
        · show rA (moveS X.1 b k) 47 b = 1
          rw [mv_any (by omega)]
          exact h47
      · exact RP_3 m (k + 1) _ (by omega) H hb h47
    · exact H
theorem RP_2 {t : Int} : ∀ (n : Nat) (X : am_X), (n : Int) ≤ rI s 44 → am_RP s X.1 → am_RP s (rpr2 t n X).1
  | 0, _, _, H => H
  | n + 1, X, hn, H => by
    have ih := RP_2 (t := t) n X (by omega) H
    rw [rpr2]
    unfold rprB
    split
    · rename_i h
      exact RP_3 12 0 _ (by omega) ih ⟨by omega, by rw [ih.2.2.2.2.2.2 44 (by omega) (by omega)]; omega⟩ h.1
    · exact ih
theorem RP_1 {nb : Nat} (hn : (nb : Int) ≤ rI s 44) : ∀ (i : Nat) (X : am_X), am_RP s X.1 → am_RP s (rpr1 nb i X).1
  | 0, _, H => H
  | i + 1, X, H => by
    rw [rpr1]
    exact RP_2 nb _ hn (RP_1 hn i X H)
theorem INV_repair (I : am_INV s) (B : in_S s) : am_INV (rpr1 (rI s 44).toNat 4 (s, 0)).1 ∧ ∀ j, j ≠ 72 → j ≠ 73 → rI (rpr1 (rI s 44).toNat 4 (s, 0)).1 j = rI s j := by
  have b44 := B.2.1 44 0 40 rfl
  have h52 : h52P s := fun x => B.1 52 x 0 10 rfl
  obtain ⟨_, T, U, C, P, m, n⟩ := RP_1 (s := s) (nb := (rI s 44).toNat) (by omega) 4 (s, 0) ⟨h52, TB_r, I.2.1.2.2.1, I.2.1.2.2.2.1, I.2.1.2.2.2.2.2.1, fun _ _ _ => rfl, fun _ _ _ => rfl⟩
  exact ⟨⟨IN_cg I.1 (fun j x h => m j x (by omega)) (n 3 (by omega) (by omega)) (n 20 (by omega) (by omega)), IB_TB I.2.1 h52 T U C P, WO_cg I.2.2 (fun j x h => m j x (by omega)) (n 61 (by omega) (by omega)) (n 33 (by omega) (by omega))⟩, n⟩
end RPS
theorem glN_47 {l : Int} {t : am_Z} (h10 : ∀ b, rA t 52 b ≤ 10) {b : Nat} (hb : rA t 47 b ≠ 1) {k : Nat} (hk : k < 10) : ∀ n : Nat, rA (itS (glB l) n t) 55 (10 * b + k) = rA t 55 (10 * b + k)
  | 0 => rfl
  | n + 1 => by
    have hu := glN_u (l := l) h10 n
    have e47 : ∀ x, rA (itS (glB l) n t) 47 x = rA t 47 x := fun x => hu.1 47 x (by omega) (by omega) (by omega)
    have e52 : ∀ x, rA (itS (glB l) n t) 52 x = rA t 52 x := fun x => hu.1 52 x (by omega) (by omega) (by omega)
    have c52 := h10 n
    rw [itS_s]
    refine Eq.trans ?_ (glN_47 (l := l) (b := b) (k := k) h10 hb hk n)
    by_cases h : rA (itS (glB l) n t) 47 n = 1
    · rw [show glB l n (itS (glB l) n t) = itS (glC l n) (rA (itS (glB l) n t) 52 n).toNat (itS (glB l) n t) from if_pos h]
      have ne : n ≠ b := fun z => by
        rw [e47, z] at h
        exact hb h
      exact (glI_u l n (rA (itS (glB l) n t) 52 n).toNat (itS (glB l) n t)).2.1 _ (by rw [e52]; omega)
    · rw [show glB l n (itS (glB l) n t) = itS (glB l) n t from if_neg h]
theorem gmN_TB {l n : Int} {s3 : am_Z} (h52 : ∀ b, 0 ≤ rA s3 52 b ∧ rA s3 52 b ≤ 10) (hT : ∀ i : Nat, (i : Int) < n → 0 ≤ rA s3 71 i ∧ cfS s3 (rA s3 71 i) l ≠ -1) (hD : ∀ i i2 : Nat, i < i2 → (i2 : Int) < n → rA s3 71 i ≠ rA s3 71 i2) : ∀ j : Nat, (j : Int) ≤ n → am_TB s3 (itS (gmF l) j s3) ∧ (∀ i : Nat, j ≤ i → (i : Int) < n → cfS (itS (gmF l) j s3) (rA s3 71 i) l = cfS s3 (rA s3 71 i) l) ∧ (∀ x, rA (itS (gmF l) j s3) 71 x = rA s3 71 x) ∧ ∀ b, 0 ≤ rA (itS (gmF l) j s3) 52 b ∧ rA (itS (gmF l) j s3) 52 b ≤ 10
  | 0, _ => ⟨TB_r, fun _ _ _ => rfl, fun _ => rfl, h52⟩
  | j + 1, hj => by
    have ih := gmN_TB h52 hT hD j (by omega)
    have hjT := hT j (by omega)
    have e71 := ih.2.2.1
    have e52 := ih.2.2.2
    have ec := ih.2.1 j (Nat.le_refl _) (by omega)
    rw [itS_s]
    have hne : cfS (itS (gmF l) j s3) (rA s3 71 j) l ≠ -1 := by rw [ec]; exact hjT.2
    have hw := cf_w hne
    have eg : gmF l j (itS (gmF l) j s3) = moveS (itS (gmF l) j s3) (rA s3 71 j) (cfS (itS (gmF l) j s3) (rA s3 71 j) l) := by
      rw [show gmF l j (itS (gmF l) j s3) = moveS (itS (gmF l) j s3) (rA (itS (gmF l) j s3) 71 j) (cfS (itS (gmF l) j s3) (rA (itS (gmF l) j s3) 71 j) l) from rfl, e71]
    rw [eg]
    refine ⟨TB_t ih.1 (TB_move e52 hw.1 hw.2.1), fun i i1 i2 => ?_, fun x => (mv_any (by omega)).trans (e71 x), mv_52 e52 hw.2.1⟩
    rw [moveS_cf hw.2.1 (fun b => (e52 b).2) (fun z => hD j i (by omega) i2 z.symm)]
    exact ih.2.1 i (by omega) i2
theorem go_TB {s : am_Z} (B : in_S s) (U : am_UQ s) {l : Int} : am_TB s (goS s l) := by
  obtain ⟨a2, D⟩ := glX_DS B U l
  have b44 := B.2.1 44 0 40 rfl
  have hS := D.2.2.2.2.1
  have hg : ∀ j i, j ≠ 67 → j ≠ 71 → rA (glX s l).1 j i = rA s j i := fun j i h1 h2 => (hS.1 j i h1 h2).trans ((gl0_S s).1 j i h1)
  have e44 : rI (glX s l).1 44 = rI s 44 := hS.2 44 (by omega)
  have B2 : in_S (glX s l).1 := glX_B B D
  have T2 : am_TB s (glX s l).1 := TB_s (fun j x h => hg j x (by omega) (by omega)) e44
  have h10 : ∀ b, rA (glX s l).1 52 b ≤ 10 := fun b => (B2.1 52 b 0 10 rfl).2
  have hu := glN_u (l := l) h10 (rI s 44).toNat
  have T3 : am_TB (glX s l).1 (itS (glB l) (rI s 44).toNat (glX s l).1) := by
    refine ⟨congrFun hu.2.1 44, fun j x h => hu.1 j x (by omega) (by omega) (by omega), fun b hb h => ⟨hu.1 52 _ (by omega) (by omega) (by omega), fun k hk => ⟨glN_47 h10 h (by have := h10 b; omega) _, hu.1 58 _ (by omega) (by omega) (by omega)⟩⟩, fun b hb k hk => ⟨k, by rw [hu.1 52 _ (by omega) (by omega) (by omega)]; exact hk, hu.1 56 _ (by omega) (by omega) (by omega)⟩⟩
  have HO := D.2.2.2.1
  have hn := D.2.1.1
  have e71 : ∀ x, rA (itS (glB l) (rI s 44).toNat (glX s l).1) 71 x = rA (glX s l).1 71 x := fun x => hu.1 71 x (by omega) (by omega) (by omega)
  unfold goS
  refine TB_t T2 (TB_t T3 (gmN_TB (n := (glX s l).2) (fun b => ?_) (fun i hi => ?_) (fun i i2 h1 h2 => ?_) (glX s l).2.toNat (by omega)).1)
  · rw [hu.1 52 b (by omega) (by omega) (by omega)]
    exact B2.1 52 b 0 10 rfl
  · have ho := HO.1 i (by omega) hi
    rw [e71, glN_cf h10 _ ho.1.1 ho.2.1]
    exact ⟨ho.1.1, ho.2.2⟩
  · rw [e71, e71]
    exact HO.2 i i2 (by omega) (by omega) h2
theorem PX_INV : am_PX am_INV := by
  refine ⟨fun t B I => PT_N B I.2.1.2.2.2.2.2.1, fun t l B U hl I U2 C2 E2 => ?_, fun t v I => INV_I I (by unfold ivI; omega), fun t i B I => ?_⟩
  · exact ⟨IN_cg I.1 (fun j x h => goS_A B l (by omega) x) (goS_I t l (by omega) (by omega) (by omega)) (goS_I t l (by omega) (by omega) (by omega)), IB_TB I.2.1 (fun x => B.1 52 x 0 10 rfl) (go_TB B U) U2 C2 (go_PT B U I.2.1.2.2.2.2.2.1), WO_cg I.2.2 (fun j x h => goS_A B l (by omega) x) (goS_I t l (by omega) (by omega) (by omega)) (goS_I t l (by omega) (by omega) (by omega))⟩
  · exact ⟨IN_cg I.1 (fun j x h => vd_A (by omega)) rfl rfl, IB_VB I.2.1 (VB_void (fun x => B.1 52 x 0 10 rfl) (by omega)), WO_cg I.2.2 (fun j x h => vd_A (by omega)) rfl rfl⟩
theorem J_INV {s : am_Z} (I : am_INV s) : am_J am_INV s := ⟨I.2.1.2.2.1, I.2.1.2.2.2.1, I.2.1.2.2.2.2.1, I⟩
/-- what part's loops copy -/
theorem prt_F {b c : Int} (h : b ≠ c) {t : am_Z} {j : Nat} {x : Int} : ∀ n : Nat, n ≤ 10 → rA (itS (prtF b c) n t) j x = if (53 ≤ j ∧ j ≤ 58) ∧ 10 * c ≤ x ∧ x < 10 * c + n then rA t j (x - 10 * c + 10 * b) else rA t j x := by
  intro n
  induction n generalizing x with
  | zero => intro _; rw [if_neg (by omega)]; rfl
  | succ n ih =>
    intro hn
    rw [itS_s, show prtF b c n (itS (prtF b c) n t) = cpyS (itS (prtF b c) n t) (10 * b + n) (10 * c + n) from rfl, cpy_A, ih (by omega), ih (by omega)]
    by_cases hx : (53 ≤ j ∧ j ≤ 58) ∧ x = 10 * c + n
    · rw [if_pos hx, if_neg (by omega), if_pos (by omega)]
      exact congrArg (rA t j) (by omega)
    · rw [if_neg hx]
      by_cases hy : (53 ≤ j ∧ j ≤ 58) ∧ 10 * c ≤ x ∧ x < 10 * c + n
      · rw [if_pos hy, if_pos (by omega)]
      · rw [if_neg hy, if_neg (by omega)]
theorem prt_G {b c : Int} (h : b ≠ c) {t : am_Z} {j : Nat} {x : Int} : ∀ n : Nat, n ≤ 4 → rA (itS (prtG b c) n t) j x = if (59 ≤ j ∧ j ≤ 60) ∧ 4 * c ≤ x ∧ x < 4 * c + n then rA t j (x - 4 * c + 4 * b) else rA t j x := by
  intro n
  induction n generalizing x j with
  | zero => intro _; rw [if_neg (by omega)]; rfl
  | succ n ih =>
    intro hn
    have e : rA (prtG b c n (itS (prtG b c) n t)) j x = if (59 ≤ j ∧ j ≤ 60) ∧ x = 4 * c + n then rA (itS (prtG b c) n t) j (4 * b + n) else rA (itS (prtG b c) n t) j x := by
      unfold prtG
      rw [wA_A, wA_A]
      by_cases hj : j = 60
      · subst hj
        by_cases hx : x = 4 * c + n
        · rw [if_pos ⟨rfl, hx⟩, if_pos ⟨by omega, hx⟩]
        · rw [if_neg (fun z => hx z.2), if_neg (fun z => hx z.2), if_neg (fun z => hx z.2)]
      · rw [if_neg (fun z => hj z.1)]
        by_cases hx : j = 59 ∧ x = 4 * c + n
        · rw [if_pos hx, if_pos ⟨by omega, hx.2⟩, hx.1]
        · rw [if_neg hx, if_neg (fun z => hx ⟨by omega, z.2⟩)]
    rw [itS_s, e, ih (by omega), ih (by omega)]
    by_cases hx : (59 ≤ j ∧ j ≤ 60) ∧ x = 4 * c + n
    · rw [if_pos hx, if_neg (by omega), if_pos (by omega)]
      exact congrArg (rA t j) (by omega)
    · rw [if_neg hx]
      by_cases hy : (59 ≤ j ∧ j ≤ 60) ∧ 4 * c ≤ x ∧ x < 4 * c + n
      · rw [if_pos hy, if_pos (by omega)]
      · rw [if_neg hy, if_neg (by omega)]
/-- the reference's state behind part -/
def prtS (s : am_Z) (b n : Int) : am_Z := itS (prtG b (rI s 44)) 4 (itS (prtF b (rI s 44)) 10 (wA (wA (wA (wA (wA (wA (wA (wA (wA (wI (wI s 74 (kPart s b n)) 44 (rI s 44 + 1)) 45 b (rA s 45 b - n)) 45 (rI s 44) n) 46 (rI s 44) (rA s 46 b)) 47 (rI s 44) (rA s 47 b)) 48 (rI s 44) (rA s 48 b)) 49 (rI s 44) (rA s 49 b)) 50 (rI s 44) (rA s 50 b)) 51 (rI s 44) (rA s 51 b)) 52 (rI s 44) (rA s 52 b)))
theorem prt_I {s : am_Z} {b n : Int} {j : Nat} (h : j ≠ 44 ∧ j ≠ 74) : rI (prtS s b n) j = rI s j ∧ rI (prtS s b n) 44 = rI s 44 + 1 := by
  have e : (prtS s b n).2 = (wI (wI s 74 (kPart s b n)) 44 (rI s 44 + 1)).2 := (itS_I (f := prtG b (rI s 44)) (fun _ _ => rfl) _ _).trans (itS_I (f := prtF b (rI s 44)) (fun _ _ => rfl) _ _)
  refine ⟨(congrFun e j).trans ?_, (congrFun e 44).trans rfl⟩
  show (if j = 44 then _ else if j = 74 then _ else s.2 j) = s.2 j
  rw [if_neg h.1, if_neg h.2]
theorem prt_C {s s0 : am_Z} {b n nb : Int} (e : ∀ j x, rA s0 j x = rA s j x) (hb : b < nb) (j : Nat) (x : Int) : rA (wA (wA (wA (wA (wA (wA (wA (wA (wA s0 45 b (rA s 45 b - n)) 45 nb n) 46 nb (rA s 46 b)) 47 nb (rA s 47 b)) 48 nb (rA s 48 b)) 49 nb (rA s 49 b)) 50 nb (rA s 50 b)) 51 nb (rA s 51 b)) 52 nb (rA s 52 b)) j x = if j = 45 ∧ x = b then rA s 45 b - n else if j = 45 ∧ x = nb then n else if (46 ≤ j ∧ j ≤ 52) ∧ x = nb then rA s j b else rA s j x := by
  simp only [wA_A, e]
  by_cases hj : 45 ≤ j ∧ j ≤ 52
  · have z : j = 45 ∨ j = 46 ∨ j = 47 ∨ j = 48 ∨ j = 49 ∨ j = 50 ∨ j = 51 ∨ j = 52 := by omega
    rcases z with rfl | rfl | rfl | rfl | rfl | rfl | rfl | rfl <;> simp <;> repeat' split
    all_goals first | rfl | omega
  · rw [if_neg (by omega), if_neg (by omega), if_neg (by omega), if_neg (by omega), if_neg (by omega), if_neg (by omega), if_neg (by omega), if_neg (by omega), if_neg (by omega), if_neg (by omega), if_neg (by omega), if_neg (by omega)]
theorem prt_A {s : am_Z} {b n : Int} (hb : b < rI s 44) (j : Nat) (x : Int) : rA (prtS s b n) j x = rA (wA (partP s b n) 45 b (rA s 45 b - n)) j x := by
  have er : ∀ j x, rA (wI (wI s 74 (kPart s b n)) 44 (rI s 44 + 1)) j x = rA s j x := fun _ _ => rfl
  unfold prtS
  rw [prt_G (by omega) 4 (by omega), prt_F (by omega) 10 (by omega), prt_F (by omega) 10 (by omega)]
  simp only [prt_C er hb]
  rw [wA_A, paP_A]
  by_cases h1 : 53 ≤ j
  · rw [if_neg (c := j = 45 ∧ x = b) (by omega), if_neg (c := j = 45 ∧ x = rI s 44) (by omega), if_neg (c := (46 ≤ j ∧ j ≤ 52) ∧ x = rI s 44) (by omega)]
    have f : ∀ y v1 v2 v3 : Int, (if j = 45 ∧ y = b then v1 else if j = 45 ∧ y = rI s 44 then v2 else if (46 ≤ j ∧ j ≤ 52) ∧ y = rI s 44 then v3 else rA s j y) = rA s j y := fun y v1 v2 v3 => by
      rw [if_neg (by omega), if_neg (by omega), if_neg (by omega)]
    simp only [f]
    repeat' split
    all_goals first | rfl | omega | exact congrArg (rA s j) (by omega)
  · rw [if_neg (by omega), if_neg (by omega)]
    by_cases h2 : j = 45 ∧ x = b
    · rw [if_pos h2, if_pos h2]
    · rw [if_neg h2, if_neg h2]
      by_cases h3 : j = 45 ∧ x = rI s 44
      · rw [if_pos h3, if_pos h3]
      · rw [if_neg h3, if_neg h3]
        by_cases h4 : (46 ≤ j ∧ j ≤ 52) ∧ x = rI s 44
        · rw [if_pos h4, if_pos h4]
        · rw [if_neg h4, if_neg h4, if_neg (by omega), if_neg (by omega)]
end


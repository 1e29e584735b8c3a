noncomputable section
theorem canGo_cg {s s' : am_Z} (h : s'.1 = s.1) (h4 : rI s' 44 = rI s 44) (h0 : rI s' 0 = rI s 0) (l b w : Int) : canGo s' l b w = canGo s l b w := by
  have hA : ∀ j i, rA s' j i = rA s j i := fun j i => by unfold rA; rw [h]
  unfold canGo
  rw [openS_cg (fun j i _ => hA j i) h4 h0, hA 52, hA 45]
  unfold freeP
  rw [dep_cg (fun j i _ => hA j i), h0, hA 18]
  have e : fCan s' l b = fCan s l b := by
    funext k
    unfold fCan
    rw [hA, hA]
  rw [e]
theorem isB_c {d y : Nat} {as : List am_V} {s s1 : am_Z} {P P' : Prop} [Decidable P] [Decidable P'] (h : P ↔ P') (k : am_CR d y as s (isB s1 P)) : am_CR d y as s (isB s1 P') := am_CR_imp k (fun o s' ⟨a, b⟩ => ⟨by rw [a]; by_cases hp : P; rw [if_pos hp, if_pos (h.mp hp)]; rw [if_neg hp, if_neg (fun z => hp (h.mpr z))], b⟩)
section WV
variable {d : Nat} {s s0 : am_Z}
theorem sr_departs_v {l : Int} (h : s.1 = s0.1) (hl : legR l) : am_CR (d + 1) m_M_departs [aR 9 0, aI (zI l)] s (isP s (dep s0 l) (-14 ≤ dep s0 l ∧ dep s0 l ≤ 1500)) := by
  have e : dep s0 l = dep s l := by unfold dep rA; rw [h]
  rw [e]
  exact sr_departs (d := d) hl
theorem sr_arrives_v {l : Int} (h : s.1 = s0.1) (hl : legR l) : am_CR (d + 2) m_M_arrives [aR 9 0, aI (zI l)] s (isP s (arv s0 l) (inR (arv s0 l))) := by
  have e : arv s0 l = arv s l := by unfold arv dep rA; rw [h]
  rw [e]
  exact sr_arrives (d := d) hl
theorem sr_isLeg_v {l : Int} (h : s.1 = s0.1) (h3 : rI s 3 = rI s0 3) (hl : in32 l) : am_CR (d + 2) m_M_isLeg [aR 9 0, aI (zI l)] s (isB s (legP s0 l)) := by
  have hA : ∀ j i, rA s j i = rA s0 j i := fun j i => by unfold rA; rw [h]
  exact isB_c (by simp only [legP, thereP, hA, h3]) (sr_isLeg (d := d) (s := s) hl)
theorem sr_canGo_v {l b w : Int} (h : s.1 = s0.1) (h4 : rI s 44 = rI s0 44) (h0 : rI s 0 = rI s0 0) (hl : legR l) (hb : 0 ≤ b ∧ b < 40) (hw : in32 w) : am_CR (d + 4) m_M_canGo [aR 9 0, aI (zI l), aI (zI b), aI (zI w)] s (isB s (canGo s0 l b w ≠ 0)) := by
  have := sr_canGo (d := d) (s := s) hl hb hw
  rw [canGo_cg h h4 h0] at this
  exact this
abbrev betW (w1 w2 w t a b : Int) : Prop := w1 = -1 ∨ w < t ∨ (w = t ∧ ((b = -1 ∧ w2 ≠ -1) ∨ ((b = -1 ↔ w2 = -1) ∧ (a < w1 ∨ (a = w1 ∧ b < w2)))))
theorem sr_isBetter_w {w1 w2 w t a b : Int} (h1 : rI s 72 = w1) (h2 : rI s 73 = w2) (hw : in32 w) (ht : in32 t) (ha : in32 a) (hb : in32 b) : am_CR d m_M_isBetter [aR 9 0, aI (zI w), aI (zI t), aI (zI a), aI (zI b)] s (isB s (betW w1 w2 w t a b)) := by
  exact isB_c (by simp only [betP, betW, h1, h2]) (sr_isBetter (d := d) (s := s) hw ht ha hb)
end WV
theorem wI_72 (s : am_Z) (x y a b : Int) : wI (wI (wI (wI s 72 x) 73 y) 72 a) 73 b = wI (wI s 72 a) 73 b := by
  refine Prod.ext rfl (funext fun j => ?_)
  show (if j = 73 then b else if j = 72 then a else if j = 73 then y else if j = 72 then x else s.2 j) = if j = 73 then b else if j = 72 then a else s.2 j
  by_cases h1 : j = 73
  · rw [if_pos h1, if_pos h1]
  · rw [if_neg h1, if_neg h1, if_neg h1]
    by_cases h2 : j = 72
    · rw [if_pos h2, if_pos h2]
    · rw [if_neg h2, if_neg h2, if_neg h2]
abbrev am_Y : Type := Int × Int × Int
abbrev canA (s : am_Z) (b own E L a : Int) : Prop := legP s a ∧ rA s 5 (a / 100) = rA s 5 (own / 100) ∧ (E ≤ dep s a ∧ dep s a ≤ L) ∧ canGo s a b own ≠ 0
abbrev goOn (s : am_Z) (N g a k : Int) : Prop := legP s k ∧ rA s 5 (k / 100) = rA s 6 (a / 100) ∧ rA s 6 (k / 100) = g ∧ arv s a + 1 ≤ dep s k ∧ arv s k ≤ N
def stp1 (s : am_Z) (b own E L N g a : Int) (W : am_Y) : am_Y := if canA s b own E L a ∧ rA s 6 (a / 100) = g ∧ arv s a ≤ N ∧ betW W.2.1 W.2.2 (arv s a) W.1 a (-1) then (arv s a, a, -1) else W
def stp2 (s : am_Z) (b own N g a k : Int) (W : am_Y) : am_Y := if goOn s N g a k ∧ canGo s k b own ≠ 0 ∧ betW W.2.1 W.2.2 (arv s k) W.1 a k then (arv s k, a, k) else W
def it2 (s : am_Z) (b own N g a : Int) : Nat → am_Y → am_Y
  | 0, W => W
  | n + 1, W => stp2 s b own N g a n (it2 s b own N g a n W)
def stpA (s : am_Z) (b own E L N g a : Int) (W : am_Y) : am_Y := if canA s b own E L a ∧ rA s 6 (a / 100) ≠ g then it2 s b own N g a (100 * rI s 3).toNat (stp1 s b own E L N g a W) else stp1 s b own E L N g a W
def itA (s : am_Z) (b own E L N g : Int) : Nat → am_Y → am_Y
  | 0, W => W
  | n + 1, W => stpA s b own E L N g n (itA s b own E L N g n W)
abbrev okY (W : am_Y) : Prop := (-20 ≤ W.1 ∧ W.1 ≤ 1600) ∧ (-1 ≤ W.2.1 ∧ W.2.1 ≤ 1160) ∧ (-1 ≤ W.2.2 ∧ W.2.2 ≤ 1160)
def earS (s : am_Z) (b c : Int) : Int := if nbS s b c (-1) ≠ -1 ∧ rI s 0 + 1 < arv s (rA s 53 (10 * b + nbS s b c (-1))) + 1 then arv s (rA s 53 (10 * b + nbS s b c (-1))) + 1 else rI s 0 + 1
def endS (s : am_Z) (b c : Int) : Int := if nbS s b c 1 = -1 then 100000 else dep s (rA s 53 (10 * b + nbS s b c 1)) - 1
def wayS (s : am_Z) (b c : Int) : am_Y := itA s b (rA s 53 (10 * b + c)) (earS s b c) (dep s (rA s 53 (10 * b + c)) + 48) (endS s b c) (rA s 6 (rA s 53 (10 * b + c) / 100)) (100 * rI s 3).toNat (0, -1, -1)
def findS (s : am_Z) (b c : Int) : am_Z := wI (wI s 72 (wayS s b c).2.1) 73 (wayS s b c).2.2
theorem lp_way2 {d : Nat} {s : am_Z} {q0 : am_A} {Q : Option am_V → am_Z → Prop} {b c own E L N g : Int} {x4 x5 : Option am_V} (hb : 0 ≤ b ∧ b < 40) (ho : legR own) (hE : in32 E) (hL : in32 L) (hN : in32 N) (hg : in32 g) {a f : Int} {W0 : am_Y} (ha0 : f ≠ 0 → legR a) (hf : 0 ≤ f ∧ f ≤ 1) : ∀ (m : Nat) (j : Nat) (k r w1 w2 : Int) (x14 : Option am_V), (100 * rI s 3).toNat - j < m → (k = j ∧ (j : Int) ≤ 100 * rI s 3 ∧ okY (r, w1, w2) ∧ (r, w1, w2) = (if f ≠ 0 ∧ rA s 6 (a / 100) ≠ g then it2 s b own N g a j W0 else W0)) → (∀ r w1 w2 x13 x14, okY (r, w1, w2) → (r, w1, w2) = (if f ≠ 0 ∧ rA s 6 (a / 100) ≠ g then it2 s b own N g a (100 * rI s 3).toNat W0 else W0) → am_WR (d + 5) m_M_findsWay 479 [some (aR 9 0), some (aI (zI b)), some (aI (zI c)), some (aI (zI own)), x4, x5, some (aI (zI E)), some (aI (zI L)), some (aI (zI N)), some (aI (zI g)), some (aI (zI r)), some (aI (zI a)), some (aI (zI f)), x13, x14] [] q0 (wI (wI s 72 w1) 73 w2) Q) → am_WR (d + 5) m_M_findsWay 304 [some (aR 9 0), some (aI (zI b)), some (aI (zI c)), some (aI (zI own)), x4, x5, some (aI (zI E)), some (aI (zI L)), some (aI (zI N)), some (aI (zI g)), some (aI (zI r)), some (aI (zI a)), some (aI (zI f)), some (aI (zI k)), x14] [] q0 (wI (wI s 72 w1) 73 w2) Q := by
  intro m
  induction m with
  | zero => intro j k r w1 w2 x14 hm; exact absurd hm (Nat.not_lt_zero _)
  | succ m ih =>
    intro j k r w1 w2 x14 hm ⟨hj, hj2, hr, hW⟩ K
    subst hj
    refine rr_inS (fun B => ?_)
    have b3 := B.2.1 3 0 12 rfl
    have e3 : rI (wI (wI s 72 w1) 73 w2) 3 = rI s 3 := rfl
    obtain ⟨hr1, hr2, hr3⟩ := hr
    dsimp only at hr1 hr2 hr3
    refine rr_iload rfl rfl ?_
    refine rr_bipush (x := 100) rfl rfl ?_
    refine rr_aload_n rfl rfl ?_
    refine rr_gfIv 3 (s) rfl rfl rfl (by omega) rfl (fun b309 => ?_)
    refine rr_imul rfl ?_
    refine rr_icmp_ge rfl rfl (by omega) (by omega) (fun h313 => ?_) (fun h313 => ?_)
    · exact K r w1 w2 _ _ ⟨hr1, hr2, hr3⟩ (by first | (rw [show (100 * rI s 3).toNat = j by omega]; exact hW) | (rw [if_neg (by omega)] at hW ⊢; exact hW))
    · refine rr_iload rfl rfl ?_
      refine rr_if_eq rfl rfl (by omega) (fun h318 => ?_) (fun h318 => ?_)
      · exact K r w1 w2 _ _ ⟨hr1, hr2, hr3⟩ (by first | (rw [show (100 * rI s 3).toNat = j by omega]; exact hW) | (rw [if_neg (by omega)] at hW ⊢; exact hW))
      · have ha := ha0 (by omega)
        refine rr_aload_n rfl rfl ?_
        refine rr_gfA 6 rfl rfl (by omega) rfl ?_
        refine rr_iload rfl rfl ?_
        refine rr_bipush (x := 100) rfl rfl ?_
        refine rr_idiv rfl (by omega) (by omega) ?_
        refine rr_iav 6 12 (s) (fun _ => rfl) rfl rfl rfl rfl (by omega) (by omega) (fun b330 => ?_)
        refine rr_iload rfl rfl ?_
        refine rr_icmp_eq rfl rfl (by omega) (by omega) (fun h333 => ?_) (fun h333 => ?_)
        · exact K r w1 w2 _ _ ⟨hr1, hr2, hr3⟩ (by first | (rw [show (100 * rI s 3).toNat = j by omega]; exact hW) | (rw [if_neg (by omega)] at hW ⊢; exact hW))
        · refine rr_join (pc' := 416) (V := if goOn s N g a (j : Int) then 1 else 0) ?_ (fun K416 => ?_)
          · refine rr_stI14 rfl ?_
            refine rr_iload rfl rfl ?_
            refine rr_if_eqB rfl rfl (fun h420 => ?_) (fun h420 => ?_)
            · refine rr_inc13 rfl ?_
              refine rr_goto rfl rfl ?_
              try rw [wI_72]
              refine ih (j + 1) _ _ _ _ _ (by omega) ⟨by omega, by omega, (by first | exact ⟨hr1, hr2, hr3⟩ | (refine ⟨?_, ?_, ?_⟩ <;> dsimp only <;> omega)), ?_⟩ K
              rw [if_pos (by omega)] at hW
              rw [if_pos (by omega), it2, ← hW]
              unfold stp2
              first
                | (rw [if_pos ⟨by assumption, by assumption, by assumption⟩])
                | (rw [if_neg (fun z => absurd z.1 (by assumption))])
                | (rw [if_neg (fun z => absurd z.2.1 (by assumption))])
                | (rw [if_neg (fun z => absurd z.2.2 (by assumption))])
            · refine rr_aload_n rfl rfl ?_
              refine rr_iload rfl rfl ?_
              refine rr_iload_n rfl rfl ?_
              refine rr_iload_n rfl rfl ?_
              refine rr_cv3B rfl rfl rfl (Nat.le_of_ble_eq_true rfl) (sr_canGo_v (d := 0) (s0 := s) rfl rfl rfl (by omega) (by omega) (by omega)) (by omega) ?_
              refine rr_if_eqB rfl rfl (fun h431 => ?_) (fun h431 => ?_)
              · refine rr_inc13 rfl ?_
                refine rr_goto rfl rfl ?_
                try rw [wI_72]
                refine ih (j + 1) _ _ _ _ _ (by omega) ⟨by omega, by omega, (by first | exact ⟨hr1, hr2, hr3⟩ | (refine ⟨?_, ?_, ?_⟩ <;> dsimp only <;> omega)), ?_⟩ K
                rw [if_pos (by omega)] at hW
                rw [if_pos (by omega), it2, ← hW]
                unfold stp2
                first
                  | (rw [if_pos ⟨by assumption, by assumption, by assumption⟩])
                  | (rw [if_neg (fun z => absurd z.1 (by assumption))])
                  | (rw [if_neg (fun z => absurd z.2.1 (by assumption))])
                  | (rw [if_neg (fun z => absurd z.2.2 (by assumption))])
              · refine rr_aload_n rfl rfl ?_
                refine rr_aload_n rfl rfl ?_
                refine rr_iload rfl rfl ?_
                refine rr_cv1P rfl rfl rfl (Nat.le_of_ble_eq_true rfl) (sr_arrives_v (d := 0) (s0 := s) rfl (by omega)) (by omega) (fun b438 => ?_)
                refine rr_iload rfl rfl ?_
                refine rr_iload rfl rfl ?_
                refine rr_iload rfl rfl ?_
                refine rr_cv4B rfl rfl rfl (Nat.le_of_ble_eq_true rfl) (sr_isBetter_w (d := 0) (w1 := w1) (w2 := w2) rfl rfl (by omega) (by omega) (by omega) (by omega)) (by omega) ?_
                refine rr_if_eqB rfl rfl (fun h450 => ?_) (fun h450 => ?_)
                · refine rr_inc13 rfl ?_
                  refine rr_goto rfl rfl ?_
                  try rw [wI_72]
                  refine ih (j + 1) _ _ _ _ _ (by omega) ⟨by omega, by omega, (by first | exact ⟨hr1, hr2, hr3⟩ | (refine ⟨?_, ?_, ?_⟩ <;> dsimp only <;> omega)), ?_⟩ K
                  rw [if_pos (by omega)] at hW
                  rw [if_pos (by omega), it2, ← hW]
                  unfold stp2
                  first
                    | (rw [if_pos ⟨by assumption, by assumption, by assumption⟩])
                    | (rw [if_neg (fun z => absurd z.1 (by assumption))])
                    | (rw [if_neg (fun z => absurd z.2.1 (by assumption))])
                    | (rw [if_neg (fun z => absurd z.2.2 (by assumption))])
                · refine rr_aload_n rfl rfl ?_
                  refine rr_iload rfl rfl ?_
                  refine rr_cv1P rfl rfl rfl (Nat.le_of_ble_eq_true rfl) (sr_arrives_v (d := 0) (s0 := s) rfl (by omega)) (by omega) (fun b456 => ?_)
                  refine rr_stI10 rfl ?_
                  refine rr_aload_n rfl rfl ?_
                  refine rr_iload rfl rfl ?_
                  refine rr_pfI 72 rfl rfl rfl rfl (by omega) rfl (by omega) ?_
                  refine rr_aload_n rfl rfl ?_
                  refine rr_iload rfl rfl ?_
                  refine rr_pfI 73 rfl rfl rfl rfl (by omega) rfl (by omega) ?_
                  refine rr_inc13 rfl ?_
                  refine rr_goto rfl rfl ?_
                  try rw [wI_72]
                  refine ih (j + 1) _ _ _ _ _ (by omega) ⟨by omega, by omega, (by first | exact ⟨hr1, hr2, hr3⟩ | (refine ⟨?_, ?_, ?_⟩ <;> dsimp only <;> omega)), ?_⟩ K
                  rw [if_pos (by omega)] at hW
                  rw [if_pos (by omega), it2, ← hW]
                  unfold stp2
                  first
                    | (rw [if_pos ⟨by assumption, by assumption, by assumption⟩])
                    | (rw [if_neg (fun z => absurd z.1 (by assumption))])
                    | (rw [if_neg (fun z => absurd z.2.1 (by assumption))])
                    | (rw [if_neg (fun z => absurd z.2.2 (by assumption))])
          · refine rr_aload_n rfl rfl ?_
            refine rr_iload rfl rfl ?_
            refine rr_cv1B rfl rfl rfl (Nat.le_of_ble_eq_true rfl) (sr_isLeg_v (d := 0) (s0 := s) rfl rfl (by omega)) (by omega) ?_
            refine rr_if_eqB rfl rfl (fun h342 => ?_) (fun h342 => ?_)
            · refine rr_iconst rfl ?_
              exact K416 _ (by first | exact (if_pos ⟨by assumption, by assumption, by assumption, by assumption, by assumption⟩).symm | exact (if_neg (by intro z; omega)).symm)
            · refine rr_aload_n rfl rfl ?_
              refine rr_gfA 5 rfl rfl (by omega) rfl ?_
              refine rr_iload rfl rfl ?_
              refine rr_bipush (x := 100) rfl rfl ?_
              refine rr_idiv rfl (by omega) (by omega) ?_
              refine rr_iav 5 12 (s) (fun _ => rfl) rfl rfl rfl rfl (by omega) (by omega) (fun b354 => ?_)
              refine rr_aload_n rfl rfl ?_
              refine rr_gfA 6 rfl rfl (by omega) rfl ?_
              refine rr_iload rfl rfl ?_
              refine rr_bipush (x := 100) rfl rfl ?_
              refine rr_idiv rfl (by omega) (by omega) ?_
              refine rr_iav 6 12 (s) (fun _ => rfl) rfl rfl rfl rfl (by omega) (by omega) (fun b364 => ?_)
              refine rr_icmp_ne rfl rfl (by omega) (by omega) (fun h365 => ?_) (fun h365 => ?_)
              · refine rr_iconst rfl ?_
                exact K416 _ (by first | exact (if_pos ⟨by assumption, by assumption, by assumption, by assumption, by assumption⟩).symm | exact (if_neg (by intro z; omega)).symm)
              · refine rr_aload_n rfl rfl ?_
                refine rr_gfA 6 rfl rfl (by omega) rfl ?_
                refine rr_iload rfl rfl ?_
                refine rr_bipush (x := 100) rfl rfl ?_
                refine rr_idiv rfl (by omega) (by omega) ?_
                refine rr_iav 6 12 (s) (fun _ => rfl) rfl rfl rfl rfl (by omega) (by omega) (fun b377 => ?_)
                refine rr_iload rfl rfl ?_
                refine rr_icmp_ne rfl rfl (by omega) (by omega) (fun h380 => ?_) (fun h380 => ?_)
                · refine rr_iconst rfl ?_
                  exact K416 _ (by first | exact (if_pos ⟨by assumption, by assumption, by assumption, by assumption, by assumption⟩).symm | exact (if_neg (by intro z; omega)).symm)
                · refine rr_aload_n rfl rfl ?_
                  refine rr_iload rfl rfl ?_
                  refine rr_cv1P rfl rfl rfl (Nat.le_of_ble_eq_true rfl) (sr_departs_v (d := 0) (s0 := s) rfl (by omega)) (by omega) (fun b386 => ?_)
                  refine rr_aload_n rfl rfl ?_
                  refine rr_iload rfl rfl ?_
                  refine rr_cv1P rfl rfl rfl (Nat.le_of_ble_eq_true rfl) (sr_arrives_v (d := 0) (s0 := s) rfl (by omega)) (by omega) (fun b392 => ?_)
                  refine rr_iconst rfl ?_
                  refine rr_iadd rfl ?_
                  refine rr_icmp_lt rfl rfl (by omega) (by omega) (fun h397 => ?_) (fun h397 => ?_)
                  · refine rr_iconst rfl ?_
                    exact K416 _ (by first | exact (if_pos ⟨by assumption, by assumption, by assumption, by assumption, by assumption⟩).symm | exact (if_neg (by intro z; omega)).symm)
                  · refine rr_aload_n rfl rfl ?_
                    refine rr_iload rfl rfl ?_
                    refine rr_cv1P rfl rfl rfl (Nat.le_of_ble_eq_true rfl) (sr_arrives_v (d := 0) (s0 := s) rfl (by omega)) (by omega) (fun b403 => ?_)
                    refine rr_iload rfl rfl ?_
                    refine rr_icmp_gt rfl rfl (by omega) (by omega) (fun h408 => ?_) (fun h408 => ?_)
                    · refine rr_iconst rfl ?_
                      exact K416 _ (by first | exact (if_pos ⟨by assumption, by assumption, by assumption, by assumption, by assumption⟩).symm | exact (if_neg (by intro z; omega)).symm)
                    · refine rr_iconst rfl ?_
                      refine rr_goto rfl rfl ?_
                      exact K416 _ (by first | exact (if_pos ⟨by assumption, by assumption, by assumption, by assumption, by assumption⟩).symm | exact (if_neg (by intro z; omega)).symm)
theorem ite_c {α : Type} {P Q : Prop} [Decidable P] [Decidable Q] (x y : α) : (if (if P then (1 : Int) else 0) ≠ 0 ∧ Q then x else y) = if P ∧ Q then x else y := by
  by_cases hp : P
  · by_cases hq : Q
    · rw [if_pos ⟨by rw [if_pos hp]; omega, hq⟩, if_pos ⟨hp, hq⟩]
    · rw [if_neg (fun z => hq z.2), if_neg (fun z => hq z.2)]
  · rw [if_neg (fun z => z.1 (if_neg hp)), if_neg (fun z => hp z.1)]
theorem legP_R {s : am_Z} (B : in_S s) {l : Int} (h : legP s l) : legR l := by
  have b3 := B.2.1 3 0 12 rfl
  omega
theorem lp_way1 {d : Nat} {s : am_Z} {q0 : am_A} {Q : Option am_V → am_Z → Prop} {b c own E L N g : Int} {x4 x5 : Option am_V} (hb : 0 ≤ b ∧ b < 40) (ho : legR own) (hE : in32 E) (hL : in32 L) (hN : in32 N) (hg : in32 g)  : ∀ (m : Nat) (j : Nat) (k r w1 w2 : Int) (x12 x13 x14 : Option am_V), (100 * rI s 3).toNat - j < m → (k = j ∧ (j : Int) ≤ 100 * rI s 3 ∧ okY (r, w1, w2) ∧ (r, w1, w2) = itA s b own E L N g j (0, -1, -1)) → (∀ r w1 w2 x11 x12 x13 x14, (r, w1, w2) = itA s b own E L N g (100 * rI s 3).toNat (0, -1, -1) → am_WR (d + 5) m_M_findsWay 485 [some (aR 9 0), some (aI (zI b)), some (aI (zI c)), some (aI (zI own)), x4, x5, some (aI (zI E)), some (aI (zI L)), some (aI (zI N)), some (aI (zI g)), some (aI (zI r)), x11, x12, x13, x14] [] q0 (wI (wI s 72 w1) 73 w2) Q) → am_WR (d + 5) m_M_findsWay 156 [some (aR 9 0), some (aI (zI b)), some (aI (zI c)), some (aI (zI own)), x4, x5, some (aI (zI E)), some (aI (zI L)), some (aI (zI N)), some (aI (zI g)), some (aI (zI r)), some (aI (zI k)), x12, x13, x14] [] q0 (wI (wI s 72 w1) 73 w2) Q := by
  intro m
  induction m with
  | zero => intro j k r w1 w2 x12 x13 x14 hm; exact absurd hm (Nat.not_lt_zero _)
  | succ m ih =>
    intro j k r w1 w2 x12 x13 x14 hm ⟨hj, hj2, hr, hW⟩ K
    subst hj
    refine rr_inS (fun B => ?_)
    have b3 := B.2.1 3 0 12 rfl
    have e3 : rI (wI (wI s 72 w1) 73 w2) 3 = rI s 3 := rfl
    obtain ⟨hr1, hr2, hr3⟩ := hr
    dsimp only at hr1 hr2 hr3
    have hc : canA s b own E L (j : Int) → legR (j : Int) := fun z => by have := z.1; omega
    refine rr_iload rfl rfl ?_
    refine rr_bipush (x := 100) rfl rfl ?_
    refine rr_aload_n rfl rfl ?_
    refine rr_gfIv 3 (s) rfl rfl rfl (by omega) rfl (fun b161 => ?_)
    refine rr_imul rfl ?_
    refine rr_icmp_ge rfl rfl (by omega) (by omega) (fun h165 => ?_) (fun h165 => ?_)
    · exact K r w1 w2 _ _ _ _ (by rw [show (100 * rI s 3).toNat = j by omega]; exact hW)
    · refine rr_join (pc' := 231) (V := if canA s b own E L (j : Int) then 1 else 0) ?_ (fun K231 => ?_)
      · refine rr_stI12 rfl ?_
        refine rr_iload rfl rfl ?_
        refine rr_if_eqB rfl rfl (fun h235 => ?_) (fun h235 => ?_)
        · try rw [wI_72]
          refine rr_iconst rfl ?_
          refine rr_stI13 rfl ?_
          refine lp_way2 (d := d) (s := s) hb ho hE hL hN hg (a := (j : Int)) (f := if canA s b own E L (j : Int) then 1 else 0) (W0 := stp1 s b own E L N g (j : Int) (r, w1, w2)) (fun z => hc (Classical.byContradiction fun z2 => z (if_neg z2))) (by split <;> omega) ((100 * rI s 3).toNat + 1) 0 0 _ _ _ _ (by omega) ⟨rfl, by omega, by first | exact ⟨hr1, hr2, hr3⟩ | (refine ⟨?_, ?_, ?_⟩ <;> dsimp only <;> omega), by { simp only [it2, ite_self]; unfold stp1; first | rw [if_pos ⟨by assumption, by assumption, by assumption, by assumption⟩] | rw [if_neg (fun z => absurd z.1 (by assumption))] | rw [if_neg (fun z => absurd z.2.1 (by assumption))] | rw [if_neg (fun z => absurd z.2.2.1 (by omega))] | rw [if_neg (fun z => absurd z.2.2.2 (by assumption))] }⟩ (fun r1 v1 v2 x13 x14 hr1 hW1 => ?_)
          refine rr_inc11 rfl ?_
          refine rr_goto rfl rfl ?_
          refine ih (j + 1) _ r1 v1 v2 _ _ _ (by omega) ⟨by omega, by omega, hr1, ?_⟩ K
          rw [itA, ← hW, hW1, ite_c]
          rfl
        · have hl := hc (by assumption)
          refine rr_aload_n rfl rfl ?_
          refine rr_gfA 6 rfl rfl (by omega) rfl ?_
          refine rr_iload rfl rfl ?_
          refine rr_bipush (x := 100) rfl rfl ?_
          refine rr_idiv rfl (by omega) (by omega) ?_
          refine rr_iav 6 12 (s) (fun _ => rfl) rfl rfl rfl rfl (by omega) (by omega) (fun b247 => ?_)
          refine rr_iload rfl rfl ?_
          refine rr_icmp_ne rfl rfl (by omega) (by omega) (fun h250 => ?_) (fun h250 => ?_)
          · try rw [wI_72]
            refine rr_iconst rfl ?_
            refine rr_stI13 rfl ?_
            refine lp_way2 (d := d) (s := s) hb ho hE hL hN hg (a := (j : Int)) (f := if canA s b own E L (j : Int) then 1 else 0) (W0 := stp1 s b own E L N g (j : Int) (r, w1, w2)) (fun z => hc (Classical.byContradiction fun z2 => z (if_neg z2))) (by split <;> omega) ((100 * rI s 3).toNat + 1) 0 0 _ _ _ _ (by omega) ⟨rfl, by omega, by first | exact ⟨hr1, hr2, hr3⟩ | (refine ⟨?_, ?_, ?_⟩ <;> dsimp only <;> omega), by { simp only [it2, ite_self]; unfold stp1; first | rw [if_pos ⟨by assumption, by assumption, by assumption, by assumption⟩] | rw [if_neg (fun z => absurd z.1 (by assumption))] | rw [if_neg (fun z => absurd z.2.1 (by assumption))] | rw [if_neg (fun z => absurd z.2.2.1 (by omega))] | rw [if_neg (fun z => absurd z.2.2.2 (by assumption))] }⟩ (fun r1 v1 v2 x13 x14 hr1 hW1 => ?_)
            refine rr_inc11 rfl ?_
            refine rr_goto rfl rfl ?_
            refine ih (j + 1) _ r1 v1 v2 _ _ _ (by omega) ⟨by omega, by omega, hr1, ?_⟩ K
            rw [itA, ← hW, hW1, ite_c]
            rfl
          · refine rr_aload_n rfl rfl ?_
            refine rr_iload rfl rfl ?_
            refine rr_cv1P rfl rfl rfl (Nat.le_of_ble_eq_true rfl) (sr_arrives_v (d := 0) (s0 := s) rfl (by omega)) (by omega) (fun b256 => ?_)
            refine rr_iload rfl rfl ?_
            refine rr_icmp_gt rfl rfl (by omega) (by omega) (fun h261 => ?_) (fun h261 => ?_)
            · try rw [wI_72]
              refine rr_iconst rfl ?_
              refine rr_stI13 rfl ?_
              refine lp_way2 (d := d) (s := s) hb ho hE hL hN hg (a := (j : Int)) (f := if canA s b own E L (j : Int) then 1 else 0) (W0 := stp1 s b own E L N g (j : Int) (r, w1, w2)) (fun z => hc (Classical.byContradiction fun z2 => z (if_neg z2))) (by split <;> omega) ((100 * rI s 3).toNat + 1) 0 0 _ _ _ _ (by omega) ⟨rfl, by omega, by first | exact ⟨hr1, hr2, hr3⟩ | (refine ⟨?_, ?_, ?_⟩ <;> dsimp only <;> omega), by { simp only [it2, ite_self]; unfold stp1; first | rw [if_pos ⟨by assumption, by assumption, by assumption, by assumption⟩] | rw [if_neg (fun z => absurd z.1 (by assumption))] | rw [if_neg (fun z => absurd z.2.1 (by assumption))] | rw [if_neg (fun z => absurd z.2.2.1 (by omega))] | rw [if_neg (fun z => absurd z.2.2.2 (by assumption))] }⟩ (fun r1 v1 v2 x13 x14 hr1 hW1 => ?_)
              refine rr_inc11 rfl ?_
              refine rr_goto rfl rfl ?_
              refine ih (j + 1) _ r1 v1 v2 _ _ _ (by omega) ⟨by omega, by omega, hr1, ?_⟩ K
              rw [itA, ← hW, hW1, ite_c]
              rfl
            · refine rr_aload_n rfl rfl ?_
              refine rr_aload_n rfl rfl ?_
              refine rr_iload rfl rfl ?_
              refine rr_cv1P rfl rfl rfl (Nat.le_of_ble_eq_true rfl) (sr_arrives_v (d := 0) (s0 := s) rfl (by omega)) (by omega) (fun b268 => ?_)
              refine rr_iload rfl rfl ?_
              refine rr_iload rfl rfl ?_
              refine rr_iconst rfl ?_
              refine rr_cv4B rfl rfl rfl (Nat.le_of_ble_eq_true rfl) (sr_isBetter_w (d := 0) (w1 := w1) (w2 := w2) rfl rfl (by omega) (by omega) (by omega) (by omega)) (by omega) ?_
              refine rr_if_eqB rfl rfl (fun h279 => ?_) (fun h279 => ?_)
              · try rw [wI_72]
                refine rr_iconst rfl ?_
                refine rr_stI13 rfl ?_
                refine lp_way2 (d := d) (s := s) hb ho hE hL hN hg (a := (j : Int)) (f := if canA s b own E L (j : Int) then 1 else 0) (W0 := stp1 s b own E L N g (j : Int) (r, w1, w2)) (fun z => hc (Classical.byContradiction fun z2 => z (if_neg z2))) (by split <;> omega) ((100 * rI s 3).toNat + 1) 0 0 _ _ _ _ (by omega) ⟨rfl, by omega, by first | exact ⟨hr1, hr2, hr3⟩ | (refine ⟨?_, ?_, ?_⟩ <;> dsimp only <;> omega), by { simp only [it2, ite_self]; unfold stp1; first | rw [if_pos ⟨by assumption, by assumption, by assumption, by assumption⟩] | rw [if_neg (fun z => absurd z.1 (by assumption))] | rw [if_neg (fun z => absurd z.2.1 (by assumption))] | rw [if_neg (fun z => absurd z.2.2.1 (by omega))] | rw [if_neg (fun z => absurd z.2.2.2 (by assumption))] }⟩ (fun r1 v1 v2 x13 x14 hr1 hW1 => ?_)
                refine rr_inc11 rfl ?_
                refine rr_goto rfl rfl ?_
                refine ih (j + 1) _ r1 v1 v2 _ _ _ (by omega) ⟨by omega, by omega, hr1, ?_⟩ K
                rw [itA, ← hW, hW1, ite_c]
                rfl
              · refine rr_aload_n rfl rfl ?_
                refine rr_iload rfl rfl ?_
                refine rr_cv1P rfl rfl rfl (Nat.le_of_ble_eq_true rfl) (sr_arrives_v (d := 0) (s0 := s) rfl (by omega)) (by omega) (fun b285 => ?_)
                refine rr_stI10 rfl ?_
                refine rr_aload_n rfl rfl ?_
                refine rr_iload rfl rfl ?_
                refine rr_pfI 72 rfl rfl rfl rfl (by omega) rfl (by omega) ?_
                refine rr_aload_n rfl rfl ?_
                refine rr_iconst rfl ?_
                refine rr_pfI 73 rfl rfl rfl rfl (by omega) rfl (by omega) ?_
                try rw [wI_72]
                refine rr_iconst rfl ?_
                refine rr_stI13 rfl ?_
                refine lp_way2 (d := d) (s := s) hb ho hE hL hN hg (a := (j : Int)) (f := if canA s b own E L (j : Int) then 1 else 0) (W0 := stp1 s b own E L N g (j : Int) (r, w1, w2)) (fun z => hc (Classical.byContradiction fun z2 => z (if_neg z2))) (by split <;> omega) ((100 * rI s 3).toNat + 1) 0 0 _ _ _ _ (by omega) ⟨rfl, by omega, by first | exact ⟨hr1, hr2, hr3⟩ | (refine ⟨?_, ?_, ?_⟩ <;> dsimp only <;> omega), by { simp only [it2, ite_self]; unfold stp1; first | rw [if_pos ⟨by assumption, by assumption, by assumption, by assumption⟩] | rw [if_neg (fun z => absurd z.1 (by assumption))] | rw [if_neg (fun z => absurd z.2.1 (by assumption))] | rw [if_neg (fun z => absurd z.2.2.1 (by omega))] | rw [if_neg (fun z => absurd z.2.2.2 (by assumption))] }⟩ (fun r1 v1 v2 x13 x14 hr1 hW1 => ?_)
                refine rr_inc11 rfl ?_
                refine rr_goto rfl rfl ?_
                refine ih (j + 1) _ r1 v1 v2 _ _ _ (by omega) ⟨by omega, by omega, hr1, ?_⟩ K
                rw [itA, ← hW, hW1, ite_c]
                rfl
      · refine rr_aload_n rfl rfl ?_
        refine rr_iload rfl rfl ?_
        refine rr_cv1B rfl rfl rfl (Nat.le_of_ble_eq_true rfl) (sr_isLeg_v (d := 0) (s0 := s) rfl rfl (by omega)) (by omega) ?_
        refine rr_if_eqB rfl rfl (fun h174 => ?_) (fun h174 => ?_)
        · refine rr_iconst rfl ?_
          exact K231 _ (by first | exact (if_pos ⟨by assumption, by assumption, by assumption, by assumption⟩).symm | exact (if_neg (fun z => absurd z.1 (by assumption))).symm | exact (if_neg (fun z => absurd z.2.1 (by assumption))).symm | exact (if_neg (fun z => absurd z.2.2.1 (by assumption))).symm | exact (if_neg (fun z => absurd z.2.2.2 (by assumption))).symm)
        · refine rr_aload_n rfl rfl ?_
          refine rr_gfA 5 rfl rfl (by omega) rfl ?_
          refine rr_iload rfl rfl ?_
          refine rr_bipush (x := 100) rfl rfl ?_
          refine rr_idiv rfl (by omega) (by omega) ?_
          refine rr_iav 5 12 (s) (fun _ => rfl) rfl rfl rfl rfl (by omega) (by omega) (fun b186 => ?_)
          refine rr_aload_n rfl rfl ?_
          refine rr_gfA 5 rfl rfl (by omega) rfl ?_
          refine rr_iload_n rfl rfl ?_
          refine rr_bipush (x := 100) rfl rfl ?_
          refine rr_idiv rfl (by omega) (by omega) ?_
          refine rr_iav 5 12 (s) (fun _ => rfl) rfl rfl rfl rfl (by omega) (by omega) (fun b195 => ?_)
          refine rr_icmp_ne rfl rfl (by omega) (by omega) (fun h196 => ?_) (fun h196 => ?_)
          · refine rr_iconst rfl ?_
            exact K231 _ (by first | exact (if_pos ⟨by assumption, by assumption, by assumption, by assumption⟩).symm | exact (if_neg (fun z => absurd z.1 (by assumption))).symm | exact (if_neg (fun z => absurd z.2.1 (by assumption))).symm | exact (if_neg (fun z => absurd z.2.2.1 (by assumption))).symm | exact (if_neg (fun z => absurd z.2.2.2 (by assumption))).symm)
          · refine rr_aload_n rfl rfl ?_
            refine rr_iload rfl rfl ?_
            refine rr_cv1P rfl rfl rfl (Nat.le_of_ble_eq_true rfl) (sr_departs_v (d := 0) (s0 := s) rfl (by omega)) (by omega) (fun b202 => ?_)
            refine rr_iload rfl rfl ?_
            refine rr_iload rfl rfl ?_
            refine rr_cs3B rfl rfl (Nat.le_of_ble_eq_true rfl) (sr_isIn (d := 0) (by omega) (by omega) (by omega)) (by omega) ?_
            refine rr_if_eqB rfl rfl (fun h212 => ?_) (fun h212 => ?_)
            · refine rr_iconst rfl ?_
              exact K231 _ (by first | exact (if_pos ⟨by assumption, by assumption, by assumption, by assumption⟩).symm | exact (if_neg (fun z => absurd z.1 (by assumption))).symm | exact (if_neg (fun z => absurd z.2.1 (by assumption))).symm | exact (if_neg (fun z => absurd z.2.2.1 (by assumption))).symm | exact (if_neg (fun z => absurd z.2.2.2 (by assumption))).symm)
            · refine rr_aload_n rfl rfl ?_
              refine rr_iload rfl rfl ?_
              refine rr_iload_n rfl rfl ?_
              refine rr_iload_n rfl rfl ?_
              refine rr_cv3B rfl rfl rfl (Nat.le_of_ble_eq_true rfl) (sr_canGo_v (d := 0) (s0 := s) rfl rfl rfl (by omega) (by omega) (by omega)) (by omega) ?_
              refine rr_if_eqB rfl rfl (fun h223 => ?_) (fun h223 => ?_)
              · refine rr_iconst rfl ?_
                exact K231 _ (by first | exact (if_pos ⟨by assumption, by assumption, by assumption, by assumption⟩).symm | exact (if_neg (fun z => absurd z.1 (by assumption))).symm | exact (if_neg (fun z => absurd z.2.1 (by assumption))).symm | exact (if_neg (fun z => absurd z.2.2.1 (by assumption))).symm | exact (if_neg (fun z => absurd z.2.2.2 (by assumption))).symm)
              · refine rr_iconst rfl ?_
                refine rr_goto rfl rfl ?_
                exact K231 _ (by first | exact (if_pos ⟨by assumption, by assumption, by assumption, by assumption⟩).symm | exact (if_neg (fun z => absurd z.1 (by assumption))).symm | exact (if_neg (fun z => absurd z.2.1 (by assumption))).symm | exact (if_neg (fun z => absurd z.2.2.1 (by assumption))).symm | exact (if_neg (fun z => absurd z.2.2.2 (by assumption))).symm)
end

noncomputable section
section BRS
variable {s s' t : am_Z}
theorem BR_r : am_BR s s := ⟨fun _ _ _ => rfl, fun _ _ _ => rfl⟩
theorem BR_sym (R : am_BR s s') : am_BR s' s := ⟨fun j x h => (R.1 j x h).symm, fun j h1 h2 => (R.2 j h1 h2).symm⟩
theorem BR_t (R : am_BR s s') (R2 : am_BR s' t) : am_BR s t := ⟨fun j x h => (R2.1 j x h).trans (R.1 j x h), fun j h1 h2 => (R2.2 j h1 h2).trans (R.2 j h1 h2)⟩
theorem rem_cg {n p c f : Int} {w : am_wP} {sub sub' : Int → am_wP → List am_wP} (hs : sub' = sub) (hc : ∀ p c f, canH s' p c f n = canH s p c f n) (h20 : rI s' 20 = rI s 20) (h35 : rI s' 35 = rI s 35) (k : Nat) : wRem s' n sub' k p w c f = wRem s n sub k p w c f := by
  subst hs
  have eC : ∀ c f, nxC s' c f = nxC s c f := fun c f => by unfold nxC; rw [h20]
  have eF : ∀ f, nxF s' f = nxF s f := fun f => by unfold nxF; rw [h20]
  have eN : ∀ c f, wNode s' n sub' p w c f = wNode s n sub' p w c f := fun c f => by unfold wNode; rw [hc, h35]
  induction k generalizing c f with
  | zero => rfl
  | succ k ih =>
    simp only [wRem]
    rw [eC, eF, eN, h35, h20, ih]
theorem sub_cg {n : Int} (hc : ∀ p c f, canH s' p c f n = canH s p c f n) (h20 : rI s' 20 = rI s 20) (h35 : rI s' 35 = rI s 35) (D : Nat) : wSub s' n D = wSub s n D := by
  induction D with
  | zero => rfl
  | succ D ih =>
    funext p w
    exact rem_cg ih hc h20 h35 100
theorem tk_cg (R : am_BR s s') : tk s' = tk s := by
  funext W w
  have e1 : pSum s' w = pSum s w := by
    unfold pSum
    exact sumI_c (fun i _ _ => R.1 25 _ (scr_o (by omega)))
  have e2 : gtV s' w = gtV s w := by
    unfold gtV
    refine gtN_cg (s := pPut s w) (s' := pPut s' w) (fun j i hj => ?_) (fun i _ => rfl) (fun _ => rfl) (R.2 35 (by omega) (by omega)) _ (Nat.le_refl _)
    show (if j = 42 then pF w i.toNat else if j = 41 then pC w i.toNat else rA s' j i) = (if j = 42 then pF w i.toNat else if j = 41 then pC w i.toNat else rA s j i)
    rw [R.1 j i hj]
  unfold tk
  rw [e1, e2]
theorem best_BR (R : am_BR s s') (n : Int) : bestW s' n = bestW s n := by
  unfold bestW
  rw [R.2 35 (by omega) (by omega), tk_cg R, sub_cg (fun p c f => canH_cg R.1 (R.2 0 (by omega) (by omega)) (R.2 44 (by omega) (by omega)) p c f n) (R.2 20 (by omega) (by omega)) (R.2 35 (by omega) (by omega))]
/-- books, too -/
def am_XE (X Y : am_X) : Prop := (∀ j x, scr j = false → rA Y.1 j x = rA X.1 j x) ∧ Y.2 = X.2
theorem XE_C {b t f a n al : Int} {i : Nat} {X Y : am_X} (E : am_XE X Y) : am_XE (bkC b t f a n al i X) (bkC b t f a n al i Y) := by
  have o : ∀ j x, (j < 39 ∨ 43 < j) → rA Y.1 j x = rA X.1 j x := fun j x h => E.1 j x (scr_o h)
  have ed : ∀ l, dep Y.1 l = dep X.1 l := fun l => by unfold dep; rw [o 7 _ (by omega), o 5 _ (by omega), o 1 _ (by omega), o 17 _ (by omega)]
  have ea : ∀ l, arv Y.1 l = arv X.1 l := fun l => by unfold arv; rw [ed, o 8 _ (by omega)]
  have et : ∀ k, taxAt Y.1 k = taxAt X.1 k := fun k => by unfold taxAt; rw [o 36 _ (by omega), o 36 _ (by omega), ed, ea, o 2 _ (by omega), o 5 _ (by omega)]
  have ef : ∀ k, fLen Y.1 k = fLen X.1 k := fun k => by unfold fLen; rw [o 36 _ (by omega), o 8 _ (by omega)]
  refine ⟨fun j x hj => ?_, ?_⟩
  · unfold bkC
    dsimp only
    simp only [wA_A]
    rw [E.2, o 25 _ (by omega), ef, o 49 b (by omega), et, o 24 _ (by omega), o 36 _ (by omega), E.1 j x hj]
  · show Y.2 - (if a + i = a + n - 1 then Y.2 else rA Y.1 25 f * fLen Y.1 (a + i) / al) = X.2 - (if a + i = a + n - 1 then X.2 else rA X.1 25 f * fLen X.1 (a + i) / al)
    rw [E.2, o 25 _ (by omega), ef]
theorem XE_it {g g' : Nat → am_X → am_X} {X Y : am_X} (E : am_XE X Y) : ∀ k : Nat, (∀ i X Y, i < k → am_XE X Y → am_XE (g i X) (g' i Y)) → am_XE (itX g k X) (itX g' k Y) := by
  intro k
  induction k with
  | zero => intro _; exact E
  | succ k ih => intro hg; exact hg k _ _ (by omega) (ih (fun i X Y hi => hg i X Y (by omega)))
theorem XE_B {b : Int} {i : Nat} {X Y : am_X} (E : am_XE X Y) (h39 : rA Y.1 39 i = rA X.1 39 i) (h40 : rA Y.1 40 i = rA X.1 40 i) : am_XE (bkB b i X) (bkB b i Y) := by
  have o : ∀ j x, (j < 39 ∨ 43 < j) → rA Y.1 j x = rA X.1 j x := fun j x h => E.1 j x (scr_o h)
  have ef : fLen Y.1 = fLen X.1 := funext (fun k => by unfold fLen; rw [o 36 _ (by omega), o 8 _ (by omega)])
  have eS : am_XE (bkS X.1 b i, rA X.1 25 (rA X.1 40 i)) (bkS Y.1 b i, rA Y.1 25 (rA Y.1 40 i)) := by
    refine ⟨fun j x hj => ?_, by show rA Y.1 25 (rA Y.1 40 i) = rA X.1 25 (rA X.1 40 i); rw [h40, o 25 _ (by omega)]⟩
    show rA (bkS Y.1 b i) j x = rA (bkS X.1 b i) j x
    unfold bkS
    simp only [wA_A]
    rw [h40, o 25 _ (by omega), o 32 _ (by omega), E.1 j x hj]
  have z := XE_it (g := bkC b i (rA X.1 40 i) X.2 (rA X.1 39 i) (sumI X.2 (rA X.1 39 i).toNat (fLen X.1))) (g' := bkC b i (rA X.1 40 i) X.2 (rA X.1 39 i) (sumI X.2 (rA X.1 39 i).toNat (fLen X.1))) eS (rA X.1 39 i).toNat (fun i X Y _ E => XE_C E)
  refine ⟨?_, by show Y.2 + rA Y.1 39 i = X.2 + rA X.1 39 i; rw [E.2, h39]⟩
  intro j x hj
  show rA (itX (bkC b i (rA Y.1 40 i) Y.2 (rA Y.1 39 i) (sumI Y.2 (rA Y.1 39 i).toNat (fLen Y.1))) (rA Y.1 39 i).toNat (bkS Y.1 b i, rA Y.1 25 (rA Y.1 40 i))).1 j x = _
  rw [h40, h39, E.2, ef]
  have z1 := z.1 j x hj
  rw [h40] at z1
  exact z1
theorem bkT_cg {p m h : Int} {W : am_wQ} (R : am_BR s s') (Q : am_WQ s W) (Q' : am_WQ s' W) : am_BR (bkT s p m h) (bkT s' p m h) := by
  have e44 : rI s' 44 = rI s 44 := R.2 44 (by omega) (by omega)
  have e38 : rI s' 38 = rI s 38 := Q'.2.1.trans Q.2.1.symm
  have e37 : rI s' 37 = rI s 37 := Q'.1.trans Q.1.symm
  have E0 : am_XE (bk0 s (rI s 44) p m h, 0) (bk0 s' (rI s 44) p m h, 0) := by
    refine ⟨fun j x hj => ?_, rfl⟩
    show rA (bk0 s' (rI s 44) p m h) j x = rA (bk0 s (rI s 44) p m h) j x
    unfold bk0
    simp only [wA_A, wI_A]
    rw [R.2 35 (by omega) (by omega), R.2 0 (by omega) (by omega), e37, R.1 36 _ (scr_o (by omega)), R.1 4 _ (scr_o (by omega)), R.1 j x hj]
  have hx : ∀ (t : am_Z) (k : Nat) (j : Nat) (i : Int), j = 39 ∨ j = 40 → rA (itX (bkB (rI s 44)) k (bk0 t (rI s 44) p m h, 0)).1 j i = rA t j i := fun t k j i hj => by
    refine ((itX_u (g := bkB (rI s 44)) (fun i X => bkB_u) k (bk0 t (rI s 44) p m h, 0)).1 j i (unT_i (by omega))).trans ?_
    show rA (bk0 t (rI s 44) p m h) j i = rA t j i
    unfold bk0
    simp only [wA_A, wI_A]
    rw [if_neg (by omega), if_neg (by omega), if_neg (by omega), if_neg (by omega), if_neg (by omega), if_neg (by omega), if_neg (by omega), if_neg (by omega)]
  have key : ∀ k : Nat, k ≤ W.2.length → am_XE (itX (bkB (rI s 44)) k (bk0 s (rI s 44) p m h, 0)) (itX (bkB (rI s 44)) k (bk0 s' (rI s 44) p m h, 0)) := fun k hk => by
    induction k with
    | zero => exact E0
    | succ k ih =>
      refine XE_B (ih (by omega)) ?_ ?_
      · rw [hx s' k 39 _ (Or.inl rfl), hx s k 39 _ (Or.inl rfl), (Q'.2.2.2 k (by omega)).2, (Q.2.2.2 k (by omega)).2]
      · rw [hx s' k 40 _ (Or.inr rfl), hx s k 40 _ (Or.inr rfl), (Q'.2.2.2 k (by omega)).1, (Q.2.2.2 k (by omega)).1]
  have h38 := Q.2.1
  refine ⟨fun j x hj => ?_, fun j h1 h2 => ?_⟩
  · have z := (key (rI s 38).toNat (by omega)).1 j x hj
    unfold bkT
    rw [e44, e38]
    exact z
  · rw [bkT_I, bkT_I, e44, R.2 j h1 h2]
theorem jw_BR {w : Int} (R : am_BR s s') : am_BR (jw s w) (jw s' w) := by
  have o : ∀ j x, (j < 39 ∨ 43 < j) → rA s' j x = rA s j x := fun j x h => R.1 j x (scr_o h)
  refine ⟨fun j x hj => ?_, fun j h1 h2 => ?_⟩
  · show (if j = 36 ∧ 0 ≤ x ∧ x < 0 + ((rA s' 64 w).toNat : Int) then rA s' 65 (4 * w + x) else if j = 67 ∧ x = w then 1 else rA s' j x) = (if j = 36 ∧ 0 ≤ x ∧ x < 0 + ((rA s 64 w).toNat : Int) then rA s 65 (4 * w + x) else if j = 67 ∧ x = w then 1 else rA s j x)
    rw [o 64 _ (by omega), o 65 _ (by omega), R.1 j x hj]
  · show (if j = 35 then rA s' 64 w else rI s' j) = (if j = 35 then rA s 64 w else rI s j)
    rw [o 64 _ (by omega), R.2 j h1 h2]
theorem nw_BR (R : am_BR s s') : nwS s' = nwS s := by
  have o : ∀ j x, (j < 39 ∨ 43 < j) → rA s' j x = rA s j x := fun j x h => R.1 j x (scr_o h)
  have ew : ∀ k, tiW s' k = tiW s k ∧ (goneP s' (rA s' 65 (4 * k)) ↔ goneP s (rA s 65 (4 * k))) := fun k => wt_cg (fun j x h => o j x (by omega)) (R.2 0 (by omega) (by omega)) k
  have ec : ∀ k, (waitP s' k ∧ rA s' 67 k = 0) ↔ (waitP s k ∧ rA s 67 k = 0) := fun k => by
    have h := ew k
    unfold waitP
    rw [o 66 _ (by omega), o 67 _ (by omega), h.2]
  have en : ∀ n : Nat, nwN s' n = nwN s n := fun n => by
    induction n with
    | zero => rfl
    | succ n ih =>
      have h1 := (ew n).1
      have h2 := (ew (nwN s n)).1
      simp only [nwN]
      rw [ih]
      have h1' : tierS s' (rA s' 63 n) = tierS s (rA s 63 n) := h1
      have h2' : tierS s' (rA s' 63 (nwN s n)) = tierS s (rA s 63 (nwN s n)) := h2
      rw [h1', h2']
      by_cases hz : (waitP s n ∧ rA s 67 n = 0) ∧ (nwN s n = -1 ∨ tierS s (rA s 63 (nwN s n)) < tierS s (rA s 63 n))
      · rw [if_pos hz, if_pos ⟨(ec n).mpr hz.1, hz.2⟩]
      · rw [if_neg hz, if_neg (fun y => hz ⟨(ec n).mp y.1, y.2⟩)]
  show nwN s' (rI s' 61).toNat = nwN s (rI s 61).toNat
  rw [R.2 61 (by omega) (by omega), en]
/-- clear: one answer -/
theorem clQ_det : ∀ (F : Nat) (s : am_Z) (n : Int) (s2 : am_Z) (v : Int), clQ F s n s2 v → ∀ (F' : Nat) (s' s2' : am_Z) (v' : Int), clQ F' s' n s2' v' → am_BR s s' → v' = v ∧ am_BR s2 s2' := by
  intro F
  induction F with
  | zero => intro s n s2 v h; exact False.elim h
  | succ F ih =>
    intro s n s2 v h F' s' s2' v' h' R
    cases F' with
    | zero => exact False.elim h'
    | succ F' =>
      have en := nw_BR R
      have e44 : rI s' 44 = rI s 44 := R.2 44 (by omega) (by omega)
      rcases h with ⟨c, rfl, rfl⟩ | ⟨c, s3, B3, R3, Q3, alt⟩
      · rcases h' with ⟨c', rfl, rfl⟩ | ⟨c', _⟩
        · exact ⟨rfl, R⟩
        · omega
      · rcases h' with ⟨c', _⟩ | ⟨c', s3', B3', R3', Q3', alt'⟩
        · omega
        · have o : ∀ j x, (j < 39 ∨ 43 < j) → rA s' j x = rA s j x := fun j x h => R.1 j x (scr_o h)
          rw [en] at R3' Q3' alt'
          have eb : bestW (jw s' (nwS s)) (rA s' 62 (nwS s)) = bestW (jw s (nwS s)) (rA s 62 (nwS s)) := by rw [o 62 _ (by omega), best_BR (jw_BR R)]
          rw [eb] at Q3' alt'
          have R4 : am_BR s3 s3' := BR_t (BR_sym R3) (BR_t (jw_BR R) R3')
          rcases alt with alt | alt
          · rcases alt' with alt' | alt'
            · exact ih s3 n s2 v alt.2 F' s3' s2' v' alt'.2 R4
            · exact absurd alt.1 alt'.1
          · rcases alt' with alt' | alt'
            · exact absurd alt'.1 alt.1
            · refine ih _ (n + 1) s2 v alt.2 F' _ s2' v' alt'.2 ?_
              rw [o 62 _ (by omega), o 63 _ (by omega), e44]
              have Rb := bkT_cg (p := rA s 62 (nwS s)) (m := rA s 63 (nwS s)) (h := 24) R4 Q3 Q3'
              exact ⟨fun j x hj => by rw [wA_A, wA_A, Rb.1 j x hj], Rb.2⟩
end BRS
end


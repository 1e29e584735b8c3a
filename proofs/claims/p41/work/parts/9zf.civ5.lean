noncomputable section
section IVH
variable {s s1 t : am_Z} {W : am_wQ} {n p mb hh : Int}
/-- a state in which a journey was priced, and then booked -/
theorem INV_bkT (I : am_INV t) (B : in_S t) (Q : am_WQ t W) (hok : okP W.2) (hl : pLen W.2 = n) (e35 : rI t 35 = n) (n4 : 1 ≤ n ∧ n ≤ 4) (hW : W.1 = pSum t W.2) (bp : 1 ≤ p) (hD : ∀ i j : Int, 0 ≤ i → i < j → j < n → rA t 36 i ≠ rA t 36 j) : am_INV (bkT t p mb hh) := by
  have w := wq_S Q hok hl
  have hS : ∀ i : Nat, (i : Int) < rI t 38 → 0 ≤ sumI 0 i (rA t 39) := fun i hi => (w.2.1 i hi).1
  have u : ∀ j x, (j < 45 ∨ 60 < j) → rA (bkT t p mb hh) j x = rA t j x := fun j x h => bkT_U hS (Or.inl h)
  have un : ∀ j, j ≠ 44 → rI (bkT t p mb hh) j = rI t j := fun j h => (bkT_I j).trans (if_neg h)
  exact ⟨IN_cg I.1 (fun j x h => u j x (by omega)) (un 3 (by omega)) (un 20 (by omega)), IB_bkT I.2.1 B Q hok hl e35 n4 hW bp hD, WO_cg I.2.2 (fun j x h => u j x (by omega)) (un 61 (by omega)) (un 33 (by omega))⟩
theorem pSum_BR (R : am_BR s s1) (w : am_wP) : pSum s1 w = pSum s w := by
  unfold pSum
  exact sumI_c (fun i _ _ => R.1 25 _ (scr_o (by omega)))
theorem WQ_I {j : Nat} {v : Int} (Q : am_WQ s W) (h : j ≠ 37 ∧ j ≠ 38) : am_WQ (wI s j v) W := ⟨(if_neg (fun z => h.1 z.symm)).trans Q.1, (if_neg (fun z => h.2 z.symm)).trans Q.2.1, Q.2.2.1, Q.2.2.2⟩
theorem INV_hold {m h : Int} (I : am_INV s) (B : in_S s) (R : am_BR (jrn s) s1) (Q : am_WQ s1 (bestW (jrn s) n)) (B1 : in_S s1) (hne : (bestW (jrn s) n).1 ≠ -1) (bn : 1 ≤ n) : am_INV (bkT (wI (wI s1 74 0) 33 0) n m h) := by
  have BJ := jrn_in B
  have hok := bestW_ok BJ n hne
  have h1 := best_pos hne
  have b33 := B.2.1 33 0 4 rfl
  have e35 : rI (jrn s) 35 = rI s 33 := rfl
  have I1 : am_INV (wI (wI s1 74 0) 33 0) := INV_drop (INV_I (INV_BR (INV_J I) R) (by omega))
  have B2 : in_S (wI (wI s1 74 0) 33 0) := in_S_I (in_S_I B1 (fun lo hi z => by cases z; omega)) (fun lo hi z => by cases z; omega)
  refine INV_bkT I1 B2 (WQ_I (WQ_I Q ⟨by omega, by omega⟩) ⟨by omega, by omega⟩) hok.1 (hok.2.1.trans e35) ?_ (by omega) ?_ bn (fun i j i1 i2 i3 => ?_)
  · show rI s1 35 = rI s 33
    exact R.2 35 (by omega) (by omega)
  · rw [hok.2.2]
    exact (pSum_BR R _).symm
  · show rA s1 36 i ≠ rA s1 36 j
    rw [R.1 36 _ (scr_o (by omega)), R.1 36 _ (scr_o (by omega)), jr_J s i i1 (by omega), jr_J s j (by omega) i3]
    exact I.2.2.2.1 i j i1 i2 i3
/-- the state behind builds is in range if that behind books is -/
theorem in_S_hold {m h : Int} (B : in_S s) (R : am_BR (jrn s) s1) (Q : am_WQ s1 (bestW (jrn s) n)) (hne : (bestW (jrn s) n).1 ≠ -1) (B2 : in_S (bkT (wI (wI s1 74 0) 33 0) n m h)) : in_S s1 := by
  have BJ := jrn_in B
  have hok := bestW_ok BJ n hne
  have e35 : rI (jrn s) 35 = rI s 33 := rfl
  have w := wq_S (s := wI (wI s1 74 0) 33 0) (WQ_I (WQ_I Q ⟨by omega, by omega⟩) ⟨by omega, by omega⟩) hok.1 (hok.2.1.trans e35)
  have hS : ∀ i : Nat, (i : Int) < rI (wI (wI s1 74 0) 33 0) 38 → 0 ≤ sumI 0 i (rA (wI (wI s1 74 0) 33 0) 39) := fun i hi => (w.2.1 i hi).1
  have u : ∀ j x, (j < 45 ∨ 60 < j) → rA (bkT (wI (wI s1 74 0) 33 0) n m h) j x = rA s1 j x := fun j x h => bkT_U hS (Or.inl h)
  refine ⟨fun j i lo hi z => ?_, fun j lo hi z => ?_, fun j i z => ?_⟩
  · by_cases c : j < 45 ∨ 60 < j
    · rw [← u j i c]
      exact B2.1 j i lo hi z
    · rw [R.1 j i (scr_o (by omega))]
      exact BJ.1 j i lo hi z
  · by_cases c : j = 44 ∨ j = 33 ∨ j = 74
    · rw [R.2 j (by omega) (by omega)]
      exact BJ.2.1 j lo hi z
    · have y := B2.2.1 j lo hi z
      rw [bkT_I, if_neg (by omega)] at y
      have y2 : rI (wI (wI s1 74 0) 33 0) j = rI s1 j := (if_neg (by omega)).trans (if_neg (by omega))
      rw [y2] at y
      exact y
  · by_cases c : j < 45 ∨ 60 < j
    · rw [← u j i c]
      exact B2.2.2 j i z
    · rw [R.1 j i (scr_o (by omega))]
      exact BJ.2.2 j i z
theorem INV_clQ : ∀ (F : Nat) (s : am_Z) (n : Int) (s2 : am_Z) (v : Int), clQ F s n s2 v → am_INV s → in_S s → am_INV s2 ∧ in_S s2 ∧ ∀ j, j = 0 ∨ j = 74 → rI s2 j = rI s j := by
  intro F
  induction F with
  | zero => intro s n s2 v h; exact False.elim h
  | succ F ih =>
    intro s n s2 v h I B
    have b61 := B.2.1 61 0 20 rfl
    have b44 := B.2.1 44 0 40 rfl
    rcases h with ⟨c, rfl, rfl⟩ | ⟨c, s3, B3, R3, Q3, alt⟩
    · exact ⟨I, B, fun _ _ => rfl⟩
    · have hb : -1 ≤ nwS s ∧ nwS s < ((rI s 61).toNat : Int) := nwN_b s (rI s 61).toNat
      have c1 : nwS s ≠ -1 := c.1
      have ew : (((nwS s).toNat : Nat) : Int) = nwS s := by omega
      have Ij : am_INV (jw s (nwS s)) := INV_cg I (fun j x h => (if_neg (fun z => by have := z.1; omega)).trans (if_neg (fun z => by have := z.1; omega))) (fun j h => if_neg (by omega))
      have I3 : am_INV s3 := INV_BR Ij R3
      have y := BR_jw R3
      have e0 : ∀ j, j = 0 ∨ j = 74 → rI s3 j = rI s j := fun j hj => y.2.2 j (by omega) (by omega) (by omega)
      rcases alt with alt | alt
      · have z := ih s3 n s2 v alt.2 I3 B3
        exact ⟨z.1, z.2.1, fun j hj => (z.2.2 j hj).trans (e0 j hj)⟩
      · have hok := bestW_ok (jw_in B (nwS s)) (rA s 62 (nwS s)) alt.1
        have h1 := best_pos alt.1
        have e35 : rI (jw s (nwS s)) 35 = rA s 64 (nwS s) := rfl
        have b64 := B.1 64 (nwS s) 0 4 rfl
        have b62 := B.1 62 (nwS s) 0 9 rfl
        have b63 := B.1 63 (nwS s) (-1) 4 rfl
        have wo := I.2.2.1 (nwS s).toNat (by omega)
        rw [ew] at wo
        have hl := hok.2.1.trans e35
        have w := wq_S Q3 hok.1 hl
        have e44 : rI s3 44 = rI s 44 := y.2.2 44 (by omega) (by omega) (by omega)
        have h38 := Q3.2.1
        have IT := INV_bkT (p := rA s 62 (nwS s)) (mb := rA s 63 (nwS s)) (hh := 24) I3 B3 Q3 hok.1 hl ((R3.2 35 (by omega) (by omega)).trans e35) (by omega) (hok.2.2.trans (pSum_BR R3 _).symm) wo.2 (fun i j i1 i2 i3 => by
          have ej : ∀ k, 0 ≤ k → k < rA s 64 (nwS s) → rA s3 36 k = rA s 65 (4 * nwS s + k) := fun k k1 k2 => (R3.1 36 k (scr_o (by omega))).trans (if_pos ⟨rfl, k1, by omega⟩)
          rw [ej i i1 (by omega), ej j (by omega) i3]
          have z := I.2.2.2.2 (nwS s).toNat (by omega) i j i1 i2 (by rw [ew]; exact i3)
          rw [ew] at z
          exact z)
        have BT : in_S (bkT s3 (rA s 62 (nwS s)) (rA s 63 (nwS s)) 24) := bkT_B B3 (by omega) (by omega) (by omega) (by omega) w.1 (fun i hi => by have := w.2.1 i hi; omega)
        have z := ih (wA (bkT s3 (rA s 62 (nwS s)) (rA s 63 (nwS s)) 24) 66 (nwS s) (rI s 44)) (n + 1) s2 v alt.2 (INV_A IT (by omega)) (in_S_A BT (fun lo hi z => by cases z; omega) (fun z => by cases z))
        refine ⟨z.1, z.2.1, fun j hj => (z.2.2 j hj).trans ?_⟩
        show rI (bkT s3 (rA s 62 (nwS s)) (rA s 63 (nwS s)) 24) j = rI s j
        rw [bkT_I, if_neg (by omega)]
        exact e0 j hj
end IVH
end


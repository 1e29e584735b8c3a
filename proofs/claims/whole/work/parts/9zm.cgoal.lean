noncomputable section
/-- the class's kinds are as before -/
def am_NK (q q' : am_A) : Prop := (∀ r : am_R, cK r.1 → (∀ f, qFI q' f r = qFI q f r) ∧ (∀ f, qFR q' f r = qFR q f r) ∧ (∀ k, qAI q' r k = qAI q r k) ∧ (∀ k, qAR q' r k = qAR q r k) ∧ qAL q' r = qAL q r ∧ qLS q' r = qLS q r ∧ qCP q' r = qCP q r) ∧ (∀ t, cK t → qCN q' t = qCN q t) ∧ ∀ t, qCN q t ≤ qCN q' t
theorem CI_NK {e e' a b : Nat} {q q' : am_A} {s : am_Z} (I : am_CI e q s) (N : am_NK q q') (h1 : qCE q' ≤ qCE q + a) (h2 : qSL q' ≤ qSL q + b) (he : e + a ≤ e') (hs : 64 * e + b ≤ 64 * e') : am_CI e' q' s := by
  obtain ⟨V, ⟨x1, x2, x3, x4, x5, x6, x7⟩, R⟩ := I
  obtain ⟨n1, n2, n3⟩ := N
  have kO : ∀ r, vO q s r → cK r.1 := fun r h => by
    unfold vO at h
    unfold cK
    rcases h with h | h | h | h | h | h | h
    · rw [h]; omega
    all_goals omega
  have kA : ∀ r, vA s r → cK r.1 := fun r h => by
    unfold vA at h
    unfold cK
    omega
  have kL : ∀ r, vL s r → cK r.1 := fun r h => by
    unfold vL at h
    unfold cK
    omega
  have c : ∀ t, cK t → qCN q' t = qCN q t := n2
  have p : ∀ r : am_R, cK r.1 → qCP q' r = qCP q r := fun r h => (n1 r h).2.2.2.2.2.2
  refine ⟨CV_EQ V ⟨fun f r h _ => (n1 r (kO r h)).1 f, fun f r h => ?_, fun r k h => (n1 r (kA r h)).2.2.1 k, fun i k => (n1 (1408, i) (by show cK 1408; unfold cK; omega)).2.2.2.1 k, fun r h => ?_, n3, fun t h => c t (by unfold cK; omega), fun r h => (n1 r (kL r h)).2.2.2.2.2.1, fun r h z => ?_⟩, ?_, ?_⟩
  · rcases h with h | h
    · exact (n1 r (kO r h)).2.1 f
    · exact (n1 r (by rw [h.1]; show cK 6; unfold cK; omega)).2.1 f
  · rcases h with h | h | h
    · exact (n1 r (kA r h)).2.2.2.2.1
    · exact (n1 r (by rw [h]; unfold cK; omega)).2.2.2.2.1
    · exact (n1 r (by unfold cK; omega)).2.2.2.2.1
  · rcases h with h | h | h | h | h
    · rw [p r (kL r h)]; exact z
    · rw [p r (by rw [h]; show cK 1808; unfold cK; omega)]; exact z
    · rw [p r (by rw [h]; show cK 1809; unfold cK; omega)]; exact z
    · rw [p r (by rw [h]; show cK 1601; unfold cK; omega)]; exact z
    · rw [p r (by rw [h]; show cK 1603; unfold cK; omega)]; exact z
  · unfold am_CX
    rw [c 0 (by unfold cK; omega), c 1003 (by unfold cK; omega), c 1004 (by unfold cK; omega), c 1005 (by unfold cK; omega), c 7 (by unfold cK; omega), c 1702 (by unfold cK; omega), c 1 (by unfold cK; omega), c 5 (by unfold cK; omega)]
    exact ⟨x1, x2, x3, x4, fun b hb => (p (1003, b) (by show cK 1003; unfold cK; omega)).trans (x5 b hb), fun w hw => (p (1702, w) (by show cK 1702; unfold cK; omega)).trans (x6 w hw), fun b => by rw [p (1003, b) (by show cK 1003; unfold cK; omega)]; exact x7 b⟩
  · have hp : pot q' = pot q := by
      unfold pot cntF capF
      rw [c 0 (by unfold cK; omega), c 1 (by unfold cK; omega), c 3 (by unfold cK; omega), c 4 (by unfold cK; omega), c 5 (by unfold cK; omega), c 7 (by unfold cK; omega), c 1003 (by unfold cK; omega), c 1004 (by unfold cK; omega), c 1005 (by unfold cK; omega), c 1407 (by unfold cK; omega), c 1408 (by unfold cK; omega), c 1702 (by unfold cK; omega)]
      rw [p (1802, 0) (by show cK 1802; unfold cK; omega), p (1803, 0) (by show cK 1803; unfold cK; omega), p (1804, 0) (by show cK 1804; unfold cK; omega), p (1806, 0) (by show cK 1806; unfold cK; omega), p (1807, 0) (by show cK 1807; unfold cK; omega), p (1808, 0) (by show cK 1808; unfold cK; omega), p (1809, 0) (by show cK 1809; unfold cK; omega), p (1601, 0) (by show cK 1601; unfold cK; omega), p (1603, 0) (by show cK 1603; unfold cK; omega)]
      rw [sumN_eq (f := fun b => qCP q' (1003, b)) (g := fun b => qCP q (1003, b)) 40 (fun b _ => p (1003, b) (by show cK 1003; unfold cK; omega)), sumN_eq (f := fun w => qCP q' (1702, w)) (g := fun w => qCP q (1702, w)) 20 (fun w _ => p (1702, w) (by show cK 1702; unfold cK; omega))]
    have r1 := R.1
    have r2 := R.2
    unfold am_RM
    rw [hp]
    omega
theorem I9_NK {q0 q : am_A} {dn : Nat → Bool} {e l : Nat} (H : am_I9 q0 q dn e l) (h0 : ∀ t, 1900 ≤ t → qCN q0 t = 0) : am_NK q0 q := by
  obtain ⟨a1, a2, a3, a4, a5, a6, a7, a8, a9, a10, a11⟩ := H
  refine ⟨fun r h => ?_, fun t h => a7 t (by unfold cK at h; omega), fun t => ?_⟩
  · have hr : r ≠ (9, 0) := fun z => by
      rw [z] at h
      unfold cK at h
      omega
    have h6 := a6 r (by unfold cK at h; omega)
    exact ⟨fun f => (a5 f r hr).1, fun f => (a5 f r hr).2, fun k => by rw [h6.1], fun k => by rw [h6.2.1], h6.2.2.2.2, by rw [a8], by rw [a9]⟩
  · by_cases h : t < 1900
    · rw [a7 t h]
      exact Nat.le_refl _
    · rw [h0 t (by omega)]
      exact Nat.zero_le _
theorem NO_NK {q : am_A} {t n : Nat} (h : ¬ cK t) : am_NK q (uNO q t n) := by
  refine ⟨fun r hr => ?_, fun t' h' => if_neg (fun z => h (by rw [← z]; exact h')), fun t' => ?_⟩
  · have hne : r ≠ (t, qCN q t) := fun z => h (by rw [z] at hr; exact hr)
    exact ⟨fun f => if_neg hne, fun f => if_neg hne, fun _ => rfl, fun _ => rfl, rfl, rfl, rfl⟩
  · show qCN q t' ≤ am_u1 (qCN q) t (qCN q t + 1) t'
    unfold am_u1
    split
    · rename_i z
      rw [z]
      omega
    · exact Nat.le_refl _
theorem NA_NK {q : am_A} {t n : Nat} (h : ¬ cK t) : am_NK q (uNA q t n) := by
  refine ⟨fun r hr => ?_, fun t' h' => if_neg (fun z => h (by rw [← z]; exact h')), fun t' => ?_⟩
  · have hne : r ≠ (t, qCN q t) := fun z => h (by rw [z] at hr; exact hr)
    refine ⟨fun _ => rfl, fun _ => rfl, fun k => ?_, fun k => ?_, if_neg hne, rfl, rfl⟩
    · show (if r = (t, qCN q t) then (fun _ => (0 : Int)) else qAI q r) k = _
      rw [if_neg hne]
    · show (if r = (t, qCN q t) then (fun _ => (none : Option am_R)) else qAR q r) k = _
      rw [if_neg hne]
  · show qCN q t' ≤ am_u1 (qCN q) t (qCN q t + 1) t'
    unfold am_u1
    split
    · rename_i z
      rw [z]
      omega
    · exact Nat.le_refl _
/-- the law's own heap at its entry -/
def am_q0 (L : Nat) (xs : Nat → Int32) : am_A := (fun _ _ => 0, fun _ _ => none, fun r k => if r = (31, 0) then (xs k).toInt else 0, fun _ _ => none, fun _ _ => 0, fun _ _ => 0, fun r => if r = (31, 0) then L else 0, fun _ => 0, fun _ => [], fun _ => 0, 0, 0)
theorem q0_Re (L : Nat) (xs : Nat → Int32) : am_Re (am_q0 L xs) (am_h0 L xs) := by
  refine ⟨fun _ _ _ => rfl, fun _ _ _ => rfl, fun r k _ => ?_, fun _ _ _ => rfl, fun _ _ _ => rfl, fun _ _ _ => rfl, fun _ _ => rfl, fun _ _ => rfl, fun r h => absurd h.2 (Nat.not_lt_zero _), fun r r' y h => absurd h.2 (Nat.not_lt_zero _), Nat.le_refl _, Nat.le_refl _, rfl⟩
  show (if r = (31, 0) then xs else fun _ => 0) k = zI (if r = (31, 0) then (xs k).toInt else 0)
  split
  · exact (Int32.ofInt_toInt _).symm
  · rfl
theorem INV_s90 : am_INV s90 := by
  have a : ∀ j x, j ≠ 15 → rA s90 j x = 0 := fun j x h => if_neg (fun z => h z.1)
  have n : ∀ j, rI s90 j = 0 := fun _ => rfl
  refine ⟨⟨fun f h1 h2 => ?_, fun i h1 h2 => ⟨a 10 i (by omega), ?_, a 16 i (by omega)⟩, fun f t _ _ _ _ _ => ⟨a 17 _ (by omega), a 18 _ (by omega)⟩, fun i _ => ⟨a 28 i (by omega), a 29 i (by omega), a 30 i (by omega), a 31 i (by omega)⟩⟩, ⟨fun i _ => ⟨a 59 i (by omega), a 60 i (by omega)⟩, fun b k hb => ?_, fun b h1 h2 => ?_, fun b k hb => ?_, fun b hb => ?_, fun i h1 h2 => ?_, fun b hb => ?_, fun b hb => ?_⟩, fun w hw => ?_, fun i j h1 h2 h3 => ?_, fun w hw => ?_⟩
  · rw [n 3] at h2; omega
  · rw [n 3] at h1
    exact if_pos ⟨rfl, h1, by omega⟩
  · rw [n 44] at hb; omega
  · rw [n 44] at h2; omega
  · rw [n 44] at hb; omega
  · rw [n 44] at hb; omega
  · rw [a 69 i (by omega)]
    have : nF s90 = 0 := rfl
    rw [this]
    omega
  · rw [n 44] at hb; omega
  · rw [n 44] at hb; omega
  · rw [n 61] at hw; omega
  · rw [n 33] at h3; omega
  · rw [n 61] at hw; omega
/-- the room in the end -/
theorem end_room {e : Nat} {q : am_A} {s : am_Z} {h : am_H} (I : am_CI e q s) (R : am_Re q h) (he : e ≤ 1000) : hCE h ≤ 601024 ∧ hSL h ≤ 7293034 := by
  have B := CV_B I.1
  have b3 := B.2.1 3 0 12 rfl
  have b20 := B.2.1 20 0 16 rfl
  have b44 := B.2.1 44 0 40 rfl
  have b61 := B.2.1 61 0 20 rfl
  have x := I.2.1
  have f := I.1.2.2.1.2.1
  have a3 := I.1.2.2.2.2.1.2.1
  have s1 : sumI 0 (rI s 44).toNat (rA s 52) ≤ 400 := by
    have z := sumI_b (a := 0) (n := (rI s 44).toNat) (f := rA s 52) (M := 10) (fun b => B.1 52 b 0 10 rfl)
    omega
  have s5 : sumI 0 (rI s 3).toNat (rA s 10) ≤ 12 := by
    have z := sumI_b (a := 0) (n := (rI s 3).toNat) (f := rA s 10) (M := 1) (fun b => B.1 10 b 0 1 rfl)
    omega
  have cp := I.1.2.2.2.2.2.2.2.2.1
  have c2 := cp 1802 rfl
  have c3 := cp 1803 rfl
  have c4 := cp 1804 rfl
  have c6 := cp 1806 rfl
  have c7 := cp 1807 rfl
  have c8 := cp 1808 rfl
  have c9 := cp 1809 rfl
  have c10 := cp 1601 rfl
  have c11 := cp 1603 rfl
  have q1 : sumN (fun b => qCP q (1003, b)) 40 ≤ 10 * 40 := sumN_le 40 (fun b _ => by
    have := x.2.2.2.2.2.2 b
    show qCP q (1003, b) ≤ 10
    omega)
  have q2 : sumN (fun w => qCP q (1702, w)) 20 ≤ 1000 * 20 := sumN_le 20 (fun w _ => by
    show qCP q (1702, w) ≤ 1000
    by_cases hw : rI s 61 ≤ w
    · rw [x.2.2.2.2.2.1 w hw]
      omega
    · have hl := R.2.2.2.2.2.2.2.2.1 (1702, w) ⟨rfl, by
        have e := R.2.2.2.2.2.2.2.1 1702 (by omega)
        show w < hCN h 1702
        have := x.2.1.2
        omega⟩
      obtain ⟨_, _, _, _, _, _, h7, _⟩ := hl
      exact h7)
  have hp : pot q ≤ 30000 := by
    unfold pot cntF capF
    have := x.1
    have := x.2.1
    have := x.2.2.1
    have := x.2.2.2.1
    omega
  have r := I.2.2
  have r1 := r.1
  have r2 := r.2
  have R1 := R.2.2.2.2.2.2.2.2.2.2.1
  have R2 := R.2.2.2.2.2.2.2.2.2.2.2.1
  omega
theorem E0_90 (B : in_S s90) : am_E0 s90 := by
  have z := E0_s90 (k := 0) (by omega)
  exact ⟨z.1, z.2.1, B⟩
theorem RV_NA {q0 q : am_A} {s : am_Z} {t n : Nat} (R : am_RV q0 q s) (ht : t < 1900) : am_RV (uNA q t n) (uNA q t n) s := by
  have hne : ∀ j, ((1900 + j, 0) : am_R) ≠ (t, qCN q t) := fun j z => by
    have := congrArg Prod.fst z
    dsimp only at this
    omega
  refine ⟨R.1, fun j c hc => (if_neg (hne j)).trans (R.2.1 j c hc), fun j i hi => ?_, R.2.2.2.1, R.2.2.2.2.1, fun _ _ _ => rfl, fun _ _ _ => rfl, rfl, rfl⟩
  show (if ((1900 + j, 0) : am_R) = (t, qCN q t) then (fun _ => (0 : Int)) else qAI q (1900 + j, 0)) i.toNat = _
  rw [if_neg (hne j)]
  exact R.2.2.1 j i hi
theorem goal_P {L : Nat} {xs : Nat → Int32} {n8 n9 : Nat} {q2 qb q4 : am_A} {dn : Nat → Bool} (h8 : n8 ≤ 100) (h9 : n9 ≤ 200) (HX : am_IX (uNO (am_q0 L xs) 8 n8) q2 ixF 20 96) (H9 : am_I9 (uNO q2 9 n9) qb dn 62 5917) (R : am_RV qb q4 s90) : (qCN q4 26 = 0 ∧ qCN (uNA q4 26 1) 27 = 0) ∧ am_LP 400 (uNA (uNA q4 26 1) 27 1) s90 s90 L (fun k => (xs k).toInt) := by
  have cn : ∀ t, (t < 600 ∨ 900 ≤ t) → t ≠ 8 → t ≠ 2 → t ≠ 6 → ¬ (1600 ≤ t ∧ t < 1900) → qCN q2 t = 0 := fun t h1 h2 h3 h4 h5 => (HX.2.2.2.1 t h1 h2 (fun z => absurd z (by omega)) (fun z1 z2 => absurd (And.intro z1 z2) h5)).trans (if_neg h2)
  have c3 : ∀ t, (t < 600 ∨ 900 ≤ t) → t ≠ 8 → t ≠ 2 → t ≠ 6 → t ≠ 9 → ¬ (1600 ≤ t ∧ t < 1900) → qCN (uNO q2 9 n9) t = 0 := fun t h1 h2 h3 h4 h6 h5 => (if_neg h6).trans (cn t h1 h2 h3 h4 h5)
  have eT : qCN q4 = qCN qb := congrArg (fun x : (am_R → Nat → Option am_R) × (am_R → Nat → Int64) × (am_R → Nat → UInt64) × (am_R → Nat) × (Nat → Nat) × (am_R → List am_R) × (am_R → Nat) × Nat × Nat => x.2.2.2.2.1) R.2.2.2.2.2.2.2.2
  have eL : qAL q4 = qAL qb := congrArg (fun x : (am_R → Nat → Option am_R) × (am_R → Nat → Int64) × (am_R → Nat → UInt64) × (am_R → Nat) × (Nat → Nat) × (am_R → List am_R) × (am_R → Nat) × Nat × Nat => x.2.2.2.1) R.2.2.2.2.2.2.2.2
  have e26 : qCN q4 26 = 0 := by
    rw [eT, H9.2.2.2.2.2.2.1 26 (by omega)]
    exact c3 26 (by omega) (by omega) (by omega) (by omega) (by omega) (by omega)
  have e27' : qCN q4 27 = 0 := by
    rw [eT, H9.2.2.2.2.2.2.1 27 (by omega)]
    exact c3 27 (by omega) (by omega) (by omega) (by omega) (by omega) (by omega)
  have e27 : qCN (uNA q4 26 1) 27 = 0 := e27'
  have B := R.2.2.2.2.1
  have k1 : ∀ t, t ≠ 8 → qCN (uNO (am_q0 L xs) 8 n8) t = 0 := fun t h => if_neg h
  have I2 : am_CI 30 q2 s90 := IX_CI HX (E0_90 B) (fun t ht => k1 t (by omega)) (fun _ _ => rfl) (Nat.le_of_ble_eq_true rfl) (by show 0 + n8 + 96 ≤ 64 * 30; omega)
  have I3 : am_CI 40 (uNO q2 9 n9) s90 := CI_NK (a := 1) (b := n9) I2 (NO_NK (by unfold cK; omega)) (Nat.le_refl _) (Nat.le_refl _) (by omega) (by omega)
  have Ib : am_CI 140 qb s90 := CI_NK (a := 62) (b := 5917) I3 (I9_NK H9 (fun t ht => c3 t (by omega) (by omega) (by omega) (by omega) (by omega) (by omega))) (Nat.le_of_eq H9.2.2.2.2.2.2.2.2.2.1) (Nat.le_of_eq H9.2.2.2.2.2.2.2.2.2.2) (by omega) (by omega)
  have I4 : am_CI 140 q4 s90 := RV_CI R Ib
  have I5 : am_CI 150 (uNA q4 26 1) s90 := CI_NK (a := 1) (b := 1) I4 (NA_NK (by unfold cK; omega)) (Nat.le_refl _) (Nat.le_refl _) (by omega) (by omega)
  have I6 : am_CI 400 (uNA (uNA q4 26 1) 27 1) s90 := CI_NK (a := 1) (b := 1) I5 (NA_NK (by unfold cK; omega)) (Nat.le_refl _) (Nat.le_refl _) (by omega) (by omega)
  have CY := HX.2.2.2.2.2.1
  have a31 := CY.1 (31, 0) (by show ¬ cK 31; unfold cK; omega)
  have b31 := H9.2.2.2.2.2.1 (31, 0) (by show 31 < 1900; omega)
  have n1 : ((31, 0) : am_R) ≠ (26, qCN q4 26) := fun z => by cases z
  have n2 : ((31, 0) : am_R) ≠ (27, qCN (uNA q4 26 1) 27) := fun z => by cases z
  refine ⟨⟨e26, e27⟩, I6, RV_NA (RV_NA R (by omega)) (by omega), fun j h => ?_, ⟨?_, ?_, ?_⟩, fun k => ?_⟩
  · refine absurd ?_ h
    show qFI q4 106 (1, j) = 0
    rw [R.2.2.2.2.2.1 106 (1, j) (by omega), (H9.2.2.2.2.1 106 (1, j) (fun z => by cases z)).1]
    have hn : ((1, j) : am_R) ≠ (9, qCN q2 9) := fun z => by cases z
    have hn8 : ((1, j) : am_R) ≠ (8, qCN (am_q0 L xs) 8) := fun z => by cases z
    show (if ((1, j) : am_R) = (9, qCN q2 9) then (0 : Int) else qFI q2 106 (1, j)) = 0
    rw [if_neg hn]
    refine (HX.2.2.2.2.2.2.2.2.2.2.2 j).trans ?_
    show (if ((1, j) : am_R) = (8, qCN (am_q0 L xs) 8) then (0 : Int) else qFI (am_q0 L xs) 106 (1, j)) = 0
    rw [if_neg hn8]
    rfl
  · show (if ((26, 0) : am_R) = (27, qCN (uNA q4 26 1) 27) then 1 else if ((26, 0) : am_R) = (26, qCN q4 26) then 1 else qAL q4 (26, 0)) = 1
    rw [e26, if_neg (fun z => by cases z), if_pos rfl]
  · show (if ((27, 0) : am_R) = (27, qCN (uNA q4 26 1) 27) then 1 else if ((27, 0) : am_R) = (26, qCN q4 26) then 1 else qAL q4 (27, 0)) = 1
    rw [e27, if_pos rfl]
  · show (if ((31, 0) : am_R) = (27, qCN (uNA q4 26 1) 27) then 1 else if ((31, 0) : am_R) = (26, qCN q4 26) then 1 else qAL q4 (31, 0)) = L
    rw [if_neg n2, if_neg n1, eL, b31.2.2.2.2]
    show qAL q2 (31, 0) = L
    rw [a31.2.2.2.2.2.2.1]
    rfl
  · show (if ((31, 0) : am_R) = (27, qCN (uNA q4 26 1) 27) then (fun _ => (0 : Int)) else if ((31, 0) : am_R) = (26, qCN q4 26) then (fun _ => (0 : Int)) else qAI q4 (31, 0)) k = (xs k).toInt
    rw [if_neg n2, if_neg n1, R.2.2.2.2.2.2.1 (31, 0) k (by show ¬ (31 : Nat) / 100 = 19; omega), b31.1]
    show qAI q2 (31, 0) k = _
    rw [a31.2.2.1 k]
    rfl
theorem goal_1 {L : Nat} {xs : Nat → Int32} (hL : L ≤ 4096) : am_C2 1600 m_L_law [aR 31 0] (am_q0 L xs) (fun o q' => o = .inl (some (aI 1)) ∧ ∃ e s, e ≤ 1000 ∧ am_CI e q' s) := by
  refine am_C2_i (ls := [some (aR 31 0), none, none, none, none, none, none, none]) rfl ?_
  refine ar_new (kt := 8) rfl (by intro z; cases z) (by omega) ?_
  refine ar_dup rfl rfl ?_
  refine ar_cv0 rfl rfl rfl (Nat.le_of_ble_eq_true rfl) (cs_X_init (d := 0) ?_) (by omega) (fun o q2 hq => ?_)
  · refine ⟨fun f h => (by cases h), fun f n h => (by cases h), fun f h => (by cases h), fun _ _ _ _ _ => rfl, fun f => ?_, CY_r, Nat.le_refl _, Nat.le_refl _, fun _ _ => rfl, fun t h1 h2 => if_neg (by omega), ⟨rfl, rfl⟩, fun _ => rfl⟩
    show (if ((8, 0) : am_R) = (8, qCN (am_q0 L xs) 8) then (0 : Int) else qFI (am_q0 L xs) f (8, 0)) = 0
    exact if_pos rfl
  obtain ⟨rfl, HX⟩ := hq
  have cn : ∀ t, (t < 600 ∨ 900 ≤ t) → t ≠ 8 → t ≠ 2 → t ≠ 6 → ¬ (1600 ≤ t ∧ t < 1900) → qCN q2 t = 0 := fun t h1 h2 h3 h4 h5 => (HX.2.2.2.1 t h1 h2 (fun z => absurd z (by omega)) (fun z1 z2 => absurd (And.intro z1 z2) h5)).trans (if_neg h2)
  have e9 := cn 9 (by omega) (by omega) (by omega) (by omega) (by omega)
  have CY := HX.2.2.2.2.2.1
  refine ar_stA1 rfl ?_
  refine ar_new (kt := 9) rfl (by intro z; cases z) (by omega) ?_
  rw [e9]
  refine ar_dup rfl rfl ?_
  refine ar_cv0 rfl rfl rfl (Nat.le_of_ble_eq_true rfl) (sr_init (d := 0) ?_) (by omega) (fun o q4 hq => ?_)
  · refine ⟨fun j c h => (by cases h), fun j k => ?_, fun j _ => ?_, fun f => ?_, fun f r _ => ⟨rfl, rfl⟩, fun r _ => ⟨rfl, rfl, rfl, rfl, rfl⟩, fun _ _ => rfl, rfl, rfl, rfl, rfl⟩
    · refine ((CY.1 (1900 + j, 0) (by show ¬ cK (1900 + j); unfold cK; omega)).2.2.1 k).trans ?_
      exact if_neg (fun z => by have := congrArg Prod.fst z; dsimp only at this; omega)
    · exact (if_neg (by omega)).trans (cn (1900 + j) (by omega) (by omega) (by omega) (by omega) (by omega))
    · exact if_pos (by rw [e9])
  obtain ⟨rfl, qb, dn, H9, R⟩ := hq
  obtain ⟨⟨e26, e27⟩, P⟩ := goal_P (by omega) (by omega) HX H9 R
  refine ar_stA2 rfl ?_
  refine ar_iconst rfl ?_
  refine ar_newa (kt := 26) (m := 1) rfl (by intro z; cases z) (by omega) (by omega) rfl (by omega) ?_
  rw [e26]
  refine ar_stA3 rfl ?_
  refine ar_iconst rfl ?_
  refine ar_newa (kt := 27) (m := 1) rfl (by intro z; cases z) (by omega) (by omega) rfl (by omega) ?_
  rw [e27]
  refine ar_stA4 rfl ?_
  refine ar_iconst rfl ?_
  refine ar_stI5 rfl ?_
  refine lp_law (d := 1578) (e0 := 400) (X := fun k => (xs k).toInt) hL (fun k => ?_) (fun j q s i x6 x7 hj P => ?_) 514 0 0 s90 _ none none (by omega) ⟨rfl, by omega, by show (0 : Int) ≤ _; omega, P, INV_s90⟩
  · have h1 := Int32.le_toInt (xs k)
    have h2 := Int32.toInt_lt (xs k)
    unfold in32
    omega
  · refine ar_iconst rfl ?_
    exact ar_iret rfl (Or.inr ⟨rfl, Or.inr rfl⟩) ⟨rfl, 400 + j, s, by omega, P.1⟩
theorem am_goal_t : am_goal := fun L xs hL => am_C_imp (goal_1 hL (am_h0 L xs) (q0_Re L xs)) (fun o h' h => by
  obtain ⟨q', R, rfl, e, s, he, I⟩ := h
  exact ⟨rfl, end_room I R he⟩)
end

noncomputable section
section JOP
variable {s s' : am_Z}
/-- operations elsewhere -/
theorem JJ_m (J : am_JJ s) (I : am_INV s') (m : ∀ j x, (jaA j ∨ j = 1 ∨ j = 5 ∨ j = 7 ∨ j = 17 ∨ j = 18) → rA s' j x = rA s j x) (n : ∀ j, (j = 0 ∨ jaI j) → rI s' j = rI s j) : am_JJ s' := ⟨I, JA_cg J.2.1 (fun j x h => m j x (Or.inl h)) (fun j h => n j (Or.inr h)), JG_cg J.2.2 (fun j x h => m j x (by omega)) (n 0 (by omega)) (n 3 (by omega))⟩
theorem JJ_A {j : Nat} {i v : Int} (J : am_JJ s) (h : ¬ ivA j) (h2 : ¬ (jaA j ∨ j = 1 ∨ j = 5 ∨ j = 7 ∨ j = 17 ∨ j = 18)) : am_JJ (wA s j i v) := JJ_m J (INV_A J.1 h) (fun j' x hj => wA_ne (fun z => h2 (by rw [← z]; exact hj))) (fun _ _ => rfl)
theorem JJ_link {f g n : Int} (J : am_JJ s) (hf : f < rI s 3) : am_JJ (wA (wA s 15 f g) 16 f n) := JJ_m J (INV_link J.1 hf) (fun j x h => (wA_ne (by omega)).trans (wA_ne (by omega))) (fun _ _ => rfl)
theorem JJ_rules {f a b ad h st w : Int} (J : am_JJ s) (hf : f < rI s 20) : am_JJ (wA (wA (wA (wA (wA (wA s 26 f a) 27 f b) 28 f ad) 29 f h) 30 f st) 31 f w) := JJ_m J (INV_rules J.1 hf) (fun j x h => (wA_ne (by omega)).trans ((wA_ne (by omega)).trans ((wA_ne (by omega)).trans ((wA_ne (by omega)).trans ((wA_ne (by omega)).trans (wA_ne (by omega))))))) (fun _ _ => rfl)
theorem JJ_days {f a b n : Int} (J : am_JJ s) (hf : f < rI s 3) (h10 : rA s 10 f = 0) : am_JJ (daysS s f a b n) := JJ_m J (INV_days J.1 hf h10) (fun j x h => (wA_ne (by omega)).trans ((wA_ne (by omega)).trans ((wA_ne (by omega)).trans (wA_ne (by omega))))) (fun _ _ => rfl)
theorem JJ_fare {c a b k v : Int} (J : am_JJ s) : am_JJ (fareS s c a b k v) := JJ_m J (INV_fare J.1) (fun j x h => (wA_ne (by omega)).trans ((wA_ne (by omega)).trans ((wA_ne (by omega)).trans ((wA_ne (by omega)).trans ((wA_ne (by omega)).trans ((wA_ne (by omega)).trans ((wA_ne (by omega)).trans (wA_ne (by omega))))))))) (fun j h => if_neg (by omega))
theorem JJ_setZone {i v : Int} (J : am_JJ s) (B : in_S s) (h3 : rI s 3 = 0) : am_JJ (wA s 1 i v) := ⟨INV_A J.1 (by unfold ivA; omega), JA_cg J.2.1 (fun j x h => wA_ne (by omega)) (fun _ _ => rfl), fun x hx => by
  have y := J.2.2 x hx
  have b := B.1 53 x 0 1160 rfl
  omega⟩
theorem JJ_flight {c a b t w n : Int} (J : am_JJ s) (hw : 1 ≤ w) (hn : 1 ≤ n) : am_JJ (flightS s c a b t w n) := by
  have m : ∀ j x, (j < 4 ∨ 9 < j) → j ≠ 14 → rA (flightS s c a b t w n) j x = rA s j x := fun j x h h2 => by
    unfold flightS
    simp only [wI_A, wB_A, wA_A]
    rw [if_neg (by omega), if_neg (by omega), if_neg (by omega), if_neg (by omega), if_neg (by omega), if_neg (by omega), if_neg (by omega)]
  have m2 : ∀ j x, x < rI s 3 → j ≠ 14 → rA (flightS s c a b t w n) j x = rA s j x := fun j x h h2 => by
    unfold flightS
    simp only [wI_A, wB_A, wA_A]
    rw [if_neg (by omega), if_neg (by omega), if_neg (by omega), if_neg (by omega), if_neg (by omega), if_neg (by omega), if_neg (by omega)]
  have n3 : rI s 3 ≤ rI (flightS s c a b t w n) 3 := by show rI s 3 ≤ rI s 3 + 1; omega
  have nn : ∀ j, j ≠ 3 → rI (flightS s c a b t w n) j = rI s j := fun j h => if_neg h
  refine ⟨INV_flight J.1 hw hn, JA_w J.2.1 rfl n3 (fun j x h => m j x (by omega) (by omega)) (fun f hf => ⟨m2 4 f hf (by omega), m2 8 f hf (by omega)⟩) (fun x => Or.inl (m 55 x (by omega) (by omega))) (fun b k h1 h2 h3 h4 h5 => ?_) (jw_cg J.2.1.2.2.1 (fun j x h => m j x (by omega) (by omega)) rfl rfl) (jl_cg J.2.1.2.2.2 (fun j x h => m j x (by omega) (by omega)) rfl rfl n3), JG_w J.2.2 (fun x => m 53 x (by omega) (by omega)) (fun x => Or.inl (m 55 x (by omega) (by omega))) n3 (fun l hl g => ?_)⟩
  · rw [m 47 _ (by omega) (by omega)] at h5
    rw [m 55 _ (by omega) (by omega)]
    exact ((J.2.1.1 b h1 h2).2.2 k h3 h4).2.1 h5
  · obtain ⟨g1, g2⟩ := g
    have ed : dep (flightS s c a b t w n) l = dep s l := by
      unfold dep
      rw [m2 7 _ hl (by omega), m2 5 _ hl (by omega), m 1 _ (by omega) (by omega), m 17 _ (by omega) (by omega)]
    exact ⟨by rw [m 18 _ (by omega) (by omega)]; exact g1, by rw [ed, nn 0 (by omega)]; exact g2⟩
theorem JJ_leg {l : Int} (J : am_JJ s) (B : in_S s) (h : kLegA s l = 0) : am_JJ (legS s l) := by
  have b33 := B.2.1 33 0 4 rfl
  have hk := h
  unfold kLegA at hk
  have hl : legP s l := by
    split at hk
    · omega
    · rename_i z
      exact Decidable.not_not.mp z
  have e34 : ∀ x, rA (legS s l) 34 x = if x = rI s 33 then l else rA s 34 x := fun x => by
    show rA (wA s 34 (rI s 33) l) 34 x = _
    rw [wA_A]
    by_cases e : x = rI s 33
    · rw [if_pos ⟨rfl, e⟩, if_pos e]
    · rw [if_neg (fun z => e z.2), if_neg e]
  have m : ∀ j x, j ≠ 34 → rA (legS s l) j x = rA s j x := fun j x h => wA_ne h
  have nn : ∀ j, j ≠ 33 → rI (legS s l) j = rI s j := fun j h => if_neg h
  refine ⟨?_, JA_w J.2.1 rfl (Int.le_refl _) (fun j x h => m j x (by omega)) (fun _ _ => ⟨rfl, rfl⟩) (fun _ => Or.inl rfl) (fun b k h1 h2 h3 h4 h5 => ((J.2.1.1 b h1 h2).2.2 k h3 h4).2.1 h5) J.2.1.2.2.1 ⟨fun i h1 h2 => ?_, J.2.1.2.2.2.2⟩, JG_cg J.2.2 (fun j x h => m j x (by omega)) rfl rfl⟩
  · unfold legS
    refine INV_leg J.1 b33.1 (fun i i1 i2 e => ?_)
    split at hk
    · omega
    · split at hk
      · rename_i h1 h2
        have z := (canL_iff.mp h2).2 i.toNat (by omega)
        rw [show ((i.toNat : Nat) : Int) = i by omega] at z
        exact z e
      · omega
  · have h2' : i < rI s 33 + 1 := h2
    rw [e34, nn 3 (by omega)]
    split
    · exact hl.2.1
    · exact J.2.1.2.2.2.1 i h1 (by omega)
theorem JJ_ticket {b : Int} (J : am_JJ s) (h0 : rA s 47 b = 0) : am_JJ (wA s 47 b 1) := by
  refine ⟨INV_ticket J.1 h0, JA_w J.2.1 rfl (Int.le_refl _) (fun j x h => wA_ne (by omega)) (fun _ _ => ⟨rfl, rfl⟩) (fun _ => Or.inl rfl) (fun b' k h1 h2 h3 h4 h5 => ?_) J.2.1.2.2.1 J.2.1.2.2.2, JG_cg J.2.2 (fun j x h => wA_ne (by omega)) rfl rfl⟩
  rw [wA_A] at h5
  split at h5
  · omega
  · exact ((J.2.1.1 b' h1 h2).2.2 k h3 h4).2.1 h5
theorem JJ_check {b c : Int} (J : am_JJ s) (B : in_S s) (hb : 0 ≤ b) (hc : 0 ≤ c ∧ c < rA s 52 b) (h47 : rA s 47 b = 1) (h55 : rA s 55 (10 * b + c) = 0) : am_JJ (wA s 55 (10 * b + c) 1) := by
  have e55 : ∀ x, rA (wA s 55 (10 * b + c) 1) 55 x = if x = 10 * b + c then 1 else rA s 55 x := fun x => by
    rw [wA_A]
    by_cases e : x = 10 * b + c
    · rw [if_pos ⟨rfl, e⟩, if_pos e]
    · rw [if_neg (fun z => e z.2), if_neg e]
  refine ⟨INV_check J.1 B hb hc h47 h55, JA_w J.2.1 rfl (Int.le_refl _) (fun j x h => wA_ne (by omega)) (fun _ _ => ⟨rfl, rfl⟩) (fun x => ?_) (fun b' k h1 h2 h3 h4 h5 => ?_) J.2.1.2.2.1 J.2.1.2.2.2, JG_w J.2.2 (fun _ => rfl) (fun x => ?_) (Int.le_refl _) (fun l _ g => g)⟩
  · rw [e55]
    by_cases e : x = 10 * b + c
    · rw [if_pos e, e, h55]
      omega
    · rw [if_neg e]
      exact Or.inl rfl
  · have c1 := B.1 52 b 0 10 rfl
    have c2 := B.1 52 b' 0 10 rfl
    have h5' : 2 ≤ rA s 47 b' := h5
    have h4' : k < rA s 52 b' := h4
    rw [e55, if_neg (fun z => by
      have e : b' = b := by omega
      rw [e] at h5'
      omega)]
    exact ((J.2.1.1 b' h1 h2).2.2 k h3 h4).2.1 h5'
  · rw [e55]
    split
    · omega
    · exact Or.inl rfl
theorem JJ_cancel {b : Int} (J : am_JJ s) (B : in_S s) : am_JJ (voidS (wA s 47 b 3) b) := by
  have V : am_VB s (voidS (wA s 47 b 3) b) := VB_void (fun x => B.1 52 x 0 10 rfl) (by omega)
  have eo : ∀ j x, j ≠ 47 → j ≠ 55 → rA (voidS (wA s 47 b 3) b) j x = rA s j x := fun j x h1 h2 => by
    unfold voidS
    rw [wB_A, if_neg (fun y => h2 y.1), wA_A, if_neg (fun y => h1 y.1)]
  exact ⟨INV_cancel J.1 B, JA_VB J.2.1 V (fun j x h => eo j x (by omega) (by omega)) (fun _ _ => rfl), JG_VB J.2.2 V (Int.le_refl _) (gone_all (fun j x h => eo j x (by omega) (by omega)) rfl)⟩
theorem JJ_cancelLeg {l : Int} (J : am_JJ s) (B : in_S s) (hl : legP s l) (f : freeP s l) : am_JJ (cancS s l) := by
  have z := canc_J (fun x => B.1 52 x 0 10 rfl) (fun x => B.2.2 53 x rfl) ⟨hl.1, hl.2.2.1⟩ f J.2.1 J.2.2
  exact ⟨INV_cancS J.1 (fun x => B.1 52 x 0 10 rfl) (LQ_leg hl), z.1, z.2.1⟩
theorem JJ_delay {l h : Int} (J : am_JJ s) (B : in_S s) (hl : legP s l) (f : freeP s l) : am_JJ (delayS s l h) := by
  have z := delay_J (h := h) B J.2.1 J.2.2 hl f
  exact ⟨(INV_delay J.1 B hl).1, z.1, z.2.1⟩
theorem JJ_repair (J : am_JJ s) (B : in_S s) : am_JJ (rprS s) := ⟨(INV_repair J.1 B).1, rpr_JA J.1 B J.2.1, rpr_JG J.2.2⟩
theorem JJ_pass {n : Nat} (J : am_JJ s) (B : in_S s) (H : am_J (fun t => am_INV t ∧ am_JA t) (itS (fun _ => hrS) n s)) : am_JJ (itS (fun _ => hrS) n s) := ⟨H.2.2.2.1, H.2.2.2.2, (PH_pass J.2.2 (fun x => (B.1 45 x 0 9 rfl).1)).1⟩
theorem J_JJ (J : am_JJ s) : am_J (fun t => am_INV t ∧ am_JA t) s := ⟨J.1.2.1.2.2.1, J.1.2.1.2.2.2.1, J.1.2.1.2.2.2.2.1, J.1, J.2.1⟩
theorem JJ_wish {n m : Int} (J : am_JJ s) (B : in_S s) (hk : kWish s n m = 0) (hm : m ≤ 3) : am_JJ (wishS s n m) := by
  have b33 := B.2.1 33 0 4 rfl
  have b61 := B.2.1 61 0 20 rfl
  have hk2 := hk
  unfold kWish at hk2
  split at hk2
  · omega
  · split at hk2
    · omega
    · split at hk2
      · omega
      · rename_i z1 z2 z3
        have mm : ∀ j x, (j < 62 ∨ 66 < j ∨ (j ≠ 65 ∧ x ≠ rI s 61)) → rA (wishS s n m) j x = rA s j x := fun j x h => by
          unfold wishS
          simp only [wI_A, wB_A, wA_A]
          rw [if_neg (by omega), if_neg (by omega), if_neg (by omega), if_neg (by omega), if_neg (by omega)]
        have e65 : ∀ x, rA (wishS s n m) 65 x = if 4 * rI s 61 ≤ x ∧ x < 4 * rI s 61 + ((rI s 33).toNat : Int) then rA s 34 (x - 4 * rI s 61) else rA s 65 x := fun x => by
          unfold wishS
          simp only [wI_A, wB_A, wA_A]
          rw [if_neg (by omega)]
          by_cases h : 4 * rI s 61 ≤ x ∧ x < 4 * rI s 61 + ((rI s 33).toNat : Int)
          · rw [if_pos ⟨trivial, h⟩, if_pos h]
          · rw [if_neg (fun z => h z.2), if_neg h, if_neg (by omega), if_neg (by omega), if_neg (by omega)]
        have e64 : rA (wishS s n m) 64 (rI s 61) = rI s 33 := by
          unfold wishS
          simp only [wI_A, wB_A, wA_A]
          simp
        have e63 : rA (wishS s n m) 63 (rI s 61) = m := by
          unfold wishS
          simp only [wI_A, wB_A, wA_A]
          simp
        have e66 : rA (wishS s n m) 66 (rI s 61) = -1 := by
          unfold wishS
          simp only [wI_A, wB_A, wA_A]
          simp
        have n61 : rI (wishS s n m) 61 = rI s 61 + 1 := rfl
        have nn : ∀ j, j ≠ 61 → j ≠ 33 → rI (wishS s n m) j = rI s j := fun j h1 h2 => (if_neg h1).trans (if_neg h2)
        refine ⟨INV_wish J.1 (by omega) (by omega) b61.1 (fun w => B.1 64 w 0 4 rfl), JA_w J.2.1 (nn 44 (by omega) (by omega)) (Int.le_of_eq (nn 3 (by omega) (by omega)).symm) (fun j x h => mm j x (by omega)) (fun f _ => ⟨mm 4 f (by omega), mm 8 f (by omega)⟩) (fun x => Or.inl (mm 55 x (by omega))) (fun b k h1 h2 h3 h4 h5 => ?_) (fun w h1 h2 => ?_) ⟨fun i h1 h2 => ?_, fun w i h1 h2 h3 h4 => ?_⟩, JG_cg J.2.2 (fun j x h => mm j x (by omega)) (nn 0 (by omega) (by omega)) (nn 3 (by omega) (by omega))⟩
        · rw [mm 47 _ (by omega)] at h5
          rw [mm 55 _ (by omega)]
          exact ((J.2.1.1 b h1 h2).2.2 k h3 h4).2.1 h5
        · rw [n61] at h2
          by_cases e : w = rI s 61
          · rw [e, e63, e66]
            exact ⟨hm, Or.inl rfl⟩
          · have z := J.2.1.2.2.1 w h1 (by omega)
            rw [mm 63 _ (by omega), mm 66 _ (by omega), mm 46 _ (by omega), nn 44 (by omega) (by omega)]
            exact z
        · have h2' : i < 0 := h2
          omega
        · rw [n61] at h2
          rw [nn 3 (by omega) (by omega), e65]
          by_cases e : w = rI s 61
          · rw [e, e64] at h4
            rw [if_pos (by omega), show 4 * w + i - 4 * rI s 61 = i by omega]
            exact J.2.1.2.2.2.1 i h3 h4
          · have b64 := B.1 64 w 0 4 rfl
            rw [mm 64 _ (by omega)] at h4
            rw [if_neg (by omega)]
            exact J.2.1.2.2.2.2 w i h1 (by omega) h3 h4
end JOP
end

noncomputable section
section DL
variable {s s' : am_Z} {l : Int}
theorem gone_x {l' : Int} (hl : 0 ≤ l ∧ l % 100 < 61) (hl' : l' % 100 ≤ 60) (f : freeP s l) (m : ∀ j x, (j = 1 ∨ j = 5 ∨ j = 7 ∨ ((j = 17 ∨ j = 18) ∧ x ≠ 61 * (l / 100) + l % 100)) → rA s' j x = rA s j x) (n0 : rI s' 0 = rI s 0) (g : goneP s l') : goneP s' l' := by
  obtain ⟨g1, g2⟩ := g
  obtain ⟨f1, f2⟩ := f
  have hx : 61 * (l' / 100) + l' % 100 ≠ 61 * (l / 100) + l % 100 := fun z => by
    have e : l' = l := by omega
    rw [e] at g2
    omega
  have ed : dep s' l' = dep s l' := by
    unfold dep
    rw [m 7 _ (by omega), m 1 _ (by omega), m 5 _ (by omega), m 17 _ (by omega)]
  exact ⟨by rw [m 18 _ (by omega)]; exact g1, by omega⟩
theorem canc_18 (h52 : h52P s) : rA (cancS s l) 18 (61 * (l / 100) + l % 100) = 1 := by
  have z := cnN_V (s := wA s 18 (61 * (l / 100) + l % 100) 1) (l := l) h52 (rI s 44).toNat
  exact (z.2.1 18 _ (by omega) (by omega)).trans (if_pos ⟨rfl, rfl⟩)
/-- what a cancelled leg leaves of JA, JG and the law's arrays -/
theorem canc_J (h52 : h52P s) (h53 : ∀ x, rA s 53 x % 100 ≤ 60) (hl : 0 ≤ l ∧ l % 100 < 61) (f : freeP s l) (J : am_JA s) (G : am_JG s) : am_JA (cancS s l) ∧ am_JG (cancS s l) ∧ am_KF s (cancS s l) := by
  have p := cancS_p (l := l) h52
  refine ⟨JA_VB J p.1 (fun j x h => p.2.1 j x (by omega) (by omega) (by omega)) (fun j h => p.2.2 j), fun x hx => ?_, KF_cg (fun j x h => p.2.1 j x (by omega) (by omega) (by omega)) (fun j h => p.2.2 j)⟩
  have v := p.1.2.2.1 x
  have y := G x (by omega)
  rw [p.2.1 53 _ (by omega) (by omega) (by omega), p.2.2]
  exact ⟨y.1, gone_x hl (h53 x) f (fun j x h => p.2.1 j x (by omega) (by omega) (by omega)) (p.2.2 0) y.2⟩
/-- along a delay -/
def am_DJ2 (s t : am_Z) : Prop := am_JA t ∧ am_JG t ∧ am_KF s t ∧ h52P t ∧ (∀ x, rA t 53 x % 100 ≤ 60) ∧ ∀ x, (-1 ≤ rA t 15 x ∧ rA t 15 x ≤ 11) ∧ 0 ≤ rA t 16 x
theorem dlS_J {t : am_Z} {h : Int} (H : am_DJ2 s t) (hl : 0 ≤ l ∧ l % 100 < 61) (f : freeP t l) : am_DJ2 s (dlS t l h) := by
  obtain ⟨J, G, K, h52, h53, hb⟩ := H
  unfold dlS
  split
  · have m : ∀ j x, j ≠ 19 → (j ≠ 17 ∨ x ≠ 61 * (l / 100) + l % 100) → rA (wA (wA t 19 (61 * (l / 100) + l % 100) 1) 17 (61 * (l / 100) + l % 100) (rA t 17 (61 * (l / 100) + l % 100) + h)) j x = rA t j x := fun j x h1 h2 => by
      rw [wA_A, if_neg (by omega), wA_A, if_neg (by omega)]
    refine ⟨JA_cg J (fun j x h => m j x (by omega) (by omega)) (fun _ _ => rfl), fun x hx => ?_, KF_t K (KF_cg (fun j x h => m j x (by omega) (by omega)) (fun _ _ => rfl)), h52, h53, hb⟩
    have y := G x hx
    exact ⟨y.1, gone_x hl (h53 x) f (fun j x h => m j x (by omega) (by omega)) rfl y.2⟩
  · have J2 : am_JA (wA t 19 (61 * (l / 100) + l % 100) 1) := JA_cg J (fun j x h => wA_ne (by omega)) (fun _ _ => rfl)
    have z := canc_J (s := wA t 19 (61 * (l / 100) + l % 100) 1) (l := l) h52 h53 hl f J2 G
    have p := cancS_p (s := wA t 19 (61 * (l / 100) + l % 100) 1) (l := l) h52
    have m : ∀ j x, j ≠ 47 → j ≠ 55 → j ≠ 18 → j ≠ 19 → rA (cancS (wA t 19 (61 * (l / 100) + l % 100) 1) l) j x = rA t j x := fun j x h1 h2 h3 h4 => (p.2.1 j x h1 h2 (Or.inl h3)).trans (wA_ne h4)
    exact ⟨z.1, z.2.1, KF_t (KF_t K (KF_cg (fun j x h => wA_ne (by omega)) (fun _ _ => rfl))) z.2.2, fun x => by rw [m 52 _ (by omega) (by omega) (by omega) (by omega)]; exact h52 x, fun x => by rw [m 53 _ (by omega) (by omega) (by omega) (by omega)]; exact h53 x, fun x => by rw [m 15 _ (by omega) (by omega) (by omega) (by omega), m 16 _ (by omega) (by omega) (by omega) (by omega)]; exact hb x⟩
theorem oth_Q {t : am_Z} (hb : ∀ x, (-1 ≤ rA t 15 x ∧ rA t 15 x ≤ 11) ∧ 0 ≤ rA t 16 x) (hl : 0 ≤ l ∧ l % 100 < 61) (e : othL t l ≠ -1) : 0 ≤ othL t l ∧ othL t l % 100 < 61 := by
  unfold othL at e ⊢
  split at e
  · exact absurd rfl e
  · rename_i hz
    rw [if_neg hz]
    have b15 := hb (l / 100)
    have h1 : rA t 15 (l / 100) ≠ -1 := fun y => hz (Or.inl y)
    have h2 : ¬ 61 ≤ l % 100 + rA t 16 (l / 100) := fun y => hz (Or.inr (Or.inl y))
    omega
theorem dlR_J : ∀ (n : Nat) (t : am_Z) (l h : Int), am_DJ2 s t → (0 ≤ l ∧ l % 100 < 61) → freeP t l → am_DJ2 s (dlR n t l h)
  | 0, _, _, _, H, _, _ => H
  | n + 1, t, l, h, H, hl, f => by
    have z := dlS_J (h := h) H hl f
    by_cases hg : rA t 17 (61 * (l / 100) + l % 100) + h ≤ 8 ∧ goesP (dlS t l h) l
    · rw [dlR_y hg.1 hg.2]
      exact dlR_J n _ _ _ z (oth_Q z.2.2.2.2.2 hl hg.2.1) hg.2.2.1
    · rw [dlR_n hg]
      exact z
theorem delay_J {h : Int} (B : in_S s) (J : am_JA s) (G : am_JG s) (Q : legP s l) (f : freeP s l) : am_JA (delayS s l h) ∧ am_JG (delayS s l h) ∧ am_KF s (delayS s l h) := by
  have m : ∀ j x, j ≠ 19 → rA (wB s 19 0 732 (fun _ => 0)) j x = rA s j x := fun j x h => by rw [wB_A, if_neg (fun z => h z.1)]
  have H : am_DJ2 s (wB s 19 0 732 (fun _ => 0)) := ⟨JA_cg J (fun j x h => m j x (by omega)) (fun _ _ => rfl), fun x hx => G x hx, KF_cg (fun j x h => m j x (by omega)) (fun _ _ => rfl), fun x => B.1 52 x 0 10 rfl, fun x => B.2.2 53 x rfl, fun x => ⟨B.1 15 x (-1) 11 rfl, (B.1 16 x 0 1 rfl).1⟩⟩
  have z := dlR_J 7 (wB s 19 0 732 (fun _ => 0)) l h H ⟨Q.1, Q.2.2.1⟩ f
  exact ⟨z.1, z.2.1, z.2.2.1⟩
/-- what a delay touches, and that no leg comes earlier -/
theorem dlS_k {t : am_Z} {h : Int} (h52 : h52P t) (h0 : 0 ≤ h) : sumI 0 732 (nTch (dlS t l h)) ≤ sumI 0 732 (nTch t) + 1 ∧ (∀ x, rA t 19 x ≠ 0 → rA (dlS t l h) 19 x ≠ 0) ∧ rA (dlS t l h) 19 (61 * (l / 100) + l % 100) ≠ 0 ∧ (∀ x, rA t 17 x ≤ rA (dlS t l h) 17 x) ∧ h52P (dlS t l h) := by
  have e19 : ∀ x, rA (dlS t l h) 19 x = if x = 61 * (l / 100) + l % 100 then 1 else rA t 19 x := fun x => by
    have a : rA (wA t 19 (61 * (l / 100) + l % 100) 1) 19 x = if x = 61 * (l / 100) + l % 100 then 1 else rA t 19 x := by
      rw [wA_A]
      by_cases e : x = 61 * (l / 100) + l % 100
      · rw [if_pos ⟨rfl, e⟩, if_pos e]
      · rw [if_neg (fun z => e z.2), if_neg e]
    unfold dlS
    split
    · exact (wA_ne (by omega)).trans a
    · exact ((cancS_p (s := wA t 19 (61 * (l / 100) + l % 100) 1) (l := l) h52).2.1 19 x (by omega) (by omega) (by omega)).trans a
  have en : ∀ x, x ≠ 61 * (l / 100) + l % 100 → nTch t x = nTch (dlS t l h) x := fun x hx => by
    unfold nTch
    rw [e19, if_neg hx]
  refine ⟨?_, fun x hx => ?_, ?_, fun x => ?_, fun x => ?_⟩
  · by_cases r : (0 : Int) ≤ 61 * (l / 100) + l % 100 ∧ 61 * (l / 100) + l % 100 < 0 + ((732 : Nat) : Int)
    · rw [sumI_upd (a := 0) (n := 732) (f := nTch t) (g := nTch (dlS t l h)) (i0 := 61 * (l / 100) + l % 100) r en]
      have a : nTch (dlS t l h) (61 * (l / 100) + l % 100) = 1 := by
        unfold nTch
        rw [e19, if_pos rfl, if_neg (by omega)]
      have b : 0 ≤ nTch t (61 * (l / 100) + l % 100) := by unfold nTch; split <;> omega
      omega
    · rw [sumI_c (f := nTch (dlS t l h)) (g := nTch t) (fun i h1 h2 => (en i (fun z => r (by omega))).symm)]
      omega
  · rw [e19]
    split
    · omega
    · exact hx
  · rw [e19, if_pos rfl]
    omega
  · unfold dlS
    split
    · rw [wA_A]
      split
      · rename_i e
        rw [e.2]
        omega
      · exact Int.le_of_eq (wA_ne (by omega)).symm
    · exact Int.le_of_eq (((cancS_p (s := wA t 19 (61 * (l / 100) + l % 100) 1) (l := l) h52).2.1 17 x (by omega) (by omega) (by omega)).trans (wA_ne (by omega))).symm
  · have e : rA (dlS t l h) 52 x = rA t 52 x := by
      unfold dlS
      split
      · exact (wA_ne (by omega)).trans (wA_ne (by omega))
      · exact ((cancS_p (s := wA t 19 (61 * (l / 100) + l % 100) 1) (l := l) h52).2.1 52 x (by omega) (by omega) (by omega)).trans (wA_ne (by omega))
    rw [e]
    exact h52 x
theorem dlR_k : ∀ (n : Nat) (t : am_Z) (l h : Int), h52P t → 0 ≤ h → sumI 0 732 (nTch (dlR (n + 1) t l h)) ≤ sumI 0 732 (nTch t) + (n + 1) ∧ (∀ x, rA t 19 x ≠ 0 → rA (dlR (n + 1) t l h) 19 x ≠ 0) ∧ rA (dlR (n + 1) t l h) 19 (61 * (l / 100) + l % 100) ≠ 0 ∧ (∀ x, rA (dlS t l h) 17 x ≤ rA (dlR (n + 1) t l h) 17 x)
  | 0, t, l, h, h52, h0 => by
    obtain ⟨z1, z2, z3, z4, z5⟩ := dlS_k (l := l) h52 h0
    have e : dlR (0 + 1) t l h = dlS t l h := by
      rw [dlR]
      split <;> rfl
    rw [e]
    exact ⟨by omega, z2, z3, fun x => Int.le_refl _⟩
  | n + 1, t, l, h, h52, h0 => by
    obtain ⟨z1, z2, z3, z4, z5⟩ := dlS_k (l := l) h52 h0
    by_cases hg : rA t 17 (61 * (l / 100) + l % 100) + h ≤ 8 ∧ goesP (dlS t l h) l
    · rw [dlR_y hg.1 hg.2]
      have hp : 0 ≤ arv (dlS t l h) l + 1 - dep (dlS t l h) (othL (dlS t l h) l) := by
        have := hg.2.2.2
        omega
      obtain ⟨i1, i2, i3, i4⟩ := dlR_k n _ (othL (dlS t l h) l) (arv (dlS t l h) l + 1 - dep (dlS t l h) (othL (dlS t l h) l)) z5 hp
      have y := (dlS_k (t := dlS t l h) (l := othL (dlS t l h) l) (h := arv (dlS t l h) l + 1 - dep (dlS t l h) (othL (dlS t l h) l)) z5 hp).2.2.2.1
      exact ⟨by omega, fun x hx => i2 x (z2 x hx), i2 _ z3, fun x => Int.le_trans (y x) (i4 x)⟩
    · rw [dlR_n hg]
      exact ⟨by omega, z2, z3, fun x => Int.le_refl _⟩
theorem sumI_z {a : Int} {f : Int → Int} : ∀ n : Nat, (∀ i : Int, a ≤ i → i < a + n → f i = 0) → sumI a n f = 0
  | 0, _ => rfl
  | n + 1, h => by
    rw [sumI_s, sumI_z n (fun i h1 h2 => h i h1 (by omega)), h _ (by omega) (by omega)]
    rfl
theorem sumI_at {a : Int} {f : Int → Int} (h : ∀ i, 0 ≤ f i) {i : Int} : ∀ n : Nat, a ≤ i → i < a + n → f i ≤ sumI a n f
  | 0, h1, h2 => absurd h2 (by omega)
  | n + 1, h1, h2 => by
    rw [sumI_s]
    have p := h (a + n)
    by_cases e : i = a + n
    · have q : 0 ≤ sumI a n f := by
        have : ∀ m : Nat, 0 ≤ sumI a m f := fun m => by
          induction m with
          | zero => exact Int.le_refl _
          | succ m ih =>
            have := h (a + m)
            rw [sumI_s]
            omega
        exact this n
      rw [e]
      omega
    · have := sumI_at h n h1 (by omega)
      omega
/-- what delay answers, and how its leg stands then -/
theorem delay_v {h : Int} (B : in_S s) (Q : legP s l) (f : freeP s l) (hh : 1 ≤ h ∧ h ≤ 8) : (1 ≤ sumI 0 732 (nTch (delayS s l h)) ∧ sumI 0 732 (nTch (delayS s l h)) ≤ 7) ∧ (8 < rA s 17 (61 * (l / 100) + l % 100) + h → sumI 0 732 (nTch (delayS s l h)) = 1 ∧ rA (delayS s l h) 18 (61 * (l / 100) + l % 100) = 1 ∧ rA (delayS s l h) 17 (61 * (l / 100) + l % 100) = rA s 17 (61 * (l / 100) + l % 100)) ∧ (rA s 17 (61 * (l / 100) + l % 100) + h ≤ 8 → rA s 17 (61 * (l / 100) + l % 100) + h ≤ rA (delayS s l h) 17 (61 * (l / 100) + l % 100)) := by
  have b3 := B.2.1 3 0 12 rfl
  have q1 := Q.1
  have q2 := Q.2.1
  have q3 := Q.2.2.1
  have h52 : h52P (wB s 19 0 732 (fun _ => 0)) := fun x => B.1 52 x 0 10 rfl
  have e19 : ∀ x : Int, 0 ≤ x → x < 732 → rA (wB s 19 0 732 (fun _ => 0)) 19 x = 0 := fun x h1 h2 => if_pos ⟨rfl, h1, by omega⟩
  have e0 : sumI 0 732 (nTch (wB s 19 0 732 (fun _ => 0))) = 0 := sumI_z 732 (fun i h1 h2 => if_pos (e19 i h1 (by omega)))
  have e17 : ∀ x, rA (wB s 19 0 732 (fun _ => 0)) 17 x = rA s 17 x := fun x => by rw [wB_A, if_neg (fun z => absurd z.1 (by omega))]
  obtain ⟨c1, c2, c3, c4⟩ := dlR_k 6 (wB s 19 0 732 (fun _ => 0)) l h h52 (by omega)
  have ge : 1 ≤ sumI 0 732 (nTch (dlR 7 (wB s 19 0 732 (fun _ => 0)) l h)) := by
    have y := sumI_at (a := 0) (f := nTch (dlR 7 (wB s 19 0 732 (fun _ => 0)) l h)) (fun i => by unfold nTch; split <;> omega) (i := 61 * (l / 100) + l % 100) 732 (by omega) (by omega)
    have z : nTch (dlR 7 (wB s 19 0 732 (fun _ => 0)) l h) (61 * (l / 100) + l % 100) = 1 := if_neg c3
    omega
  refine ⟨⟨ge, ?_⟩, fun h8 => ?_, fun h8 => ?_⟩
  · show sumI 0 732 (nTch (dlR (6 + 1) (wB s 19 0 732 (fun _ => 0)) l h)) ≤ 7
    omega
  · have hn : ¬ (rA (wB s 19 0 732 (fun _ => 0)) 17 (61 * (l / 100) + l % 100) + h ≤ 8 ∧ goesP (dlS (wB s 19 0 732 (fun _ => 0)) l h) l) := fun z => by
      have y := z.1
      rw [e17] at y
      omega
    have ed : delayS s l h = cancS (wA (wB s 19 0 732 (fun _ => 0)) 19 (61 * (l / 100) + l % 100) 1) l := by
      unfold delayS
      rw [dlR_n hn]
      unfold dlS
      rw [if_neg (by rw [e17]; omega)]
    have le1 : sumI 0 732 (nTch (delayS s l h)) ≤ 1 := by
      have y := (dlS_k (l := l) (h := h) h52 (by omega)).1
      have y2 : delayS s l h = dlS (wB s 19 0 732 (fun _ => 0)) l h := by
        unfold delayS
        rw [dlR_n hn]
      rw [y2]
      omega
    have p := cancS_p (s := wA (wB s 19 0 732 (fun _ => 0)) 19 (61 * (l / 100) + l % 100) 1) (l := l) h52
    refine ⟨by have : delayS s l h = dlR 7 (wB s 19 0 732 (fun _ => 0)) l h := rfl; rw [this] at le1 ⊢; omega, ?_, ?_⟩
    · rw [ed]
      exact canc_18 h52
    · rw [ed, p.2.1 17 _ (by omega) (by omega) (by omega), wA_ne (by omega), e17]
  · have y := c4 (61 * (l / 100) + l % 100)
    have z : rA (dlS (wB s 19 0 732 (fun _ => 0)) l h) 17 (61 * (l / 100) + l % 100) = rA s 17 (61 * (l / 100) + l % 100) + h := by
      unfold dlS
      rw [if_pos (by rw [e17]; exact h8), wA_A, if_pos ⟨rfl, rfl⟩, e17]
    rw [z] at y
    exact y
end DL
end

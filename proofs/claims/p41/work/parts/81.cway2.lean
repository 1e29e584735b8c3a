noncomputable section
theorem usR_iff {s : am_Z} {b l : Int} : ∀ (n : Nat) (k : Int), 0 ≤ k → rA s 52 b - k < n → (usR s b l n k = 0 ↔ ∀ i : Int, k ≤ i → i < rA s 52 b → ¬ usM s b l i) := by
  intro n
  induction n with
  | zero => intro k h0 h; exact ⟨fun _ i h1 h2 => by omega, fun _ => rfl⟩
  | succ n ih =>
    intro k h0 h
    rw [usR]
    by_cases hk : k < rA s 52 b
    · rw [if_pos hk]
      by_cases hu : usM s b l k
      · rw [if_pos hu]
        exact ⟨fun z => by omega, fun z => absurd hu (z k (by omega) hk)⟩
      · rw [if_neg hu, ih (k + 1) (by omega) (by omega)]
        constructor
        · intro z i h1 h2
          by_cases e : i = k
          · rw [e]; exact hu
          · exact z i (by omega) h2
        · intro z i h1 h2
          exact z i (by omega) h2
    · rw [if_neg hk]
      exact ⟨fun _ i h1 h2 => by omega, fun _ => rfl⟩
/-- who may go on a leg -/
abbrev cgP (s : am_Z) (b : Nat) (l : Int) : Prop := usR s b l 12 0 = 0 ∧ rA s 45 b ≤ openS s l 0
theorem cg_iff {s : am_Z} (B : in_S s) {b : Nat} {c l own : Int} (h45 : 1 ≤ rA s 45 b) (hc : 0 ≤ c ∧ c < rA s 52 b) (ho : rA s 53 (10 * b + c) = own) (h55 : rA s 55 (10 * b + c) ≤ 1) : canGo s l b own ≠ 0 ↔ cgP s b l := by
  have b52 := B.1 52 b 0 10 rfl
  unfold canGo
  rw [andN_iff]
  have hu := usR_iff (s := s) (b := b) (l := l) 12 0 (by omega) (by omega)
  constructor
  · rintro ⟨h1, h2⟩
    have h3 : l ≠ own ∧ freeP s l ∧ rA s 45 b ≤ openS s l 0 := Classical.byContradiction (fun z => h1 (if_neg z))
    refine ⟨hu.mpr (fun i i1 i2 => ?_), h3.2.2⟩
    have h4 := h2 i.toNat (by omega)
    unfold fCan at h4
    rw [show ((i.toNat : Nat) : Int) = i by omega] at h4
    have h5 : rA s 53 (10 * b + i) ≠ l ∨ 4 ≤ rA s 55 (10 * b + i) := Classical.byContradiction (fun z => h4 (if_neg z))
    have b55 := B.1 55 (10 * b + i) 0 5 rfl
    omega
  · rintro ⟨h1, h2⟩
    have h3 := hu.mp h1
    have hfree : freeP s l := Classical.byContradiction (fun z => by unfold openS at h2; rw [if_neg z] at h2; omega)
    have hne : l ≠ own := fun z => h3 c hc.1 hc.2 ⟨by omega, by omega⟩
    refine ⟨by rw [if_pos ⟨hne, hfree, h2⟩]; omega, fun k hk => ?_⟩
    have h4 := h3 k (by omega) (by omega)
    have b55 := B.1 55 (10 * b + k) 0 5 rfl
    unfold fCan
    rw [if_pos (by omega)]
    omega
/-- what holds of a way found so far -/
def wI1 (N j : Int) (W : am_Y) : Prop := (W.2.1 = -1 → W.2.2 = -1) ∧ (W.2.1 ≠ -1 → W.1 ≤ N ∧ (-20 ≤ W.1 ∧ W.1 ≤ 1600) ∧ W.2.1 < j)
def wI2 (N a k : Int) (W : am_Y) : Prop := (W.2.1 = -1 → W.2.2 = -1) ∧ (W.2.1 ≠ -1 → W.1 ≤ N ∧ (-20 ≤ W.1 ∧ W.1 ≤ 1600) ∧ (W.2.1 < a ∨ (W.2.1 = a ∧ W.2.2 < k)))
theorem it2_s {s : am_Z} {b own N g a : Int} {n : Nat} {W : am_Y} : it2 s b own N g a (n + 1) W = stp2 s b own N g a n (it2 s b own N g a n W) := rfl
theorem itA_s {s : am_Z} {b own E L N g : Int} {n : Nat} {W : am_Y} : itA s b own E L N g (n + 1) W = stpA s b own E L N g n (itA s b own E L N g n W) := rfl
theorem it2_skip {s : am_Z} {b own N g a : Int} {W : am_Y} {j : Nat} : ∀ j' : Nat, j ≤ j' → (∀ k : Nat, j ≤ k → k < j' → stp2 s b own N g a k (it2 s b own N g a j W) = it2 s b own N g a j W) → it2 s b own N g a j' W = it2 s b own N g a j W := by
  intro j'
  induction j' with
  | zero => intro h _; rw [show j = 0 by omega]
  | succ j' ih =>
    intro h hs
    by_cases e : j = j' + 1
    · rw [e]
    · rw [it2_s, ih (by omega) (fun k h1 h2 => hs k h1 (by omega))]
      exact hs j' (by omega) (Nat.lt_succ_self _)
theorem itA_skip {s : am_Z} {b own E L N g : Int} {W : am_Y} {j : Nat} : ∀ j' : Nat, j ≤ j' → (∀ k : Nat, j ≤ k → k < j' → stpA s b own E L N g k (itA s b own E L N g j W) = itA s b own E L N g j W) → itA s b own E L N g j' W = itA s b own E L N g j W := by
  intro j'
  induction j' with
  | zero => intro h _; rw [show j = 0 by omega]
  | succ j' ih =>
    intro h hs
    by_cases e : j = j' + 1
    · rw [e]
    · rw [itA_s, ih (by omega) (fun k h1 h2 => hs k h1 (by omega))]
      exact hs j' (by omega) (Nat.lt_succ_self _)
section WAY
variable {s : am_Z} {b own E L N N' g a k : Int} {W : am_Y}
theorem stp2_no (h : ¬ (goOn s N g a k ∧ canGo s k b own ≠ 0)) : stp2 s b own N g a k W = W := if_neg (fun z => h ⟨z.1, z.2.1⟩)
theorem stp2_late (hN : ∀ t, t ≤ 1600 → (t ≤ N ↔ t ≤ N')) (ht : arv s k ≤ 1600) (h : latD N' W < arv s k) : stp2 s b own N g a k W = W := by
  refine if_neg (fun z => ?_)
  have h1 := z.1.2.2.2.2
  have h2 := z.2.2
  have h3 := hN _ ht
  unfold latD at h
  by_cases e : W.2.1 = -1
  · rw [if_pos e] at h
    omega
  · rw [if_neg e] at h
    omega
theorem stp2_of (hN : ∀ t, t ≤ 1600 → (t ≤ N ↔ t ≤ N')) (ht : arv s k ≤ 1600) (hk : 0 ≤ k) (hW : wI2 N a k W) (h1 : legP s k) (h2 : rA s 5 (k / 100) = rA s 6 (a / 100)) (h3 : rA s 6 (k / 100) = g) (h4 : arv s a + 1 ≤ dep s k) (h5 : canGo s k b own ≠ 0) : stp2 s b own N g a k W = ofW N' (arv s k) W a k := by
  have h6 := hN _ ht
  obtain ⟨w1, w2⟩ := hW
  unfold stp2 ofW latD
  by_cases e : W.2.1 = -1
  · rw [if_pos e]
    by_cases hle : arv s k ≤ N
    · rw [if_pos ⟨⟨h1, h2, h3, h4, hle⟩, h5, Or.inl e⟩, if_neg (by omega)]
    · rw [if_neg (fun z => hle z.1.2.2.2.2), if_pos (by omega)]
  · have w3 := w2 e
    rw [if_neg e]
    by_cases hlt : arv s k < W.1
    · rw [if_pos ⟨⟨h1, h2, h3, h4, by omega⟩, h5, Or.inr (Or.inl hlt)⟩, if_neg (by omega)]
    · rw [if_neg (fun z => by have z2 := z.2.2; omega), if_pos (by omega)]
theorem stp1_of (hN : ∀ t, t ≤ 1600 → (t ≤ N ↔ t ≤ N')) (ht : arv s a ≤ 1600) (hW : wI1 N a W) (h1 : canA s b own E L a) (h2 : rA s 6 (a / 100) = g) : stp1 s b own E L N g a W = ofW N' (arv s a) W a (-1) := by
  have h6 := hN _ ht
  obtain ⟨w1, w2⟩ := hW
  unfold stp1 ofW latD
  by_cases e : W.2.1 = -1
  · rw [if_pos e]
    by_cases hle : arv s a ≤ N
    · rw [if_pos ⟨h1, h2, hle, Or.inl e⟩, if_neg (by omega)]
    · rw [if_neg (fun z => hle z.2.2.1), if_pos (by omega)]
  · have w3 := w2 e
    rw [if_neg e]
    by_cases hlt : arv s a < W.1 ∨ (arv s a = W.1 ∧ W.2.2 ≠ -1)
    · rw [if_pos ⟨h1, h2, by omega, by omega⟩, if_neg (by omega)]
    · rw [if_neg (fun z => by have z2 := z.2.2.2; omega), if_pos (by omega)]
theorem stp1_ne (h : ¬ (canA s b own E L a ∧ rA s 6 (a / 100) = g)) : stp1 s b own E L N g a W = W := if_neg (fun z => h ⟨z.1, z.2.1⟩)
theorem stpA_no (h : ¬ canA s b own E L a) : stpA s b own E L N g a W = W := by
  unfold stpA
  rw [if_neg (fun z => h z.1)]
  exact stp1_ne (fun z => h z.1)
theorem stpA_late (B : in_S s) (hN : ∀ t, t ≤ 1600 → (t ≤ N ↔ t ≤ N')) (hl : legP s a) (ht : arv s a ≤ 1600) (h : latD N' W < arv s a) : stpA s b own E L N g a W = W := by
  have h1 : stp1 s b own E L N g a W = W := by
    refine if_neg (fun z => ?_)
    have h1 := z.2.2.1
    have h2 := z.2.2.2
    have h3 := hN _ ht
    unfold latD at h
    by_cases e : W.2.1 = -1
    · rw [if_pos e] at h
      omega
    · rw [if_neg e] at h
      omega
  unfold stpA
  split
  · rw [h1]
    refine it2_skip (j := 0) _ (Nat.zero_le _) (fun k _ _ => ?_)
    show stp2 s b own N g a k W = W
    by_cases hg : goOn s N g a k
    · have hlk : legR (k : Int) := legP_R B hg.1
      have hak := arv_b B hlk
      have b8 := B.1 8 ((k : Int) / 100) 0 20 rfl
      have hd := hg.2.2.2.1
      refine stp2_late hN (by omega) ?_
      have : arv s k = dep s k + rA s 8 ((k : Int) / 100) := rfl
      omega
    · exact stp2_no (fun z => hg z.1)
  · exact h1
theorem stpA_dir (h : rA s 6 (a / 100) = g) : stpA s b own E L N g a W = stp1 s b own E L N g a W := if_neg (fun z => z.2 h)
theorem stpA_two (h1 : canA s b own E L a) (h : rA s 6 (a / 100) ≠ g) : stpA s b own E L N g a W = it2 s b own N g a (100 * rI s 3).toNat W := by
  unfold stpA
  rw [if_pos ⟨h1, h⟩, stp1_ne (fun z => h z.2)]
theorem it2_inv (B : in_S s) (ha : 0 ≤ a) (hW : wI1 N a W) : ∀ n : Nat, wI2 N a n (it2 s b own N g a n W) := by
  intro n
  induction n with
  | zero =>
    refine ⟨hW.1, fun z => ?_⟩
    have := hW.2 z
    exact ⟨this.1, this.2.1, Or.inl this.2.2⟩
  | succ n ih =>
    rw [it2_s]
    unfold stp2
    split
    · rename_i z
      have hlk : legR (n : Int) := legP_R B z.1.1
      have hak := arv_b B hlk
      have e : a ≠ -1 := by omega
      exact ⟨fun y => absurd y e, fun _ => ⟨z.1.2.2.2.2, by show -20 ≤ arv s n ∧ arv s n ≤ 1600; omega, Or.inr ⟨rfl, by show (n : Int) < ((n + 1 : Nat) : Int); omega⟩⟩⟩
    · refine ⟨ih.1, fun z => ?_⟩
      have := ih.2 z
      exact ⟨this.1, this.2.1, by omega⟩
theorem itA_inv (B : in_S s) : ∀ n : Nat, wI1 N n (itA s b own E L N g n (0, -1, -1)) := by
  intro n
  induction n with
  | zero => exact ⟨fun _ => rfl, fun z => absurd rfl z⟩
  | succ n ih =>
    rw [itA_s]
    have h1 : wI1 N ((n + 1 : Nat) : Int) (stp1 s b own E L N g n (itA s b own E L N g n (0, -1, -1))) := by
      unfold stp1
      split
      · rename_i z
        have hak := arv_b B (legP_R B z.1.1)
        exact ⟨fun y => rfl, fun _ => ⟨z.2.2.1, by show -20 ≤ arv s n ∧ arv s n ≤ 1600; omega, by show (n : Int) < ((n + 1 : Nat) : Int); omega⟩⟩
      · refine ⟨ih.1, fun z => ?_⟩
        have := ih.2 z
        omega
    unfold stpA
    split
    · rename_i z
      rw [stp1_ne (fun y => z.2 y.2)]
      have h2 := it2_inv (own := own) (g := g) (b := b) B (by omega) ih (100 * rI s 3).toNat
      refine ⟨h2.1, fun y => ?_⟩
      have := h2.2 y
      omega
    · exact h1
theorem of_lat {t : Int} (ha : a ≠ -1) : latD N' (ofW N' t W a k) ≤ t := by
  unfold ofW
  split
  · omega
  · show (if a = -1 then N' else t) ≤ t
    rw [if_neg ha]
    exact Int.le_refl _
/-- later days of a flight arrive later -/
theorem day_late (B : in_S s) {f : Int} {d d' : Int} (h0 : 0 ≤ f ∧ f < 12) (hd : 0 ≤ d ∧ d < d' ∧ d' < 100) : dep s (100 * f + d) < dep s (100 * f + d') ∧ arv s (100 * f + d) < arv s (100 * f + d') := by
  have e1 : (100 * f + d) / 100 = f := by omega
  have e2 : (100 * f + d') / 100 = f := by omega
  have e3 : (100 * f + d) % 100 = d := by omega
  have e4 : (100 * f + d') % 100 = d' := by omega
  have b1 := B.1 17 (61 * f + d) 0 8 rfl
  have b2 := B.1 17 (61 * f + d') 0 8 rfl
  unfold arv dep
  rw [e1, e2, e3, e4]
  omega
theorem leg_on {q : am_A} (V : am_CV q s) {l : Int} (h : 0 ≤ l ∧ l / 100 < rI s 3 ∧ l % 100 < 61) : (legO q l = none → ¬ legP s l) ∧ (∀ r, legO q l = some r → legP s l ∧ legO q l = some (5, lId q l)) := by
  refine ⟨fun z y => ?_, fun r z => ?_⟩
  · have := (V.2.2.2.1.1 l y).1
    rw [z] at this
    cases this
  · have hl : legP s l := Classical.byContradiction (fun y => by
      have := V.2.2.2.1.2 l h.1 h.2.1 h.2.2 (fun x => y ⟨h.1, h.2.1, h.2.2, x⟩)
      rw [z] at this
      cases this)
    exact ⟨hl, (V.2.2.2.1.1 l hl).1⟩
end WAY
end

noncomputable section
/-- W2 is W, or better, by one of S -/
def am_MM (s : am_Z) (W : am_wQ) (S : am_wP → Prop) (W2 : am_wQ) : Prop := (W2.1 = W.1 ∨ ∃ x, S x ∧ gtV s x ≠ 0 ∧ W2.1 = pSum s x) ∧ (∀ x, S x → gtV s x ≠ 0 → W2.1 ≠ -1 ∧ W2.1 ≤ pSum s x) ∧ (W.1 ≠ -1 → W2.1 ≠ -1 ∧ W2.1 ≤ W.1)
section MMS
variable {s : am_Z} {W W1 W2 : am_wQ} {S S1 T : am_wP → Prop} {w : am_wP}
theorem MM_0 (h : ∀ x, ¬ S x) : am_MM s W S W := ⟨Or.inl rfl, fun x hx => absurd hx (h x), fun h => ⟨h, Int.le_refl _⟩⟩
theorem MM_eq (h : ∀ x, S x ↔ S1 x) (M : am_MM s W S W2) : am_MM s W S1 W2 := by
  have e : S = S1 := funext (fun x => propext (h x))
  rw [← e]
  exact M
theorem pSum_0 (B : in_S s) (w : am_wP) : 0 ≤ pSum s w := (sumI_b (a := 0) (n := w.length) (f := fun i => rA s 25 (pF w i.toNat)) (M := 5000) (fun i => B.1 25 _ 0 5000 rfl)).1
theorem MM_tk (B : in_S s) : am_MM s W (fun x => x = w) (tk s W w) := by
  have h0 := pSum_0 B w
  unfold tk
  split
  · rename_i h
    refine ⟨Or.inr ⟨w, rfl, h.2, rfl⟩, fun x hx _ => ?_, fun h1 => ?_⟩
    · rw [hx]
      exact ⟨by show pSum s w ≠ -1; omega, Int.le_refl _⟩
    · have := h.1
      exact ⟨by show pSum s w ≠ -1; omega, by show pSum s w ≤ W.1; omega⟩
  · rename_i h
    refine ⟨Or.inl rfl, fun x hx hg => ?_, fun h1 => ⟨h1, Int.le_refl _⟩⟩
    rw [hx] at hg ⊢
    have h2 : ¬ (W.1 = -1 ∨ pSum s w < W.1) := fun z => h ⟨z, hg⟩
    omega
theorem MM_t (a : am_MM s W S W1) (b : am_MM s W1 T W2) : am_MM s W (fun x => S x ∨ T x) W2 := by
  obtain ⟨a1, a2, a3⟩ := a
  obtain ⟨b1, b2, b3⟩ := b
  refine ⟨?_, ?_, ?_⟩
  · rcases b1 with b1 | ⟨y, y1, y2, y3⟩
    · rcases a1 with a1 | ⟨x, x1, x2, x3⟩
      · exact Or.inl (b1.trans a1)
      · exact Or.inr ⟨x, Or.inl x1, x2, b1.trans x3⟩
    · exact Or.inr ⟨y, Or.inr y1, y2, y3⟩
  · rintro x (hx | hx) hg
    · have z := a2 x hx hg
      have y := b3 z.1
      exact ⟨y.1, Int.le_trans y.2 z.2⟩
    · exact b2 x hx hg
  · intro h
    have z := a3 h
    have y := b3 z.1
    exact ⟨y.1, Int.le_trans y.2 z.2⟩
theorem MM_l (B : in_S s) : ∀ (l : List am_wP) (W : am_wQ), am_MM s W (fun x => x ∈ l) (l.foldl (tk s) W) := by
  intro l
  induction l with
  | nil => intro W; exact MM_0 (fun x h => by simp at h)
  | cons v l ih =>
    intro W
    rw [List.foldl_cons]
    exact MM_eq (fun x => by rw [List.mem_cons]) (MM_t (MM_tk B) (ih (tk s W v)))
theorem MM_u (h : W.1 = -1) (a : am_MM s W S W1) (b : am_MM s W S W2) : W1.1 = W2.1 := by
  obtain ⟨a1, a2, a3⟩ := a
  obtain ⟨b1, b2, b3⟩ := b
  rcases a1 with a1 | ⟨x, x1, x2, x3⟩
  · rcases b1 with b1 | ⟨y, y1, y2, y3⟩
    · rw [a1, b1]
    · exact absurd (a1.trans h) (a2 y y1 y2).1
  · rcases b1 with b1 | ⟨y, y1, y2, y3⟩
    · exact absurd (b1.trans h) (b2 x x1 x2).1
    · have h1 := (a2 y y1 y2).2
      have h2 := (b2 x x1 x2).2
      omega
end MMS
/-- the ways that go on from b behind w -/
def inS (s : am_Z) (p n : Int) : Nat → Int → am_wP → am_wP → Prop
  | 0, b, w, x => b = n ∧ x = w
  | D + 1, b, w, x => (b = n ∧ x = w) ∨ (b < n ∧ ∃ i c : Int, (0 ≤ i ∧ i < rI s 20) ∧ (1 ≤ c ∧ b + c ≤ n) ∧ canH s b c i p ≠ 0 ∧ inS s p n D (b + c) (w ++ [(i, c)]) x)
def opn (s : am_Z) (p n : Int) (D : Nat) (b : Int) (w : am_wP) (i c : Int) (x : am_wP) : Prop := ∃ c2 : Int, (c ≤ c2 ∧ b + c2 ≤ n) ∧ canH s b c2 i p ≠ 0 ∧ inS s p n D (b + c2) (w ++ [(i, c2)]) x
section INS
variable {s : am_Z} {n p : Int} {f : Int → Int} {w x : am_wP} {D : Nat}
theorem inS_n : inS s p n D n w x ↔ x = w := by
  cases D with
  | zero => exact ⟨fun h => h.2, fun h => ⟨rfl, h⟩⟩
  | succ D =>
    constructor
    · rintro (h | h)
      · exact h.2
      · omega
    · intro h; exact Or.inl ⟨rfl, h⟩
theorem inS_lt {b : Int} (h : b < n) : inS s p n (D + 1) b w x ↔ ∃ i : Int, (0 ≤ i ∧ i < rI s 20) ∧ opn s p n D b w i 1 x := by
  constructor
  · rintro (h1 | ⟨_, i, c, h1, h2, h3, h4⟩)
    · omega
    · exact ⟨i, h1, c, h2, h3, h4⟩
  · rintro ⟨i, h1, c, h2, h3, h4⟩
    exact Or.inr ⟨h, i, c, h1, h2, h3, h4⟩
theorem rem_mem (h35 : rI s 35 = n) (h20 : 0 ≤ rI s 20 ∧ rI s 20 ≤ 16) {sub : Int → am_wP → List am_wP} {b : Int} : ∀ (m k : Nat) (c i : Int), (17 * (n - b - c + 1) + 17 - i).toNat < m → 16 * (n - b - c + 1) - i ≤ k → b + c ≤ n → 0 ≤ i → i ≤ rI s 20 → (x ∈ wRem s p sub k b w c (i - 1) ↔ ∃ c2 i2 : Int, ((c2 = c ∧ i ≤ i2) ∨ c < c2) ∧ (0 ≤ i2 ∧ i2 < rI s 20) ∧ b + c2 ≤ n ∧ x ∈ wNode s p sub b w c2 i2) := by
  intro m
  induction m with
  | zero => intro k c i h; exact absurd h (Nat.not_lt_zero _)
  | succ m ih =>
    intro k c i hm hk hc hi0 hi
    by_cases e : i = rI s 20
    · rw [e, wRem_c (s := s) (p := p) (w := w) (sub := sub) (k := k) (b := b) (c := c) h20.1]
      by_cases e2 : b + (c + 1) ≤ n
      · have z := ih k (c + 1) 0 (by omega) (by omega) e2 (by omega) (by omega)
        rw [show (0 : Int) - 1 = -1 by omega] at z
        rw [z]
        constructor
        · rintro ⟨c2, i2, h1, h2, h3⟩
          exact ⟨c2, i2, by omega, h2, h3⟩
        · rintro ⟨c2, i2, h1, h2, h3⟩
          exact ⟨c2, i2, by omega, h2, h3⟩
      · rw [wRem_e (s := s) (p := p) (w := w) (sub := sub) (k := k) (b := b) (c := c + 1) (by omega)]
        constructor
        · intro h; simp at h
        · rintro ⟨c2, i2, h1, h2, h3, _⟩
          exact False.elim (by omega)
    · obtain ⟨k, rfl⟩ : ∃ k2, k = k2 + 1 := ⟨k - 1, by omega⟩
      rw [wRem_s (s := s) (p := p) (w := w) (sub := sub) (k := k) (b := b) (c := c) (i := i) hi0 (by omega) (by omega), List.mem_append]
      have z := ih k c (i + 1) (by omega) (by omega) hc (by omega) (by omega)
      rw [show i + 1 - 1 = i by omega] at z
      rw [z]
      constructor
      · rintro (h | ⟨c2, i2, h1, h2, h3⟩)
        · exact ⟨c, i, Or.inl ⟨rfl, Int.le_refl _⟩, by omega, hc, h⟩
        · exact ⟨c2, i2, by omega, h2, h3⟩
      · rintro ⟨c2, i2, h1, h2, h3, h4⟩
        by_cases e3 : c2 = c ∧ i2 = i
        · rw [e3.1, e3.2] at h4
          exact Or.inl h4
        · exact Or.inr ⟨c2, i2, by omega, h2, h3, h4⟩
theorem cS_mem (h35 : rI s 35 = n) (h20 : 0 ≤ rI s 20 ∧ rI s 20 ≤ 16) (hn : n ≤ 4) : ∀ (D : Nat) (b : Int) (w : am_wP), 0 ≤ b → b ≤ n → (x ∈ cS s p n D b w ↔ inS s p n D b w x) := by
  intro D
  induction D with
  | zero =>
    intro b w hb hbn
    unfold cS
    split
    · rename_i e
      rw [List.mem_singleton]
      exact ⟨fun h => ⟨e, h⟩, fun h => h.2⟩
    · rename_i e
      exact ⟨fun h => by simp [wSub] at h, fun h => absurd h.1 e⟩
  | succ D ih =>
    intro b w hb hbn
    by_cases e : b = n
    · subst e
      unfold cS
      rw [if_pos rfl, List.mem_singleton, inS_n]
    · unfold cS
      rw [if_neg e]
      show x ∈ wRem s p (wSub s p D) 100 b w 1 (0 - 1) ↔ _
      rw [rem_mem h35 h20 1000 100 1 0 (by omega) (by omega) (by omega) (by omega) (by omega), inS_lt (by omega)]
      constructor
      · rintro ⟨c, i, h1, h2, h3, h4⟩
        by_cases hc : canH s b c i p ≠ 0
        · rw [node_f h35 hc, ih _ _ (by omega) h3] at h4
          exact ⟨i, h2, c, ⟨by omega, h3⟩, hc, h4⟩
        · unfold wNode at h4
          rw [if_neg hc] at h4
          simp at h4
      · rintro ⟨i, h2, c, h3, hc, h4⟩
        refine ⟨c, i, by omega, h2, h3.2, ?_⟩
        rw [node_f h35 hc, ih _ _ (by omega) h3.2]
        exact h4
/-- a stretch that may still grow -/
def PFq (s : am_Z) (n : Int) (f : Int → Int) (p fa b c : Int) : Prop := bgP s fa (f b) (rI s 0) ∧ ∀ k : Int, b ≤ k → k < b + c → tkQ s n f p fa.toNat k ∧ (k ≤ b ∨ nrQ s n f k)
theorem can_iff (h35 : rI s 35 = n) (hJ : ∀ k, 0 ≤ k → k < n → rA s 36 k = f k) {fa b c : Int} (hfa : 0 ≤ fa) (hb : 0 ≤ b) (hc : 1 ≤ c ∧ b + c ≤ n) (P : PFq s n f p fa b c) : canH s b c fa p ≠ 0 ↔ enQ s n f fa.toNat (b + c) := by
  rw [← fit_iff h35 hJ hfa hb hc]
  have efa : ((fa.toNat : Nat) : Int) = fa := by omega
  have h1 := P.1
  rw [← efa] at h1
  exact ⟨fun h => h.2.1, fun h => ⟨h1, h, P.2⟩⟩
theorem can_PF (h35 : rI s 35 = n) (hJ : ∀ k, 0 ≤ k → k < n → rA s 36 k = f k) {fa b c : Int} (hfa : 0 ≤ fa) (hb : 0 ≤ b) (hc : 1 ≤ c ∧ b + c ≤ n) (h : canH s b c fa p ≠ 0) : PFq s n f p fa b c := by
  have z := (fit_iff h35 hJ hfa hb hc).mpr h
  have efa : ((fa.toNat : Nat) : Int) = fa := by omega
  have h1 := z.1
  rw [efa] at h1
  exact ⟨h1, z.2.2⟩
theorem PF_up {fa b c : Int} (P : PFq s n f p fa b c) (h1 : tkQ s n f p fa.toNat (b + c)) (h2 : nrQ s n f (b + c)) : PFq s n f p fa b (c + 1) := ⟨P.1, fun k k1 k2 => by
  by_cases e : k = b + c
  · rw [e]; exact ⟨h1, Or.inr h2⟩
  · exact P.2 k k1 (by omega)⟩
theorem PF_1 {fa b : Int} (h : bgP s fa (f b) (rI s 0)) (h1 : tkQ s n f p fa.toNat b) : PFq s n f p fa b 1 := ⟨h, fun k k1 k2 => by
  have e : k = b := by omega
  rw [e]
  exact ⟨h1, Or.inl (Int.le_refl _)⟩⟩
theorem opn_end (h35 : rI s 35 = n) (hJ : ∀ k, 0 ≤ k → k < n → rA s 36 k = f k) {fa b c : Int} (hfa : 0 ≤ fa) (hb : 0 ≤ b) (hc : 1 ≤ c ∧ b + c = n) (P : PFq s n f p fa b c) : opn s p n D b w fa c x ↔ enQ s n f fa.toNat (b + c) ∧ x = w ++ [(fa, c)] := by
  have z := can_iff h35 hJ hfa hb ⟨hc.1, by omega⟩ P
  constructor
  · rintro ⟨c2, h1, h2, h3⟩
    have e : c2 = c := by omega
    subst e
    rw [hc.2] at h3
    exact ⟨z.mp h2, inS_n.mp h3⟩
  · rintro ⟨h1, h2⟩
    refine ⟨c, by omega, z.mpr h1, ?_⟩
    rw [hc.2]
    exact inS_n.mpr h2
theorem opn_s {fa b c : Int} (hc : b + c < n) : opn s p n D b w fa c x ↔ opn s p n D b w fa (c + 1) x ∨ (canH s b c fa p ≠ 0 ∧ inS s p n D (b + c) (w ++ [(fa, c)]) x) := by
  constructor
  · rintro ⟨c2, h1, h2, h3⟩
    by_cases e : c2 = c
    · subst e
      exact Or.inr ⟨h2, h3⟩
    · exact Or.inl ⟨c2, by omega, h2, h3⟩
  · rintro (⟨c2, h1, h2, h3⟩ | ⟨h2, h3⟩)
    · exact ⟨c2, by omega, h2, h3⟩
    · exact ⟨c, by omega, h2, h3⟩
theorem opn_no (h35 : rI s 35 = n) (hJ : ∀ k, 0 ≤ k → k < n → rA s 36 k = f k) {fa b c : Int} (hfa : 0 ≤ fa) (hb : 0 ≤ b) (hc : 1 ≤ c) (h : ¬ (tkQ s n f p fa.toNat (b + c) ∧ nrQ s n f (b + c))) : ¬ opn s p n D b w fa (c + 1) x := by
  rintro ⟨c2, h1, h2, h3⟩
  have P := can_PF h35 hJ hfa hb ⟨by omega, h1.2⟩ h2
  have z := P.2 (b + c) (by omega) (by omega)
  exact h ⟨z.1, z.2.elim (fun y => by omega) id⟩
theorem opn_no1 (h35 : rI s 35 = n) (hJ : ∀ k, 0 ≤ k → k < n → rA s 36 k = f k) {fa b : Int} (hfa : 0 ≤ fa) (hb : 0 ≤ b) (h : ¬ (bgP s fa (f b) (rI s 0) ∧ tkQ s n f p fa.toNat b)) : ¬ opn s p n D b w fa 1 x := by
  rintro ⟨c2, h1, h2, h3⟩
  have P := can_PF h35 hJ hfa hb ⟨by omega, h1.2⟩ h2
  exact h ⟨P.1, (P.2 b (by omega) (by omega)).1⟩
end INS
end

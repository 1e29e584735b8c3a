noncomputable section
/-- how many of the first stretches are halves of a return -/
def hlN (s : am_Z) (w : am_wP) : Nat → Int
  | 0 => 0
  | j + 1 => hlN s w j + (if rA s 29 (pF w j) = 0 then 0 else 1)
theorem hlN_b (s : am_Z) (w : am_wP) (j : Nat) : 0 ≤ hlN s w j ∧ hlN s w j ≤ j := by
  induction j with
  | zero => simp [hlN]
  | succ j ih => simp only [hlN]; split <;> omega
theorem hlN_0 {s : am_Z} {w : am_wP} {j : Nat} : hlN s w j = 0 ↔ ∀ k, k < j → rA s 29 (pF w k) = 0 := by
  induction j with
  | zero => exact ⟨fun _ k hk => absurd hk (Nat.not_lt_zero k), fun _ => rfl⟩
  | succ j ih =>
    have hb := hlN_b s w j
    simp only [hlN]
    constructor
    · intro h k hk
      have h2 : rA s 29 (pF w j) = 0 := by
        by_cases e : rA s 29 (pF w j) = 0
        · exact e
        · rw [if_neg e] at h; omega
      rw [if_pos h2] at h
      by_cases e : k = j
      · rw [e]; exact h2
      · exact ih.mp (by omega) k (by omega)
    · intro h
      rw [if_pos (h j (by omega)), ih.mpr (fun k hk => h k (by omega))]
      rfl
theorem hlN_f {s : am_Z} {w : am_wP} {j : Nat} : hlN s w j = j ↔ ∀ k, k < j → rA s 29 (pF w k) ≠ 0 := by
  induction j with
  | zero => exact ⟨fun _ k hk => absurd hk (Nat.not_lt_zero k), fun _ => rfl⟩
  | succ j ih =>
    have hb := hlN_b s w j
    simp only [hlN]
    constructor
    · intro h k hk
      have h2 : rA s 29 (pF w j) ≠ 0 := by
        intro e
        rw [if_pos e] at h; omega
      rw [if_neg h2] at h
      by_cases e : k = j
      · rw [e]; exact h2
      · exact ih.mp (by omega) k (by omega)
    · intro h
      rw [if_neg (h j (by omega)), ih.mpr (fun k hk => h k (by omega))]
      omega
/-- the longest stay that the halves among the first stretches ask for -/
def styN (s : am_Z) (w : am_wP) : Nat → Int
  | 0 => 0
  | j + 1 => if rA s 29 (pF w j) = 0 then styN s w j else max (styN s w j) (rA s 30 (pF w j))
theorem styN_b {s : am_Z} (B : in_S s) (w : am_wP) (j : Nat) : 0 ≤ styN s w j ∧ styN s w j ≤ 30 := by
  induction j with
  | zero => simp [styN]
  | succ j ih =>
    have b := B.1 30 (pF w j) 0 30 rfl
    simp only [styN]
    split <;> omega
theorem styN_2 {s : am_Z} (B : in_S s) {w : am_wP} (h2 : w.length = 2) (hh : hlN s w w.length = 2) : styN s w w.length = max (rA s 30 (pF w 0)) (rA s 30 (pF w 1)) := by
  have b0 := B.1 30 (pF w 0) 0 30 rfl
  rw [h2] at hh ⊢
  have hf := (hlN_f (s := s) (w := w) (j := 2)).mp hh
  have f0 := hf 0 (by omega)
  have f1 := hf 1 (by omega)
  show (if rA s 29 (pF w 1) = 0 then (if rA s 29 (pF w 0) = 0 then (0 : Int) else max 0 (rA s 30 (pF w 0))) else max (if rA s 29 (pF w 0) = 0 then (0 : Int) else max 0 (rA s 30 (pF w 0))) (rA s 30 (pF w 1))) = _
  rw [if_neg f1, if_neg f0]
  omega
def rtQ (s : am_Z) (n : Int) (f : Int → Int) (w : am_wP) : Prop := hlN s w w.length = 0 ∨ ((w.length = 2 ∧ hlN s w w.length = 2) ∧ rA s 5 (f 0 / 100) = rA s 6 (f (n - 1) / 100) ∧ (24 * rA s 30 (pF w 0) ≤ dep s (f (pC w 0)) - arv s (f (pC w 0 - 1)) ∧ 24 * rA s 30 (pF w 1) ≤ dep s (f (pC w 0)) - arv s (f (pC w 0 - 1))))
theorem gtN_iff {s : am_Z} {n k : Nat} : gtN s n k ≠ 0 ↔ ∀ i, i < k → (∀ j, j < n → fGt s (rA s 42 i) j ≠ 0) ∧ (rA s 29 (rA s 42 i) ≠ 0 → rndP s n ∧ 24 * rA s 30 (rA s 42 i) ≤ rest s) := by
  induction k with
  | zero => exact ⟨fun _ i hi => absurd hi (Nat.not_lt_zero i), fun _ => by simp [gtN]⟩
  | succ k ih =>
    have h1 : gtN s n (k + 1) ≠ 0 ↔ (gtN s n k ≠ 0 ∧ ∀ j, j < n → fGt s (rA s 42 k) j ≠ 0) ∧ (rA s 29 (rA s 42 k) ≠ 0 → rndP s n ∧ 24 * rA s 30 (rA s 42 k) ≤ rest s) := by
      simp only [gtN]
      rw [show (n : Int).toNat = n from rfl]
      split
      · rename_i e
        rw [andN_iff]
        exact ⟨fun z => ⟨z, fun y => absurd e y⟩, fun z => z.1⟩
      · rename_i e
        split
        · rename_i e2
          rw [andN_iff] at e2
          exact ⟨fun _ => ⟨e2.1, fun _ => e2.2⟩, fun _ => by omega⟩
        · rename_i e2
          rw [andN_iff] at e2
          exact ⟨fun z => absurd rfl z, fun z => absurd ⟨z.1, z.2 e⟩ e2⟩
    rw [h1, ih]
    constructor
    · intro ⟨⟨z1, z2⟩, z3⟩ i hi
      by_cases e : i = k
      · rw [e]; exact ⟨z2, z3⟩
      · exact z1 i (by omega)
    · intro z
      exact ⟨⟨fun i hi => z i (by omega), (z k (by omega)).1⟩, (z k (by omega)).2⟩
theorem w2_b {w : am_wP} {n : Int} (hok : okP w) (hl : pLen w = n) (h2 : w.length = 2) : 1 ≤ pC w 0 ∧ pC w 0 < n := by
  cases w with
  | nil => exact absurd h2 (by simp)
  | cons x t =>
    cases t with
    | nil => exact absurd h2 (by simp)
    | cons y u =>
      cases u with
      | nil =>
        have a := hok x (by simp)
        have b := hok y (by simp)
        have hn' : x.2 + (y.2 + 0) = n := hl
        have : pC [x, y] 0 = x.2 := rfl
        omega
      | cons z v => simp only [List.length_cons] at h2; omega
theorem w1_b {w : am_wP} {n : Int} (hok : okP w) (hl : pLen w = n) (h1 : 1 ≤ w.length) : 1 ≤ pC w 0 ∧ pC w 0 ≤ n := by
  cases w with
  | nil => exact absurd h1 (by simp)
  | cons x t =>
    have a := hok x (by simp)
    have b := pLen_b (w := t) (fun z hz => hok z (List.mem_cons_of_mem _ hz))
    have e : x.2 + pLen t = n := hl
    have : pC (x :: t) 0 = x.2 := rfl
    omega
theorem gtV_iff {s : am_Z} {w : am_wP} {n : Int} {f : Int → Int} (h35 : rI s 35 = n) (hJ : ∀ k, 0 ≤ k → k < n → rA s 36 k = f k) (hok : okP w) (hn : pLen w = n) (h1 : 1 ≤ n) : gtV s w ≠ 0 ↔ ¬ (ownQ s w w.length ∧ mixQ s w w.length) ∧ rtQ s n f w := by
  have e42 : ∀ i : Nat, rA (pPut s w) 42 i = pF w i := fun i => rfl
  have ed : ∀ l, dep (pPut s w) l = dep s l := fun l => rfl
  have ea : ∀ l, arv (pPut s w) l = arv s l := fun l => rfl
  have e41 : rA (pPut s w) 41 0 = pC w 0 := rfl
  have hr2 : w.length = 2 → 1 ≤ pC w 0 ∧ pC w 0 < n := w2_b hok hn
  have er : w.length = 2 → rest (pPut s w) = dep s (f (pC w 0)) - arv s (f (pC w 0 - 1)) := fun h2 => by
    have := hr2 h2
    show dep (pPut s w) (rA s 36 (pC w 0)) - arv (pPut s w) (rA s 36 (pC w 0 - 1)) = _
    rw [hJ _ (by omega) (by omega), hJ _ (by omega) (by omega), ed, ea]
  have en : rndP (pPut s w) w.length ↔ (w.length = 2 ∧ rA s 5 (f 0 / 100) = rA s 6 (f (n - 1) / 100)) := by
    show ((w.length : Int) = 2 ∧ rA s 5 (rA s 36 0 / 100) = rA s 6 (rA s 36 (rI s 35 - 1) / 100)) ↔ _
    rw [h35, hJ 0 (by omega) (by omega), hJ (n - 1) (by omega) (by omega)]
    constructor
    · intro z; exact ⟨by omega, z.2⟩
    · intro z; exact ⟨by omega, z.2⟩
  have ef : ∀ i j : Nat, fGt (pPut s w) (pF w i) j ≠ 0 ↔ (rA s 31 (pF w i) = 0 ∨ rA s 21 (pF w j) = rA s 21 (pF w i)) ∧ (rA s 29 (pF w i) = 0 ∨ rA s 29 (pF w j) ≠ 0) := fun i j => by
    show (if (rA s 31 (pF w i) = 0 ∨ rA s 21 (pF w j) = rA s 21 (pF w i)) ∧ (rA s 29 (pF w i) = 0 ∨ rA s 29 (pF w j) ≠ 0) then (1 : Int) else 0) ≠ 0 ↔ _
    split
    · rename_i e; exact ⟨fun _ => e, fun _ => by omega⟩
    · rename_i e; exact ⟨fun z => absurd rfl z, fun z => absurd z e⟩
  unfold gtV
  rw [gtN_iff]
  constructor
  · intro H
    have H1 : ∀ i j, i < w.length → j < w.length → (rA s 31 (pF w i) = 0 ∨ rA s 21 (pF w j) = rA s 21 (pF w i)) ∧ (rA s 29 (pF w i) = 0 ∨ rA s 29 (pF w j) ≠ 0) := fun i j hi hj => (ef i j).mp ((H i hi).1 j hj)
    refine ⟨?_, ?_⟩
    · rintro ⟨⟨k, k1, k2⟩, ⟨m, m1, m2⟩⟩
      have a := (H1 k m k1 m1).1
      have b := (H1 k 0 k1 (by omega)).1
      omega
    · by_cases e : hlN s w w.length = 0
      · exact Or.inl e
      · have : ∃ k, k < w.length ∧ rA s 29 (pF w k) ≠ 0 := Classical.byContradiction (fun z => e (hlN_0.mpr (fun k hk => Classical.byContradiction (fun y => z ⟨k, hk, y⟩))))
        obtain ⟨k, k1, k2⟩ := this
        have hall : ∀ j, j < w.length → rA s 29 (pF w j) ≠ 0 := fun j hj => (H1 k j k1 hj).2.elim (fun z => absurd z k2) id
        have hh := fun j (hj : j < w.length) => (H j hj).2 (hall j hj)
        have h2 := en.mp (hh k k1).1
        have hf := hlN_f.mpr hall
        refine Or.inr ⟨⟨h2.1, by rw [hf, h2.1]; rfl⟩, h2.2, ?_, ?_⟩
        · have := (hh 0 (by omega)).2
          rw [er h2.1] at this
          exact this
        · have := (hh 1 (by omega)).2
          rw [er h2.1] at this
          exact this
  · rintro ⟨h1, h2⟩ i hi
    refine ⟨fun j hj => (ef i j).mpr ⟨?_, ?_⟩, fun hh => ?_⟩
    · by_cases e : rA s 31 (pF w i) = 0
      · exact Or.inl e
      · have hm : ∀ k, k < w.length → rA s 21 (pF w k) = rA s 21 (pF w 0) := fun k hk => Classical.byContradiction (fun z => h1 ⟨⟨i, hi, e⟩, ⟨k, hk, z⟩⟩)
        exact Or.inr ((hm j hj).trans (hm i hi).symm)
    · rcases h2 with h2 | ⟨⟨a, b⟩, _⟩
      · exact Or.inl (hlN_0.mp h2 i hi)
      · exact Or.inr (hlN_f.mp (by rw [b, a]; rfl) j hj)
    · have hh' : rA s 29 (pF w i) ≠ 0 := hh
      rcases h2 with h2 | ⟨⟨a, b⟩, c, d1, d2⟩
      · exact absurd (hlN_0.mp h2 i hi) hh'
      · refine ⟨en.mpr ⟨a, c⟩, ?_⟩
        rw [er a]
        show 24 * rA s 30 (pF w i) ≤ _
        have : i = 0 ∨ i = 1 := by omega
        rcases this with rfl | rfl
        · exact d1
        · exact d2
theorem lp_rw {d : Nat} {q : am_A} {Q : am_O → am_A → Prop} {s : am_Z} (V : am_CV q s) {w : am_wP} (T : am_TR q s w) : ∀ (m : Nat) (j : Nat) (h g k : Int) (x4 : Option am_V), w.length - j < m → (k = j ∧ j ≤ w.length ∧ h = hlN s w j ∧ g = styN s w j) → (∀ x3 x4, am_W2 (d + 3) m_Pr_areReturnsWhole 57 [some (aR 6 0), some (aI (zI (hlN s w w.length))), some (aI (zI (styN s w w.length))), x3, x4] [] (q) Q) → am_W2 (d + 3) m_Pr_areReturnsWhole 6 [some (aR 6 0), some (aI (zI h)), some (aI (zI g)), some (aI (zI k)), x4] [] (q) Q := by
  intro m
  induction m with
  | zero => intro j h g k x4 hm; exact absurd hm (Nat.not_lt_zero _)
  | succ m ih =>
    intro j h g k x4 hm ⟨hj, hj2, hh, hg⟩ K
    subst hj
    have h4 := T.1
    have hpr : qFR q 601 (6, 0) = some (1601, 0) := V.1.2.1 601 _ rfl
    have hlb := hlN_b s w j
    have hsb := styN_b (CV_B V) w j
    refine ar_iload_n rfl rfl ?_
    refine ar_aload_n rfl rfl ?_
    refine ar_gfR rfl rfl rfl (by omega) (hpr) ?_
    refine ar_cv0 rfl rfl rfl (Nat.le_of_ble_eq_true rfl) (cl_szT (d := 0) V T) (by omega) (fun o q11 hq => am_B2_is ?_ hq)
    refine ar_icmp_ge rfl rfl (by omega) (by omega) (fun h14 => ?_) (fun h14 => ?_)
    · have ej : j = w.length := by omega
      rw [hh, hg, ej]
      exact K _ _
    · have hTj := T.2.1 j (by omega)
      have hA := (V.2.2.2.2.1.2.2 (pF w j).toNat (by omega)).1
      have ew : (((pF w j).toNat : Nat) : Int) = pF w j := by omega
      have b29 := (CV_B V).1 29 (pF w j) 0 1 rfl
      have b30 := (CV_B V).1 30 (pF w j) 0 30 rfl
      refine ar_aload_n rfl rfl ?_
      refine ar_gfR rfl rfl rfl (by omega) (hpr) ?_
      refine ar_iload_n rfl rfl ?_
      refine ar_cv1 rfl rfl rfl (Nat.le_of_ble_eq_true rfl) (cl_getT (d := 0) V T rfl (by omega)) (by omega) (fun o q22 hq => am_B2_is ?_ hq)
      refine ar_cast rfl rfl rfl ?_
      refine ar_stA4 rfl ?_
      refine ar_aload rfl rfl ?_
      refine ar_gfIv rfl rfl rfl (by omega) ((hA 309 29 rfl).trans (by rw [ew])) ?_
      refine ar_if_eq rfl rfl (by omega) (fun h35 => ?_) (fun h35 => ?_)
      · refine ar_inc3 rfl ?_
        refine ar_goto rfl rfl ?_
        exact ih (j + 1) _ _ _ _ (by omega) ⟨by omega, by omega, by simp only [hlN]; split <;> omega, by simp only [styN]; split <;> omega⟩ K
      · refine ar_inc1 rfl ?_
        refine ar_iload_n rfl rfl ?_
        refine ar_aload rfl rfl ?_
        refine ar_gfIv rfl rfl rfl (by omega) ((hA 310 30 rfl).trans (by rw [ew])) ?_
        refine ar_cs2 rfl rfl (Nat.le_of_ble_eq_true rfl) (cs_max (d := 0) (by omega) (by omega)) (by omega) (fun o q47 hq => am_B2_is ?_ hq)
        refine ar_stI2 rfl ?_
        refine ar_inc3 rfl ?_
        refine ar_goto rfl rfl ?_
        exact ih (j + 1) _ _ _ _ (by omega) ⟨by omega, by omega, by simp only [hlN]; split <;> omega, by simp only [styN]; split <;> omega⟩ K
theorem cs_returns {d : Nat} {q : am_A} {s : am_Z} (V : am_CV q s) {t i : Nat} {n p am : Int} {f : Int → Int} (H : am_PB q s (t, i) n f p am) {w : am_wP} (T : am_TR q s w) (hok : okP w) (hl : pLen w = n) (h1 : 1 ≤ n) : am_C2 (d + 4) m_Pr_areReturnsWhole [aR 6 0] q (fun o q' => q' = q ∧ ((rtQ s n f w ∧ o = .inl (some (aI (zI 1)))) ∨ (¬ rtQ s n f w ∧ o = .inl (some (aI (zI 0)))))) := by
  refine am_C2_i (ls := [some (aR 6 0), none, none, none, none]) rfl ?_
  obtain ⟨⟨hk, h30, hn⟩, ⟨L, n0, n4⟩, ⟨r605, r606, r607, r608, r610⟩, bp, bam, hop, hr16⟩ := H
  have h4 := T.1
  have hlb := hlN_b s w w.length
  have hsb := styN_b (CV_B V) w w.length
  have hpr : qFR q 601 (6, 0) = some (1601, 0) := V.1.2.1 601 _ rfl
  have hpr2 : qFR q 602 (6, 0) = some (1602, 0) := V.1.2.1 602 _ rfl
  have hr2 : w.length = 2 → 1 ≤ pC w 0 ∧ pC w 0 < n := w2_b hok hl
  refine ar_iconst rfl ?_
  refine ar_stI1 rfl ?_
  refine ar_iconst rfl ?_
  refine ar_stI2 rfl ?_
  refine ar_iconst rfl ?_
  refine ar_stI3 rfl ?_
  refine lp_rw (d := d + 1) (q := q) V T (w.length + 1) 0 0 0 0 _ (by omega) ⟨rfl, by omega, rfl, rfl⟩ (fun x3 x4 => ?_)
  refine ar_iload_n rfl rfl ?_
  refine ar_if_ne rfl rfl (by omega) (fun h58 => ?_) (fun h58 => ?_)
  · have hT0 := T.2.1 0 (by omega)
    have hC0 := (okP_F hok (i := 0) (by omega)).2
    have hCn := w1_b hok hl (by omega)
    refine ar_aload_n rfl rfl ?_
    refine ar_gfR rfl rfl rfl (by omega) (hpr2) ?_
    refine ar_iconst rfl ?_
    refine ar_ia rfl rfl (V.1.2.2.1 1602 4 rfl) (by omega) (by omega) ?_
    rw [show qAI q (1602, 0) (0 : Int).toNat = pC w 0 from hT0.2.1]
    refine ar_stI3 rfl ?_
    refine ar_aload_n rfl rfl ?_
    refine ar_gfR rfl rfl rfl (by omega) (hpr) ?_
    refine ar_cv0 rfl rfl rfl (Nat.le_of_ble_eq_true rfl) (cl_szT (d := 0) V T) (by omega) (fun o q74 hq => am_B2_is ?_ hq)
    refine ar_iconst rfl ?_
    refine ar_icmp_ne rfl rfl (by omega) (by omega) (fun h78 => ?_) (fun h78 => ?_)
    · refine ar_iconst rfl ?_
      exact ar_iret rfl (Or.inr ⟨rfl, by first | omega | (split <;> omega)⟩) (⟨rfl, Or.inr ⟨fun z => by { unfold rtQ at z; rcases z with z | ⟨z1, z2⟩; omega; have := hr2 z1.1; omega }, rfl⟩⟩)
    · refine ar_iload_n rfl rfl ?_
      refine ar_iconst rfl ?_
      refine ar_icmp_ne rfl rfl (by omega) (by omega) (fun h83 => ?_) (fun h83 => ?_)
      · refine ar_iconst rfl ?_
        exact ar_iret rfl (Or.inr ⟨rfl, by first | omega | (split <;> omega)⟩) (⟨rfl, Or.inr ⟨fun z => by { unfold rtQ at z; rcases z with z | ⟨z1, z2⟩; omega; have := hr2 z1.1; omega }, rfl⟩⟩)
      · refine ar_iload_n rfl rfl ?_
        refine ar_iconst rfl ?_
        refine ar_icmp_lt rfl rfl (by omega) (by omega) (fun h88 => ?_) (fun h88 => ?_)
        · refine ar_iconst rfl ?_
          exact ar_iret rfl (Or.inr ⟨rfl, by first | omega | (split <;> omega)⟩) (⟨rfl, Or.inr ⟨fun z => by { unfold rtQ at z; rcases z with z | ⟨z1, z2⟩; omega; have := hr2 z1.1; omega }, rfl⟩⟩)
        · refine ar_iload_n rfl rfl ?_
          refine ar_aload_n rfl rfl ?_
          refine ar_gfR rfl rfl rfl (by omega) (r606) ?_
          refine ar_cv0 rfl hk rfl (Nat.le_of_ble_eq_true rfl) (cl_szL (d := 0) hk h30 hn L) (by omega) (fun o q96 hq => am_B2_is ?_ hq)
          refine ar_icmp_lt rfl rfl (by omega) (by omega) (fun h101 => ?_) (fun h101 => ?_)
          · have hw2 : w.length = 2 := by omega
            have hh2 : hlN s w w.length = 2 := by omega
            have hst := styN_2 (CV_B V) hw2 hh2
            have b300 := (CV_B V).1 30 (pF w 0) 0 30 rfl
            have b301 := (CV_B V).1 30 (pF w 1) 0 30 rfl
            have hr := hr2 hw2
            have hLa := (L.2 ((0 : Int)).toNat (by omega)).2
            rw [show ((((0 : Int)).toNat : Nat) : Int) = (0 : Int) by omega] at hLa
            have hLa1 := hLa.1
            have hLa2 := hLa.2.1
            have hga := V.2.2.2.1.1 _ hLa
            have hFa := V.2.2.1.2.2.1 (f ((0 : Int)) / 100).toNat (by omega)
            have ela : (((f ((0 : Int)) / 100).toNat : Nat) : Int) = f ((0 : Int)) / 100 := by omega
            have b5a := (CV_B V).1 5 (f ((0 : Int)) / 100) 0 5 rfl
            have b6a := (CV_B V).1 6 (f ((0 : Int)) / 100) 0 5 rfl
            have hLb := (L.2 (n - 1).toNat (by omega)).2
            rw [show (((n - 1).toNat : Nat) : Int) = n - 1 by omega] at hLb
            have hLb1 := hLb.1
            have hLb2 := hLb.2.1
            have hgb := V.2.2.2.1.1 _ hLb
            have hFb := V.2.2.1.2.2.1 (f (n - 1) / 100).toNat (by omega)
            have elb : (((f (n - 1) / 100).toNat : Nat) : Int) = f (n - 1) / 100 := by omega
            have b5b := (CV_B V).1 5 (f (n - 1) / 100) 0 5 rfl
            have b6b := (CV_B V).1 6 (f (n - 1) / 100) 0 5 rfl
            refine ar_aload_n rfl rfl ?_
            refine ar_gfR rfl rfl rfl (by omega) (r606) ?_
            refine ar_iconst rfl ?_
            refine ar_cv1 rfl hk rfl (Nat.le_of_ble_eq_true rfl) (cl_getL (d := 0) hk h30 hn L (by omega)) (by omega) (fun o q111 hq => am_B2_is ?_ hq)
            refine ar_cast rfl rfl rfl ?_
            refine ar_gfR rfl rfl rfl (by omega) (hga.2.2.1) ?_
            refine ar_gfIv rfl rfl rfl (by omega) ((hFa.1 402 5 rfl).trans (by rw [ela])) ?_
            refine ar_aload_n rfl rfl ?_
            refine ar_gfR rfl rfl rfl (by omega) (r606) ?_
            refine ar_aload_n rfl rfl ?_
            refine ar_gfR rfl rfl rfl (by omega) (r606) ?_
            refine ar_cv0 rfl hk rfl (Nat.le_of_ble_eq_true rfl) (cl_szL (d := 0) hk h30 hn L) (by omega) (fun o q133 hq => am_B2_is ?_ hq)
            refine ar_iconst rfl ?_
            refine ar_isub rfl ?_
            refine ar_cv1 rfl hk rfl (Nat.le_of_ble_eq_true rfl) (cl_getL (d := 0) hk h30 hn L (by omega)) (by omega) (fun o q140 hq => am_B2_is ?_ hq)
            refine ar_cast rfl rfl rfl ?_
            refine ar_gfR rfl rfl rfl (by omega) (hgb.2.2.1) ?_
            refine ar_gfIv rfl rfl rfl (by omega) ((hFb.1 403 6 rfl).trans (by rw [elb])) ?_
            refine ar_icmp_ne rfl rfl (by omega) (by omega) (fun h154 => ?_) (fun h154 => ?_)
            · refine ar_iconst rfl ?_
              exact ar_iret rfl (Or.inr ⟨rfl, by first | omega | (split <;> omega)⟩) (⟨rfl, Or.inr ⟨fun z => by { unfold rtQ at z; omega }, rfl⟩⟩)
            · have eh : hAh s n f (pC w 0) = dep s (f (pC w 0)) - arv s (f (pC w 0 - 1)) := if_pos ⟨by omega, by omega⟩
              have hh := hAh_b (CV_B V) L (pC w 0)
              refine ar_aload_n rfl rfl ?_
              refine ar_gfR rfl rfl rfl (by omega) (r606) ?_
              refine ar_iload_n rfl rfl ?_
              refine ar_cs2 rfl rfl (Nat.le_of_ble_eq_true rfl) (cs_hoursAhead (d := 0) V hk h30 hn L ⟨n0, n4⟩ (by omega)) (by omega) (fun o q162 hq => am_B2_is ?_ hq)
              refine ar_bipush (x := 24) rfl rfl ?_
              refine ar_iload_n rfl rfl ?_
              refine ar_imul rfl ?_
              refine ar_icmp_lt rfl rfl (by omega) (by omega) (fun h169 => ?_) (fun h169 => ?_)
              · refine ar_iconst rfl ?_
                exact ar_iret rfl (Or.inr ⟨rfl, by first | omega | (split <;> omega)⟩) (⟨rfl, Or.inr ⟨fun z => by { unfold rtQ at z; omega }, rfl⟩⟩)
              · refine ar_iconst rfl ?_
                refine ar_goto rfl rfl ?_
                exact ar_iret rfl (Or.inr ⟨rfl, by first | omega | (split <;> omega)⟩) (⟨rfl, Or.inl ⟨Or.inr ⟨⟨hw2, by omega⟩, h154, by omega, by omega⟩, rfl⟩⟩)
          · refine ar_iconst rfl ?_
            exact ar_iret rfl (Or.inr ⟨rfl, by first | omega | (split <;> omega)⟩) (⟨rfl, Or.inr ⟨fun z => by { unfold rtQ at z; rcases z with z | ⟨z1, z2⟩; omega; have := hr2 z1.1; omega }, rfl⟩⟩)
  · refine ar_iconst rfl ?_
    exact ar_iret rfl (Or.inr ⟨rfl, by first | omega | (split <;> omega)⟩) (⟨rfl, Or.inl ⟨Or.inl (by omega), rfl⟩⟩)
end

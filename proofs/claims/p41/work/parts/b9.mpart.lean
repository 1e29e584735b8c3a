noncomputable section
theorem sumI_2 {f g h : Int → Int} {a c : Int} : ∀ n : Nat, (∀ k : Nat, k < n → f (a + k) + g (c + k) = h (a + k)) → sumI a n f + sumI c n g = sumI a n h
  | 0, _ => rfl
  | n + 1, e => by
    have ih := sumI_2 (f := f) (g := g) (h := h) (a := a) (c := c) n (fun k hk => e k (by omega))
    have z := e n (by omega)
    rw [sumI_s, sumI_s, sumI_s]
    omega
section PRT2
variable {s : am_Z} {b n : Int}
/-- the class's state behind part -/
abbrev parS (s : am_Z) (b n : Int) : am_Z := wA (partP s b n) 45 b (rA s 45 b - n)
theorem par_I {j : Nat} (h : j ≠ 44) : rI (parS s b n) j = rI s j := if_neg h
theorem par_44 : rI (parS s b n) 44 = rI s 44 + 1 := rfl
theorem par_lo {j : Nat} {x : Int} (h : j < 45 ∨ 60 < j) : rA (parS s b n) j x = rA s j x := (wA_ne (by omega)).trans (paP_o (by omega) (by omega) (by omega))
/-- where each booking's things come from -/
theorem par_src (hb : 0 ≤ b ∧ b < rI s 44) (c : Int) (hc : 0 ≤ c ∧ c < rI s 44 + 1) : ∃ a : Int, (0 ≤ a ∧ a < rI s 44) ∧ (c = rI s 44 → a = b) ∧ (c ≠ rI s 44 → a = c) ∧ (∀ j, 46 ≤ j ∧ j ≤ 52 → rA (parS s b n) j c = rA s j a) ∧ (∀ (j : Nat) (k : Int), 53 ≤ j ∧ j ≤ 58 → 0 ≤ k ∧ k < 10 → rA (parS s b n) j (10 * c + k) = rA s j (10 * a + k)) ∧ (∀ (j : Nat) (k : Int), 59 ≤ j ∧ j ≤ 60 → 0 ≤ k ∧ k < 4 → rA (parS s b n) j (4 * c + k) = rA s j (4 * a + k)) := by
  by_cases e : c = rI s 44
  · refine ⟨b, hb, fun _ => rfl, fun z => absurd e z, fun j h => ?_, fun j k h h2 => ?_, fun j k h h2 => ?_⟩
    · rw [e]; exact (wA_ne (by omega)).trans (paP_b h)
    · rw [e]; exact (wA_ne (by omega)).trans (paP_c h h2)
    · rw [e]; exact (wA_ne (by omega)).trans (paP_d h h2)
  · refine ⟨c, ⟨hc.1, by omega⟩, fun z => absurd z e, fun _ => rfl, fun j h => ?_, fun j k h h2 => ?_, fun j k h h2 => ?_⟩
    · exact (wA_ne (by omega)).trans (paP_o (by omega) (by omega) (by omega))
    · exact (wA_ne (by omega)).trans (paP_o (by omega) (by omega) (by omega))
    · exact (wA_ne (by omega)).trans (paP_o (by omega) (by omega) (by omega))
theorem par_45 (hb : b < rI s 44) : rA (parS s b n) 45 b = rA s 45 b - n ∧ rA (parS s b n) 45 (rI s 44) = n ∧ ∀ c, c ≠ b → c ≠ rI s 44 → rA (parS s b n) 45 c = rA s 45 c := by
  refine ⟨if_pos ⟨rfl, rfl⟩, ?_, fun c h1 h2 => ?_⟩
  · rw [wA_A, if_neg (fun z => by have := z.2; omega)]
    exact paP_45
  · rw [wA_A, if_neg (fun z => h1 z.2)]
    exact paP_o (by omega) (by omega) (by omega)
theorem par_prt (hb : b < rI s 44) (j : Nat) (x : Int) : rA (parS s b n) j x = rA (prtS s b n) j x := (prt_A hb j x).symm
theorem par_fB (h52 : h52P s) (hb : 0 ≤ b ∧ b < rI s 44) (u : am_U) : (∀ c : Int, 0 ≤ c → c < rI s 44 → c ≠ b → fB (parS s b n) u c = fB s u c) ∧ fB (parS s b n) u b + fB (parS s b n) u (rI s 44) = fB s u b := by
  have q45 := par_45 (s := s) (b := b) (n := n) hb.2
  have c52 := h52 b
  refine ⟨fun c c1 c2 c3 => ?_, ?_⟩
  · have d52 := h52 c
    obtain ⟨a, _, _, a3, a4, a5, _⟩ := par_src (n := n) hb c ⟨c1, by omega⟩
    rw [a3 (by omega)] at a4 a5
    unfold fB
    rw [a4 52 (by omega)]
    refine sumI_c (fun x x1 x2 => ?_)
    have z := fun j hj => a5 j (x - 10 * c) hj (by omega)
    rw [show 10 * c + (x - 10 * c) = x by omega] at z
    unfold fw
    rw [z 55 (by omega), z 53 (by omega), z 57 (by omega), a4 46 (by omega), a4 50 (by omega), q45.2.2 c c3 (by omega)]
  · obtain ⟨a, _, _, a3, a4, a5, _⟩ := par_src (n := n) hb b ⟨hb.1, by omega⟩
    rw [a3 (by omega)] at a4 a5
    obtain ⟨d, _, d2, _, d4, d5, _⟩ := par_src (n := n) hb (rI s 44) ⟨by omega, by omega⟩
    rw [d2 rfl] at d4 d5
    unfold fB
    rw [a4 52 (by omega), d4 52 (by omega)]
    refine sumI_2 _ (fun k hk => ?_)
    unfold fw
    rw [a5 55 k (by omega) (by omega), a5 53 k (by omega) (by omega), a5 57 k (by omega) (by omega), d5 55 k (by omega) (by omega), d5 53 k (by omega) (by omega), d5 57 k (by omega) (by omega), a4 46 (by omega), a4 50 (by omega), d4 46 (by omega), d4 50 (by omega), q45.1, q45.2.1]
    by_cases h : rA s 55 (10 * b + k) = 2
    · rw [if_pos h, if_pos h, if_pos h, Int.sub_mul]
      omega
    · rw [if_neg h, if_neg h, if_neg h]
      rfl
theorem par_fF (h52 : h52P s) (hb : 0 ≤ b ∧ b < rI s 44) (u : am_U) : fF (parS s b n) u = fF s u := by
  obtain ⟨z1, z2⟩ := par_fB (n := n) h52 hb u
  unfold fF
  rw [par_44, show (rI s 44 + 1).toNat = (rI s 44).toNat + 1 by omega, sumI_s, show (0 : Int) + ((rI s 44).toNat : Int) = rI s 44 by omega]
  have e := sumI_upd (a := 0) (n := (rI s 44).toNat) (f := fun c => if 0 ≤ c ∧ c < rI s 44 then fB s u c else 0) (g := fun c => if 0 ≤ c ∧ c < rI s 44 then fB (parS s b n) u c else 0) (i0 := b) (by omega) (fun i hi => by
    by_cases y : 0 ≤ i ∧ i < rI s 44
    · show (if 0 ≤ i ∧ i < rI s 44 then _ else (0 : Int)) = if 0 ≤ i ∧ i < rI s 44 then _ else 0
      rw [if_pos y, if_pos y, z1 i y.1 y.2 hi]
    · show (if 0 ≤ i ∧ i < rI s 44 then _ else (0 : Int)) = if 0 ≤ i ∧ i < rI s 44 then _ else 0
      rw [if_neg y, if_neg y])
  have e1 : sumI 0 (rI s 44).toNat (fB (parS s b n) u) = sumI 0 (rI s 44).toNat (fun c => if 0 ≤ c ∧ c < rI s 44 then fB (parS s b n) u c else 0) := sumI_c (fun i i1 i2 => (if_pos ⟨i1, by omega⟩).symm)
  have e2 : sumI 0 (rI s 44).toNat (fB s u) = sumI 0 (rI s 44).toNat (fun c => if 0 ≤ c ∧ c < rI s 44 then fB s u c else 0) := sumI_c (fun i i1 i2 => (if_pos ⟨i1, by omega⟩).symm)
  have e3 : (if 0 ≤ b ∧ b < rI s 44 then fB s u b else 0) = fB s u b := if_pos hb
  have e4 : (if 0 ≤ b ∧ b < rI s 44 then fB (parS s b n) u b else 0) = fB (parS s b n) u b := if_pos hb
  rw [e1, e2, e]
  omega
theorem JJ_part (J : am_JJ s) (B : in_S s) (hk : kPart s b n = 0) : am_JJ (parS s b n) := by
  have h52 : h52P s := fun x => B.1 52 x 0 10 rfl
  have hb := (prt_k hk).1
  obtain ⟨jb, js, jw, jl⟩ := J.2.1
  have I2 := (INV_part J.1 B hk).1
  have lo : ∀ j x, (j < 45 ∨ 60 < j) → rA (parS s b n) j x = rA s j x := fun j x h => par_lo h
  refine ⟨INV_cg I2 (fun j x _ => par_prt hb.2 j x) (fun j h => ?_), ⟨fun c h1 h2 => ?_, ⟨fun i h1 h2 => ?_, fun i h1 h2 => ?_⟩, fun w h1 h2 => ?_, jl_cg jl (fun j x h => lo j x (by omega)) (par_I (by omega)) (par_I (by omega)) (by rw [par_I (by omega)]; exact Int.le_refl _)⟩, fun x hx => ?_⟩
  · by_cases e : j = 44
    · rw [e, (prt_I (j := 0) (by omega)).2]
      rfl
    · rw [par_I e, (prt_I ⟨e, by unfold ivI at h; omega⟩).1]
  · rw [par_44] at h2
    obtain ⟨a, a1, _, _, a4, a5, a6⟩ := par_src (n := n) hb c ⟨h1, h2⟩
    obtain ⟨⟨x1, x2, x3⟩, y, z⟩ := jb a a1.1 a1.2
    have d52 := h52 a
    have z0 := a5 53 0 (by omega) (by omega)
    rw [Int.add_zero, Int.add_zero] at z0
    refine ⟨⟨by rw [a4 52 (by omega)]; exact x1, by rw [a4 46 (by omega)]; exact x2, by rw [a4 50 (by omega), z0, lo 4 _ (by omega)]; exact x3⟩, ?_, fun k k1 k2 => ?_⟩
    · rw [a4 52 (by omega), sumI_h (g := rA s 57) (c := 10 * a) _ (fun k hk => a5 57 k (by omega) (by omega)), sumI_h (f := rA (parS s b n) 59) (g := rA s 59) (c := 4 * a) 4 (fun k hk => a6 59 k (by omega) (by omega))]
      exact y
    · rw [a4 52 (by omega)] at k2
      rw [a5 53 k (by omega) (by omega), a5 55 k (by omega) (by omega), a5 57 k (by omega) (by omega), a4 47 (by omega), par_I (by omega)]
      exact z k k1 k2
  · rw [lo 70 _ (by omega), js.1 i h1 h2, par_fF h52 hb, show rA (parS s b n) 4 = rA s 4 from funext (fun x => lo 4 x (by omega))]
  · rw [lo 69 _ (by omega), js.2 i h1 h2, par_fF h52 hb, show rA (parS s b n) 8 = rA s 8 from funext (fun x => lo 8 x (by omega))]
  · rw [par_I (by omega)] at h2
    have z := jw w h1 h2
    rw [lo 63 _ (by omega), lo 66 _ (by omega), par_44]
    refine ⟨z.1, z.2.imp id (fun y => ⟨y.1, by omega, ?_⟩)⟩
    obtain ⟨a, _, _, a3, a4, _⟩ := par_src (n := n) hb (rA s 66 w) ⟨y.1, by omega⟩
    rw [a4 46 (by omega), a3 (by omega)]
    exact y.2.2
  · have e : ∀ j, 53 ≤ j ∧ j ≤ 58 → rA (parS s b n) j x = if 10 * rI s 44 ≤ x ∧ x < 10 * rI s 44 + 10 then rA s j (x - 10 * rI s 44 + 10 * b) else rA s j x := fun j hj => by
      rw [wA_ne (by omega), paP_A, if_neg (by omega), if_neg (by omega)]
      by_cases y : 10 * rI s 44 ≤ x ∧ x < 10 * rI s 44 + 10
      · rw [if_pos ⟨hj, y⟩, if_pos y]
      · rw [if_neg (fun z => y z.2), if_neg y, if_neg (by omega)]
    rw [e 55 (by omega)] at hx
    rw [e 53 (by omega), par_I (by omega)]
    have g : ∀ l, goneP s l → goneP (parS s b n) l := fun l z => gone_m (fun j x h => lo j x (by omega)) (by rw [par_I (by omega)]; exact Int.le_refl _) z
    by_cases y : 10 * rI s 44 ≤ x ∧ x < 10 * rI s 44 + 10
    · rw [if_pos y] at hx ⊢
      have z := J.2.2 _ hx
      exact ⟨z.1, g _ z.2⟩
    · rw [if_neg y] at hx ⊢
      have z := J.2.2 _ hx
      exact ⟨z.1, g _ z.2⟩
end PRT2
end

noncomputable section
/-- the reference's half-made booking N, in the class's heap: m coupons -/
def am_HB (e : Nat) (q : am_A) (N m : Nat) (q1 : am_A) (s Z : am_Z) : Prop := am_NB e q N m q1 ∧ (∀ f j, fBk f = some j → qFI q1 f (0, N) = rA Z j (N : Int)) ∧ (∀ k : Int, 0 ≤ k → k < 4 → qAI q1 (1004, N) k.toNat = rA Z 59 (4 * N + k) ∧ qAI q1 (1004, N) k.toNat * qAI q1 (1005, N) k.toNat / 100 = rA Z 60 (4 * N + k) ∧ (0 ≤ qAI q1 (1005, N) k.toNat ∧ qAI q1 (1005, N) k.toNat ≤ 100)) ∧ (∀ k : Nat, k < m → qFR q1 100 (1, qCN q 1 + k) = some (5, lId q1 (rA Z 53 (10 * N + k))) ∧ legP s (rA Z 53 (10 * N + k)) ∧ ∀ f j, fCp f = some j → qFI q1 f (1, qCN q 1 + k) = rA Z j (10 * N + k))
/-- the rest is as it was -/
def am_ZU (s Z : am_Z) : Prop := ∀ j x, (j < 45 ∨ 60 < j) → rA Z j x = rA s j x
theorem fBk_49 : am_all fBk (fun _ j => j ≠ 49) := (am_nd_ok (am_nd_ok (am_lf_ok (by decide)) (am_nd_ok (am_lf_ok (by decide)) (am_lf_ok (by decide)))) (am_nd_ok (am_lf_ok (by decide)) (am_nd_ok (am_lf_ok (by decide)) (am_lf_ok (by decide)))))
section HBG
variable {e N m : Nat} {q q1 : am_A} {s Z Z2 : am_Z} {p mb sl un hh : Int} {n : Int} {f : Int → Int}
theorem HB_0 (I : am_CI e q s) (hN : N = (rI s 44).toNat) (hv : ∀ i, 4 * rI s 44 ≤ i → rA s 59 i = 0 ∧ rA s 60 i = 0) (hsl : sl = rA s 4 (rA s 36 0 / 100)) (hun : un = rI s 0 + hh) : am_HB e q N 0 (bkH q N p mb sl un) s (bk0 s (rI s 44) p mb hh) := by
  have b44 := (CV_B I.1).2.1 44 0 40 rfl
  have eN : ((N : Nat) : Int) = rI s 44 := by omega
  have e0 : qCN q 0 = N := by have := I.2.1.1.1; omega
  have e4 : qCN q 1004 = N := by have := I.2.1.1.2.2.1; omega
  have e5 : qCN q 1005 = N := by have := I.2.1.1.2.2.2; omega
  have a4 : ∀ k, qAI (bkH q N p mb sl un) (1004, N) k = 0 := fun k => by
    rw [bkH_a, e4, e5, if_neg (fun z => by cases z), if_pos rfl]
  have a5 : ∀ k, qAI (bkH q N p mb sl un) (1005, N) k = 0 := fun k => by
    rw [bkH_a, e5, if_pos rfl]
  refine ⟨NB_0 I hN, ?_, fun k h1 h2 => ?_, fun k hk => absurd hk (Nat.not_lt_zero k)⟩
  · have t45 : rA (bk0 s (rI s 44) p mb hh) 45 (N : Int) = p := by
      rw [eN]; unfold bk0
      simp [wA_A]
    have t46 : rA (bk0 s (rI s 44) p mb hh) 46 (N : Int) = mb := by
      rw [eN]; unfold bk0
      simp [wA_A]
    have t47 : rA (bk0 s (rI s 44) p mb hh) 47 (N : Int) = 0 := by
      rw [eN]; unfold bk0
      simp [wA_A]
    have t48 : rA (bk0 s (rI s 44) p mb hh) 48 (N : Int) = un := by
      rw [eN, hun]; unfold bk0
      simp [wA_A]
    have t50 : rA (bk0 s (rI s 44) p mb hh) 50 (N : Int) = sl := by
      rw [eN, hsl]; unfold bk0
      simp [wA_A]
    have t51 : rA (bk0 s (rI s 44) p mb hh) 51 (N : Int) = 0 := by
      rw [eN]; unfold bk0
      simp [wA_A]
    exact ((am_nd_ok (am_nd_ok (am_lf_ok (by rw [bkH_I e0, t46]; rfl)) (am_nd_ok (am_lf_ok (by rw [bkH_I e0, t50]; rfl)) (am_lf_ok (by rw [bkH_I e0, t48]; rfl)))) (am_nd_ok (am_lf_ok (by rw [bkH_I e0, t45]; rfl)) (am_nd_ok (am_lf_ok (by rw [bkH_I e0, t47]; rfl)) (am_lf_ok (by rw [bkH_I e0, t51]; rfl))))) : am_all fBk (fun f j => qFI (bkH q N p mb sl un) f (0, N) = rA (bk0 s (rI s 44) p mb hh) j (N : Int)))
  · have z := hv (4 * N + k) (by omega)
    rw [a4, a5, bk0_39 59 _ (by omega), bk0_39 60 _ (by omega), z.1, z.2]
    exact ⟨rfl, by omega, by omega, by omega⟩
theorem bkS_59 {b t k : Int} : rA (bkS Z b t) 59 (4 * b + k) = (if k = t then rA Z 25 (rA Z 40 t) else rA Z 59 (4 * b + k)) ∧ rA (bkS Z b t) 60 (4 * b + k) = (if k = t then rA Z 25 (rA Z 40 t) * rA Z 32 (rA Z 40 t) / 100 else rA Z 60 (4 * b + k)) := by
  unfold bkS
  refine ⟨?_, ?_⟩
  · rw [wA_A, if_neg (fun z => by have := z.1; omega), wA_A]
    by_cases h : k = t
    · rw [if_pos ⟨rfl, by omega⟩, if_pos h]
    · rw [if_neg (fun z => by have := z.2; omega), if_neg h]
  · rw [wA_A]
    by_cases h : k = t
    · rw [if_pos ⟨rfl, by omega⟩, if_pos h]
    · rw [if_neg (fun z => by have := z.2; omega), if_neg h, wA_A, if_neg (fun z => by have := z.1; omega)]
theorem bkS_o {b t : Int} {j : Nat} {x : Int} (h : j ≠ 59 ∧ j ≠ 60) : rA (bkS Z b t) j x = rA Z j x := by
  unfold bkS
  rw [wA_A, if_neg (fun z => h.2 z.1), wA_A, if_neg (fun z => h.1 z.1)]
theorem HB_S {t : Nat} (H : am_HB e q N m q1 s Z) (ht : t < 4) (B : in_S s) (U : am_ZU s Z) {a c : Int} (ha : a = rA Z 25 (rA Z 40 t)) (hc : c = rA Z 32 (rA Z 40 t)) : am_HB e q N m (uAI (uAI q1 (1004, N) t a) (1005, N) t c) s (bkS Z N t) := by
  obtain ⟨h1, h2, h3, h4⟩ := H
  have a4 : ∀ k, qAI (uAI (uAI q1 (1004, N) t a) (1005, N) t c) (1004, N) k = if k = t then a else qAI q1 (1004, N) k := fun k => by
    show (if (((1004, N)) : am_R) = (1005, N) ∧ k = t then c else if (((1004, N)) : am_R) = (1004, N) ∧ k = t then a else qAI q1 (1004, N) k) = _
    rw [if_neg (fun z => by cases z.1)]
    by_cases ek : k = t
    · rw [if_pos ⟨rfl, ek⟩, if_pos ek]
    · rw [if_neg (fun z => ek z.2), if_neg ek]
  have a5 : ∀ k, qAI (uAI (uAI q1 (1004, N) t a) (1005, N) t c) (1005, N) k = if k = t then c else qAI q1 (1005, N) k := fun k => by
    show (if (((1005, N)) : am_R) = (1005, N) ∧ k = t then c else if (((1005, N)) : am_R) = (1004, N) ∧ k = t then a else qAI q1 (1005, N) k) = _
    by_cases ek : k = t
    · rw [if_pos ⟨rfl, ek⟩, if_pos ek]
    · rw [if_neg (fun z => ek z.2), if_neg (fun z => ek z.2), if_neg ek]
  have bc : 0 ≤ c ∧ c ≤ 100 := by
    rw [hc, U 32 _ (by omega)]
    exact B.1 32 _ 0 100 rfl
  refine ⟨NB_AI (NB_AI h1 (Or.inl rfl)) (Or.inr rfl), fun f j hf => ?_, fun k z1 z2 => ?_, fun k hk => ?_⟩
  · have hj := fBk_r2 f j hf
    rw [bkS_o (by omega)]
    exact h2 f j hf
  · have z := bkS_59 (Z := Z) (b := N) (t := t) (k := k)
    rw [a4, a5, z.1, z.2]
    by_cases ek : k = t
    · rw [if_pos ek, if_pos ek, if_pos (by omega), if_pos (by omega), ← ha, ← hc]
      exact ⟨rfl, rfl, bc⟩
    · rw [if_neg ek, if_neg ek, if_neg (by omega), if_neg (by omega)]
      exact h3 k z1 z2
  · have z := h4 k hk
    rw [bkS_o (by omega)]
    exact ⟨z.1, z.2.1, fun f j hf => by have hj := fCp_r2 f j hf; rw [bkS_o (by omega)]; exact z.2.2 f j hf⟩
/-- one coupon more -/
theorem HB_C {l bk st sh tx : Int} (H : am_HB e q N m q1 s Z) (hN4 : N < 40) (hm : m < 10) (hl : legP s l) (g1 : ∀ j, 45 ≤ j → j ≤ 52 → j ≠ 49 → rA Z2 j (N : Int) = rA Z j (N : Int)) (g2 : ∀ j x, j = 59 ∨ j = 60 → rA Z2 j x = rA Z j x) (g3 : ∀ j (k : Nat), 53 ≤ j → j ≤ 58 → k < m → rA Z2 j (10 * N + k) = rA Z j (10 * N + k)) (v : rA Z2 53 (10 * N + m) = l ∧ rA Z2 54 (10 * N + m) = bk ∧ rA Z2 55 (10 * N + m) = 0 ∧ rA Z2 56 (10 * N + m) = st ∧ rA Z2 57 (10 * N + m) = sh ∧ rA Z2 58 (10 * N + m) = tx)
    (hc : (qLS (cpH q1 (some (5, lId q1 l)) bk st sh tx) (1003, N)).length ≤ qCP (cpH q1 (some (5, lId q1 l)) bk st sh tx) (1003, N)) : am_HB e q N (m + 1) (qAdd (cpH q1 (some (5, lId q1 l)) bk st sh tx) (1003, N) (1, qCN q1 1)) s Z2 := by
  obtain ⟨h1, h2, h3, h4⟩ := H
  have G : am_GD (fun t i => t = 1 ∧ i = qCN q1 1) q1 (cpH q1 (some (5, lId q1 l)) bk st sh tx) := cpH_G
  have hc1 := h1.2.2.2.1
  have G2 : am_GD (fun t i => (t = 1 ∧ i = qCN q1 1) ∨ t = 1003) q1 (qAdd (cpH q1 (some (5, lId q1 l)) bk st sh tx) (1003, N) (1, qCN q1 1)) := GD_Add (GD_w G (fun t i z => Or.inl z)) (Or.inr rfl)
  have hI : ∀ x, lId (qAdd (cpH q1 (some (5, lId q1 l)) bk st sh tx) (1003, N) (1, qCN q1 1)) x = lId q1 x := fun x => lId_cg (fun i k => (G2 1408 i (by omega)).2.2.2.1 k)
  refine ⟨NB_C h1 hN4 hm G (fun t => cpH_cn) (cpH_RM h1.2.2.2.2.2.2.2.2.1) cpH_CG hc, fun f j hf => ?_, fun k z1 z2 => ?_, fun k hk => ?_⟩
  · have hj := fBk_r2 f j hf
    have hj49 := fBk_49 f j hf
    rw [(G2 0 N (by omega)).1 f, g1 j (by omega) (by omega) hj49]
    exact h2 f j hf
  · rw [(G2 1004 N (by omega)).2.2.1, (G2 1005 N (by omega)).2.2.1, g2 59 _ (Or.inl rfl), g2 60 _ (Or.inr rfl)]
    exact h3 k z1 z2
  · rw [hI]
    by_cases ek : k = m
    · subst ek
      obtain ⟨v1, v2, v3, v4, v5, v6⟩ := v
      rw [← hc1, qAdd_FR, qAdd_FI, cpH_R, v1]
      exact ⟨rfl, hl, ((am_nd_ok (am_nd_ok (am_lf_ok (by rw [cpH_I, v2]; rfl)) (am_lf_ok (by rw [cpH_I, v4]; rfl))) (am_nd_ok (am_lf_ok (by rw [cpH_I, v5]; rfl)) (am_nd_ok (am_lf_ok (by rw [cpH_I, v6]; rfl)) (am_lf_ok (by rw [cpH_I, v3]; rfl))))) : am_all fCp (fun f j => qFI (cpH q1 (some (5, lId q1 l)) bk st sh tx) f (1, qCN q1 1) = rA Z2 j (10 * N + k)))⟩
    · have g := G2 1 (qCN q 1 + k) (by omega)
      have z := h4 k (by omega)
      rw [g3 53 k (by omega) (by omega) (by omega), g.2.1 100]
      exact ⟨z.1, z.2.1, fun f j hf => by have hj := fCp_r2 f j hf; rw [g.1 f, g3 j k (by omega) (by omega) (by omega)]; exact z.2.2 f j hf⟩
end HBG
end

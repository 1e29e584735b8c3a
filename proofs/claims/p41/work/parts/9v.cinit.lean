noncomputable section
abbrev ixC (f : Nat) : Nat := if f < 700 then 6 else 8
abbrev ixT (f : Nat) : Nat := if f = 805 then 6 else if f = 810 then 2 else 1000 + f
/-- what of a new FareLattice is made -/
def am_IX (q0 q : am_A) (dn : Nat → Bool) (e l : Nat) : Prop :=
  (∀ f, dn f = true → 600 ≤ f → f < 900 → qFR q f (ixC f, 0) = some (ixT f, 0)) ∧
  (∀ f n, dn f = true → 600 ≤ f → f < 900 → cLen (1000 + f) = some n → qAL q (1000 + f, 0) = n ∧ ∀ i, qAI q (1000 + f, 0) i = 0) ∧
  (∀ f, dn f = true → 600 ≤ f → f < 900 → cLst (1000 + f) = some () → qLS q (1000 + f, 0) = [] ∧ qCP q (1000 + f, 0) = 0 ∧ 0 < qCN q (1000 + f)) ∧
  (∀ t, (t < 600 ∨ 900 ≤ t) → t ≠ 8 → (t = 2 ∨ t = 6 → dn t = false) → (1600 ≤ t → t < 1900 → dn (t - 1000) = false) → qCN q t = qCN q0 t) ∧
  (∀ f, qFI q f (8, 0) = 0) ∧ am_CY q0 q ∧ qCE q ≤ qCE q0 + e ∧ qSL q ≤ qSL q0 + l ∧ (∀ r : am_R, (r.1 = 1003 ∨ r.1 = 1702) → qCP q r = qCP q0 r) ∧ (∀ t, 1600 ≤ t → t < 1900 → qCN q0 t = 0) ∧ (qCN q0 2 = 0 ∧ qCN q0 6 = 0) ∧ (∀ j, qFI q 106 (1, j) = qFI q0 106 (1, j))
theorem ix_or {dn : Nat → Bool} {f x : Nat} (h : (dn x || Nat.beq x f) = true) : dn x = true ∨ x = f := by
  cases hd : dn x
  · rw [hd] at h
    exact Or.inr (Nat.eq_of_beq_eq_true h)
  · exact Or.inl rfl
theorem ix_no {dn : Nat → Bool} {f x : Nat} (h : (dn x || Nat.beq x f) = false) : dn x = false ∧ x ≠ f := by
  cases hd : dn x
  · rw [hd] at h
    exact ⟨rfl, fun z => by rw [z, Nat.beq_refl] at h; cases h⟩
  · rw [hd] at h
    cases h
section IXS
variable {q0 q : am_A} {dn : Nat → Bool} {e l : Nat}
theorem IX_cn (H : am_IX q0 q dn e l) {f : Nat} (hd : dn f = false) (h6 : 600 ≤ f) (h9 : f < 900) : qCN q (1000 + f) = 0 := by
  rw [H.2.2.2.1 (1000 + f) (by omega) (by omega) (by omega) (fun _ _ => by rw [show 1000 + f - 1000 = f by omega]; exact hd)]
  exact H.2.2.2.2.2.2.2.2.2.1 _ (by omega) (by omega)
theorem IX_A (H : am_IX q0 q dn e l) {f n : Nat} (hd : dn f = false) (h6 : 600 ≤ f) (h9 : f < 900) (h5 : f ≠ 805 ∧ f ≠ 810) (hn : cLen (1000 + f) = some n) (hl : cLst (1000 + f) = none) : am_IX q0 (uFR (uNA q (1000 + f) n) f (ixC f, 0) (some (1000 + f, qCN q (1000 + f)))) (fun x => dn x || Nat.beq x f) (e + 1) (l + n) := by
  have hc := IX_cn H hd h6 h9
  obtain ⟨a1, a2, a3, a4, a5, a6, a7, a8, a9, a10, a11, a12⟩ := H
  have hne : ∀ x, x ≠ f → (((1000 + x, 0)) : am_R) ≠ (1000 + f, qCN q (1000 + f)) := fun x hx z => hx (by have := congrArg Prod.fst z; simp only at this; omega)
  refine ⟨fun x hx x1 x2 => ?_, fun x m hx x1 x2 hm => ?_, fun x hx x1 x2 hm => ?_, fun t t1 t2 t3 t4 => ?_, fun f' => a5 f', CY_FR (CY_NA a6 (by show cK (1000 + f); omega)) (by show cK (ixC f); unfold ixC; split <;> omega), by show qCE q + 1 ≤ _; omega, by show qSL q + n ≤ _; omega, a9, a10, a11, a12⟩
  · show am_u2 (qFR q) f (ixC f, 0) (some (1000 + f, qCN q (1000 + f))) x (ixC x, 0) = _
    by_cases ex : x = f
    · subst ex
      rw [hc]
      exact (if_pos ⟨rfl, rfl⟩).trans (by unfold ixT; rw [if_neg h5.1, if_neg h5.2])
    · exact (if_neg (fun z => ex z.1)).trans (a1 x ((ix_or hx).elim id (fun z => absurd z ex)) x1 x2)
  · by_cases ex : x = f
    · subst ex
      have em : n = m := Option.some.inj (hn.symm.trans hm)
      refine ⟨(if_pos (by rw [hc])).trans em, fun i => ?_⟩
      show (if (((1000 + x, 0)) : am_R) = (1000 + x, qCN q (1000 + x)) then (fun _ => (0 : Int)) else qAI q (1000 + x, 0)) i = 0
      rw [if_pos (by rw [hc])]
    · have z := a2 x m ((ix_or hx).elim id (fun z => absurd z ex)) x1 x2 hm
      refine ⟨(if_neg (hne x ex)).trans z.1, fun i => ?_⟩
      show (if (((1000 + x, 0)) : am_R) = (1000 + f, qCN q (1000 + f)) then (fun _ => (0 : Int)) else qAI q (1000 + x, 0)) i = 0
      rw [if_neg (hne x ex)]
      exact z.2 i
  · by_cases ex : x = f
    · subst ex
      rw [hl] at hm
      cases hm
    · have z := a3 x ((ix_or hx).elim id (fun z => absurd z ex)) x1 x2 hm
      refine ⟨z.1, z.2.1, ?_⟩
      show 0 < am_u1 (qCN q) (1000 + f) (qCN q (1000 + f) + 1) (1000 + x)
      rw [show am_u1 (qCN q) (1000 + f) (qCN q (1000 + f) + 1) (1000 + x) = qCN q (1000 + x) from if_neg (by omega)]
      exact z.2.2
  · have hx : t ≠ 1000 + f := fun z => by
      have := (ix_no (t4 (by omega) (by omega))).2
      omega
    exact (if_neg hx).trans (a4 t t1 t2 (fun z => (ix_no (t3 z)).1) (fun z y => (ix_no (t4 z y)).1))
theorem IX_L (H : am_IX q0 q dn e l) {f : Nat} (hd : dn f = false) (h6 : 600 ≤ f) (h9 : f < 900) (h5 : f ≠ 805 ∧ f ≠ 810) (h7 : f ≠ 702) (hn : cLen (1000 + f) = none) : am_IX q0 (uFR (uNL q (1000 + f)) f (ixC f, 0) (some (1000 + f, qCN q (1000 + f)))) (fun x => dn x || Nat.beq x f) (e + 1) (l + 3) := by
  have hc := IX_cn H hd h6 h9
  obtain ⟨a1, a2, a3, a4, a5, a6, a7, a8, a9, a10, a11, a12⟩ := H
  have hne : ∀ x, x ≠ f → (((1000 + x, 0)) : am_R) ≠ (1000 + f, qCN q (1000 + f)) := fun x hx z => hx (by have := congrArg Prod.fst z; simp only at this; omega)
  refine ⟨fun x hx x1 x2 => ?_, fun x m hx x1 x2 hm => ?_, fun x hx x1 x2 hm => ?_, fun t t1 t2 t3 t4 => ?_, fun f' => (if_neg (fun z => by have := congrArg Prod.fst z; simp only at this; omega)).trans (a5 f'), CY_FR (CY_NL a6 (by show cK (1000 + f); omega)) (by show cK (ixC f); unfold ixC; split <;> omega), by show qCE q + 1 ≤ _; omega, by show qSL q + 3 ≤ _; omega, fun r hr => (if_neg (fun z => by rw [z] at hr; simp only at hr; omega)).trans (a9 r hr), a10, a11, fun j => (if_neg (fun z => by have := congrArg Prod.fst z; simp only at this; omega)).trans (a12 j)⟩
  · show am_u2 (qFR (uNL q (1000 + f))) f (ixC f, 0) (some (1000 + f, qCN q (1000 + f))) x (ixC x, 0) = _
    by_cases ex : x = f
    · subst ex
      rw [hc]
      exact (if_pos ⟨rfl, rfl⟩).trans (by unfold ixT; rw [if_neg h5.1, if_neg h5.2])
    · refine (if_neg (fun z => ex z.1)).trans ?_
      refine Eq.trans ?_ (a1 x ((ix_or hx).elim id (fun z => absurd z ex)) x1 x2)
      exact if_neg (fun z => by have := congrArg Prod.fst z; simp only at this; unfold ixC at this; split at this <;> omega)
  · have ex : x ≠ f := fun z => by
      rw [z, hn] at hm
      cases hm
    exact a2 x m ((ix_or hx).elim id (fun z => absurd z ex)) x1 x2 hm
  · by_cases ex : x = f
    · subst ex
      refine ⟨if_pos (by rw [hc]), if_pos (by rw [hc]), ?_⟩
      show 0 < am_u1 (qCN q) (1000 + x) (qCN q (1000 + x) + 1) (1000 + x)
      rw [show am_u1 (qCN q) (1000 + x) (qCN q (1000 + x) + 1) (1000 + x) = qCN q (1000 + x) + 1 from if_pos rfl]
      omega
    · have z := a3 x ((ix_or hx).elim id (fun z => absurd z ex)) x1 x2 hm
      refine ⟨(if_neg (hne x ex)).trans z.1, (if_neg (hne x ex)).trans z.2.1, ?_⟩
      show 0 < am_u1 (qCN q) (1000 + f) (qCN q (1000 + f) + 1) (1000 + x)
      rw [show am_u1 (qCN q) (1000 + f) (qCN q (1000 + f) + 1) (1000 + x) = qCN q (1000 + x) from if_neg (by omega)]
      exact z.2.2
  · have hx : t ≠ 1000 + f := fun z => by
      have := (ix_no (t4 (by omega) (by omega))).2
      omega
    exact (if_neg hx).trans (a4 t t1 t2 (fun z => (ix_no (t3 z)).1) (fun z y => (ix_no (t4 z y)).1))
/-- Pricing and Detour -/
theorem IX_N (H : am_IX q0 q dn e l) {t n : Nat} (ht : t = 2 ∨ t = 6) (hd : dn t = false) (h6 : t = 6 → ∀ f, f < 700 → 600 ≤ f → dn f = false) : am_IX q0 (uNO q t n) (fun x => dn x || Nat.beq x t) (e + 1) (l + n) := by
  obtain ⟨a1, a2, a3, a4, a5, a6, a7, a8, a9, a10, a11, a12⟩ := H
  have hr : ∀ x, 600 ≤ x → x < 900 → (dn x || Nat.beq x t) = true → dn x = true := fun x x1 x2 hx => (ix_or hx).elim id (fun z => by omega)
  refine ⟨fun x hx x1 x2 => ?_, fun x m hx x1 x2 hm => a2 x m (hr x x1 x2 hx) x1 x2 hm, fun x hx x1 x2 hm => ?_, fun t' t1 t2 t3 t4 => ?_, fun f' => (if_neg (fun z => by have := congrArg Prod.fst z; simp only at this; omega)).trans (a5 f'), CY_NO a6 (by show cK t; omega), by show qCE q + 1 ≤ _; omega, by show qSL q + n ≤ _; omega, a9, a10, a11, fun j => (if_neg (fun z => by have := congrArg Prod.fst z; simp only at this; omega)).trans (a12 j)⟩
  · have hx2 := hr x x1 x2 hx
    refine Eq.trans (if_neg (fun z => ?_)) (a1 x hx2 x1 x2)
    have := congrArg Prod.fst z
    simp only at this
    unfold ixC at this
    split at this
    · have := h6 this.symm x (by omega) x1
      rw [this] at hx2
      cases hx2
    · omega
  · have z := a3 x (hr x x1 x2 hx) x1 x2 hm
    exact ⟨z.1, z.2.1, by show 0 < am_u1 (qCN q) t (qCN q t + 1) (1000 + x); rw [show am_u1 (qCN q) t (qCN q t + 1) (1000 + x) = qCN q (1000 + x) from if_neg (by omega)]; exact z.2.2⟩
  · have hx : t' ≠ t := fun z => by
      have := (ix_no (t3 (by omega))).2
      omega
    exact (if_neg hx).trans (a4 t' t1 t2 (fun z => (ix_no (t3 z)).1) (fun z y => (ix_no (t4 z y)).1))
theorem IX_F (H : am_IX q0 q dn e l) {f : Nat} (hf : f = 805 ∨ f = 810) : am_IX q0 (uFR q f (8, 0) (some (ixT f, 0))) (fun x => dn x || Nat.beq x f) e l := by
  obtain ⟨a1, a2, a3, a4, a5, a6, a7, a8, a9, a10, a11, a12⟩ := H
  have hLn : cLen (1000 + f) = none := by rcases hf with rfl | rfl <;> rfl
  have hLs : cLst (1000 + f) = none := by rcases hf with rfl | rfl <;> rfl
  refine ⟨fun x hx x1 x2 => ?_, fun x m hx x1 x2 hm => ?_, fun x hx x1 x2 hm => ?_, fun t' t1 t2 t3 t4 => a4 t' t1 t2 (fun z => (ix_no (t3 z)).1) (fun z y => (ix_no (t4 z y)).1), a5, CY_FR a6 (by show cK 8; omega), a7, a8, a9, a10, a11, a12⟩
  · show am_u2 (qFR q) f (8, 0) (some (ixT f, 0)) x (ixC x, 0) = _
    by_cases ex : x = f
    · subst ex
      exact if_pos ⟨rfl, by unfold ixC; rw [if_neg (by omega)]⟩
    · exact (if_neg (fun z => ex z.1)).trans (a1 x ((ix_or hx).elim id (fun z => absurd z ex)) x1 x2)
  · rcases ix_or hx with z | z
    · exact a2 x m z x1 x2 hm
    · rw [z, hLn] at hm
      cases hm
  · rcases ix_or hx with z | z
    · exact a3 x z x1 x2 hm
    · rw [z, hLs] at hm
      cases hm
theorem IX_I (H : am_IX q0 q dn e l) {f : Nat} {r : am_R} {v : Int} (h : r.1 = 6 ∨ (r.1 = 8 ∧ v = 0)) : am_IX q0 (uFI q f r v) dn e l := by
  obtain ⟨a1, a2, a3, a4, a5, a6, a7, a8, a9, a10, a11, a12⟩ := H
  refine ⟨a1, a2, a3, a4, fun f' => ?_, CY_FI a6 (by show cK r.1; omega), a7, a8, a9, a10, a11, fun j => (if_neg (fun z => by have := congrArg Prod.fst z.2; simp only at this; omega)).trans (a12 j)⟩
  show (if f' = f ∧ ((8, 0) : am_R) = r then v else qFI q f' (8, 0)) = 0
  split
  · rename_i z
    rcases h with h | h
    · rw [← z.2] at h
      exact absurd h (by show ¬ (8 : Nat) = 6; omega)
    · exact h.2
  · exact a5 f'
variable {d y pc p p1 p2 p3 ci : Nat} {ls : List (Option am_V)} {st : List am_V} {Q : am_O → am_A → Prop}
theorem ix_arr (f n c : Nat) (hc : c = ixC f) (H : am_IX q0 q dn e l) (hd : dn f = false) (h6 : 600 ≤ f) (h9 : f < 900) (h5 : f ≠ 805 ∧ f ≠ 810) (hn : cLen (1000 + f) = some n) (hl : cLst (1000 + f) = none) (hc1 : n ≤ 1000) (h1 : am_na y pc = some (1000 + f, p)) (h2 : am_kc (1000 + f) ≠ some 10) (hpf : am_pf y p = some (f, ci, p2)) (hk : am_kc c = some ci) (hr : am_fr f = true) (hw : am_wr y f ci = true) (hh : f / 100 ≠ 10) (K : ∀ q', am_IX q0 q' (fun x => dn x || Nat.beq x f) (e + 1) (l + n) → am_W2 d y p2 ls st q' Q) : am_W2 d y pc ls (aI (zI (n : Int)) :: aR c 0 :: st) q Q := by
  subst hc
  exact ar_newa h1 h2 (by omega) (by omega) rfl hc1 (ar_pfR hpf hk hr hw hh (K _ (IX_A H hd h6 h9 h5 hn hl)))
theorem ix_lst (f c : Nat) (hc : c = ixC f) (H : am_IX q0 q dn e l) (hd : dn f = false) (h6 : 600 ≤ f) (h9 : f < 900) (h5 : f ≠ 805 ∧ f ≠ 810) (h7 : f ≠ 702) (hn : cLen (1000 + f) = none) (h1 : am_ne y pc = some (1000 + f, 3, p)) (h2 : am_kc (1000 + f) = some 10) (hd1 : am_c y p = some (.dup, p1)) (hcall : am_ca y p1 = some (true, m_AL_init, 0, p2)) (hpf : am_pf y p2 = some (f, ci, p3)) (hs : am_sum (aR c 0 :: st) + 1 ≤ 8) (hk : am_kc c = some ci) (hr : am_fr f = true) (hw : am_wr y f ci = true) (hh : f / 100 ≠ 10) (K : ∀ q', am_IX q0 q' (fun x => dn x || Nat.beq x f) (e + 1) (l + 3) → am_W2 (d + 3) y p3 ls st q' Q) : am_W2 (d + 3) y pc ls (aR c 0 :: st) q Q := by
  subst hc
  exact ar_newL h1 h2 (by omega) hd1 hcall hs (ar_pfR hpf hk hr hw hh (K _ (IX_L H hd h6 h9 h5 h7 hn)))
end IXS
end

noncomputable section
/-- only what D names is touched -/
def am_GD (D : Nat → Nat → Prop) (q q' : am_A) : Prop := ∀ t i, ¬ D t i → (∀ f, qFI q' f (t, i) = qFI q f (t, i)) ∧ (∀ f, qFR q' f (t, i) = qFR q f (t, i)) ∧ (∀ k, qAI q' (t, i) k = qAI q (t, i) k) ∧ (∀ k, qAR q' (t, i) k = qAR q (t, i) k) ∧ (qAL q' (t, i) = qAL q (t, i)) ∧ (qLS q' (t, i) = qLS q (t, i)) ∧ (qCP q' (t, i) = qCP q (t, i))
section GDS
variable {q q' q2 : am_A} {D D' : Nat → Nat → Prop}
theorem GD_r : am_GD D q q := fun _ _ _ => ⟨fun _ => rfl, fun _ => rfl, fun _ => rfl, fun _ => rfl, rfl, rfl, rfl⟩
theorem GD_t (a : am_GD D q q') (b : am_GD D q' q2) : am_GD D q q2 := fun t i h => by
  obtain ⟨a1, a2, a3, a4, a5, a6, a7⟩ := a t i h
  obtain ⟨b1, b2, b3, b4, b5, b6, b7⟩ := b t i h
  exact ⟨fun f => (b1 f).trans (a1 f), fun f => (b2 f).trans (a2 f), fun f => (b3 f).trans (a3 f), fun f => (b4 f).trans (a4 f), b5.trans a5, b6.trans a6, b7.trans a7⟩
theorem GD_w (a : am_GD D q q') (h : ∀ t i, D t i → D' t i) : am_GD D' q q' := fun t i n => a t i (fun z => n (h t i z))
theorem GD_ne {t i t' i' : Nat} (h : D t i) (h' : ¬ D t' i') : ((t', i') : am_R) ≠ (t, i) := fun z => h' (by
  have z1 := congrArg Prod.fst z
  have z2 := congrArg Prod.snd z
  simp only at z1 z2
  rw [z1, z2]
  exact h)
theorem GD_FI (G : am_GD D q q') {f t i : Nat} {v : Int} (h : D t i) : am_GD D q (uFI q' f (t, i) v) := GD_t G (fun t' i' hr => ⟨fun f' => uf_nr (GD_ne h hr), fun _ => rfl, fun _ => rfl, fun _ => rfl, rfl, rfl, rfl⟩)
theorem GD_FR (G : am_GD D q q') {f t i : Nat} {v : Option am_R} (h : D t i) : am_GD D q (uFR q' f (t, i) v) := GD_t G (fun t' i' hr => ⟨fun _ => rfl, fun f' => uf_nr (GD_ne h hr), fun _ => rfl, fun _ => rfl, rfl, rfl, rfl⟩)
theorem GD_AI (G : am_GD D q q') {t i k : Nat} {v : Int} (h : D t i) : am_GD D q (uAI q' (t, i) k v) := GD_t G (fun t' i' hr => ⟨fun _ => rfl, fun _ => rfl, fun k' => u2_nr (GD_ne h hr), fun _ => rfl, rfl, rfl, rfl⟩)
theorem GD_AR (G : am_GD D q q') {t i k : Nat} {v : Option am_R} (h : D t i) : am_GD D q (uAR q' (t, i) k v) := GD_t G (fun t' i' hr => ⟨fun _ => rfl, fun _ => rfl, fun _ => rfl, fun k' => u2_nr (GD_ne h hr), rfl, rfl, rfl⟩)
theorem GD_LS (G : am_GD D q q') {t i : Nat} {xs : List am_R} (h : D t i) : am_GD D q (uLS q' (t, i) xs) := GD_t G (fun t' i' hr => ⟨fun _ => rfl, fun _ => rfl, fun _ => rfl, fun _ => rfl, rfl, if_neg (GD_ne h hr), rfl⟩)
theorem GD_LG (G : am_GD D q q') {t i c : Nat} {xs : List am_R} (h : D t i) : am_GD D q (uLG q' (t, i) xs c) := GD_t G (fun t' i' hr => ⟨fun _ => rfl, fun _ => rfl, fun _ => rfl, fun _ => rfl, rfl, if_neg (GD_ne h hr), if_neg (GD_ne h hr)⟩)
theorem GD_Add (G : am_GD D q q') {t i : Nat} {v : am_R} (h : D t i) : am_GD D q (qAdd q' (t, i) v) := by
  unfold qAdd
  split
  · exact GD_LS G h
  · exact GD_LG G h
theorem GD_NO (G : am_GD D q q') {t n : Nat} (h : D t (qCN q' t)) : am_GD D q (uNO q' t n) := GD_t G (fun t' i' hr => ⟨fun _ => if_neg (GD_ne h hr), fun _ => if_neg (GD_ne h hr), fun _ => rfl, fun _ => rfl, rfl, rfl, rfl⟩)
theorem GD_NA (G : am_GD D q q') {t n : Nat} (h : D t (qCN q' t)) : am_GD D q (uNA q' t n) := GD_t G (fun t' i' hr => ⟨fun _ => rfl, fun _ => rfl, fun k => congrFun (if_neg (GD_ne h hr)) k, fun k => congrFun (if_neg (GD_ne h hr)) k, if_neg (GD_ne h hr), rfl, rfl⟩)
theorem GD_NL (G : am_GD D q q') {t : Nat} (h : D t (qCN q' t)) : am_GD D q (uNL q' t) := GD_t G (fun t' i' hr => ⟨fun _ => if_neg (GD_ne h hr), fun _ => if_neg (GD_ne h hr), fun _ => rfl, fun _ => rfl, rfl, if_neg (GD_ne h hr), if_neg (GD_ne h hr)⟩)
/-- the readers behind an add -/
theorem qAdd_FI {r v : am_R} : qFI (qAdd q r v) = qFI q := by unfold qAdd; split <;> rfl
theorem qAdd_FR {r v : am_R} : qFR (qAdd q r v) = qFR q := by unfold qAdd; split <;> rfl
theorem qAdd_AI {r v : am_R} : qAI (qAdd q r v) = qAI q := by unfold qAdd; split <;> rfl
theorem qAdd_AR {r v : am_R} : qAR (qAdd q r v) = qAR q := by unfold qAdd; split <;> rfl
theorem qAdd_AL {r v : am_R} : qAL (qAdd q r v) = qAL q := by unfold qAdd; split <;> rfl
theorem qAdd_CN {r v : am_R} : qCN (qAdd q r v) = qCN q := by unfold qAdd; split <;> rfl
theorem qAdd_LS {r v : am_R} : qLS (qAdd q r v) r = qLS q r ++ [v] := by
  unfold qAdd
  split
  · exact if_pos rfl
  · exact if_pos rfl
theorem qAdd_LSn {r v r' : am_R} (h : r' ≠ r) : qLS (qAdd q r v) r' = qLS q r' := by
  unfold qAdd
  split
  · exact if_neg h
  · exact if_neg h
theorem qAdd_CPn {r v r' : am_R} (h : r' ≠ r) : qCP (qAdd q r v) r' = qCP q r' := by
  unfold qAdd
  split
  · rfl
  · exact if_neg h
theorem qAdd_CP {r v : am_R} (hl : (qLS q r).length ≤ 40) (hc : qCP q r ≤ 60) : qCP (qAdd q r v) r ≤ 60 := by
  unfold qAdd
  split
  · exact hc
  · show am_u1 (qCP q) r (if qCP q r = 0 then 10 else qCP q r + max 1 (qCP q r / 2)) r ≤ 60
    rw [u1_eq]
    split <;> omega
theorem qAdd_CP10 {r v : am_R} (hl : (qLS q r).length < 10) (hc : qCP q r = 0 ∨ qCP q r = 10) : qCP (qAdd q r v) r = 10 := by
  unfold qAdd
  split
  · show qCP q r = 10
    omega
  · show am_u1 (qCP q) r (if qCP q r = 0 then 10 else qCP q r + max 1 (qCP q r / 2)) r = 10
    rw [u1_eq, if_pos (by omega)]
/-- several int fields of one object -/
def uFs (q : am_A) (r : am_R) (l : List (Nat × Int)) : am_A := l.foldl (fun q p => uFI q p.1 r p.2) q
def lkF (f : Nat) : List (Nat × Int) → Option Int
  | [] => none
  | (g, v) :: t => match lkF f t with | some x => some x | none => if Nat.beq f g then some v else none
theorem uFs_ne {r r' : am_R} {f : Nat} (h : r' ≠ r) : ∀ (l : List (Nat × Int)) (q : am_A), qFI (uFs q r l) f r' = qFI q f r'
  | [], _ => rfl
  | p :: t, q => (uFs_ne h t (uFI q p.1 r p.2)).trans (uf_nr h)
theorem uFs_eq {r : am_R} {f : Nat} : ∀ (l : List (Nat × Int)) (q : am_A), qFI (uFs q r l) f r = (lkF f l).getD (qFI q f r)
  | [], _ => rfl
  | (g, v) :: t, q => by
    have h := uFs_eq (r := r) (f := f) t (uFI q g r v)
    show qFI (uFs (uFI q g r v) r t) f r = _
    rw [h]
    show (lkF f t).getD _ = (match lkF f t with | some x => some x | none => if Nat.beq f g then some v else none).getD _
    cases lkF f t with
    | some x => rfl
    | none =>
      show (if f = g ∧ r = r then v else qFI q f r) = (if Nat.beq f g then some v else none).getD (qFI q f r)
      by_cases e : f = g
      · rw [if_pos ⟨e, rfl⟩, if_pos (by rw [e]; exact Nat.beq_refl g)]
        rfl
      · rw [if_neg (fun z => e z.1), if_neg (fun z => e (Nat.eq_of_beq_eq_true z))]
        rfl
theorem uFs_FR {r : am_R} : ∀ (l : List (Nat × Int)) (q : am_A), qFR (uFs q r l) = qFR q
  | [], _ => rfl
  | p :: t, q => uFs_FR t (uFI q p.1 r p.2)
theorem uFs_AI {r : am_R} : ∀ (l : List (Nat × Int)) (q : am_A), qAI (uFs q r l) = qAI q
  | [], _ => rfl
  | p :: t, q => uFs_AI t (uFI q p.1 r p.2)
theorem uFs_AR {r : am_R} : ∀ (l : List (Nat × Int)) (q : am_A), qAR (uFs q r l) = qAR q
  | [], _ => rfl
  | p :: t, q => uFs_AR t (uFI q p.1 r p.2)
theorem uFs_AL {r : am_R} : ∀ (l : List (Nat × Int)) (q : am_A), qAL (uFs q r l) = qAL q
  | [], _ => rfl
  | p :: t, q => uFs_AL t (uFI q p.1 r p.2)
theorem uFs_CN {r : am_R} : ∀ (l : List (Nat × Int)) (q : am_A), qCN (uFs q r l) = qCN q
  | [], _ => rfl
  | p :: t, q => uFs_CN t (uFI q p.1 r p.2)
theorem uFs_LS {r : am_R} : ∀ (l : List (Nat × Int)) (q : am_A), qLS (uFs q r l) = qLS q
  | [], _ => rfl
  | p :: t, q => uFs_LS t (uFI q p.1 r p.2)
theorem uFs_CP {r : am_R} : ∀ (l : List (Nat × Int)) (q : am_A), qCP (uFs q r l) = qCP q
  | [], _ => rfl
  | p :: t, q => uFs_CP t (uFI q p.1 r p.2)
theorem uFs_CE {r : am_R} : ∀ (l : List (Nat × Int)) (q : am_A), qCE (uFs q r l) = qCE q
  | [], _ => rfl
  | p :: t, q => uFs_CE t (uFI q p.1 r p.2)
theorem uFs_SL {r : am_R} : ∀ (l : List (Nat × Int)) (q : am_A), qSL (uFs q r l) = qSL q
  | [], _ => rfl
  | p :: t, q => uFs_SL t (uFI q p.1 r p.2)
theorem GD_Fs (G : am_GD D q q') {t i : Nat} {l : List (Nat × Int)} (h : D t i) : am_GD D q (uFs q' (t, i) l) := GD_t G (fun t' i' hr => ⟨fun f => uFs_ne (GD_ne h hr) l q', fun f => by rw [uFs_FR], fun k => by rw [uFs_AI], fun k => by rw [uFs_AR], by rw [uFs_AL], by rw [uFs_LS], by rw [uFs_CP]⟩)
theorem RM_Fs {e : Nat} (h : am_RM e q) {r : am_R} {l : List (Nat × Int)} : am_RM e (uFs q r l) := by
  unfold am_RM pot at h ⊢
  rw [uFs_CE, uFs_SL, uFs_CN, uFs_CP]
  exact h
theorem RM_FR {e f : Nat} {r : am_R} {v : Option am_R} (h : am_RM e q) : am_RM e (uFR q f r v) := h
theorem RM_LS {e : Nat} {r : am_R} {xs : List am_R} (h : am_RM e q) : am_RM e (uLS q r xs) := h
theorem RM_AI {e k : Nat} {r : am_R} {v : Int} (h : am_RM e q) : am_RM e (uAI q r k v) := h
theorem RM_AR {e k : Nat} {r : am_R} {v : Option am_R} (h : am_RM e q) : am_RM e (uAR q r k v) := h
theorem uFs_AJ {r : am_R} : ∀ (l : List (Nat × Int)) (q : am_A), qAJ (uFs q r l) = qAJ q
  | [], _ => rfl
  | p :: t, q => uFs_AJ t (uFI q p.1 r p.2)
theorem uFs_AD {r : am_R} : ∀ (l : List (Nat × Int)) (q : am_A), qAD (uFs q r l) = qAD q
  | [], _ => rfl
  | p :: t, q => uFs_AD t (uFI q p.1 r p.2)
theorem CY_Fs (G : am_CY q q') {r : am_R} {l : List (Nat × Int)} (h : cK r.1) : am_CY q (uFs q' r l) := CY_t G ⟨fun r' hr => ⟨fun f => uFs_ne (cK_ne h hr) l q', fun f => by rw [uFs_FR], fun k => by rw [uFs_AI], fun k => by rw [uFs_AR], fun k => by rw [uFs_AJ], fun k => by rw [uFs_AD], by rw [uFs_AL], by rw [uFs_LS], by rw [uFs_CP]⟩, fun t _ => by rw [uFs_CN]⟩
theorem FP_Fs (G : am_FP q q') {r : am_R} {l : List (Nat × Int)} (h1 : r.1 ≠ 1) : am_FP q (uFs q' r l) := fun j z => by
  have e : (((1, j)) : am_R) ≠ r := fun y => h1 (by rw [← y])
  have e2 : ∀ f, qFI (uFs q' r l) f (1, j) = qFI q' f (1, j) := fun f => uFs_ne e l q'
  rw [e2 106] at z
  rw [e2 106, e2 105]
  exact G j z
theorem CG_Fs (G : am_CG q q') {r : am_R} {l : List (Nat × Int)} (h : cK r.1) (h1 : r.1 ≠ 1 := by intro h; simp at h) : am_CG q (uFs q' r l) := ⟨CY_Fs G.1 h, FP_Fs G.2 h1⟩
end GDS
section GD2
variable {q q' : am_A} {s s' : am_Z} {D : Nat → Nat → Prop}
theorem CT_G (h : am_CT q) (G : am_GD D q q') (d1 : ¬ D 8 0) (k2 : ∀ f, f < 605 → qFR q' f (6, 0) = qFR q f (6, 0)) (k3 : ∀ k c, cLen k = some c → qAL q' (k, 0) = qAL q (k, 0)) (k4 : ∀ t, qCN q t ≤ qCN q' t) : am_CT q' :=
  ⟨fun f r hf => ((G 8 0 d1).2.1 f).trans (h.1 f r hf), fun f r hf => (k2 f (pRef_r f r hf)).trans (h.2.1 f r hf), fun k c hk => (k3 k c hk).trans (h.2.2.1 k c hk), fun k hk => Nat.lt_of_lt_of_le (h.2.2.2 k hk) (k4 k)⟩
theorem CN_G (h : am_CN q s) (G : am_GD D q q') (d1 : ¬ D 8 0) (d2 : ¬ D 1800 0 ∧ ¬ D 1801 0 ∧ ¬ D 1811 0 ∧ ¬ D 1812 0) (m1 : ∀ j x, (j = 1 ∨ j = 2 ∨ j = 69 ∨ j = 70) → rA s' j x = rA s j x) (m2 : rI s' 0 = rI s 0) (m3 : rI s' 68 = rI s 68) : am_CN q' s' :=
  ⟨fun i a b => ((G _ _ d2.1).2.2.1 _).trans ((h.1 i a b).trans (m1 1 _ (by omega)).symm), fun i a b => ((G _ _ d2.2.1).2.2.1 _).trans ((h.2.1 i a b).trans (m1 2 _ (by omega)).symm), fun i a b => ((G _ _ d2.2.2.1).2.2.1 _).trans ((h.2.2.1 i a b).trans (m1 69 _ (by omega)).symm), fun i a b => ((G _ _ d2.2.2.2).2.2.1 _).trans ((h.2.2.2.1 i a b).trans (m1 70 _ (by omega)).symm), ((G 8 0 d1).1 _).trans (h.2.2.2.2.1.trans m2.symm), ((G 8 0 d1).1 _).trans (h.2.2.2.2.2.trans m3.symm)⟩
theorem fFl_n14 : am_all fFl (fun _ j => j ≠ 14) := (am_nd_ok (am_nd_ok (am_nd_ok (am_lf_ok (by decide)) (am_lf_ok (by decide))) (am_nd_ok (am_lf_ok (by decide)) (am_lf_ok (by decide)))) (am_nd_ok (am_nd_ok (am_lf_ok (by decide)) (am_lf_ok (by decide))) (am_nd_ok (am_lf_ok (by decide)) (am_lf_ok (by decide)))))
theorem Fl_G {i : Nat} (h : am_Fl q s i) (G : am_GD D q q') (d2 : ¬ D 4 i ∧ ¬ D 1407 i) (d3 : qAL q' (1408, i) = qAL q (1408, i)) (m1 : ∀ x, rA s' 1 x = rA s 1 x) (m2 : ∀ j, 4 ≤ j → j ≤ 16 → j ≠ 14 → rA s' j i = rA s j i) (m3 : ∀ b : Int, 0 ≤ b → b < 4 → rA s' 14 (4 * i + b) = rA s 14 (4 * i + b)) : am_Fl q' s' i := by
  obtain ⟨a1, a2, a3, a4, a5, a6, a7, a8, a9⟩ := h
  obtain ⟨g1, g2, -⟩ := G 4 i d2.1
  obtain ⟨-, -, g3, -, g5, -⟩ := G 1407 i d2.2
  refine ⟨fun f j hf => ?_, (g1 _).trans a2, (g1 _).trans (by rw [m2 7 (by omega) (by omega) (by omega), m1, m2 5 (by omega) (by omega) (by omega)]; exact a3), (g2 _).trans a4, (g2 _).trans a5, (g2 _).trans (by rw [m2 15 (by omega) (by omega) (by omega)]; exact a6), g5.trans a7, d3.trans a8, fun b b1 b2 => (g3 _).trans (by rw [m3 b b1 b2]; exact a9 b b1 b2)⟩
  have hr := fFl_r f j hf
  have h14 : j ≠ 14 := fFl_n14 f j hf
  rw [g1, m2 j hr.2.1 hr.2.2 h14]
  exact a1 f j hf
theorem CF_G (h : am_CF q s) (G : am_GD D q q') (d1 : ¬ D 1802 0) (d2 : ∀ i : Nat, (i : Int) < rI s 3 → ¬ D 4 i ∧ ¬ D 1407 i) (d3 : ∀ i : Nat, (i : Int) < rI s 3 → qAL q' (1408, i) = qAL q (1408, i)) (k2 : ∀ t, t = 4 ∨ t = 1407 ∨ t = 1408 → qCN q' t = qCN q t) (m1 : ∀ j x, (j = 1 ∨ 4 ≤ j ∧ j ≤ 16) → rA s' j x = rA s j x) (m3 : rI s' 3 = rI s 3) : am_CF q' s' := by
  obtain ⟨h1, h2, h3, h4⟩ := h
  refine ⟨by rw [(G _ _ d1).2.2.2.2.2.1, m3]; exact h1, ?_, fun i hi => ?_, fun i h5 h6 => ?_⟩
  · rw [k2 4 (by omega), k2 1407 (by omega), k2 1408 (by omega), m3]; exact h2
  · rw [m3] at hi
    exact Fl_G (h3 i hi) G (d2 i hi) (d3 i hi) (fun x => m1 1 x (by omega)) (fun j a b _ => m1 j _ (by omega)) (fun b _ _ => m1 14 _ (by omega))
  · rw [m1 15 _ (by omega), m3]; exact h4 i h5 (by rw [← m3]; exact h6)
theorem lId_O {l : Int} (h : legO q' l = legO q l) : lId q' l = lId q l := by unfold lId; rw [h]
theorem legO_G (G : am_GD D q q') {l : Int} (h0 : 0 ≤ l) (h1 : l / 100 < rI s 3) (d : ∀ i : Nat, (i : Int) < rI s 3 → ¬ D 1408 i) : legO q' l = legO q l := (G 1408 _ (d (l / 100).toNat (by omega))).2.2.2.1 _
theorem Lg_G {l : Int} (h : am_Lg q s l) (G : am_GD D q q') (kO : legO q' l = legO q l) (d5 : ∀ j, j < qCN q 5 → ¬ D 5 j) (k2 : qCN q 5 ≤ qCN q' 5) (m1 : dep s' l = dep s l) (m2 : rA s' 8 (l / 100) = rA s 8 (l / 100)) (m3 : ∀ j, j = 17 ∨ j = 18 → rA s' j (61 * (l / 100) + l % 100) = rA s j (61 * (l / 100) + l % 100)) : am_Lg q' s' l := by
  obtain ⟨a1, a2, a3, a4, a5, a6, a7, a8, a9⟩ := h
  have e := lId_O kO
  obtain ⟨g1, g2, -⟩ := G 5 _ (d5 _ a2)
  unfold am_Lg arv
  rw [e, kO, m1, m2, m3 17 (by omega), m3 18 (by omega), g2, g1, g1, g1, g1, g1, g1]
  exact ⟨a1, Nat.lt_of_lt_of_le a2 k2, a3, a4, a5, a6, a7, a8, a9⟩
theorem CL_G (h : am_CL q s) (G : am_GD D q q') (d : ∀ i : Nat, (i : Int) < rI s 3 → ¬ D 1408 i) (d5 : ∀ j, j < qCN q 5 → ¬ D 5 j) (k2 : qCN q 5 ≤ qCN q' 5) (m1 : ∀ j x, (j = 1 ∨ (4 ≤ j ∧ j ≤ 13) ∨ j = 17 ∨ j = 18) → rA s' j x = rA s j x) (m3 : rI s' 3 = rI s 3) : am_CL q' s' := by
  have hlp : ∀ l, legP s' l ↔ legP s l := fun l => legP_cg (fun j x hj => m1 j x (by omega)) m3
  have hd : ∀ l, dep s' l = dep s l := fun l => by unfold dep; rw [m1 7 _ (by omega), m1 1 _ (by omega), m1 5 _ (by omega), m1 17 _ (by omega)]
  constructor
  · intro l hl
    have hl2 := (hlp l).mp hl
    exact Lg_G (h.1 l hl2) G (legO_G G hl2.1 hl2.2.1 d) d5 k2 (hd l) (m1 8 _ (by omega)) (fun j hj => m1 j _ (by omega))
  · intro l h1 h2 h3 h4
    rw [m3] at h2
    rw [legO_G G h1 h2 d]
    refine h.2 l h1 h2 h3 (fun z => h4 ?_)
    simp only [thereP, m1 10 _ (show _ by omega), m1 11 _ (show _ by omega), m1 12 _ (show _ by omega), m1 13 _ (show _ by omega)]
    exact z
theorem CA_G (h : am_CA q s) (G : am_GD D q q') (d1 : ¬ D 1803 0) (d2 : ∀ i : Nat, (i : Int) < rI s 20 → ¬ D 3 i) (k2 : qCN q' 3 = qCN q 3) (m1 : ∀ j x, (21 ≤ j ∧ j ≤ 32) → rA s' j x = rA s j x) (m3 : rI s' 20 = rI s 20) : am_CA q' s' := by
  obtain ⟨h1, h2, h3⟩ := h
  refine ⟨by rw [(G _ _ d1).2.2.2.2.2.1, m3]; exact h1, by rw [k2, m3]; exact h2, fun i hi => ?_⟩
  rw [m3] at hi
  have g := (G 3 i (d2 i hi)).1
  exact ⟨fun f j hf => (g f).trans (((h3 i hi).1 f j hf).trans (m1 j _ (fFa_r f j hf).2).symm), (g 300).trans (h3 i hi).2⟩
theorem LL_G {t i : Nat} {n n' : Int} {f f' : Int → Int} (h : am_LL q s (t, i) n f) (G : am_GD D q q') (d : ¬ D t i) (kO : ∀ l, legP s l → legO q' l = legO q l) (hL : ∀ l, legP s l → legP s' l) (m0 : n' = n) (m1 : ∀ k, 0 ≤ k → k < n → f' k = f k) : am_LL q' s' (t, i) n' f' := by
  have e := (G t i d).2.2.2.2.2.1
  refine ⟨by rw [e, m0]; exact h.1, fun k hk => ?_⟩
  have h2 := h.2 k (by omega)
  rw [e, m1 k (by omega) (by omega), lId_O (kO _ h2.2)]
  exact ⟨h2.1, hL _ h2.2⟩
theorem Bk_G {b : Nat} (h : am_Bk q s b) (G : am_GD D q q') (d : ¬ D 0 b ∧ ¬ D 1003 b ∧ ¬ D 1004 b ∧ ¬ D 1005 b) (m1 : ∀ j, 45 ≤ j → j ≤ 52 → rA s' j b = rA s j b) (m2 : ∀ j, j = 59 ∨ j = 60 → ∀ k : Int, 0 ≤ k → k < 4 → rA s' j (4 * b + k) = rA s j (4 * b + k)) : am_Bk q' s' b := by
  obtain ⟨a1, a2, a3, a4, a5, a6⟩ := h
  obtain ⟨g1, g2, -⟩ := G 0 b d.1
  obtain ⟨-, -, -, -, -, l1, l2⟩ := G 1003 b d.2.1
  obtain ⟨-, -, x1, -, x2, -⟩ := G 1004 b d.2.2.1
  obtain ⟨-, -, y1, -, y2, -⟩ := G 1005 b d.2.2.2
  refine ⟨fun f j hf => ?_, ⟨(g2 3).trans a2.1, (g2 4).trans a2.2.1, (g2 5).trans a2.2.2⟩, ⟨x2.trans a3.1, y2.trans a3.2⟩, fun k e1 e2 => ?_, by rw [l1, m1 52 (by omega) (by omega)]; exact a5, by rw [l2]; exact a6⟩
  · have hr := fBk_r2 f j hf
    rw [g1, m1 j hr.2.1 (by omega)]
    exact a1 f j hf
  · rw [x1, y1, m2 59 (by omega) k e1 e2, m2 60 (by omega) k e1 e2]
    exact a4 k e1 e2
theorem cId_G {b k : Nat} (G : am_GD D q q') (d : ¬ D 1003 b) : cId q' b k = cId q b k := by unfold cId; rw [(G 1003 b d).2.2.2.2.2.1]
theorem Cp_G {b k : Nat} (h : am_Cp q s b k) (G : am_GD D q q') (d : ¬ D 1003 b) (d1 : ∀ j, j < qCN q 1 → ¬ D 1 j) (k3 : qCN q 1 ≤ qCN q' 1) (kO : ∀ l, legP s l → legO q' l = legO q l) (hL : ∀ l, legP s l → legP s' l) (m1 : ∀ j, 53 ≤ j → j ≤ 58 → rA s' j (10 * b + k) = rA s j (10 * b + k)) : am_Cp q' s' b k := by
  obtain ⟨a1, a2, a3, a4, a5⟩ := h
  obtain ⟨g1, g2, -⟩ := G 1 _ (d1 _ a2)
  unfold am_Cp
  rw [cId_G G d, (G 1003 b d).2.2.2.2.2.1, m1 53 (by omega) (by omega), lId_O (kO _ a4), g2]
  refine ⟨a1, Nat.lt_of_lt_of_le a2 k3, a3, hL _ a4, fun f j hf => ?_⟩
  have hr := fCp_r f j hf
  rw [g1, m1 j (by omega) (by omega)]
  exact a5 f j hf
theorem CB_G (h : am_CB q s) (G : am_GD D q q') (d0 : ¬ D 1806 0) (d : ∀ b : Nat, (b : Int) < rI s 44 → ¬ D 0 b ∧ ¬ D 1003 b ∧ ¬ D 1004 b ∧ ¬ D 1005 b) (d1 : ∀ j, j < qCN q 1 → ¬ D 1 j) (k2 : ∀ t, qCN q t ≤ qCN q' t) (kO : ∀ l, legP s l → legO q' l = legO q l) (hL : ∀ l, legP s l → legP s' l) (m1 : ∀ j x, (45 ≤ j ∧ j ≤ 60) → rA s' j x = rA s j x) (m4 : rI s' 44 = rI s 44) : am_CB q' s' := by
  obtain ⟨h1, h2, h3, h4, h5⟩ := h
  refine ⟨by rw [(G _ _ d0).2.2.2.2.2.1, m4]; exact h1, by rw [m4]; exact ⟨Nat.le_trans h2.1 (k2 0), Nat.le_trans h2.2.1 (k2 1003), Nat.le_trans h2.2.2.1 (k2 1004), Nat.le_trans h2.2.2.2 (k2 1005)⟩, fun b hb => ?_, fun b k hb hk => ?_, fun b k b' k' a1 a2 a3 a4 a5 => ?_⟩
  · rw [m4] at hb
    exact Bk_G (h3 b hb) G (d b hb) (fun j e1 e2 => m1 j _ (by omega)) (fun j hj k _ _ => m1 j _ (by omega))
  · rw [m4] at hb
    rw [m1 52 _ (by omega)] at hk
    exact Cp_G (h4 b k hb hk) G (d b hb).2.1 d1 (k2 1) kO hL (fun j e1 e2 => m1 j _ (by omega))
  · rw [m1 52 _ (by omega)] at a2 a4
    rw [m4] at a1 a3
    rw [cId_G G (d b a1).2.1, cId_G G (d b' a3).2.1] at a5
    exact h5 b k b' k' a1 a2 a3 a4 a5
/-- a wish -/
def am_Wi (q : am_A) (s : am_Z) (w : Nat) : Prop := (∀ f j, fWi f = some j → qFI q f (7, w) = rA s j w) ∧ qFR q 702 (7, w) = some (1702, w) ∧ am_LL q s (1702, w) (rA s 64 w) (fun k => rA s 65 (4 * w + k))
theorem Wi_G {w : Nat} (h : am_Wi q s w) (G : am_GD D q q') (d : ¬ D 7 w ∧ ¬ D 1702 w) (kO : ∀ l, legP s l → legO q' l = legO q l) (hL : ∀ l, legP s l → legP s' l) (m1 : ∀ j, 62 ≤ j → j ≤ 66 → j ≠ 65 → rA s' j w = rA s j w) (m2 : ∀ k, 0 ≤ k → k < rA s 64 w → rA s' 65 (4 * w + k) = rA s 65 (4 * w + k)) : am_Wi q' s' w := by
  obtain ⟨a1, a2, a3⟩ := h
  obtain ⟨g1, g2, -⟩ := G 7 w d.1
  refine ⟨fun f j hf => ?_, (g2 702).trans a2, LL_G a3 G d.2 kO hL (m1 64 (by omega) (by omega) (by omega)) m2⟩
  have hr := fWi_r2 f j hf
  rw [g1, m1 j (by omega) (by omega) (by omega)]
  exact a1 f j hf
theorem CW_G (h : am_CW q s) (G : am_GD D q q') (d0 : ¬ D 1807 0) (d : ∀ w : Nat, (w : Int) < rI s 61 → ¬ D 7 w ∧ ¬ D 1702 w) (k2 : ∀ t, qCN q t ≤ qCN q' t) (kO : ∀ l, legP s l → legO q' l = legO q l) (hL : ∀ l, legP s l → legP s' l) (m1 : ∀ j x, (62 ≤ j ∧ j ≤ 66) → rA s' j x = rA s j x) (m4 : rI s' 61 = rI s 61) : am_CW q' s' := by
  obtain ⟨h1, h2, h3⟩ := h
  refine ⟨by rw [(G _ _ d0).2.2.2.2.2.1, m4]; exact h1, by rw [m4]; exact ⟨Nat.le_trans h2.1 (k2 7), Nat.le_trans h2.2 (k2 1702)⟩, fun w hw => ?_⟩
  rw [m4] at hw
  exact Wi_G (h3 w hw) G (d w hw) kO hL (fun j _ _ _ => m1 j _ (by omega)) (fun k _ _ => m1 65 _ (by omega))
end GD2
/-- what is not made yet holds nothing -/
def am_VG (s : am_Z) : Prop := (∀ i, rI s 3 ≤ i → i < 12 → rA s 10 i = 0 ∧ rA s 15 i = -1 ∧ rA s 16 i = 0) ∧ (∀ f t, 0 ≤ f → f < 12 → 0 ≤ t → t < 61 → ¬ thereP s f t → rA s 17 (61 * f + t) = 0 ∧ rA s 18 (61 * f + t) = 0) ∧ (∀ i, rI s 20 ≤ i → rA s 28 i = 0 ∧ rA s 29 i = 0 ∧ rA s 30 i = 0 ∧ rA s 31 i = 0) ∧ (∀ i, 4 * rI s 44 ≤ i → rA s 59 i = 0 ∧ rA s 60 i = 0)
end

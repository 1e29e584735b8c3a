noncomputable section
/-- a sum of numbers -/
def sumN (f : Nat → Nat) : Nat → Nat
  | 0 => 0
  | n + 1 => sumN f n + f n
theorem sumN_eq {f g : Nat → Nat} : ∀ n, (∀ i, i < n → f i = g i) → sumN f n = sumN g n
  | 0, _ => rfl
  | n + 1, h => by
    show sumN f n + f n = sumN g n + g n
    rw [sumN_eq n (fun i hi => h i (by omega)), h n (by omega)]
theorem sumN_le {f : Nat → Nat} {c : Nat} : ∀ n, (∀ i, i < n → f i ≤ c) → sumN f n ≤ c * n
  | 0, _ => Nat.zero_le _
  | n + 1, h => by
    have h1 := sumN_le n (fun i hi => h i (by omega))
    have h2 := h n (by omega)
    show sumN f n + f n ≤ c * (n + 1)
    rw [Nat.mul_succ]
    omega
theorem sumN_up {f g : Nat → Nat} {i x : Nat} (hg : ∀ j, j ≠ i → g j = f j) (hx : g i = f i + x) : ∀ n, i < n → sumN g n = sumN f n + x
  | 0, h => absurd h (Nat.not_lt_zero _)
  | n + 1, h => by
    show sumN g n + g n = sumN f n + f n + x
    by_cases e : i = n
    · subst e
      rw [sumN_eq i (fun j hj => hg j (by omega)), hx]
      omega
    · rw [sumN_up hg hx n (by omega), hg n (by omega)]
      omega
/-- what is in use, by the class's kinds and lists -/
def capF (g : am_R → Nat) : Nat := g (1802, 0) + g (1803, 0) + g (1804, 0) + g (1806, 0) + g (1807, 0) + g (1808, 0) + g (1809, 0) + g (1601, 0) + g (1603, 0) + sumN (fun b => g (1003, b)) 40 + sumN (fun w => g (1702, w)) 20
def cntF (g : Nat → Nat) : Nat := g 0 + g 1 + g 3 + g 4 + g 5 + g 7 + g 1003 + g 1004 + g 1005 + g 1407 + g 1408 + g 1702
def pot (q : am_A) : Nat := cntF (qCN q) + capF (qCP q)
def am_RM (e : Nat) (q : am_A) : Prop := qCE q ≤ e + pot q ∧ qSL q ≤ 64 * (e + pot q)
def am_CX (q : am_A) (s : am_Z) : Prop := (qCN q 0 = (rI s 44).toNat ∧ qCN q 1003 = (rI s 44).toNat ∧ qCN q 1004 = (rI s 44).toNat ∧ qCN q 1005 = (rI s 44).toNat) ∧ (qCN q 7 = (rI s 61).toNat ∧ qCN q 1702 = (rI s 61).toNat) ∧ ((qCN q 1 : Nat) : Int) = sumI 0 (rI s 44).toNat (rA s 52) ∧ ((qCN q 5 : Nat) : Int) ≤ 61 * sumI 0 (rI s 3).toNat (rA s 10) ∧ (∀ b : Nat, rI s 44 ≤ b → qCP q (1003, b) = 0) ∧ (∀ w : Nat, rI s 61 ≤ w → qCP q (1702, w) = 0) ∧ (∀ b : Nat, qCP q (1003, b) = 0 ∨ qCP q (1003, b) = 10)
def am_CI (e : Nat) (q : am_A) (s : am_Z) : Prop := am_CV q s ∧ am_CX q s ∧ am_RM e q
/-- the kinds that are the class's -/
abbrev cK (t : Nat) : Prop := t < 9 ∨ (13 ≤ t ∧ t ≤ 15) ∨ (1000 ≤ t ∧ t < 1900)
def am_CY (q q' : am_A) : Prop := (∀ r : am_R, ¬ cK r.1 → (∀ f, qFI q' f r = qFI q f r) ∧ (∀ f, qFR q' f r = qFR q f r) ∧ (∀ k, qAI q' r k = qAI q r k) ∧ (∀ k, qAR q' r k = qAR q r k) ∧ (∀ k, qAJ q' r k = qAJ q r k) ∧ (∀ k, qAD q' r k = qAD q r k) ∧ qAL q' r = qAL q r ∧ qLS q' r = qLS q r ∧ qCP q' r = qCP q r) ∧ (∀ t, ¬ cK t → qCN q' t = qCN q t)
/-- no flag is set, and what is flagged and over stays so -/
def am_FP (q q' : am_A) : Prop := ∀ j : Nat, qFI q' 106 (1, j) ≠ 0 → qFI q' 106 (1, j) = qFI q 106 (1, j) ∧ (2 ≤ qFI q 105 (1, j) → 2 ≤ qFI q' 105 (1, j))
def am_CG (q q' : am_A) : Prop := am_CY q q' ∧ am_FP q q'
/-- an operation of the class: answer or exception, and what holds then -/
def am_OP (e : Nat) (k : Int) (kd : Int → Nat) (v : Option am_V) (q : am_A) (s' : am_Z) : am_O → am_A → Prop := fun o q' => (k = 0 → o = .inl v) ∧ (k ≠ 0 → o = .inr (kd k)) ∧ am_CI (e + 1) q' s' ∧ am_CG q q'
section CXG
variable {q q' q2 : am_A} {s s' : am_Z} {e : Nat}
theorem CY_r : am_CY q q := ⟨fun _ _ => ⟨fun _ => rfl, fun _ => rfl, fun _ => rfl, fun _ => rfl, fun _ => rfl, fun _ => rfl, rfl, rfl, rfl⟩, fun _ _ => rfl⟩
theorem CY_t (a : am_CY q q') (b : am_CY q' q2) : am_CY q q2 := by
  refine ⟨fun r hr => ?_, fun t ht => (b.2 t ht).trans (a.2 t ht)⟩
  obtain ⟨a1, a2, a3, a4, a5, a6, a7, a8, a9⟩ := a.1 r hr
  obtain ⟨b1, b2, b3, b4, b5, b6, b7, b8, b9⟩ := b.1 r hr
  exact ⟨fun f => (b1 f).trans (a1 f), fun f => (b2 f).trans (a2 f), fun f => (b3 f).trans (a3 f), fun f => (b4 f).trans (a4 f), fun f => (b5 f).trans (a5 f), fun f => (b6 f).trans (a6 f), b7.trans a7, b8.trans a8, b9.trans a9⟩
theorem cK_ne {r r' : am_R} (h : cK r.1) (h' : ¬ cK r'.1) : r' ≠ r := fun z => h' (by rw [z]; exact h)
theorem CY_FI (G : am_CY q q') {f : Nat} {r : am_R} {v : Int} (h : cK r.1) : am_CY q (uFI q' f r v) := CY_t G ⟨fun r' hr => ⟨fun f' => uf_nr (cK_ne h hr), fun _ => rfl, fun _ => rfl, fun _ => rfl, fun _ => rfl, fun _ => rfl, rfl, rfl, rfl⟩, fun _ _ => rfl⟩
theorem CY_FR (G : am_CY q q') {f : Nat} {r : am_R} {v : Option am_R} (h : cK r.1) : am_CY q (uFR q' f r v) := CY_t G ⟨fun r' hr => ⟨fun _ => rfl, fun f' => uf_nr (cK_ne h hr), fun _ => rfl, fun _ => rfl, fun _ => rfl, fun _ => rfl, rfl, rfl, rfl⟩, fun _ _ => rfl⟩
theorem CY_AI (G : am_CY q q') {r : am_R} {k : Nat} {v : Int} (h : cK r.1) : am_CY q (uAI q' r k v) := CY_t G ⟨fun r' hr => ⟨fun _ => rfl, fun _ => rfl, fun k' => u2_nr (cK_ne h hr), fun _ => rfl, fun _ => rfl, fun _ => rfl, rfl, rfl, rfl⟩, fun _ _ => rfl⟩
theorem CY_AR (G : am_CY q q') {r : am_R} {k : Nat} {v : Option am_R} (h : cK r.1) : am_CY q (uAR q' r k v) := CY_t G ⟨fun r' hr => ⟨fun _ => rfl, fun _ => rfl, fun _ => rfl, fun k' => u2_nr (cK_ne h hr), fun _ => rfl, fun _ => rfl, rfl, rfl, rfl⟩, fun _ _ => rfl⟩
theorem CY_LS (G : am_CY q q') {r : am_R} {xs : List am_R} (h : cK r.1) : am_CY q (uLS q' r xs) := CY_t G ⟨fun r' hr => ⟨fun _ => rfl, fun _ => rfl, fun _ => rfl, fun _ => rfl, fun _ => rfl, fun _ => rfl, rfl, if_neg (cK_ne h hr), rfl⟩, fun _ _ => rfl⟩
theorem CY_LG (G : am_CY q q') {r : am_R} {xs : List am_R} {c : Nat} (h : cK r.1) : am_CY q (uLG q' r xs c) := CY_t G ⟨fun r' hr => ⟨fun _ => rfl, fun _ => rfl, fun _ => rfl, fun _ => rfl, fun _ => rfl, fun _ => rfl, rfl, if_neg (cK_ne h hr), if_neg (cK_ne h hr)⟩, fun _ _ => rfl⟩
theorem CY_Add (G : am_CY q q') {r v : am_R} (h : cK r.1) : am_CY q (qAdd q' r v) := by
  unfold qAdd
  split
  · exact CY_LS G h
  · exact CY_LG G h
theorem CY_NO (G : am_CY q q') {t n : Nat} (h : cK t) : am_CY q (uNO q' t n) := CY_t G ⟨fun r' hr => ⟨fun _ => if_neg (cK_ne (r := (t, _)) h hr), fun _ => if_neg (cK_ne (r := (t, _)) h hr), fun _ => rfl, fun _ => rfl, fun _ => rfl, fun _ => rfl, rfl, rfl, rfl⟩, fun t' ht => if_neg (fun z => ht (by rw [z]; exact h))⟩
theorem CY_NA (G : am_CY q q') {t n : Nat} (h : cK t) : am_CY q (uNA q' t n) := CY_t G ⟨fun r' hr => ⟨fun _ => rfl, fun _ => rfl, fun k => congrFun (if_neg (cK_ne (r := (t, _)) h hr)) k, fun k => congrFun (if_neg (cK_ne (r := (t, _)) h hr)) k, fun k => congrFun (if_neg (cK_ne (r := (t, _)) h hr)) k, fun k => congrFun (if_neg (cK_ne (r := (t, _)) h hr)) k, if_neg (cK_ne (r := (t, _)) h hr), rfl, rfl⟩, fun t' ht => if_neg (fun z => ht (by rw [z]; exact h))⟩
theorem CY_NL (G : am_CY q q') {t : Nat} (h : cK t) : am_CY q (uNL q' t) := CY_t G ⟨fun r' hr => ⟨fun _ => if_neg (cK_ne (r := (t, _)) h hr), fun _ => if_neg (cK_ne (r := (t, _)) h hr), fun _ => rfl, fun _ => rfl, fun _ => rfl, fun _ => rfl, rfl, if_neg (cK_ne (r := (t, _)) h hr), if_neg (cK_ne (r := (t, _)) h hr)⟩, fun t' ht => if_neg (fun z => ht (by rw [z]; exact h))⟩
theorem FP_r : am_FP q q := fun _ _ => ⟨rfl, id⟩
theorem FP_t (a : am_FP q q') (b : am_FP q' q2) : am_FP q q2 := fun j h => by
  have b1 := b j h
  have a1 := a j (fun z => h (b1.1.trans z))
  exact ⟨b1.1.trans a1.1, fun z => b1.2 (a1.2 z)⟩
theorem FP_e (G : am_FP q q') (h : qFI q2 = qFI q') : am_FP q q2 := fun j z => by
  rw [h] at z ⊢
  exact G j z
theorem FP_n (G : am_FP q q') {r : am_R} (h1 : ∀ f, qFI q2 f r = 0) (h2 : ∀ f r', r' ≠ r → qFI q2 f r' = qFI q' f r') : am_FP q q2 := fun j z => by
  by_cases e : (((1, j)) : am_R) = r
  · rw [e, h1] at z
    exact absurd rfl z
  · rw [h2 106 _ e] at z
    rw [h2 106 _ e, h2 105 _ e]
    exact G j z
theorem FP_FI (G : am_FP q q') {f : Nat} {r : am_R} {v : Int} (h5 : r.1 = 1 → f ≠ 106 ∧ (f = 105 → 2 ≤ v ∨ ¬ 2 ≤ qFI q' 105 r)) : am_FP q (uFI q' f r v) := fun j z => by
  have e6 : qFI (uFI q' f r v) 106 (1, j) = qFI q' 106 (1, j) := if_neg (fun y => (h5 (by rw [← y.2])).1 y.1.symm)
  rw [e6] at z
  have g := G j z
  refine ⟨e6.trans g.1, fun y => ?_⟩
  have g2 := g.2 y
  show 2 ≤ (if 105 = f ∧ (((1, j)) : am_R) = r then v else qFI q' 105 (1, j))
  by_cases e : 105 = f ∧ (((1, j)) : am_R) = r
  · rw [if_pos e]
    have h6 := (h5 (by rw [← e.2])).2 e.1.symm
    rw [← e.2] at h6
    omega
  · rw [if_neg e]
    exact g2
theorem CG_r : am_CG q q := ⟨CY_r, FP_r⟩
theorem CG_t (a : am_CG q q') (b : am_CG q' q2) : am_CG q q2 := ⟨CY_t a.1 b.1, FP_t a.2 b.2⟩
theorem CG_FI (G : am_CG q q') {f : Nat} {r : am_R} {v : Int} (h : cK r.1) (h5 : r.1 = 1 → f ≠ 106 ∧ (f = 105 → 2 ≤ v ∨ ¬ 2 ≤ qFI q' 105 r) := by first | (intro h; simp at h; done) | (intro _; exact ⟨by omega, by omega⟩)) : am_CG q (uFI q' f r v) := ⟨CY_FI G.1 h, FP_FI G.2 h5⟩
theorem CG_FR (G : am_CG q q') {f : Nat} {r : am_R} {v : Option am_R} (h : cK r.1) : am_CG q (uFR q' f r v) := ⟨CY_FR G.1 h, FP_e G.2 rfl⟩
theorem CG_AI (G : am_CG q q') {r : am_R} {k : Nat} {v : Int} (h : cK r.1) : am_CG q (uAI q' r k v) := ⟨CY_AI G.1 h, FP_e G.2 rfl⟩
theorem CG_AR (G : am_CG q q') {r : am_R} {k : Nat} {v : Option am_R} (h : cK r.1) : am_CG q (uAR q' r k v) := ⟨CY_AR G.1 h, FP_e G.2 rfl⟩
theorem CG_LS (G : am_CG q q') {r : am_R} {xs : List am_R} (h : cK r.1) : am_CG q (uLS q' r xs) := ⟨CY_LS G.1 h, FP_e G.2 rfl⟩
theorem CG_LG (G : am_CG q q') {r : am_R} {xs : List am_R} {c : Nat} (h : cK r.1) : am_CG q (uLG q' r xs c) := ⟨CY_LG G.1 h, FP_e G.2 rfl⟩
theorem CG_Add (G : am_CG q q') {r v : am_R} (h : cK r.1) : am_CG q (qAdd q' r v) := by
  unfold qAdd
  split
  · exact CG_LS G h
  · exact CG_LG G h
theorem CG_NO (G : am_CG q q') {t n : Nat} (h : cK t) : am_CG q (uNO q' t n) := ⟨CY_NO G.1 h, FP_n (r := (t, qCN q' t)) G.2 (fun _ => if_pos rfl) (fun _ _ y => if_neg y)⟩
theorem CG_NA (G : am_CG q q') {t n : Nat} (h : cK t) : am_CG q (uNA q' t n) := ⟨CY_NA G.1 h, FP_e G.2 rfl⟩
theorem CG_NL (G : am_CG q q') {t : Nat} (h : cK t) : am_CG q (uNL q' t) := ⟨CY_NL G.1 h, FP_n (r := (t, qCN q' t)) G.2 (fun _ => if_pos rfl) (fun _ _ y => if_neg y)⟩
/-! room -/
abbrev kPot (t : Nat) : Prop := t = 0 ∨ t = 1 ∨ t = 3 ∨ t = 4 ∨ t = 5 ∨ t = 7 ∨ t = 1003 ∨ t = 1004 ∨ t = 1005 ∨ t = 1407 ∨ t = 1408 ∨ t = 1702
theorem cnt_up {t : Nat} {g : Nat → Nat} (h : kPot t) : cntF (am_u1 g t (g t + 1)) = cntF g + 1 := by
  unfold cntF am_u1
  rcases h with rfl | rfl | rfl | rfl | rfl | rfl | rfl | rfl | rfl | rfl | rfl | rfl <;> simp <;> omega
theorem cnt_eq {t v : Nat} {g : Nat → Nat} (h : ¬ kPot t) : cntF (am_u1 g t v) = cntF g := by
  unfold cntF am_u1
  simp only [not_or] at h
  obtain ⟨h0, h1, h3, h4, h5, h7, h1003, h1004, h1005, h1407, h1408, h1702⟩ := h
  rw [if_neg (Ne.symm h0), if_neg (Ne.symm h1), if_neg (Ne.symm h3), if_neg (Ne.symm h4), if_neg (Ne.symm h5), if_neg (Ne.symm h7), if_neg (Ne.symm h1003), if_neg (Ne.symm h1004), if_neg (Ne.symm h1005), if_neg (Ne.symm h1407), if_neg (Ne.symm h1408), if_neg (Ne.symm h1702)]
abbrev kCap (r : am_R) : Prop := (r.2 = 0 ∧ (r.1 = 1802 ∨ r.1 = 1803 ∨ r.1 = 1804 ∨ r.1 = 1806 ∨ r.1 = 1807 ∨ r.1 = 1808 ∨ r.1 = 1809 ∨ r.1 = 1601 ∨ r.1 = 1603)) ∨ (r.1 = 1003 ∧ r.2 < 40) ∨ (r.1 = 1702 ∧ r.2 < 20)
theorem u1_ne {r r' : am_R} {g : am_R → Nat} {v : Nat} (h : r' ≠ r) : am_u1 g r v r' = g r' := if_neg h
theorem u1_eq {r : am_R} {g : am_R → Nat} {v : Nat} : am_u1 g r v r = v := if_pos rfl
theorem cap_up {r : am_R} {g : am_R → Nat} {x : Nat} (h : kCap r) : capF (am_u1 g r (g r + x)) = capF g + x := by
  obtain ⟨t, n⟩ := r
  unfold capF
  have hne : ∀ {t' n'}, t' ≠ t ∨ n' ≠ n → am_u1 g (t, n) (g (t, n) + x) (t', n') = g (t', n') := fun h => u1_ne (fun z => by
    have z1 := congrArg Prod.fst z
    have z2 := congrArg Prod.snd z
    simp only at z1 z2
    omega)
  have hB : t ≠ 1003 → sumN (fun b => am_u1 g (t, n) (g (t, n) + x) (1003, b)) 40 = sumN (fun b => g (1003, b)) 40 := fun h => sumN_eq 40 (fun i _ => hne (Or.inl (Ne.symm h)))
  have hW : t ≠ 1702 → sumN (fun b => am_u1 g (t, n) (g (t, n) + x) (1702, b)) 20 = sumN (fun b => g (1702, b)) 20 := fun h => sumN_eq 20 (fun i _ => hne (Or.inl (Ne.symm h)))
  rcases h with ⟨h1, h2⟩ | ⟨h1, h2⟩ | ⟨h1, h2⟩
  · simp only at h1 h2
    subst h1
    rw [hB (by omega), hW (by omega)]
    unfold am_u1
    rcases h2 with rfl | rfl | rfl | rfl | rfl | rfl | rfl | rfl | rfl <;> simp <;> omega
  · simp only at h1 h2
    subst h1
    have hS : sumN (fun b => am_u1 g (1003, n) (g (1003, n) + x) (1003, b)) 40 = sumN (fun b => g (1003, b)) 40 + x := sumN_up (i := n) (fun j hj => hne (Or.inr hj)) u1_eq 40 h2
    rw [hS, hW (by omega)]
    rw [hne (t' := 1802) (n' := 0) (Or.inl (by omega)), hne (t' := 1803) (n' := 0) (Or.inl (by omega)), hne (t' := 1804) (n' := 0) (Or.inl (by omega)), hne (t' := 1806) (n' := 0) (Or.inl (by omega)), hne (t' := 1807) (n' := 0) (Or.inl (by omega)), hne (t' := 1808) (n' := 0) (Or.inl (by omega)), hne (t' := 1809) (n' := 0) (Or.inl (by omega)), hne (t' := 1601) (n' := 0) (Or.inl (by omega)), hne (t' := 1603) (n' := 0) (Or.inl (by omega))]
    omega
  · simp only at h1 h2
    subst h1
    have hS : sumN (fun b => am_u1 g (1702, n) (g (1702, n) + x) (1702, b)) 20 = sumN (fun b => g (1702, b)) 20 + x := sumN_up (i := n) (fun j hj => hne (Or.inr hj)) u1_eq 20 h2
    rw [hS, hB (by omega)]
    rw [hne (t' := 1802) (n' := 0) (Or.inl (by omega)), hne (t' := 1803) (n' := 0) (Or.inl (by omega)), hne (t' := 1804) (n' := 0) (Or.inl (by omega)), hne (t' := 1806) (n' := 0) (Or.inl (by omega)), hne (t' := 1807) (n' := 0) (Or.inl (by omega)), hne (t' := 1808) (n' := 0) (Or.inl (by omega)), hne (t' := 1809) (n' := 0) (Or.inl (by omega)), hne (t' := 1601) (n' := 0) (Or.inl (by omega)), hne (t' := 1603) (n' := 0) (Or.inl (by omega))]
    omega
theorem RM_le {e' : Nat} (h : am_RM e q) (he : e ≤ e') : am_RM e' q := ⟨Nat.le_trans h.1 (by omega), Nat.le_trans h.2 (by omega)⟩
theorem RM_FI {f : Nat} {r : am_R} {v : Int} (h : am_RM e q) : am_RM e (uFI q f r v) := h
theorem RM_NO {t n : Nat} (h : am_RM e q) (ht : kPot t) (hn : n ≤ 64) : am_RM e (uNO q t n) := by
  have hp : pot (uNO q t n) = pot q + 1 := by
    show cntF (am_u1 (qCN q) t (qCN q t + 1)) + capF (qCP q) = cntF (qCN q) + capF (qCP q) + 1
    rw [cnt_up ht]
    omega
  have h1 := h.1
  have h2 := h.2
  refine ⟨?_, ?_⟩
  · show qCE q + 1 ≤ _
    rw [hp]
    omega
  · show qSL q + n ≤ _
    rw [hp]
    omega
theorem RM_NA {t n : Nat} (h : am_RM e q) (ht : kPot t) (hn : n ≤ 64) : am_RM e (uNA q t n) := by
  have hp : pot (uNA q t n) = pot q + 1 := by
    show cntF (am_u1 (qCN q) t (qCN q t + 1)) + capF (qCP q) = cntF (qCN q) + capF (qCP q) + 1
    rw [cnt_up ht]
    omega
  have h1 := h.1
  have h2 := h.2
  refine ⟨?_, ?_⟩
  · show qCE q + 1 ≤ _
    rw [hp]
    omega
  · show qSL q + n ≤ _
    rw [hp]
    omega
theorem RM_NL {t : Nat} (h : am_RM e q) (ht : t = 1003 ∨ t = 1702) (hc : qCP q (t, qCN q t) = 0) : am_RM e (uNL q t) := by
  have hp : pot (uNL q t) = pot q + 1 := by
    have e2 : am_u1 (qCP q) (t, qCN q t) 0 = qCP q := by
      funext r
      unfold am_u1
      split
      · rename_i z; rw [z, hc]
      · rfl
    show cntF (am_u1 (qCN q) t (qCN q t + 1)) + capF (am_u1 (qCP q) (t, qCN q t) 0) = cntF (qCN q) + capF (qCP q) + 1
    rw [cnt_up (by omega), e2]
    omega
  have h1 := h.1
  have h2 := h.2
  refine ⟨?_, ?_⟩
  · show qCE q + 1 ≤ _
    rw [hp]
    omega
  · show qSL q + 3 ≤ _
    rw [hp]
    omega
/-- an exception: one more cell -/
theorem RM_EX {t n : Nat} (h : am_RM e q) (ht : 13 ≤ t ∧ t ≤ 15) (hn : n ≤ 64) : am_RM (e + 1) (uNO q t n) := by
  have hp : pot (uNO q t n) = pot q := by
    show cntF (am_u1 (qCN q) t (qCN q t + 1)) + capF (qCP q) = cntF (qCN q) + capF (qCP q)
    rw [cnt_eq (by omega)]
  have h1 := h.1
  have h2 := h.2
  refine ⟨?_, ?_⟩
  · show qCE q + 1 ≤ _
    rw [hp]
    omega
  · show qSL q + n ≤ _
    rw [hp]
    omega
theorem RM_Add {r v : am_R} (h : am_RM e q) (hr : kCap r) (hl : (qLS q r).length ≤ 40) (hle : (qLS q r).length ≤ qCP q r) : am_RM e (qAdd q r v) := by
  unfold qAdd
  split
  · exact h
  · generalize hc : (if qCP q r = 0 then 10 else qCP q r + max 1 (qCP q r / 2)) = c
    have hc2 : qCP q r < c ∧ c ≤ 64 := by split at hc <;> omega
    have hp : pot (uLG q r (qLS q r ++ [v]) c) = pot q + (c - qCP q r) := by
      show cntF (qCN q) + capF (am_u1 (qCP q) r c) = cntF (qCN q) + capF (qCP q) + (c - qCP q r)
      rw [show c = qCP q r + (c - qCP q r) by omega, cap_up hr]
      omega
    have h1 := h.1
    have h2 := h.2
    refine ⟨?_, ?_⟩
    · show qCE q + 1 ≤ _
      rw [hp]
      omega
    · show qSL q + c ≤ _
      rw [hp]
      omega
theorem CX_s (X : am_CX q s) (m : ∀ x, rA s' 52 x = rA s 52 x ∧ rA s' 10 x = rA s 10 x) (n : rI s' 44 = rI s 44 ∧ rI s' 61 = rI s 61 ∧ rI s' 3 = rI s 3) : am_CX q s' := by
  unfold am_CX
  rw [n.1, n.2.1, n.2.2, show rA s' 52 = rA s 52 from funext (fun x => (m x).1), show rA s' 10 = rA s 10 from funext (fun x => (m x).2)]
  exact X
/-- a write that is neither a list's nor a new object's -/
theorem CI_w (I : am_CI e q s) (V : am_CV q' s') (h1 : qCN q' = qCN q) (h2 : qCP q' = qCP q) (h3 : qCE q' = qCE q) (h4 : qSL q' = qSL q) (m : ∀ x, rA s' 52 x = rA s 52 x ∧ rA s' 10 x = rA s 10 x) (n : rI s' 44 = rI s 44 ∧ rI s' 61 = rI s 61 ∧ rI s' 3 = rI s 3) : am_CI e q' s' := by
  refine ⟨V, ?_, ?_⟩
  · have X := CX_s I.2.1 m n
    unfold am_CX at X ⊢
    rw [h1, h2]
    exact X
  · have R := I.2.2
    unfold am_RM pot at R ⊢
    rw [h1, h2, h3, h4]
    exact R
theorem CI_EX (I : am_CI e q s) {t : Nat} (ht : 13 ≤ t ∧ t ≤ 15) : am_CI (e + 1) (uNO q t 6) s := by
  have hne : ∀ t', t' ≠ t → qCN (uNO q t 6) t' = qCN q t' := fun t' h => if_neg h
  refine ⟨CV_EQ I.1 (EQ_NO I.1 (by omega)), ?_, RM_EX I.2.2 ht (by omega)⟩
  have X := I.2.1
  unfold am_CX at X ⊢
  rw [hne 0 (by omega), hne 1003 (by omega), hne 1004 (by omega), hne 1005 (by omega), hne 7 (by omega), hne 1702 (by omega), hne 1 (by omega), hne 5 (by omega)]
  exact X
theorem CI_le {e' : Nat} (I : am_CI e q s) (h : e ≤ e') : am_CI e' q s := ⟨I.1, I.2.1, RM_le I.2.2 h⟩
/-- from the post of a simple operation -/
theorem OP_of {k : Int} {kd : Int → Nat} {v : Option am_V} {R : am_A → Prop} {o : am_O} (I : am_CI e q s) (hk : k ≠ 0 → 13 ≤ kd k ∧ kd k ≤ 15) (h : am_OK k kd v q R o q') (hR : k = 0 → R q' → am_CI (e + 1) q' s' ∧ am_CG q q') (hs : k ≠ 0 → s' = s) : am_OP e k kd v q s' o q' := by
  by_cases hz : k = 0
  · obtain ⟨h1, h2⟩ := h.1 hz
    obtain ⟨h3, h4⟩ := hR hz h2
    exact ⟨fun _ => h1, fun z => absurd hz z, h3, h4⟩
  · obtain ⟨h1, h2⟩ := h.2 hz
    refine ⟨fun z => absurd z hz, fun _ => h1, ?_, ?_⟩
    · rw [h2, hs hz]
      exact CI_EX I (hk hz)
    · rw [h2]
      exact CG_NO CG_r (by have := hk hz; omega)
theorem kd3_b {k : Int} : 13 ≤ kd3 k ∧ kd3 k ≤ 15 := by unfold kd3; split; omega; split <;> omega
theorem kd2_b {k : Int} : 13 ≤ kd2 k ∧ kd2 k ≤ 15 := by unfold kd2; split <;> omega
theorem kd1_b {k : Int} : 13 ≤ kd1 k ∧ kd1 k ≤ 15 := by unfold kd1; omega
end CXG
end

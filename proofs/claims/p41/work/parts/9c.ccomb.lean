noncomputable section
/-- the stretches that are tried: w, fares and counts of legs -/
def am_TR (q : am_A) (s : am_Z) (w : am_wP) : Prop := w.length ≤ 4 ∧ (∀ i : Nat, i < w.length → (qLS q (1601, 0))[i]? = some (3, (pF w i).toNat) ∧ qAI q (1602, 0) i = pC w i ∧ (0 ≤ pF w i ∧ pF w i < rI s 20)) ∧ (qLS q (1601, 0)).length = w.length
theorem cl_szT {d : Nat} {q : am_A} {s : am_Z} (V : am_CV q s) {w : am_wP} (T : am_TR q s w) : am_C2 d m_AL_size [aR 1601 0] q (am_is2 (aI (zI (w.length : Int))) q) := by
  have h := sq_size (d := d) (t := 1601) (n := 0) (q := q) rfl (by omega) (V.1.2.2.2 1601 rfl)
  rw [T.2.2] at h
  exact h
theorem cl_getT {d : Nat} {q : am_A} {s : am_Z} (V : am_CV q s) {w : am_wP} (T : am_TR q s w) {i : Int} {j : Nat} (hi : i = (j : Int)) (hj : j < w.length) : am_C2 (d + 2) m_AL_get [aR 1601 0, aI (zI i)] q (am_is2 (aR 3 (pF w j).toNat) q) := sq_get (j := j) rfl (by omega) (V.1.2.2.2 1601 rfl) hi (T.2.1 j hj).1
def ownQ (s : am_Z) (w : am_wP) (j : Nat) : Prop := ∃ k : Nat, k < j ∧ rA s 31 (pF w k) ≠ 0
def mixQ (s : am_Z) (w : am_wP) (j : Nat) : Prop := ∃ k : Nat, k < j ∧ rA s 21 (pF w k) ≠ rA s 21 (pF w 0)
theorem own_s {s : am_Z} {w : am_wP} {j : Nat} {a v : Int} (h : a = 1 ↔ ownQ s w j) (hv : v = 1 ↔ (a = 1 ∨ rA s 31 (pF w j) ≠ 0)) : v = 1 ↔ ownQ s w (j + 1) := by
  rw [hv, h]
  constructor
  · rintro (⟨k, h1, h2⟩ | h2)
    · exact ⟨k, by omega, h2⟩
    · exact ⟨j, by omega, h2⟩
  · rintro ⟨k, h1, h2⟩
    by_cases e : k = j
    · rw [e] at h2; exact Or.inr h2
    · exact Or.inl ⟨k, by omega, h2⟩
theorem mix_s {s : am_Z} {w : am_wP} {j : Nat} {a v : Int} (h : a = 1 ↔ mixQ s w j) (hv : v = 1 ↔ (a = 1 ∨ rA s 21 (pF w j) ≠ rA s 21 (pF w 0))) : v = 1 ↔ mixQ s w (j + 1) := by
  rw [hv, h]
  constructor
  · rintro (⟨k, h1, h2⟩ | h2)
    · exact ⟨k, by omega, h2⟩
    · exact ⟨j, by omega, h2⟩
  · rintro ⟨k, h1, h2⟩
    by_cases e : k = j
    · rw [e] at h2; exact Or.inr h2
    · exact Or.inl ⟨k, by omega, h2⟩
theorem lp_cc {d : Nat} {q : am_A} {Q : am_O → am_A → Prop} {s : am_Z} (V : am_CV q s) {w : am_wP} (T : am_TR q s w) : ∀ (m : Nat) (j : Nat) (a b k : Int), w.length - j < m → (k = j ∧ j ≤ w.length ∧ (a = 0 ∨ a = 1) ∧ (b = 0 ∨ b = 1) ∧ (a = 1 ↔ ownQ s w j) ∧ (b = 1 ↔ mixQ s w j)) → (∀ a b x4, (a = 0 ∨ a = 1) → (b = 0 ∨ b = 1) → (a = 1 ↔ ownQ s w w.length) → (b = 1 ↔ mixQ s w w.length) → am_W2 (d + 3) m_Pr_areCarriersCombined 91 [some (aR 6 0), some (aI (zI a)), some (aI (zI b)), x4] [] (q) Q) → am_W2 (d + 3) m_Pr_areCarriersCombined 6 [some (aR 6 0), some (aI (zI a)), some (aI (zI b)), some (aI (zI k))] [] (q) Q := by
  intro m
  induction m with
  | zero => intro j a b k hm; exact absurd hm (Nat.not_lt_zero _)
  | succ m ih =>
    intro j a b k hm ⟨hj, hj2, ha, hb, hao, hbm⟩ K
    subst hj
    have h4 := T.1
    have hpr : qFR q 601 (6, 0) = some (1601, 0) := V.1.2.1 601 _ rfl
    refine ar_iload_n rfl rfl ?_
    refine ar_aload_n rfl rfl ?_
    refine ar_gfR rfl rfl rfl (by omega) (hpr) ?_
    refine ar_cv0 rfl rfl rfl (Nat.le_of_ble_eq_true rfl) (cl_szT (d := 0) V T) (by omega) (fun o q11 hq => am_B2_is ?_ hq)
    refine ar_icmp_ge rfl rfl (by omega) (by omega) (fun h14 => ?_) (fun h14 => ?_)
    · have ej : j = w.length := by omega
      rw [ej] at hao hbm
      exact K _ _ _ ha hb hao hbm
    · have hTj := T.2.1 j (by omega)
      have hT0 := T.2.1 0 (by omega)
      have hA := (V.2.2.2.2.1.2.2 (pF w j).toNat (by omega)).1
      have hA0 := (V.2.2.2.2.1.2.2 (pF w 0).toNat (by omega)).1
      have ew : (((pF w j).toNat : Nat) : Int) = pF w j := by omega
      have ew0 : (((pF w 0).toNat : Nat) : Int) = pF w 0 := by omega
      have b31 := (CV_B V).1 31 (pF w j) 0 1 rfl
      have b21 := (CV_B V).1 21 (pF w j) (-1) 2 rfl
      have b210 := (CV_B V).1 21 (pF w 0) (-1) 2 rfl
      refine cq_join (pc' := 43) (V := (if a = 1 ∨ rA s 31 (pF w j) ≠ 0 then 1 else 0)) ?_ (fun K43 => ?_)
      · refine ar_stI1 rfl ?_
        refine cq_join (pc' := 84) (V := (if b = 1 ∨ rA s 21 (pF w j) ≠ rA s 21 (pF w 0) then 1 else 0)) ?_ (fun K84 => ?_)
        · refine ar_stI2 rfl ?_
          refine ar_inc3 rfl ?_
          refine ar_goto rfl rfl ?_
          exact ih (j + 1) _ _ _ (by omega) ⟨by omega, by omega, by split <;> omega, by split <;> omega, own_s hao (by split <;> omega), mix_s hbm (by split <;> omega)⟩ K
        · refine ar_iload_n rfl rfl ?_
          refine ar_if_ne rfl rfl (by omega) (fun h45 => ?_) (fun h45 => ?_)
          · refine ar_iconst rfl ?_
            refine ar_goto rfl rfl ?_
            exact K84 _ (by first | rw [if_pos (by omega)] | rw [if_neg (by omega)])
          · refine ar_aload_n rfl rfl ?_
            refine ar_gfR rfl rfl rfl (by omega) (hpr) ?_
            refine ar_iload_n rfl rfl ?_
            refine ar_cv1 rfl rfl rfl (Nat.le_of_ble_eq_true rfl) (cl_getT (d := 0) V T rfl (by omega)) (by omega) (fun o q53 hq => am_B2_is ?_ hq)
            refine ar_cast rfl rfl rfl ?_
            refine ar_gfIv rfl rfl rfl (by omega) ((hA 301 21 rfl).trans (by rw [ew])) ?_
            refine ar_aload_n rfl rfl ?_
            refine ar_gfR rfl rfl rfl (by omega) (hpr) ?_
            refine ar_iconst rfl ?_
            refine ar_cv1 rfl rfl rfl (Nat.le_of_ble_eq_true rfl) (cl_getT (d := 0) (j := 0) V T rfl (by omega)) (by omega) (fun o q67 hq => am_B2_is ?_ hq)
            refine ar_cast rfl rfl rfl ?_
            refine ar_gfIv rfl rfl rfl (by omega) ((hA0 301 21 rfl).trans (by rw [ew0])) ?_
            refine ar_icmp_eq rfl rfl (by omega) (by omega) (fun h76 => ?_) (fun h76 => ?_)
            · refine ar_iconst rfl ?_
              exact K84 _ (by first | rw [if_pos (by omega)] | rw [if_neg (by omega)])
            · refine ar_iconst rfl ?_
              refine ar_goto rfl rfl ?_
              exact K84 _ (by first | rw [if_pos (by omega)] | rw [if_neg (by omega)])
      · refine ar_iload_n rfl rfl ?_
        refine ar_if_ne rfl rfl (by omega) (fun h18 => ?_) (fun h18 => ?_)
        · refine ar_iconst rfl ?_
          refine ar_goto rfl rfl ?_
          exact K43 _ (by first | rw [if_pos (by omega)] | rw [if_neg (by omega)])
        · refine ar_aload_n rfl rfl ?_
          refine ar_gfR rfl rfl rfl (by omega) (hpr) ?_
          refine ar_iload_n rfl rfl ?_
          refine ar_cv1 rfl rfl rfl (Nat.le_of_ble_eq_true rfl) (cl_getT (d := 0) V T rfl (by omega)) (by omega) (fun o q26 hq => am_B2_is ?_ hq)
          refine ar_cast rfl rfl rfl ?_
          refine ar_gfIv rfl rfl rfl (by omega) ((hA 311 31 rfl).trans (by rw [ew])) ?_
          refine ar_if_eq rfl rfl (by omega) (fun h35 => ?_) (fun h35 => ?_)
          · refine ar_iconst rfl ?_
            exact K43 _ (by first | rw [if_pos (by omega)] | rw [if_neg (by omega)])
          · refine ar_iconst rfl ?_
            refine ar_goto rfl rfl ?_
            exact K43 _ (by first | rw [if_pos (by omega)] | rw [if_neg (by omega)])
theorem cs_combined {d : Nat} {q : am_A} {s : am_Z} (V : am_CV q s) {w : am_wP} (T : am_TR q s w) : am_C2 (d + 3) m_Pr_areCarriersCombined [aR 6 0] q (fun o q' => q' = q ∧ ((¬ (ownQ s w w.length ∧ mixQ s w w.length) ∧ o = .inl (some (aI (zI 1)))) ∨ ((ownQ s w w.length ∧ mixQ s w w.length) ∧ o = .inl (some (aI (zI 0)))))) := by
  refine am_C2_i (ls := [some (aR 6 0), none, none, none]) rfl ?_
  have h4 := T.1
  refine ar_iconst rfl ?_
  refine ar_stI1 rfl ?_
  refine ar_iconst rfl ?_
  refine ar_stI2 rfl ?_
  refine ar_iconst rfl ?_
  refine ar_stI3 rfl ?_
  refine lp_cc (d := d) (q := q) V T (w.length + 1) 0 0 0 0 (by omega) ⟨rfl, by omega, Or.inl rfl, Or.inl rfl, ⟨fun z => by omega, fun ⟨k, k1, _⟩ => absurd k1 (Nat.not_lt_zero k)⟩, ⟨fun z => by omega, fun ⟨k, k1, _⟩ => absurd k1 (Nat.not_lt_zero k)⟩⟩ (fun a b x4 ha hb hao hbm => ?_)
  refine ar_iload_n rfl rfl ?_
  refine ar_if_eq rfl rfl (by omega) (fun h92 => ?_) (fun h92 => ?_)
  · refine ar_iconst rfl ?_
    refine ar_goto rfl rfl ?_
    exact ar_iret rfl (Or.inr ⟨rfl, by first | omega | (split <;> omega)⟩) (⟨rfl, by first | exact Or.inr ⟨⟨hao.mp (by omega), hbm.mp (by omega)⟩, rfl⟩ | exact Or.inl ⟨fun z => by have z1 := hao.mpr z.1; have z2 := hbm.mpr z.2; omega, rfl⟩⟩)
  · refine ar_iload_n rfl rfl ?_
    refine ar_if_ne rfl rfl (by omega) (fun h96 => ?_) (fun h96 => ?_)
    · refine ar_iconst rfl ?_
      exact ar_iret rfl (Or.inr ⟨rfl, by first | omega | (split <;> omega)⟩) (⟨rfl, by first | exact Or.inr ⟨⟨hao.mp (by omega), hbm.mp (by omega)⟩, rfl⟩ | exact Or.inl ⟨fun z => by have z1 := hao.mpr z.1; have z2 := hbm.mpr z.2; omega, rfl⟩⟩)
    · refine ar_iconst rfl ?_
      refine ar_goto rfl rfl ?_
      exact ar_iret rfl (Or.inr ⟨rfl, by first | omega | (split <;> omega)⟩) (⟨rfl, by first | exact Or.inr ⟨⟨hao.mp (by omega), hbm.mp (by omega)⟩, rfl⟩ | exact Or.inl ⟨fun z => by have z1 := hao.mpr z.1; have z2 := hbm.mpr z.2; omega, rfl⟩⟩)
end

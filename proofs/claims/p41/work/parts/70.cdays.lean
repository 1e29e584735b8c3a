noncomputable section
theorem cs_Lg_init {d : Nat} {q : am_A} {i j : Nat} {n t h w : Int} (h0 : qFI q 400 (4, i) = n) (h9 : qFI q 409 (4, i) = h) (h5 : qFI q 405 (4, i) = w) : am_C2 d m_Lg_init [aR 5 j, aR 4 i, aI (zI t)] q (fun o q' => o = .inl none ∧ q' = uFs (uFR q 500 (5, j) (some (4, i))) (5, j) [(501, t), (502, 100 * n + t), (503, h + 24 * t), (504, h + 24 * t + w)]) := by
  refine am_C2_i (ls := [some (aR 5 j), some (aR 4 i), some (aI (zI t))]) rfl ?_
  refine ar_aload_n rfl rfl ?_
  refine ar_objinit rfl rfl rfl rfl (Nat.le_of_ble_eq_true rfl) ?_
  refine ar_aload_n rfl rfl ?_
  refine ar_aload_n rfl rfl ?_
  refine ar_pfR rfl rfl rfl rfl (by omega) ?_
  refine ar_aload_n rfl rfl ?_
  refine ar_iload_n rfl rfl ?_
  refine ar_pfI rfl rfl rfl rfl (by omega) (Or.inl rfl) ?_
  refine ar_aload_n rfl rfl ?_
  refine ar_bipush (x := 100) rfl rfl ?_
  refine ar_aload_n rfl rfl ?_
  refine ar_gfIv rfl rfl rfl (by omega) (h0) ?_
  refine ar_imul rfl ?_
  refine ar_iload_n rfl rfl ?_
  refine ar_iadd rfl ?_
  refine ar_pfI rfl rfl rfl rfl (by omega) (Or.inl rfl) ?_
  refine ar_aload_n rfl rfl ?_
  refine ar_aload_n rfl rfl ?_
  refine ar_gfIv rfl rfl rfl (by omega) (h9) ?_
  refine ar_bipush (x := 24) rfl rfl ?_
  refine ar_iload_n rfl rfl ?_
  refine ar_imul rfl ?_
  refine ar_iadd rfl ?_
  refine ar_pfI rfl rfl rfl rfl (by omega) (Or.inl rfl) ?_
  refine ar_aload_n rfl rfl ?_
  refine ar_aload_n rfl rfl ?_
  refine ar_gfIv rfl rfl rfl (by omega) (ff_eq) ?_
  refine ar_aload_n rfl rfl ?_
  refine ar_gfIv rfl rfl rfl (by omega) (h5) ?_
  refine ar_iadd rfl ?_
  refine ar_pfI rfl rfl rfl rfl (by omega) (Or.inl rfl) ?_
  exact ar_ret rfl rfl (⟨rfl, rfl⟩)
/-- the legs that are made while the days go by -/
def lgQ (q : am_A) (f : Nat) (h w : Int) (t r : Nat) : Prop := qFR q 500 (5, r) = some (4, f) ∧ qFI q 501 (5, r) = t ∧ qFI q 502 (5, r) = 100 * f + t ∧ qFI q 503 (5, r) = h + 24 * t ∧ qFI q 504 (5, r) = h + 24 * t + w ∧ qFI q 505 (5, r) = 0 ∧ qFI q 506 (5, r) = 0
abbrev bitP (n t : Int) : Prop := iAnd (iShr n (t % 7)) 1 = 1
def am_DJ (e : Nat) (q : am_A) (f : Nat) (h w a n : Int) (j : Nat) (q' : am_A) : Prop := am_GD (fun t i => (t = 1408 ∧ i = f) ∨ (t = 5 ∧ qCN q 5 ≤ i)) q q' ∧ (∀ t, t ≠ 5 → qCN q' t = qCN q t) ∧ (qCN q 5 ≤ qCN q' 5 ∧ (qCN q' 5 : Int) ≤ qCN q 5 + (j - a)) ∧ qAL q' (1408, f) = qAL q (1408, f) ∧ (∀ t : Nat, (a ≤ t ∧ t < j ∧ bitP n t) → ∃ r : Nat, qAR q' (1408, f) t = some (5, r) ∧ r < qCN q' 5 ∧ qCN q 5 ≤ r ∧ lgQ q' f h w t r) ∧ (∀ t : Nat, ¬ (a ≤ t ∧ t < j ∧ bitP n t) → qAR q' (1408, f) t = qAR q (1408, f) t) ∧ am_RM e q' ∧ qCP q' = qCP q ∧ am_CG q q'
theorem DJ_n {e : Nat} {q q' : am_A} {f : Nat} {h w a n : Int} {j : Nat} (H : am_DJ e q f h w a n j q') (hb : ¬ bitP n j) : am_DJ e q f h w a n (j + 1) q' := by
  obtain ⟨h1, h2, h3, h4, h5, h6, h7, h8, h9⟩ := H
  refine ⟨h1, h2, ⟨h3.1, by omega⟩, h4, fun t ht => ?_, fun t ht => ?_, h7, h8, h9⟩
  · by_cases e1 : t = j
    · subst e1; exact absurd ht.2.2 hb
    · exact h5 t ⟨ht.1, by omega, ht.2.2⟩
  · exact h6 t (fun z => ht ⟨z.1, by omega, z.2.2⟩)
theorem lgQ_G {q q' : am_A} {D : Nat → Nat → Prop} (G : am_GD D q q') {f : Nat} {h w : Int} {t r : Nat} (H : lgQ q f h w t r) (hr : ¬ D 5 r) : lgQ q' f h w t r := by
  obtain ⟨g1, g2, -⟩ := G 5 r hr
  obtain ⟨a1, a2, a3, a4, a5, a6, a7⟩ := H
  exact ⟨(g2 _).trans a1, (g1 _).trans a2, (g1 _).trans a3, (g1 _).trans a4, (g1 _).trans a5, (g1 _).trans a6, (g1 _).trans a7⟩
def djH (q' : am_A) (f : Nat) (h w : Int) (j : Nat) : am_A := uAR (uFs (uFR (uNO q' 5 7) 500 (5, qCN q' 5) (some (4, f))) (5, qCN q' 5) [(501, (j : Int)), (502, 100 * (f : Int) + j), (503, h + 24 * (j : Int)), (504, h + 24 * (j : Int) + w)]) (1408, f) j (some (5, qCN q' 5))
theorem DJ_s {e : Nat} {q q' : am_A} {f : Nat} {h w a n : Int} {j : Nat} (H : am_DJ e q f h w a n j q') (hb : bitP n j) (ha : a ≤ j) : am_DJ e q f h w a n (j + 1) (djH q' f h w j) := by
  obtain ⟨h1, h2, h3, h4, h5, h6, h7, h8, h9⟩ := H
  have G : am_GD (fun t i => (t = 1408 ∧ i = f) ∨ (t = 5 ∧ i = qCN q' 5)) q' (djH q' f h w j) := GD_AR (GD_Fs (GD_FR (GD_NO GD_r (Or.inr ⟨rfl, rfl⟩)) (Or.inr ⟨rfl, rfl⟩)) (Or.inr ⟨rfl, rfl⟩)) (Or.inl ⟨rfl, rfl⟩)
  have c5 : qCN (djH q' f h w j) 5 = qCN q' 5 + 1 := rfl
  have cn : ∀ t, t ≠ 5 → qCN (djH q' f h w j) t = qCN q' t := fun t ht => if_neg ht
  have ar : ∀ t, t ≠ j → qAR (djH q' f h w j) (1408, f) t = qAR q' (1408, f) t := fun t ht => if_neg (fun z => ht z.2)
  have arj : qAR (djH q' f h w j) (1408, f) j = some (5, qCN q' 5) := if_pos ⟨rfl, rfl⟩
  refine ⟨GD_t h1 (GD_w G (fun t i z => by rcases z with z | z; exact Or.inl z; exact Or.inr ⟨z.1, by omega⟩)), fun t ht => (cn t ht).trans (h2 t ht), by rw [c5]; exact ⟨by omega, by omega⟩, h4, fun t ht => ?_, fun t ht => ?_, ?_, h8, ?_⟩
  · by_cases e1 : t = j
    · subst e1
      have fi : ∀ x, qFI (djH q' f h w t) x (5, qCN q' 5) = (lkF x [(501, (t : Int)), (502, 100 * (f : Int) + t), (503, h + 24 * (t : Int)), (504, h + 24 * (t : Int) + w)]).getD 0 := fun x => (uFs_eq [(501, (t : Int)), (502, 100 * (f : Int) + t), (503, h + 24 * (t : Int)), (504, h + 24 * (t : Int) + w)] (uFR (uNO q' 5 7) 500 (5, qCN q' 5) (some (4, f)))).trans (congrArg (fun y => (lkF x [(501, (t : Int)), (502, 100 * (f : Int) + t), (503, h + 24 * (t : Int)), (504, h + 24 * (t : Int) + w)]).getD y) (show qFI (uNO q' 5 7) x (5, qCN q' 5) = 0 from if_pos rfl))
      refine ⟨qCN q' 5, arj, by rw [c5]; exact Nat.lt_succ_self _, h3.1, if_pos ⟨rfl, rfl⟩, fi 501, fi 502, fi 503, fi 504, fi 505, fi 506⟩
    · obtain ⟨r, r1, r2, r3, r4⟩ := h5 t ⟨ht.1, by omega, ht.2.2⟩
      exact ⟨r, (ar t e1).trans r1, by rw [c5]; omega, r3, lgQ_G G r4 (by omega)⟩
  · by_cases e1 : t = j
    · subst e1
      exact absurd ⟨ha, by omega, hb⟩ ht
    · exact (ar t e1).trans (h6 t (fun z => ht ⟨z.1, by omega, z.2.2⟩))
  · exact RM_NO (n := 7) (t := 5) h7 (by omega) (by omega)
  · exact CG_t h9 (CG_AR (CG_Fs (CG_FR (CG_NO CG_r (by show cK 5; omega)) (by show cK 5; omega)) (by show cK 5; omega)) (by show cK 1408; omega))
def daysS (s : am_Z) (f a b n : Int) : am_Z := wA (wA (wA (wA s 10 f 1) 11 f a) 12 f b) 13 f n
theorem dyS_m {s : am_Z} {f a b n : Int} {j : Nat} {x : Int} (h : ¬ (10 ≤ j ∧ j ≤ 13 ∧ x = f)) : rA (daysS s f a b n) j x = rA s j x := by
  unfold daysS
  simp only [wA_A]
  rw [if_neg (by omega), if_neg (by omega), if_neg (by omega), if_neg (by omega)]
theorem dyS_v {s : am_Z} {f a b n : Int} : rA (daysS s f a b n) 10 f = 1 ∧ rA (daysS s f a b n) 11 f = a ∧ rA (daysS s f a b n) 12 f = b ∧ rA (daysS s f a b n) 13 f = n := by
  unfold daysS
  simp only [wA_A]
  refine ⟨?_, ?_, ?_, ?_⟩ <;> simp
theorem dyS_t {s : am_Z} {f a b n t : Int} : thereP (daysS s f a b n) f t ↔ (a ≤ t ∧ t ≤ b ∧ bitP n t) := by
  obtain ⟨e1, e2, e3, e4⟩ := dyS_v (s := s) (f := f) (a := a) (b := b) (n := n)
  unfold thereP bitP
  rw [e1, e2, e3, e4]
  exact ⟨fun z => z.2, fun z => ⟨by omega, z⟩⟩
theorem dyS_nt {s : am_Z} {f g a b n t : Int} (h : g ≠ f) : thereP (daysS s f a b n) g t ↔ thereP s g t := by
  unfold thereP
  rw [dyS_m (by omega), dyS_m (by omega), dyS_m (by omega), dyS_m (by omega)]
theorem sumI_tail {g : Int → Int} {n : Nat} (hz : ∀ t : Int, (n : Int) ≤ t → g t = 0) : ∀ m, n ≤ m → sumI 0 m g = sumI 0 n g := by
  intro m
  induction m with
  | zero => intro h; rw [show n = 0 by omega]
  | succ m ih =>
    intro h
    by_cases e : n = m + 1
    · rw [e]
    · rw [sumI_s, ih (by omega), hz _ (by omega), Int.add_zero]
theorem sumI_zero {g : Int → Int} : ∀ m : Nat, (∀ t : Int, 0 ≤ t → t < m → g t = 0) → sumI 0 m g = 0 := by
  intro m
  induction m with
  | zero => intro _; rfl
  | succ m ih =>
    intro h
    rw [sumI_s, ih (fun t a b => h t a (by omega)), h _ (by omega) (by omega)]
    rfl
theorem lp_cdays {d : Nat} {q : am_A} {Q : am_O → am_A → Prop} {s : am_Z} {e f : Nat} {h w a b n fi : Int} (ha : 0 ≤ a) (hb : b ≤ 60) (bn : in32 n) (h0 : qFI q 400 (4, f) = f) (h9 : qFI q 409 (4, f) = h) (h5 : qFI q 405 (4, f) = w) (h8 : qFR q 408 (4, f) = some (1408, f)) (hL : qAL q (1408, f) = 61) : ∀ (m : Nat) (j : Nat) (k c : Int) (q1 : am_A), (b + 1).toNat - j < m → (k = j ∧ a ≤ (j : Int) ∧ (j : Int) ≤ b + 1 ∧ c = sumI 0 j (nThere (daysS s f a b n) f) ∧ am_DJ e q f h w a n j q1) → (∀ x7 q1, am_DJ e q f h w a n (b + 1).toNat q1 → am_W2 (d + 1) m_X_days 105 [some (aR 8 0), some (aI (zI fi)), some (aI (zI a)), some (aI (zI b)), some (aI (zI n)), some (aR 4 f), some (aI (zI (sumI 0 (b + 1).toNat (nThere (daysS s f a b n) f)))), x7] [] (q1) Q) → am_W2 (d + 1) m_X_days 57 [some (aR 8 0), some (aI (zI fi)), some (aI (zI a)), some (aI (zI b)), some (aI (zI n)), some (aR 4 f), some (aI (zI c)), some (aI (zI k))] [] (q1) Q := by
  intro m
  induction m with
  | zero => intro j k c q1 hm; exact absurd hm (Nat.not_lt_zero _)
  | succ m ih =>
    intro j k c q1 hm ⟨hj, hj1, hj2, hacc, hD⟩ K
    subst hj
    subst hacc
    have hia := in32_iAnd (iShr n ((j : Int) % 7)) 1
    have g4 := hD.1 4 f (by omega)
    have hL2 : qAL q1 (1408, f) = 61 := hD.2.2.2.1.trans hL
    refine ar_iload rfl rfl ?_
    refine ar_iload_n rfl rfl ?_
    refine ar_icmp_gt rfl rfl (by omega) (by omega) (fun h60 => ?_) (fun h60 => ?_)
    · have ej : j = (b + 1).toNat := by omega
      rw [ej] at hD ⊢
      exact K _ _ hD
    · refine ar_iload rfl rfl ?_
      refine ar_iload rfl rfl ?_
      refine ar_bipush (x := 7) rfl rfl ?_
      refine ar_irem rfl (by omega) (by omega) ?_
      refine ar_ishr rfl ?_
      refine ar_iconst rfl ?_
      refine ar_iand rfl ?_
      refine ar_iconst rfl ?_
      refine ar_icmp_ne rfl rfl (by omega) (by omega) (fun h74 => ?_) (fun h74 => ?_)
      · refine ar_inc7 rfl ?_
        refine ar_goto rfl rfl ?_
        have es := sumI_s 0 j (nThere (daysS s f a b n) f)
        rw [Int.zero_add] at es
        have en : nThere (daysS s f a b n) f (j : Int) = if thereP (daysS s f a b n) f (j : Int) then 1 else 0 := rfl
        first | exact ih (j + 1) _ _ _ (by omega) ⟨by omega, by omega, by omega, by rw [es, en, if_pos (dyS_t.mpr ⟨by omega, by omega, by assumption⟩)], DJ_s hD (by assumption) (by omega)⟩ K | exact ih (j + 1) _ _ _ (by omega) ⟨by omega, by omega, by omega, by rw [es, en, if_neg (fun z => absurd (dyS_t.mp z).2.2 (by assumption))]; omega, DJ_n hD (by assumption)⟩ K
      · refine ar_aload rfl rfl ?_
        refine ar_gfR rfl rfl rfl (by omega) ((g4.2.1 408).trans h8) ?_
        refine ar_iload rfl rfl ?_
        refine ar_new (kt := 5) rfl (by intro z; cases z) (by omega) ?_
        refine ar_dup rfl rfl ?_
        refine ar_aload rfl rfl ?_
        refine ar_iload rfl rfl ?_
        refine ar_cv2 rfl rfl rfl (Nat.le_of_ble_eq_true rfl) (cs_Lg_init (d := 0) ((g4.1 400).trans h0) ((g4.1 409).trans h9) ((g4.1 405).trans h5)) (by omega) (fun o q92 hq => ?_)
        obtain ⟨rfl, rfl⟩ := hq
        refine ar_aastore (j := j) rfl ⟨rfl, rfl⟩ rfl (by show j < qAL q1 (1408, f); omega) (by show qAL q1 (1408, f) < 2147483648; omega) ?_
        refine ar_inc6 rfl ?_
        refine ar_inc7 rfl ?_
        refine ar_goto rfl rfl ?_
        have es := sumI_s 0 j (nThere (daysS s f a b n) f)
        rw [Int.zero_add] at es
        have en : nThere (daysS s f a b n) f (j : Int) = if thereP (daysS s f a b n) f (j : Int) then 1 else 0 := rfl
        first | exact ih (j + 1) _ _ _ (by omega) ⟨by omega, by omega, by omega, by rw [es, en, if_pos (dyS_t.mpr ⟨by omega, by omega, by assumption⟩)], DJ_s hD (by assumption) (by omega)⟩ K | exact ih (j + 1) _ _ _ (by omega) ⟨by omega, by omega, by omega, by rw [es, en, if_neg (fun z => absurd (dyS_t.mp z).2.2 (by assumption))]; omega, DJ_n hD (by assumption)⟩ K
theorem cs_days {d : Nat} {q : am_A} {s : am_Z} (V : am_CV q s) {e : Nat} (R : am_RM e q) {f a b n : Int} (hf : in32 f) (ha : in32 a) (hb : in32 b) (hn : in32 n) : am_C2 (d + 4) m_X_days [aR 8 0, aI (zI f), aI (zI a), aI (zI b), aI (zI n)] q (am_OK (kDays s f a b n) kd3 (some (aI (zI (sumI 0 61 (nThere (daysS s f a b n) f))))) q (am_DJ e (uFI q 410 (4, f.toNat) 1) f.toNat (rA s 7 f - rA s 1 (rA s 5 f)) (rA s 8 f) a n (b + 1).toNat)) := by
  refine am_C2_i (ls := [some (aR 8 0), some (aI (zI f)), some (aI (zI a)), some (aI (zI b)), some (aI (zI n)), none, none, none]) rfl ?_
  have b3 := (CV_B V).2.1 3 0 12 rfl
  have b10 := (CV_B V).1 10 f 0 1 rfl
  refine ar_aload_n rfl rfl ?_
  refine ar_iload_n rfl rfl ?_
  refine ar_cv1 rfl rfl rfl (Nat.le_of_ble_eq_true rfl) (cs_findFlight (d := 0) V (by omega)) (by omega) (fun o q2 hq => am_B2_T rfl (fun h2 => ?_) (fun h2 => ?_) hq)
  · have hfl := V.2.2.1.2.2.1 f.toNat (by omega)
    have ef : ((f.toNat : Nat) : Int) = f := by omega
    refine ar_stA5 rfl ?_
    refine ar_iload_n rfl rfl ?_
    refine ar_iconst rfl ?_
    refine ar_bipush (x := 60) rfl rfl ?_
    refine ar_cs3 rfl rfl (Nat.le_of_ble_eq_true rfl) (cs_needRange (d := 0) (by omega) (by omega) (by omega)) (by omega) (fun o q11 hq => am_B2_T rfl (fun h11 => ?_) (fun h11 => ?_) hq)
    · refine ar_iload_n rfl rfl ?_
      refine ar_iload_n rfl rfl ?_
      refine ar_bipush (x := 60) rfl rfl ?_
      refine ar_cs3 rfl rfl (Nat.le_of_ble_eq_true rfl) (cs_needRange (d := 0) (by omega) (by omega) (by omega)) (by omega) (fun o q18 hq => am_B2_T rfl (fun h18 => ?_) (fun h18 => ?_) hq)
      · refine ar_iload rfl rfl ?_
        refine ar_iconst rfl ?_
        refine ar_bipush (x := 127) rfl rfl ?_
        refine ar_cs3 rfl rfl (Nat.le_of_ble_eq_true rfl) (cs_needRange (d := 0) (by omega) (by omega) (by omega)) (by omega) (fun o q26 hq => am_B2_T rfl (fun h26 => ?_) (fun h26 => ?_) hq)
        · refine cq_join (pc' := 42) (V := if rA s 10 f = 0 then 1 else 0) ?_ (fun K42 => ?_)
          · refine ar_cs1 rfl rfl (Nat.le_of_ble_eq_true rfl) (cs_needState (d := 0) (by omega)) (by omega) (fun o q42 hq => am_B2_T rfl (fun h42 => ?_) (fun h42 => ?_) hq)
            · refine ar_aload rfl rfl ?_
              refine ar_iconst rfl ?_
              refine ar_pfI rfl rfl rfl rfl (by omega) (Or.inr (by omega)) ?_
              refine ar_iconst rfl ?_
              refine ar_stI6 rfl ?_
              refine ar_iload_n rfl rfl ?_
              refine ar_stI7 rfl ?_
              have hz0 : ∀ t : Int, 0 ≤ t → t < a.toNat → nThere (daysS s (f.toNat : Nat) a b n) (f.toNat : Nat) t = 0 := fun t z1 z2 => if_neg (fun z => absurd (dyS_t.mp z).1 (by omega))
              refine lp_cdays (d := d + 3) (q := uFI q 410 (4, f.toNat) 1) (s := s) (e := e) (f := f.toNat) (h := rA s 7 f - rA s 1 (rA s 5 f)) (w := rA s 8 f) (by omega) (by omega) hn ((ff_ne (by omega)).trans hfl.2.1) ((ff_ne (by omega)).trans (hfl.2.2.1.trans (by rw [ef]))) ((ff_ne (by omega)).trans ((hfl.1 405 8 rfl).trans (by rw [ef]))) hfl.2.2.2.2.1 hfl.2.2.2.2.2.2.2.1 ((b + 1).toNat - a.toNat + 1) a.toNat a 0 _ (by omega) ⟨by omega, by omega, by omega, (sumI_zero a.toNat hz0).symm, GD_r, fun _ _ => rfl, ⟨Nat.le_refl _, by show (qCN q 5 : Int) ≤ (qCN q 5 : Int) + (((a.toNat : Nat) : Int) - a); omega⟩, rfl, fun t ht => by omega, fun _ _ => rfl, R, rfl, CG_r⟩ (fun x7 q1 hq1 => ?_)
              refine ar_iload rfl rfl ?_
              exact ar_iret rfl (Or.inl rfl) (⟨fun _ => ⟨congrArg (fun x => (Sum.inl (some (aI (zI x))) : am_O)) ((by rw [ef] : _ = sumI 0 (b + 1).toNat (nThere (daysS s f a b n) f)).trans (sumI_tail (n := (b + 1).toNat) (fun t ht => if_neg (fun z => by have := (dyS_t.mp z).2.1; omega)) 61 (by omega)).symm), hq1⟩, fun z => absurd (by unfold kDays; omega) z⟩)
            · exact ⟨fun z => absurd z (by unfold kDays; omega), fun _ => by { rw [show kDays s f a b n = 3 from by { unfold kDays; omega }]; exact ⟨rfl, rfl⟩ }⟩
          · refine ar_aload rfl rfl ?_
            refine ar_gfIv rfl rfl rfl (by omega) ((hfl.1 410 10 rfl).trans (by rw [ef])) ?_
            refine ar_if_ne rfl rfl (by omega) (fun h34 => ?_) (fun h34 => ?_)
            · refine ar_iconst rfl ?_
              exact K42 _ (by first | (rw [if_pos (by omega)]) | (rw [if_neg (by omega)]))
            · refine ar_iconst rfl ?_
              refine ar_goto rfl rfl ?_
              exact K42 _ (by first | (rw [if_pos (by omega)]) | (rw [if_neg (by omega)]))
        · exact ⟨fun z => absurd z (by unfold kDays; omega), fun _ => by { rw [show kDays s f a b n = 2 from by { unfold kDays; omega }]; exact ⟨rfl, rfl⟩ }⟩
      · exact ⟨fun z => absurd z (by unfold kDays; omega), fun _ => by { rw [show kDays s f a b n = 2 from by { unfold kDays; omega }]; exact ⟨rfl, rfl⟩ }⟩
    · exact ⟨fun z => absurd z (by unfold kDays; omega), fun _ => by { rw [show kDays s f a b n = 2 from by { unfold kDays; omega }]; exact ⟨rfl, rfl⟩ }⟩
  · exact ⟨fun z => absurd z (by unfold kDays; omega), fun _ => by { rw [show kDays s f a b n = 1 from by { unfold kDays; omega }]; exact ⟨rfl, rfl⟩ }⟩
theorem fFl_10 : am_all fFl (fun x j => (x = 410 ∧ j = 10) ∨ (x ≠ 410 ∧ ¬ (10 ≤ j ∧ j ≤ 13))) := (am_nd_ok (am_nd_ok (am_nd_ok (am_lf_ok (by decide)) (am_lf_ok (by decide))) (am_nd_ok (am_lf_ok (by decide)) (am_lf_ok (by decide)))) (am_nd_ok (am_nd_ok (am_lf_ok (by decide)) (am_lf_ok (by decide))) (am_nd_ok (am_lf_ok (by decide)) (am_lf_ok (by decide)))))
theorem CV_days {e : Nat} {q q' : am_A} {s : am_Z} {f a b n : Int} (V : am_CV q s) (Z : am_VG s) (hf : 0 ≤ f ∧ f < rI s 3) (ha : 0 ≤ a ∧ a ≤ b ∧ b ≤ 60) (hn : 1 ≤ n ∧ n ≤ 127) (h10 : rA s 10 f = 0) (H : am_DJ e (uFI q 410 (4, f.toNat) 1) f.toNat (rA s 7 f - rA s 1 (rA s 5 f)) (rA s 8 f) a n (b + 1).toNat q') : am_CV q' (daysS s f a b n) := by
  have b3 := (CV_B V).2.1 3 0 12 rfl
  obtain ⟨v1, v2, v3, v4, v5, v6, v7, v8, v9, B⟩ := V
  obtain ⟨h1, h2, h3, h4, h5, h6, h7, h8, h9⟩ := H
  have ef : ((f.toNat : Nat) : Int) = f := by omega
  have G : am_GD (fun t i => ((t = 4 ∨ t = 1408) ∧ i = f.toNat) ∨ (t = 5 ∧ qCN q 5 ≤ i)) q q' := GD_t (GD_FI GD_r (Or.inl ⟨Or.inl rfl, rfl⟩)) (GD_w h1 (fun t i z => by rcases z with z | z; exact Or.inl ⟨Or.inr z.1, z.2⟩; exact Or.inr z))
  have cn : ∀ t, t ≠ 5 → qCN q' t = qCN q t := h2
  have cnm : ∀ t, qCN q t ≤ qCN q' t := fun t => by
    by_cases z : t = 5
    · rw [z]; exact h3.1
    · rw [cn t z]; exact Nat.le_refl _
  have nth : ∀ l, legP s l → l / 100 ≠ f := fun l hl z => hl.2.2.2.1 (by rw [z]; exact h10)
  have hm : ∀ l, legP s l → legP (daysS s f a b n) l := fun l hl => ⟨hl.1, hl.2.1, hl.2.2.1, (dyS_nt (nth l hl)).mpr hl.2.2.2⟩
  have hO' : ∀ l, 0 ≤ l → l / 100 ≠ f → legO q' l = legO q l := fun l h0 hne => (G 1408 _ (by omega)).2.2.2.1 _
  have hO : ∀ l, legP s l → legO q' l = legO q l := fun l hl => hO' l hl.1 (nth l hl)
  have mm : ∀ j x, (j < 10 ∨ 13 < j) → rA (daysS s f a b n) j x = rA s j x := fun j x z => dyS_m (by omega)
  have hB : in_S (daysS s f a b n) := by
    unfold daysS
    refine in_S_A (in_S_A (in_S_A (in_S_A B ?_ ?_) ?_ ?_) ?_ ?_) ?_ ?_
    all_goals first | (intro lo hi h; cases h; omega) | (intro h; cases h)
  have hdep : ∀ l, dep (daysS s f a b n) l = dep s l := fun l => by
    unfold dep
    rw [mm 7 _ (by omega), mm 1 _ (by omega), mm 5 _ (by omega), mm 17 _ (by omega)]
  refine ⟨CT_G v1 G (by omega) (fun x _ => (G 6 0 (by omega)).2.1 x) (fun k c hk => (G k 0 (by have := cLen_r k c hk; omega)).2.2.2.2.1) cnm, CN_G v2 G (by omega) ⟨by omega, by omega, by omega, by omega⟩ (fun j x h => mm j x (by omega)) rfl rfl, ?_, ?_, ?_, ?_, ?_, ?_, fun k hk => by rw [h8]; exact v9 k hk, hB⟩
  · refine ⟨(G 1802 0 (by omega)).2.2.2.2.2.1.trans v3.1, by rw [cn 4 (by omega), cn 1407 (by omega), cn 1408 (by omega)]; exact v3.2.1, fun i hi => ?_, fun i z1 z2 => by rw [mm 15 _ (by omega)]; exact v3.2.2.2 i z1 z2⟩
    have hF := v3.2.2.1 i hi
    by_cases e1 : i = f.toNat
    · have g4 := h1 4 i (by omega)
      have fi : ∀ x, x ≠ 410 → qFI q' x (4, i) = qFI q x (4, i) := fun x hx => (g4.1 x).trans (ff_ne hx)
      have fr : ∀ x, qFR q' x (4, i) = qFR q x (4, i) := g4.2.1
      have g7 := G 1407 i (by omega)
      obtain ⟨a1, a2, a3, a4, a5, a6, a7, a8, a9⟩ := hF
      refine ⟨fun x j hj => ?_, (fi _ (by omega)).trans a2, (fi _ (by omega)).trans (by rw [mm 7 _ (by omega), mm 1 _ (by omega), mm 5 _ (by omega)]; exact a3), (fr _).trans a4, (fr _).trans a5, (fr _).trans (by rw [mm 15 _ (by omega)]; exact a6), g7.2.2.2.2.1.trans a7, by rw [e1]; exact h4.trans (by rw [← e1]; exact a8), fun b1 z1 z2 => (g7.2.2.1 _).trans (by rw [mm 14 _ (by omega)]; exact a9 b1 z1 z2)⟩
      rcases fFl_10 x j hj with ⟨rfl, rfl⟩ | ⟨hx, hj2⟩
      · rw [show ((i : Nat) : Int) = f by omega, dyS_v.1, e1]
        exact (h1 4 f.toNat (by omega)).1 410 |>.trans ff_eq
      · rw [fi x hx, dyS_m (by omega)]
        exact a1 x j hj
    · exact Fl_G hF G ⟨by omega, by omega⟩ ((G 1408 i (by omega)).2.2.2.2.1) (fun x => mm 1 x (by omega)) (fun j _ _ _ => dyS_m (by omega)) (fun b1 _ _ => mm 14 _ (by omega))
  · constructor
    · intro l hl
      by_cases e1 : l / 100 = f
      · have hl2 := hl.2.2.2
        have h61 := hl.2.2.1
        rw [e1] at hl2
        have ht := dyS_t.mp hl2
        have h0l := hl.1
        have et : (((l % 100).toNat : Nat) : Int) = l % 100 := by omega
        obtain ⟨r, r1, r2, r3, r4⟩ := h5 (l % 100).toNat ⟨by omega, by omega, by rw [et]; exact ht.2.2⟩
        have hOl : legO q' l = some (5, r) := by unfold legO; rw [e1]; exact r1
        have hI : lId q' l = r := by unfold lId; rw [hOl]
        obtain ⟨f0, f1, f2, f3, f4, f5, f6⟩ := r4
        have hz := Z.2.1 f (l % 100) (by omega) (by omega) (by omega) h61 (fun z => z.1 h10)
        have ed : dep (daysS s f a b n) l = rA s 7 f - rA s 1 (rA s 5 f) + 24 * (l % 100) := by
          rw [hdep]
          unfold dep
          rw [e1, hz.1]
          omega
        unfold am_Lg arv
        rw [hI, ed, mm 8 _ (by omega), mm 17 _ (by omega), mm 18 _ (by omega), e1, hz.1, hz.2]
        refine ⟨hOl, r2, f0, f1.trans et, ?_, ?_, ?_, f5, f6⟩
        · rw [f2, et]; omega
        · rw [f3, et]
        · rw [f4, et]
      · have hl2 : legP s l := ⟨hl.1, hl.2.1, hl.2.2.1, (dyS_nt e1).mp hl.2.2.2⟩
        exact Lg_G (v4.1 l hl2) G (hO l hl2) (fun j hj => by omega) (cnm 5) (hdep l) (mm 8 _ (by omega)) (fun j hj => mm j _ (by omega))
    · intro l z1 z2 z3 z4
      have z2' : l / 100 < rI s 3 := z2
      by_cases e1 : l / 100 = f
      · have et : (((l % 100).toNat : Nat) : Int) = l % 100 := by omega
        rw [e1] at z4
        have hn : ¬ (a ≤ (((l % 100).toNat : Nat) : Int) ∧ (l % 100).toNat < (b + 1).toNat ∧ bitP n ((l % 100).toNat : Nat)) := fun y => z4 (dyS_t.mpr ⟨by omega, by omega, by have y3 := y.2.2; rw [et] at y3; exact y3⟩)
        have hv := v4.2 l z1 z2' z3 (fun y => y.1 (by rw [e1]; exact h10))
        unfold legO at hv ⊢
        rw [e1] at hv ⊢
        exact (h6 _ hn).trans hv
      · rw [hO' l z1 e1]
        exact v4.2 l z1 z2' z3 (fun y => z4 ((dyS_nt e1).mpr y))
  · exact CA_G v5 G (by omega) (fun i _ => by omega) (cn 3 (by omega)) (fun j x h => mm j x (by omega)) rfl
  · exact LL_G v6 G (by omega) hO hm rfl (fun k _ _ => mm 34 _ (by omega))
  · exact CB_G v7 G (by omega) (fun b _ => ⟨by omega, by omega, by omega, by omega⟩) (fun j _ => by omega) cnm hO hm (fun j x h => mm j x (by omega)) rfl
  · exact CW_G v8 G (by omega) (fun w _ => ⟨by omega, by omega⟩) cnm hO hm (fun j x h => mm j x (by omega)) rfl
theorem CI_days {e : Nat} {q q' : am_A} {s : am_Z} {f a b n : Int} (I : am_CI e q s) (Z : am_VG s) (hf : 0 ≤ f ∧ f < rI s 3) (ha : 0 ≤ a ∧ a ≤ b ∧ b ≤ 60) (hn : 1 ≤ n ∧ n ≤ 127) (h10 : rA s 10 f = 0) (H : am_DJ e (uFI q 410 (4, f.toNat) 1) f.toNat (rA s 7 f - rA s 1 (rA s 5 f)) (rA s 8 f) a n (b + 1).toNat q') : am_CI e q' (daysS s f a b n) := by
  refine ⟨CV_days I.1 Z hf ha hn h10 H, ?_, H.2.2.2.2.2.2.1⟩
  obtain ⟨h1, h2, h3, h4, h5, h6, h7, h8, h9⟩ := H
  obtain ⟨⟨a1, a2, a3, a4⟩, ⟨b1, b2⟩, c1, c2, d1, d2, d3⟩ := I.2.1
  have h2' : ∀ t, t ≠ 5 → qCN q' t = qCN q t := h2
  have h8' : qCP q' = qCP q := h8
  have h32 : (qCN q' 5 : Int) ≤ qCN q 5 + ((((b + 1).toNat : Nat) : Int) - a) := h3.2
  have es := sumI_upd (a := 0) (n := (rI s 3).toNat) (f := rA s 10) (g := rA (daysS s f a b n) 10) (i0 := f) (by omega) (fun i hi => (dyS_m (by omega)).symm)
  unfold am_CX
  rw [h2' 0 (by omega), h2' 1003 (by omega), h2' 1004 (by omega), h2' 1005 (by omega), h2' 7 (by omega), h2' 1702 (by omega), h2' 1 (by omega), h8']
  refine ⟨⟨a1, a2, a3, a4⟩, ⟨b1, b2⟩, c1, ?_, d1, d2, d3⟩
  show (qCN q' 5 : Int) ≤ 61 * sumI 0 (rI s 3).toNat (rA (daysS s f a b n) 10)
  rw [es, dyS_v.1, h10]
  omega
theorem co_days {d e : Nat} {q : am_A} {s : am_Z} (I : am_CI e q s) (Z : am_VG s) {f a b n : Int} (hf : in32 f) (ha : in32 a) (hb : in32 b) (hn : in32 n) : am_C2 (d + 4) m_X_days [aR 8 0, aI (zI f), aI (zI a), aI (zI b), aI (zI n)] q (am_OP e (kDays s f a b n) kd3 (some (aI (zI (sumI 0 61 (nThere (daysS s f a b n) f))))) q (if kDays s f a b n = 0 then daysS s f a b n else s)) := by
  refine am_C2_imp (cs_days (d := d) I.1 I.2.2 hf ha hb hn) (fun o q' h => OP_of I (fun _ => kd3_b) h (fun h0 hq => ?_) (fun h => if_neg h))
  rw [if_pos h0]
  unfold kDays at h0
  have b10 := (CV_B I.1).1 10 f 0 1 rfl
  exact ⟨CI_le (CI_days I Z (by omega) (by omega) (by omega) (by omega) hq) (Nat.le_succ e), CG_t (CG_FI CG_r (by show cK 4; omega)) hq.2.2.2.2.2.2.2.2⟩
end

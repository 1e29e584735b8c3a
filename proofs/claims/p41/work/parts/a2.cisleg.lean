noncomputable section
/-- the sum of a booking's shares -/
def shS (s : am_Z) (b : Int) : Int := sumI (10 * b) (rA s 52 b).toNat (rA s 57)
/-- who was denied: what the law remembers -/
def am_P6 (s : am_Z) (T : am_LT) : Prop := T 5 6 ≤ rI s 68 ∧ 0 ≤ T 5 6 ∧ rI s 68 ≤ 500000 * rI s 0
theorem P6_cg {s s' : am_Z} {T T' : am_LT} (p : am_P6 s T) (h68 : rI s' 68 = rI s 68) (h0 : rI s' 0 = rI s 0) (ht : T' 5 6 = T 5 6) : am_P6 s' T' := by
  unfold am_P6 at p ⊢
  rw [h68, h0, ht]
  exact p
/-- the law's arrays against the state -/
def am_PL (s : am_Z) (T : am_LT) : Prop :=
  (T 5 0 = rI s 3 ∧ T 5 1 = rI s 20 ∧ T 5 2 = rI s 0 ∧ T 5 3 = rI s 33 ∧ T 5 4 = rI s 44 ∧ T 5 5 = rI s 61 ∧ am_P6 s T) ∧
  (∀ f : Int, 0 ≤ f → f < rI s 3 → T 0 (5 * f) = rA s 4 f ∧ T 0 (5 * f + 1) = rA s 5 f ∧ T 0 (5 * f + 2) = rA s 6 f ∧ T 0 (5 * f + 3) = rA s 8 f ∧ T 0 (5 * f + 4) = rA s 9 f) ∧
  (∀ f b : Int, 0 ≤ f → f < rI s 3 → 0 ≤ b → b < 4 → T 1 (4 * f + b) = rA s 14 (4 * f + b)) ∧
  (∀ i : Int, 0 ≤ i → i < rI s 20 → T 2 i = rA s 25 i) ∧
  (∀ k : Int, 0 ≤ k → k < rI s 44 → T 3 k = sumI (4 * k) 4 (rA s 59) ∧ T 4 k = rA s 46 k) ∧
  (∀ w : Int, 0 ≤ w → w < rI s 61 → T 7 w = rA s 63 w)
theorem LA_g {q : am_A} {T : am_LT} (H : am_LA q T) {i : Int} (h : 0 ≤ i ∧ i < 7) : qAI q (24, 5) i.toNat = T 5 i := (H 5 (by omega)).2 i h.1 (by show i < ((7 : Nat) : Int); omega)
theorem LA_n {q : am_A} {T : am_LT} (H : am_LA q T) {i : Int} (h : 0 ≤ i ∧ i < 60) : qAI q (24, 0) i.toNat = T 0 i := (H 0 (by omega)).2 i h.1 (by show i < ((60 : Nat) : Int); omega)
theorem LA_m {q : am_A} {T : am_LT} (H : am_LA q T) {i : Int} (h : 0 ≤ i ∧ i < 48) : qAI q (24, 1) i.toNat = T 1 i := (H 1 (by omega)).2 i h.1 (by show i < ((48 : Nat) : Int); omega)
theorem LA_f {q : am_A} {T : am_LT} (H : am_LA q T) {i : Int} (h : 0 ≤ i ∧ i < 16) : qAI q (24, 2) i.toNat = T 2 i := (H 2 (by omega)).2 i h.1 (by show i < ((16 : Nat) : Int); omega)
theorem LA_b {q : am_A} {T : am_LT} (H : am_LA q T) {i : Int} (h : 0 ≤ i ∧ i < 40) : qAI q (24, 3) i.toNat = T 3 i := (H 3 (by omega)).2 i h.1 (by show i < ((40 : Nat) : Int); omega)
theorem LA_v {q : am_A} {T : am_LT} (H : am_LA q T) {i : Int} (h : 0 ≤ i ∧ i < 40) : qAI q (24, 4) i.toNat = T 4 i := (H 4 (by omega)).2 i h.1 (by show i < ((40 : Nat) : Int); omega)
theorem LA_e {q : am_A} {T : am_LT} (H : am_LA q T) {i : Int} (h : 0 ≤ i ∧ i < 14) : qAI q (24, 6) i.toNat = T 6 i := (H 6 (by omega)).2 i h.1 (by show i < ((14 : Nat) : Int); omega)
theorem LA_x {q : am_A} {T : am_LT} (H : am_LA q T) {i : Int} (h : 0 ≤ i ∧ i < 20) : qAI q (24, 7) i.toNat = T 7 i := (H 7 (by omega)).2 i h.1 (by show i < ((20 : Nat) : Int); omega)
theorem LL0 {q : am_A} {T : am_LT} (H : am_LA q T) : qAL q (24, 0) = 60 := (H 0 (by omega)).1
theorem LL1 {q : am_A} {T : am_LT} (H : am_LA q T) : qAL q (24, 1) = 48 := (H 1 (by omega)).1
theorem LL2 {q : am_A} {T : am_LT} (H : am_LA q T) : qAL q (24, 2) = 16 := (H 2 (by omega)).1
theorem LL3 {q : am_A} {T : am_LT} (H : am_LA q T) : qAL q (24, 3) = 40 := (H 3 (by omega)).1
theorem LL4 {q : am_A} {T : am_LT} (H : am_LA q T) : qAL q (24, 4) = 40 := (H 4 (by omega)).1
theorem LL5 {q : am_A} {T : am_LT} (H : am_LA q T) : qAL q (24, 5) = 7 := (H 5 (by omega)).1
theorem LL6 {q : am_A} {T : am_LT} (H : am_LA q T) : qAL q (24, 6) = 14 := (H 6 (by omega)).1
theorem LL7 {q : am_A} {T : am_LT} (H : am_LA q T) : qAL q (24, 7) = 20 := (H 7 (by omega)).1
theorem CY_23 {a b c : am_A} (x : am_CY a b) (y : am_CY b c) : am_CY a c := CY_t x y
/-- what is left by all limits so far -/
def lsT (s : am_Z) (l : Int) : Nat → Int
  | 0 => 1000
  | n + 1 => min (lsT s l n) (rA s 14 (4 * (l / 100) + n) - sold s l n)
theorem lsT_m {s : am_Z} (B : in_S s) {l : Int} : ∀ n : Nat, lsT s l (n + 1) = minL s l n
  | 0 => by
    have h := minL_b B l 0
    show min 1000 (rA s 14 (4 * (l / 100) + ((0 : Nat) : Int)) - sold s l ((0 : Nat) : Int)) = rA s 14 (4 * (l / 100)) - sold s l 0
    have h2 : -3600 ≤ rA s 14 (4 * (l / 100)) - sold s l 0 ∧ rA s 14 (4 * (l / 100)) - sold s l 0 ≤ 70 := h
    rw [show 4 * (l / 100) + ((0 : Nat) : Int) = 4 * (l / 100) by omega, show ((0 : Nat) : Int) = 0 from rfl]
    omega
  | n + 1 => by
    show min (lsT s l (n + 1)) (rA s 14 (4 * (l / 100) + ((n + 1 : Nat) : Int)) - sold s l ((n + 1 : Nat) : Int)) = min (minL s l n) (rA s 14 (4 * (l / 100) + ((n : Int) + 1)) - sold s l ((n : Int) + 1))
    rw [lsT_m B n]
    rfl
theorem sold_n {s : am_Z} (B : in_S s) (l k : Int) : 0 ≤ sold s l k ∧ sold s l k ≤ 3600 := sold_b B l k
theorem lsT_b {s : am_Z} (B : in_S s) {l : Int} (n : Nat) : -3600 ≤ lsT s l n ∧ lsT s l n ≤ 1000 := by
  cases n with
  | zero => exact ⟨by show (-3600 : Int) ≤ 1000; omega, by show (1000 : Int) ≤ 1000; omega⟩
  | succ n =>
    rw [lsT_m B]
    have := minL_b B l n
    omega
theorem standing_b {s : am_Z} (B : in_S s) {l : Int} : 0 ≤ standing s l ∧ standing s l / 10 ≤ 8 ∧ (standing s l % 10 = 2 ∨ (standing s l % 10 = (if dep s l ≤ rI s 0 then 1 else 0))) ∧ (standing s l % 10 > 0 ↔ ¬ freeP s l) ∧ standing s l ≤ 82 := by
  have h17 := B.1 17 (61 * (l / 100) + l % 100) 0 8 rfl
  unfold standing freeP goneP
  by_cases h : rA s 18 (61 * (l / 100) + l % 100) = 0
  · by_cases h2 : dep s l ≤ rI s 0
    · rw [if_neg (fun z => z h), if_pos ⟨h, h2⟩, if_pos h2]
      refine ⟨by omega, by omega, by omega, ⟨fun _ z => by have := z.2; omega, fun _ => by omega⟩, by omega⟩
    · rw [if_neg (fun z => z h), if_neg (fun z => h2 z.2), if_neg h2]
      refine ⟨by omega, by omega, by omega, ⟨fun z => by omega, fun z => absurd ⟨h, by omega⟩ z⟩, by omega⟩
  · rw [if_pos h]
    refine ⟨by omega, by omega, by omega, ⟨fun _ z => h z.1, fun _ => by omega⟩, by omega⟩
theorem fp_mask {a : UInt32} (h : a &&& 0x7fffffff ≤ 0x7f800000) : FP.Core.decode FP.Core.b32 a.toNat ≠ .nan := by
  refine fp_dec ?_
  have h1 : (a &&& 0x7fffffff).toNat ≤ (0x7f800000 : UInt32).toNat := UInt32.le_iff_toNat_le.mp h
  rw [UInt32.toNat_and] at h1
  have h2 : a.toNat &&& (0x7fffffff : UInt32).toNat = a.toNat % 2147483648 := Nat.and_two_pow_sub_one_eq_mod a.toNat 31
  rw [h2] at h1
  exact h1
theorem f_cmp {a : UInt32} (h : FP.Core.decode FP.Core.b32 a.toNat ≠ .nan) : FP.fcmp a a = some .eq := by
  show FP.Core.order (FP.Core.decode FP.Core.b32 a.toNat) (FP.Core.decode FP.Core.b32 a.toNat) = some .eq
  have hc : ∀ z : Int, compare z z = .eq := fun z => by
    unfold compare
    simp [instOrdInt, compareOfLessAndEq]
  generalize FP.Core.decode FP.Core.b32 a.toNat = x at h ⊢
  cases x with
  | nan => exact absurd rfl h
  | inf s => cases s <;> rfl
  | fin s c q => exact congrArg some (hc _)
/-- what a reading method of the law leaves: the same state -/
def am_RD (c e : Nat) (q : am_A) (s : am_Z) (r : Int) : am_O → am_A → Prop := fun o q' => o = .inl (some (aI (zI r))) ∧ am_CI (e + c) q' s ∧ am_CY q q' ∧ am_DFh q'
theorem cs_isLeg0 {d : Nat} {q : am_A} {e : Nat} {s : am_Z} (I : am_CI e q s) (F : am_DFh q) {T : am_LT} (H : am_LA q T) (P : am_PL s T) (N : am_FL s) {l : Int} (bl : 0 ≤ l ∧ l ≤ 1200) (HO : am_HOs s) (hl : ¬ legP s l) : am_C2 (d + 22) m_L_isLeg [aR 8 0, aR 24 0, aR 24 1, aR 24 5, aI (zI l)] q (am_RD 5 e q s 1) := by
  refine am_C2_i (ls := [some (aR 8 0), some (aR 24 0), some (aR 24 1), some (aR 24 5), some (aI (zI l)), none, none, none, none, none]) rfl ?_
  refine ar_aload_n rfl rfl ?_
  refine ar_bipush (x := 27) rfl rfl ?_
  refine ar_iload rfl rfl ?_
  refine ar_iconst rfl ?_
  refine ar_iconst rfl ?_
  refine ar_iconst rfl ?_
  refine ar_iconst rfl ?_
  refine ar_iconst rfl ?_
  refine ar_cs8 rfl rfl (Nat.le_of_ble_eq_true rfl) (dn_standing (d := 0) I F (by omega) hl) (by omega) (fun o q10 hq => ?_)
  obtain ⟨rfl, I10, Y10, F10⟩ := hq
  refine ar_stI5 rfl ?_
  refine ar_iload rfl rfl ?_
  refine ar_if_ge rfl rfl (by omega) (fun ht => by omega) (fun h17 => ?_)
  refine ar_aload_n rfl rfl ?_
  refine ar_bipush (x := 26) rfl rfl ?_
  refine ar_iload rfl rfl ?_
  refine ar_iconst rfl ?_
  refine ar_iconst rfl ?_
  refine ar_iconst rfl ?_
  refine ar_iconst rfl ?_
  refine ar_iconst rfl ?_
  refine ar_cs8 rfl rfl (Nat.le_of_ble_eq_true rfl) (dn_departure (d := 0) I10 F10 (by omega) hl) (by omega) (fun o q30 hq => ?_)
  obtain ⟨rfl, I30, Y30, F30⟩ := hq
  refine ar_ldc (x := -3000000) rfl rfl ?_
  refine ar_icmp_ne rfl rfl (by omega) (by omega) (fun ht => by omega) (fun h35 => ?_)
  refine ar_aload_n rfl rfl ?_
  refine ar_bipush (x := 28) rfl rfl ?_
  refine ar_iload rfl rfl ?_
  refine ar_iconst rfl ?_
  refine ar_iconst rfl ?_
  refine ar_iconst rfl ?_
  refine ar_iconst rfl ?_
  refine ar_iconst rfl ?_
  refine ar_cs8 rfl rfl (Nat.le_of_ble_eq_true rfl) (dn_open (d := 0) I30 F30 (by omega) (by omega) (fun z => hl z.1)) (by omega) (fun o q48 hq => ?_)
  obtain ⟨rfl, I48, Y48, F48⟩ := hq
  refine ar_ldc (x := -3000000) rfl rfl ?_
  refine ar_icmp_ne rfl rfl (by omega) (by omega) (fun ht => by omega) (fun h53 => ?_)
  refine ar_aload_n rfl rfl ?_
  refine ar_bipush (x := 8) rfl rfl ?_
  refine ar_iload rfl rfl ?_
  refine ar_iconst rfl ?_
  refine ar_iconst rfl ?_
  refine ar_iconst rfl ?_
  refine ar_iconst rfl ?_
  refine ar_iconst rfl ?_
  refine ar_cs8 rfl rfl (Nat.le_of_ble_eq_true rfl) (am_C2_imp (ds_cancelLeg (d := 0) (e := e + 3) (s1 := s) (k := 1) (v := 0) (kd := kd2) (fun _ => Or.inl rfl) (am_C2_imp (co_cancelLeg (d := 15) I48 HO (by omega)) (fun o q1 h => by { rw [kCL_1 hl, if_neg (by omega)] at h; exact OQ_OP F48 ⟨fun z => absurd z (by omega), h.2.1, h.2.2⟩ }))) (fun o q1 h => by { rw [rc_13 (by omega) rfl] at h; exact h })) (by omega) (fun o q66 hq => ?_)
  obtain ⟨rfl, I66, Y66, F66⟩ := hq
  refine ar_ldc (x := -3000000) rfl rfl ?_
  refine ar_icmp_ne rfl rfl (by omega) (by omega) (fun ht => by omega) (fun h71 => ?_)
  refine ar_aload_n rfl rfl ?_
  refine ar_bipush (x := 10) rfl rfl ?_
  refine ar_iload rfl rfl ?_
  refine ar_iconst rfl ?_
  refine ar_iconst rfl ?_
  refine ar_iconst rfl ?_
  refine ar_iconst rfl ?_
  refine ar_iconst rfl ?_
  refine ar_cs8 rfl rfl (Nat.le_of_ble_eq_true rfl) (am_C2_imp (ds_leg (d := 0) (e := e + 4) (s1 := s) (k := 1) (v := 0) (kd := kd2) (fun _ => Or.inl rfl) (am_C2_imp (co_leg (d := 14) I66 (by omega)) (fun o q1 h => by { rw [show kLegA s l = 1 from if_pos hl, if_neg (by omega)] at h; exact OQ_OP F66 ⟨fun z => absurd z (by omega), h.2.1, h.2.2⟩ }))) (fun o q1 h => by { rw [rc_13 (by omega) rfl] at h; exact h })) (by omega) (fun o q84 hq => ?_)
  obtain ⟨rfl, I84, Y84, F84⟩ := hq
  refine ar_ldc (x := -3000000) rfl rfl ?_
  refine ar_icmp_ne rfl rfl (by omega) (by omega) (fun ht => by omega) (fun h89 => ?_)
  refine ar_iconst rfl ?_
  refine ar_goto rfl rfl ?_
  exact ar_iret rfl (Or.inr ⟨rfl, by first | omega | (split <;> omega)⟩) (⟨rfl, I84, CY_t (CY_t (CY_t (CY_t Y10 Y30) Y48) Y66) Y84, F84⟩)
theorem lp_il {d : Nat} {q : am_A} {Q : am_O → am_A → Prop} {s : am_Z} (V : am_CV q s) {T : am_LT} (H : am_LA q T) (h4 : T 5 4 = rI s 44) (pm : ∀ f b : Int, 0 ≤ f → f < rI s 3 → 0 ≤ b → b < 4 → T 1 (4 * f + b) = rA s 14 (4 * f + b)) {l : Int} (hl : legP s l) : ∀ (m : Nat) (j : Nat) (k u : Int) (x9 : Option am_V), 5 - j < m → (k = j ∧ j ≤ 4 ∧ u = lsT s l j) → (∀ u x8 x9, am_W2 (d + 7) m_L_isLeg 269 [some (aR 8 0), some (aR 24 0), some (aR 24 1), some (aR 24 5), some (aI (zI l)), some (aI (zI (standing s l))), some (aI (zI 1)), some (aI (zI u)), x8, x9] [] (q) Q) → am_W2 (d + 7) m_L_isLeg 175 [some (aR 8 0), some (aR 24 0), some (aR 24 1), some (aR 24 5), some (aI (zI l)), some (aI (zI (standing s l))), some (aI (zI 1)), some (aI (zI u)), some (aI (zI k)), x9] [] (q) Q := by
  intro m
  induction m with
  | zero => intro j k u x9 hm; exact absurd hm (Nat.not_lt_zero _)
  | succ m ih =>
    intro j k u x9 hm ⟨hj, hj2, hu⟩ K
    subst hj
    have B := CV_B V
    have b3 := B.2.1 3 0 12 rfl
    have bst := standing_b B (l := l)
    have hl1 := hl.1
    have hl2 := hl.2.1
    have bu := lsT_b B (l := l) j
    have bu2 := lsT_b B (l := l) (j + 1)
    have bs := sold_n B l (j : Int)
    have b14 := B.1 14 (4 * (l / 100) + (j : Int)) 0 70 rfl
    have eu : lsT s l (j + 1) = min (lsT s l j) (rA s 14 (4 * (l / 100) + (j : Int)) - sold s l (j : Int)) := rfl
    have hm := lsT_m B (l := l) j
    have eo : openS s l (j : Int) = if freeP s l then (if minL s l ((j : Nat) : Int).toNat < 0 then 0 else minL s l ((j : Nat) : Int).toNat) else 0 := rfl
    rw [Int.toNat_natCast, ← hm] at eo
    subst hu
    refine ar_iload rfl rfl ?_
    refine ar_iconst rfl ?_
    refine ar_icmp_ge rfl rfl (by omega) (by omega) (fun h178 => ?_) (fun h178 => ?_)
    · exact K _ _ _
    · refine ar_iload rfl rfl ?_
      refine ar_if_eq rfl rfl (by omega) (fun ht => by omega) (fun h183 => ?_)
      refine ar_aload_n rfl rfl ?_
      refine ar_iconst rfl ?_
      refine ar_iload rfl rfl ?_
      refine ar_bipush (x := 100) rfl rfl ?_
      refine ar_idiv rfl (by omega) (by omega) ?_
      refine ar_imul rfl ?_
      refine ar_iload rfl rfl ?_
      refine ar_iadd rfl ?_
      refine ar_ia rfl rfl (LL1 H) (by omega) (by omega) ?_
      rw [LA_m H ⟨by omega, by omega⟩, pm _ _ (by omega) (by omega) (by omega) (by omega)]
      refine ar_aload_n rfl rfl ?_
      refine ar_aload_n rfl rfl ?_
      refine ar_iload rfl rfl ?_
      refine ar_iload rfl rfl ?_
      refine ar_cs4 rfl rfl (Nat.le_of_ble_eq_true rfl) (cs_lsold (d := 0) V H h4 (by omega) (by omega)) (by omega) (fun o q204 hq => am_B2_is ?_ hq)
      refine ar_isub rfl ?_
      refine ar_stI9 rfl ?_
      refine cq_join (pc' := 224) (V := lsT s l (j + 1)) ?_ (fun K224 => ?_)
      · refine ar_stI7 rfl ?_
        refine ar_aload_n rfl rfl ?_
        refine ar_iload rfl rfl ?_
        refine ar_iload rfl rfl ?_
        refine ar_cv2 rfl rfl rfl (Nat.le_of_ble_eq_true rfl) (T2_is (cs_open (d := 0) V (by omega) (by omega)) ⟨hl, by omega, by omega⟩) (by omega) (fun o q231 hq => am_B2_is ?_ hq)
        refine cq_join (pc' := 253) (V := openS s l (j : Int)) ?_ (fun K253 => ?_)
        · refine ar_icmp_ne rfl rfl (by omega) (by omega) (fun ht => by omega) (fun h253 => ?_)
          refine ar_iconst rfl ?_
          refine ar_goto rfl rfl ?_
          refine ar_stI6 rfl ?_
          refine ar_inc8 rfl ?_
          refine ar_goto rfl rfl ?_
          exact ih (j + 1) _ _ _ (by omega) ⟨by omega, by omega, rfl⟩ K
        · refine ar_iload rfl rfl ?_
          refine ar_bipush (x := 10) rfl rfl ?_
          refine ar_irem rfl (by omega) (by omega) ?_
          refine ar_if_gt rfl rfl (by omega) (fun h239 => ?_) (fun h239 => ?_)
          · refine ar_iconst rfl ?_
            refine ar_goto rfl rfl ?_
            exact K253 _ (by { rw [eo]; by_cases z : freeP s l; have z1 : ¬ (standing s l % 10 > 0) := fun y => (bst.2.2.2.1.mp y) z; rw [if_pos z]; split <;> omega; have z1 : standing s l % 10 > 0 := bst.2.2.2.1.mpr z; rw [if_neg z] <;> omega })
          · refine ar_iload rfl rfl ?_
            refine ar_if_ge rfl rfl (by omega) (fun h244 => ?_) (fun h244 => ?_)
            · refine ar_iload rfl rfl ?_
              exact K253 _ (by { rw [eo]; by_cases z : freeP s l; have z1 : ¬ (standing s l % 10 > 0) := fun y => (bst.2.2.2.1.mp y) z; rw [if_pos z]; split <;> omega; have z1 : standing s l % 10 > 0 := bst.2.2.2.1.mpr z; rw [if_neg z] <;> omega })
            · refine ar_iconst rfl ?_
              refine ar_goto rfl rfl ?_
              exact K253 _ (by { rw [eo]; by_cases z : freeP s l; have z1 : ¬ (standing s l % 10 > 0) := fun y => (bst.2.2.2.1.mp y) z; rw [if_pos z]; split <;> omega; have z1 : standing s l % 10 > 0 := bst.2.2.2.1.mpr z; rw [if_neg z] <;> omega })
      · refine ar_iload rfl rfl ?_
        refine ar_iload rfl rfl ?_
        refine ar_icmp_ge rfl rfl (by omega) (by omega) (fun h214 => ?_) (fun h214 => ?_)
        · refine ar_iload rfl rfl ?_
          exact K224 _ (by rw [eu]; omega)
        · refine ar_iload rfl rfl ?_
          refine ar_goto rfl rfl ?_
          exact K224 _ (by rw [eu]; omega)
theorem il_tail {d e : Nat} {q : am_A} {s : am_Z} (I : am_CI (e + 1) q s) (F : am_DFh q) {T : am_LT} (H : am_LA q T) (P : am_PL s T) (N : am_FL s) {l : Int} (bl : 0 ≤ l ∧ l ≤ 1200) (hl : legP s l) {Q : am_O → am_A → Prop} (K : ∀ q', am_CI (e + 5) q' s → am_CY q q' → am_DFh q' → Q (.inl (some (aI (zI 1)))) q') : am_W2 (d + 22) m_L_isLeg 142 [some (aR 8 0), some (aR 24 0), some (aR 24 1), some (aR 24 5), some (aI (zI l)), some (aI (zI (standing s l))), none, none, none, none] [] q Q := by
  have B := CV_B I.1
  have b3 := B.2.1 3 0 12 rfl
  have bst := standing_b B (l := l)
  have hl1 := hl.1
  have hl2 := hl.2.1
  obtain ⟨⟨p0, p1, p2, p3, p4, p5, p6⟩, pn, pm, pf, pb, px⟩ := P
  have b9 := B.1 9 (l / 100) 0 60 rfl
  have h9 : 1 ≤ rA s 9 (l / 100) ∧ rA s 9 (l / 100) ≤ 60 := ⟨(N (l / 100) (by omega) hl2).2, b9.2⟩
  refine ar_aload_n rfl rfl ?_
  refine ar_bipush (x := 28) rfl rfl ?_
  refine ar_iload rfl rfl ?_
  refine ar_iconst rfl ?_
  refine ar_iconst rfl ?_
  refine ar_iconst rfl ?_
  refine ar_iconst rfl ?_
  refine ar_iconst rfl ?_
  refine ar_cs8 rfl rfl (Nat.le_of_ble_eq_true rfl) (dn_open (d := 0) I F (by omega) (by omega) (fun z => by omega)) (by omega) (fun o q152 hq => ?_)
  obtain ⟨rfl, I152, Y152, F152⟩ := hq
  have H2 := LA_CY H Y152
  have V2 := I152.1
  have bs := sold_n B l 0
  refine ar_ldc (x := -3000000) rfl rfl ?_
  refine ar_icmp_ne rfl rfl (by omega) (by omega) (fun ht => by omega) (fun h157 => ?_)
  refine ar_iconst rfl ?_
  refine ar_goto rfl rfl ?_
  refine ar_stI6 rfl ?_
  refine ar_sipush (x := 1000) rfl rfl ?_
  refine ar_stI7 rfl ?_
  refine ar_iconst rfl ?_
  refine ar_stI8 rfl ?_
  refine lp_il (d := d + 15) V2 H2 p4 pm hl 1000 0 0 1000 _ (by omega) ⟨rfl, by omega, rfl⟩ (fun u x8 x9 => ?_)
  refine ar_aload_n rfl rfl ?_
  refine ar_aload_n rfl rfl ?_
  refine ar_iload rfl rfl ?_
  refine ar_iconst rfl ?_
  refine ar_cs4 rfl rfl (Nat.le_of_ble_eq_true rfl) (cs_lsold (d := 0) V2 H2 p4 (by omega) (by omega)) (by omega) (fun o q274 hq => am_B2_is ?_ hq)
  refine ar_i2f rfl ?_
  refine ar_aload_n rfl rfl ?_
  refine ar_iconst rfl ?_
  refine ar_iload rfl rfl ?_
  refine ar_bipush (x := 100) rfl rfl ?_
  refine ar_idiv rfl (by omega) (by omega) ?_
  refine ar_imul rfl ?_
  refine ar_iconst rfl ?_
  refine ar_iadd rfl ?_
  refine ar_ia rfl rfl (LL0 H2) (by omega) (by omega) ?_
  have n9 := (pn (l / 100) (by omega) hl2).2.2.2.2
  rw [LA_n H2 ⟨by omega, by omega⟩, n9]
  refine ar_i2f rfl ?_
  refine ar_fdiv rfl (fp_div h9) ?_
  refine ar_stF8 rfl ?_
  refine ar_iload rfl rfl ?_
  refine ar_if_eq rfl rfl (by omega) (fun ht => by omega) (fun h295 => ?_)
  refine ar_aload_n rfl rfl ?_
  refine ar_iload rfl rfl ?_
  refine ar_cv1 rfl rfl rfl (Nat.le_of_ble_eq_true rfl) (T2_is (cs_load (d := 0) V2 (by omega) (fun _ => h9.1)) hl) (by omega) (fun o q301 hq => am_B2_is ?_ hq)
  refine ar_fload rfl rfl ?_
  refine ar_fcmp rfl ?_
  rw [show aI (Op.cmpValue _ _) = aI (zI 0) from by { show aI (Op.cmpValue (FP.fcmp (ldF s l) (ldF s l)) _) = _; rw [f_cmp (a := ldF s l) (fp_mask (fp_div h9))]; rfl }]
  refine ar_if_ne rfl rfl (by omega) (fun ht => by omega) (fun h307 => ?_)
  refine ar_iconst rfl ?_
  refine ar_goto rfl rfl ?_
  exact ar_iret rfl (Or.inr ⟨rfl, by first | omega | (split <;> omega)⟩) (K _ (CI_le I152 (by omega)) Y152 F152)
theorem cs_isLeg1 {d : Nat} {q : am_A} {e : Nat} {s : am_Z} (I : am_CI e q s) (F : am_DFh q) {T : am_LT} (H : am_LA q T) (P : am_PL s T) (N : am_FL s) {l : Int} (bl : 0 ≤ l ∧ l ≤ 1200) (hl : legP s l) : am_C2 (d + 22) m_L_isLeg [aR 8 0, aR 24 0, aR 24 1, aR 24 5, aI (zI l)] q (am_RD 5 e q s 1) := by
  refine am_C2_i (ls := [some (aR 8 0), some (aR 24 0), some (aR 24 1), some (aR 24 5), some (aI (zI l)), none, none, none, none, none]) rfl ?_
  have P0 := P
  have B := CV_B I.1
  have b3 := B.2.1 3 0 12 rfl
  have bst := standing_b B (l := l)
  have hl1 := hl.1
  have hl2 := hl.2.1
  obtain ⟨⟨p0, p1, p2, p3, p4, p5, p6⟩, pn, pm, pf, pb, px⟩ := P
  refine ar_aload_n rfl rfl ?_
  refine ar_bipush (x := 27) rfl rfl ?_
  refine ar_iload rfl rfl ?_
  refine ar_iconst rfl ?_
  refine ar_iconst rfl ?_
  refine ar_iconst rfl ?_
  refine ar_iconst rfl ?_
  refine ar_iconst rfl ?_
  refine ar_cs8 rfl rfl (Nat.le_of_ble_eq_true rfl) (dp_standing (d := 0) I F (by omega) hl) (by omega) (fun o q10 hq => ?_)
  obtain ⟨rfl, I10, Y10, F10⟩ := hq
  have H1 := LA_CY H Y10
  have V1 := I10.1
  refine ar_stI5 rfl ?_
  refine ar_iload rfl rfl ?_
  refine ar_if_ge rfl rfl (by omega) (fun h17 => ?_) (fun hf => by omega)
  refine ar_iload rfl rfl ?_
  refine ar_bipush (x := 10) rfl rfl ?_
  refine ar_idiv rfl (by omega) (by omega) ?_
  refine ar_bipush (x := 8) rfl rfl ?_
  refine ar_icmp_gt rfl rfl (by omega) (by omega) (fun ht => by omega) (fun h105 => ?_)
  refine ar_iload rfl rfl ?_
  refine ar_bipush (x := 10) rfl rfl ?_
  refine ar_irem rfl (by omega) (by omega) ?_
  refine ar_iconst rfl ?_
  refine ar_icmp_eq rfl rfl (by omega) (by omega) (fun h114 => ?_) (fun h114 => ?_)
  · exact il_tail (d := d) I10 F10 H1 P0 N bl hl (fun q2 I2 Y2 F2 => ⟨rfl, I2, CY_t Y10 Y2, F2⟩)
  · refine ar_iload rfl rfl ?_
    refine ar_bipush (x := 10) rfl rfl ?_
    refine ar_irem rfl (by omega) (by omega) ?_
    refine cq_join (pc' := 139) (V := if dep s l ≤ rI s 0 then 1 else 0) ?_ (fun K139 => ?_)
    · refine ar_icmp_ne rfl rfl (by omega) (by omega) (fun ht => by omega) (fun h139 => ?_)
      exact il_tail (d := d) I10 F10 H1 P0 N bl hl (fun q2 I2 Y2 F2 => ⟨rfl, I2, CY_t Y10 Y2, F2⟩)
    · refine ar_aload_n rfl rfl ?_
      refine ar_iload rfl rfl ?_
      refine ar_cv1 rfl rfl rfl (Nat.le_of_ble_eq_true rfl) (T2_is (cs_departure (d := 0) V1 (by omega)) hl) (by omega) (fun o q125 hq => am_B2_is ?_ hq)
      refine ar_aload_n rfl rfl ?_
      refine ar_iconst rfl ?_
      refine ar_ia rfl rfl (LL5 H1) (by omega) (by omega) ?_
      rw [LA_g H1 ⟨by omega, by omega⟩, p2]
      have bdl := dep_b B (legP_R B hl)
      have b0 := B.2.1 0 0 60000 rfl
      refine ar_icmp_gt rfl rfl (by omega) (by omega) (fun h131 => ?_) (fun h131 => ?_)
      · refine ar_iconst rfl ?_
        exact K139 _ (by first | rw [if_pos (by omega)] | rw [if_neg (by omega)])
      · refine ar_iconst rfl ?_
        refine ar_goto rfl rfl ?_
        exact K139 _ (by first | rw [if_pos (by omega)] | rw [if_neg (by omega)])
theorem cs_isLeg {d e : Nat} {q : am_A} {s : am_Z} (I : am_CI e q s) (F : am_DFh q) {T : am_LT} (H : am_LA q T) (P : am_PL s T) (N : am_FL s) {l : Int} (bl : 0 ≤ l ∧ l ≤ 1200) (HO : am_HOs s) : am_C2 (d + 22) m_L_isLeg [aR 8 0, aR 24 0, aR 24 1, aR 24 5, aI (zI l)] q (am_RD 5 e q s 1) := by
  by_cases hl : legP s l
  · exact cs_isLeg1 (d := d) I F H P N bl hl
  · exact cs_isLeg0 (d := d) I F H P N bl HO hl
end

noncomputable section
/-! The abstract heap: int fields and ints of arrays as Int, each ArrayList as the list of what it holds (and its capacity). -/
abbrev zI (x : Int) : Int32 := Int32.ofInt x
abbrev in32 (x : Int) : Prop := -2147483648 ≤ x ∧ x ≤ 2147483647
theorem zI_toInt {x : Int} (h : in32 x) : (zI x).toInt = x := Int32.toInt_ofInt_of_le h.1 (by have := h.2; omega)
theorem zI_lt {a b : Int} (ha : in32 a) (hb : in32 b) : zI a < zI b ↔ a < b := by rw [Int32.lt_iff_toInt_lt, zI_toInt ha, zI_toInt hb]
theorem zI_le {a b : Int} (ha : in32 a) (hb : in32 b) : zI a ≤ zI b ↔ a ≤ b := by rw [Int32.le_iff_toInt_le, zI_toInt ha, zI_toInt hb]
theorem zI_eq {a b : Int} (ha : in32 a) (hb : in32 b) : zI a = zI b ↔ a = b := ⟨fun h => by rw [← zI_toInt ha, ← zI_toInt hb, h], fun h => by rw [h]⟩
theorem in32_0 : in32 0 := by unfold in32; omega
abbrev am_A : Type := (Nat → am_R → Int) × (Nat → am_R → Option am_R) × (am_R → Nat → Int) × (am_R → Nat → Option am_R) × (am_R → Nat → Int64) × (am_R → Nat → UInt64) × (am_R → Nat) × (Nat → Nat) × (am_R → List am_R) × (am_R → Nat) × Nat × Nat
def qFI (a : am_A) : Nat → am_R → Int := a.1
def qFR (a : am_A) : Nat → am_R → Option am_R := a.2.1
def qAI (a : am_A) : am_R → Nat → Int := a.2.2.1
def qAR (a : am_A) : am_R → Nat → Option am_R := a.2.2.2.1
def qAJ (a : am_A) : am_R → Nat → Int64 := a.2.2.2.2.1
def qAD (a : am_A) : am_R → Nat → UInt64 := a.2.2.2.2.2.1
def qAL (a : am_A) : am_R → Nat := a.2.2.2.2.2.2.1
def qCN (a : am_A) : Nat → Nat := a.2.2.2.2.2.2.2.1
def qLS (a : am_A) : am_R → List am_R := a.2.2.2.2.2.2.2.2.1
def qCP (a : am_A) : am_R → Nat := a.2.2.2.2.2.2.2.2.2.1
def qCE (a : am_A) : Nat := a.2.2.2.2.2.2.2.2.2.2.1
def qSL (a : am_A) : Nat := a.2.2.2.2.2.2.2.2.2.2.2
def uFI (a : am_A) (f : Nat) (r : am_R) (v : Int) : am_A := (am_u2 (qFI a) f r v, a.2)
def uFR (a : am_A) (f : Nat) (r : am_R) (v : Option am_R) : am_A := (qFI a, am_u2 (qFR a) f r v, a.2.2)
def uAI (a : am_A) (r : am_R) (k : Nat) (v : Int) : am_A := (qFI a, qFR a, am_u2 (qAI a) r k v, a.2.2.2)
def uAR (a : am_A) (r : am_R) (k : Nat) (v : Option am_R) : am_A := (qFI a, qFR a, qAI a, am_u2 (qAR a) r k v, a.2.2.2.2)
def uAJ (a : am_A) (r : am_R) (k : Nat) (v : Int64) : am_A := (qFI a, qFR a, qAI a, qAR a, am_u2 (qAJ a) r k v, a.2.2.2.2.2)
def uAD (a : am_A) (r : am_R) (k : Nat) (v : UInt64) : am_A := (qFI a, qFR a, qAI a, qAR a, qAJ a, am_u2 (qAD a) r k v, a.2.2.2.2.2.2)
/-- a list, by its data -/
def am_Lk (a : am_A) (h : am_H) (r : am_R) : Prop := ∃ x y : Nat, hFR h 1001 r = some (x, y) ∧ hFI h 1002 r = zI ((qLS a r).length : Int) ∧ (qLS a r).length ≤ qCP a r ∧ qCP a r = hAL h (x, y) ∧ qCP a r ≤ 1000 ∧ (∀ (i : Nat) (v : am_R), (qLS a r)[i]? = some v → hAR h (x, y) i = some v) ∧ ((x = 32 ∧ y = 0 ∧ qCP a r = 0) ∨ (x = 30 ∧ y < hCN h 30 ∧ 1 ≤ qCP a r))
def am_isL (h : am_H) (r : am_R) : Prop := am_kc r.1 = some 10 ∧ r.2 < hCN h r.1
def am_Re (a : am_A) (h : am_H) : Prop :=
  (∀ f r, f / 100 ≠ 10 → hFI h f r = zI (qFI a f r)) ∧ (∀ f r, f / 100 ≠ 10 → hFR h f r = qFR a f r) ∧ (∀ r k, r.1 ≠ 30 → hAI h r k = zI (qAI a r k)) ∧ (∀ r k, r.1 ≠ 30 → hAR h r k = qAR a r k) ∧ (∀ r k, r.1 ≠ 30 → hAJ h r k = qAJ a r k) ∧ (∀ r k, r.1 ≠ 30 → hAD h r k = qAD a r k) ∧ (∀ r, r.1 ≠ 30 → hAL h r = qAL a r) ∧ (∀ t, t ≠ 30 → hCN h t = qCN a t) ∧
  (∀ r, am_isL h r → am_Lk a h r) ∧ (∀ r r' y, am_isL h r → am_isL h r' → hFR h 1001 r = some (30, y) → hFR h 1001 r' = some (30, y) → r = r') ∧ hCE h ≤ qCE a ∧ hSL h ≤ qSL a ∧ hAL h (32, 0) = 0
/-- from this frame the run ends, with Q of the abstract heap -/
def am_W2 (d y pc : Nat) (ls : List (Option am_V)) (st : List am_V) (a : am_A) (Q : am_O → am_A → Prop) : Prop := ∀ h, am_Re a h → am_W d y pc ls st h (fun o h' => ∃ a', am_Re a' h' ∧ Q o a')
def am_C2 (d y : Nat) (as : List am_V) (a : am_A) (Q : am_O → am_A → Prop) : Prop := ∀ h, am_Re a h → am_C d y as h (fun o h' => ∃ a', am_Re a' h' ∧ Q o a')
theorem am_C2_i {d y : Nat} {as : List am_V} {a : am_A} {Q : am_O → am_A → Prop} {ls : List (Option am_V)} (hl : am_lo (am_ml y) as = ls) (k : am_W2 d y 0 ls [] a Q) : am_C2 d y as a Q := fun h R => am_C_i hl (k h R)
theorem am_C2_imp {d y : Nat} {as : List am_V} {a : am_A} {Q Q' : am_O → am_A → Prop} (k : am_C2 d y as a Q) (hq : ∀ o a', Q o a' → Q' o a') : am_C2 d y as a Q' := fun h R => am_C_imp (k h R) (fun o h' ⟨a', r, q⟩ => ⟨a', r, hq o a' q⟩)
section ROWS2
variable {d y pc p t : Nat} {ls : List (Option am_V)} {st : List am_V} {q : am_A} {Q : am_O → am_A → Prop}
theorem ar_iconst {i : Int} (hc : am_c y pc = some (.iconst i, p)) (k : am_W2 d y p ls (aI (zI i) :: st) q Q) : am_W2 d y pc ls (st) q Q := fun h R => s_iconst hc rfl (k h R)
theorem ar_bipush {i : Int} {x : Int} (hc : am_c y pc = some (.bipush i, p)) (hx : (Int8.ofInt i).toInt32 = zI x) (k : am_W2 d y p ls (aI (zI x) :: st) q Q) : am_W2 d y pc ls (st) q Q := fun h R => s_bipush hc hx (k h R)
theorem ar_sipush {i : Int} {x : Int} (hc : am_c y pc = some (.sipush i, p)) (hx : (Int16.ofInt i).toInt32 = zI x) (k : am_W2 d y p ls (aI (zI x) :: st) q Q) : am_W2 d y pc ls (st) q Q := fun h R => s_sipush hc hx (k h R)
theorem ar_lconst {i : Fin 2} {x : Int64} (hc : am_c y pc = some (.lconst i, p)) (hx : Int64.ofNat (i : Nat) = x) (k : am_W2 d y p ls (aJ x :: st) q Q) : am_W2 d y pc ls (st) q Q := fun h R => s_lconst hc hx (k h R)
theorem ar_fconst  (hc : am_c y pc = some (.fconst 0, p)) (k : am_W2 d y p ls (aF FP.fconst0 :: st) q Q) : am_W2 d y pc ls (st) q Q := fun h R => s_fconst hc (k h R)
theorem ar_null  (hc : am_c y pc = some (.aconst_null, p)) (k : am_W2 d y p ls (aN :: st) q Q) : am_W2 d y pc ls (st) q Q := fun h R => s_null hc (k h R)
theorem ar_iload {i : Nat} {x : Int32} (hc : am_c y pc = some (.iload i, p)) (hl : ls[i]? = some (some (aI x))) (k : am_W2 d y p ls (aI x :: st) q Q) : am_W2 d y pc ls (st) q Q := fun h R => s_iload hc hl (k h R)
theorem ar_iload_n {i : Fin 4} {x : Int32} (hc : am_c y pc = some (.iload_n i, p)) (hl : ls[(i : Nat)]? = some (some (aI x))) (k : am_W2 d y p ls (aI x :: st) q Q) : am_W2 d y pc ls (st) q Q := fun h R => s_iload_n hc hl (k h R)
theorem ar_aload {i : Nat} {x : Option am_R} (hc : am_c y pc = some (.aload i, p)) (hl : ls[i]? = some (some (aO x))) (k : am_W2 d y p ls (aO x :: st) q Q) : am_W2 d y pc ls (st) q Q := fun h R => s_aload hc hl (k h R)
theorem ar_aload_n {i : Fin 4} {x : Option am_R} (hc : am_c y pc = some (.aload_n i, p)) (hl : ls[(i : Nat)]? = some (some (aO x))) (k : am_W2 d y p ls (aO x :: st) q Q) : am_W2 d y pc ls (st) q Q := fun h R => s_aload_n hc hl (k h R)
theorem ar_fload {i : Nat} {x : UInt32} (hc : am_c y pc = some (.fload i, p)) (hl : ls[i]? = some (some (aF x))) (k : am_W2 d y p ls (aF x :: st) q Q) : am_W2 d y pc ls (st) q Q := fun h R => s_fload hc hl (k h R)
theorem ar_iadd {a b : Int} (hc : am_c y pc = some (.iadd, p)) (k : am_W2 d y p ls (aI (zI (a + b)) :: st) q Q) : am_W2 d y pc ls (aI (zI b) :: aI (zI a) :: st) q Q := fun h R => s_iadd hc (by rw [← Int32.ofInt_add]; exact k h R)
theorem ar_isub {a b : Int} (hc : am_c y pc = some (.isub, p)) (k : am_W2 d y p ls (aI (zI (a - b)) :: st) q Q) : am_W2 d y pc ls (aI (zI b) :: aI (zI a) :: st) q Q := fun h R => s_isub hc (by rw [← Int32.ofInt_sub]; exact k h R)
theorem ar_imul {a b : Int} (hc : am_c y pc = some (.imul, p)) (k : am_W2 d y p ls (aI (zI (a * b)) :: st) q Q) : am_W2 d y pc ls (aI (zI b) :: aI (zI a) :: st) q Q := fun h R => s_imul hc (by rw [← Int32.ofInt_mul]; exact k h R)
theorem ar_dup {v : am_V} (hc : am_c y pc = some (.dup, p)) (hv : am_cat v = 1) (k : am_W2 d y p ls (v :: v :: st) q Q) : am_W2 d y pc ls (v :: st) q Q := fun h R => s_dup hc hv (k h R)
theorem ar_pop {v : am_V} (hc : am_c y pc = some (.pop, p)) (hv : am_cat v = 1) (k : am_W2 d y p ls (st) q Q) : am_W2 d y pc ls (v :: st) q Q := fun h R => s_pop hc hv (k h R)
theorem ar_dup_x1 {v w : am_V} (hc : am_c y pc = some (.dup_x1, p)) (hv : am_cat v = 1) (hw : am_cat w = 1) (k : am_W2 d y p ls (v :: w :: v :: st) q Q) : am_W2 d y pc ls (v :: w :: st) q Q := fun h R => s_dup_x1 hc hv hw (k h R)
theorem ar_dup2 {v w : am_V} (hc : am_c y pc = some (.dup2, p)) (hv : am_cat v = 1) (hw : am_cat w = 1) (k : am_W2 d y p ls (v :: w :: v :: w :: st) q Q) : am_W2 d y pc ls (v :: w :: st) q Q := fun h R => s_dup2 hc hv hw (k h R)
theorem ar_goto {off : Int} (hc : am_c y pc = some (.goto off, p)) (ht : am_tg pc off = some t) (k : am_W2 d y t ls st q Q) : am_W2 d y pc ls st q Q := fun h R => s_goto hc ht (k h R)
theorem ar_if_eq {a : Int} {off : Int} (hc : am_c y pc = some (.ifCond .eq off, p)) (ht : am_tg pc off = some t) (ha : in32 a) (kt : a = 0 → am_W2 d y t ls st q Q) (kf : a ≠ 0 → am_W2 d y p ls st q Q) : am_W2 d y pc ls (aI (zI a) :: st) q Q := fun h R => s_if_eq hc ht (fun z => kt ((zI_eq ha in32_0).mp z) h R) (fun z => kf (fun e => z (by rw [e]; rfl)) h R)
theorem ar_if_ne {a : Int} {off : Int} (hc : am_c y pc = some (.ifCond .ne off, p)) (ht : am_tg pc off = some t) (ha : in32 a) (kt : a ≠ 0 → am_W2 d y t ls st q Q) (kf : a = 0 → am_W2 d y p ls st q Q) : am_W2 d y pc ls (aI (zI a) :: st) q Q := fun h R => s_if_ne hc ht (fun z => kt (fun e => z (by rw [e]; rfl)) h R) (fun z => kf ((zI_eq ha in32_0).mp (Classical.not_not.mp z)) h R)
theorem ar_if_lt {a : Int} {off : Int} (hc : am_c y pc = some (.ifCond .lt off, p)) (ht : am_tg pc off = some t) (ha : in32 a) (kt : a < 0 → am_W2 d y t ls st q Q) (kf : 0 ≤ a → am_W2 d y p ls st q Q) : am_W2 d y pc ls (aI (zI a) :: st) q Q := fun h R => s_if_lt hc ht (fun z => kt ((zI_lt ha in32_0).mp z) h R) (fun z => kf (Int.not_lt.mp (fun e => z ((zI_lt ha in32_0).mpr e))) h R)
theorem ar_if_ge {a : Int} {off : Int} (hc : am_c y pc = some (.ifCond .ge off, p)) (ht : am_tg pc off = some t) (ha : in32 a) (kt : 0 ≤ a → am_W2 d y t ls st q Q) (kf : a < 0 → am_W2 d y p ls st q Q) : am_W2 d y pc ls (aI (zI a) :: st) q Q := fun h R => s_if_ge hc ht (fun z => kt ((zI_le in32_0 ha).mp z) h R) (fun z => kf (Int.not_le.mp (fun e => z ((zI_le in32_0 ha).mpr e))) h R)
theorem ar_if_gt {a : Int} {off : Int} (hc : am_c y pc = some (.ifCond .gt off, p)) (ht : am_tg pc off = some t) (ha : in32 a) (kt : 0 < a → am_W2 d y t ls st q Q) (kf : a ≤ 0 → am_W2 d y p ls st q Q) : am_W2 d y pc ls (aI (zI a) :: st) q Q := fun h R => s_if_gt hc ht (fun z => kt ((zI_lt in32_0 ha).mp z) h R) (fun z => kf (Int.not_lt.mp (fun e => z ((zI_lt in32_0 ha).mpr e))) h R)
theorem ar_if_le {a : Int} {off : Int} (hc : am_c y pc = some (.ifCond .le off, p)) (ht : am_tg pc off = some t) (ha : in32 a) (kt : a ≤ 0 → am_W2 d y t ls st q Q) (kf : 0 < a → am_W2 d y p ls st q Q) : am_W2 d y pc ls (aI (zI a) :: st) q Q := fun h R => s_if_le hc ht (fun z => kt ((zI_le ha in32_0).mp z) h R) (fun z => kf (Int.not_le.mp (fun e => z ((zI_le ha in32_0).mpr e))) h R)
theorem ar_icmp_eq {a b : Int} {off : Int} (hc : am_c y pc = some (.if_icmp .eq off, p)) (ht : am_tg pc off = some t) (ha : in32 a) (hb : in32 b) (kt : a = b → am_W2 d y t ls st q Q) (kf : a ≠ b → am_W2 d y p ls st q Q) : am_W2 d y pc ls (aI (zI b) :: aI (zI a) :: st) q Q := fun h R => s_icmp_eq hc ht (fun z => kt ((zI_eq ha hb).mp z) h R) (fun z => kf (fun e => z (by rw [e])) h R)
theorem ar_icmp_ne {a b : Int} {off : Int} (hc : am_c y pc = some (.if_icmp .ne off, p)) (ht : am_tg pc off = some t) (ha : in32 a) (hb : in32 b) (kt : a ≠ b → am_W2 d y t ls st q Q) (kf : a = b → am_W2 d y p ls st q Q) : am_W2 d y pc ls (aI (zI b) :: aI (zI a) :: st) q Q := fun h R => s_icmp_ne hc ht (fun z => kt (fun e => z (by rw [e])) h R) (fun z => kf ((zI_eq ha hb).mp (Classical.not_not.mp z)) h R)
theorem ar_icmp_lt {a b : Int} {off : Int} (hc : am_c y pc = some (.if_icmp .lt off, p)) (ht : am_tg pc off = some t) (ha : in32 a) (hb : in32 b) (kt : a < b → am_W2 d y t ls st q Q) (kf : b ≤ a → am_W2 d y p ls st q Q) : am_W2 d y pc ls (aI (zI b) :: aI (zI a) :: st) q Q := fun h R => s_icmp_lt hc ht (fun z => kt ((zI_lt ha hb).mp z) h R) (fun z => kf (Int.not_lt.mp (fun e => z ((zI_lt ha hb).mpr e))) h R)
theorem ar_icmp_ge {a b : Int} {off : Int} (hc : am_c y pc = some (.if_icmp .ge off, p)) (ht : am_tg pc off = some t) (ha : in32 a) (hb : in32 b) (kt : b ≤ a → am_W2 d y t ls st q Q) (kf : a < b → am_W2 d y p ls st q Q) : am_W2 d y pc ls (aI (zI b) :: aI (zI a) :: st) q Q := fun h R => s_icmp_ge hc ht (fun z => kt ((zI_le hb ha).mp z) h R) (fun z => kf (Int.not_le.mp (fun e => z ((zI_le hb ha).mpr e))) h R)
theorem ar_icmp_gt {a b : Int} {off : Int} (hc : am_c y pc = some (.if_icmp .gt off, p)) (ht : am_tg pc off = some t) (ha : in32 a) (hb : in32 b) (kt : b < a → am_W2 d y t ls st q Q) (kf : a ≤ b → am_W2 d y p ls st q Q) : am_W2 d y pc ls (aI (zI b) :: aI (zI a) :: st) q Q := fun h R => s_icmp_gt hc ht (fun z => kt ((zI_lt hb ha).mp z) h R) (fun z => kf (Int.not_lt.mp (fun e => z ((zI_lt hb ha).mpr e))) h R)
theorem ar_icmp_le {a b : Int} {off : Int} (hc : am_c y pc = some (.if_icmp .le off, p)) (ht : am_tg pc off = some t) (ha : in32 a) (hb : in32 b) (kt : a ≤ b → am_W2 d y t ls st q Q) (kf : b < a → am_W2 d y p ls st q Q) : am_W2 d y pc ls (aI (zI b) :: aI (zI a) :: st) q Q := fun h R => s_icmp_le hc ht (fun z => kt ((zI_le ha hb).mp z) h R) (fun z => kf (Int.not_le.mp (fun e => z ((zI_le ha hb).mpr e))) h R)
theorem ar_acmp_eq {a b : Option am_R} {off : Int} (hc : am_c y pc = some (.if_acmp .eq off, p)) (ht : am_tg pc off = some t)  (kt : a = b → am_W2 d y t ls st q Q) (kf : a ≠ b → am_W2 d y p ls st q Q) : am_W2 d y pc ls (aO b :: aO a :: st) q Q := fun h R => s_acmp_eq hc ht (fun z => kt (z) h R) (fun z => kf (z) h R)
theorem ar_acmp_ne {a b : Option am_R} {off : Int} (hc : am_c y pc = some (.if_acmp .ne off, p)) (ht : am_tg pc off = some t)  (kt : a ≠ b → am_W2 d y t ls st q Q) (kf : a = b → am_W2 d y p ls st q Q) : am_W2 d y pc ls (aO b :: aO a :: st) q Q := fun h R => s_acmp_ne hc ht (fun z => kt (z) h R) (fun z => kf (Classical.not_not.mp z) h R)
theorem ar_ifnull {a : Option am_R} {off : Int} (hc : am_c y pc = some (.ifnull off, p)) (ht : am_tg pc off = some t) (kn : a = none → am_W2 d y t ls st q Q) (ks : ∀ r, a = some r → am_W2 d y p ls st q Q) : am_W2 d y pc ls (aO a :: st) q Q := fun h R => s_ifnull hc ht (fun e => kn e h R) (fun r e => ks r e h R)
theorem ar_ifnonnull {a : Option am_R} {off : Int} (hc : am_c y pc = some (.ifnonnull off, p)) (ht : am_tg pc off = some t) (kn : a = none → am_W2 d y p ls st q Q) (ks : ∀ r, a = some r → am_W2 d y t ls st q Q) : am_W2 d y pc ls (aO a :: st) q Q := fun h R => s_ifnonnull hc ht (fun e => kn e h R) (fun r e => ks r e h R)
theorem ar_ldc {i : Nat} {x : Int} (hc : am_c y pc = some (.ldc i, p)) (hx : am_kt (am_K y i) = some (zI x)) (k : am_W2 d y p ls (aI (zI x) :: st) q Q) : am_W2 d y pc ls st q Q := fun h R => s_ldc hc hx (k h R)
theorem ar_ldc_w {i : Nat} {x : Int} (hc : am_c y pc = some (.ldc_w i, p)) (hx : am_kt (am_K y i) = some (zI x)) (k : am_W2 d y p ls (aI (zI x) :: st) q Q) : am_W2 d y pc ls st q Q := fun h R => s_ldc_w hc hx (k h R)
theorem ar_gfI {f ci kt n : Nat} (hc : am_gf y pc = some (f, ci, p)) (hk : am_kc kt = some ci) (hr : am_fr f = false) (h10 : f / 100 ≠ 10) (k : am_W2 d y p ls (aI (zI (qFI q f (kt, n))) :: st) q Q) : am_W2 d y pc ls (aR kt n :: st) q Q := fun h R => s_gfI hc hk hr (by rw [R.1 _ _ h10]; exact k h R)
theorem ar_gfR {f ci kt n : Nat} {v : Option am_R} (hc : am_gf y pc = some (f, ci, p)) (hk : am_kc kt = some ci) (hr : am_fr f = true) (h10 : f / 100 ≠ 10) (hv : qFR q f (kt, n) = v) (k : am_W2 d y p ls (aO v :: st) q Q) : am_W2 d y pc ls (aR kt n :: st) q Q := fun h R => s_gfR hc hk hr ((R.2.1 _ _ h10).trans hv) (k h R)
theorem ar_alen {kt n : Nat} (hc : am_c y pc = some (.arraylength, p)) (hk : (am_ka kt).isSome = true) (h30 : kt ≠ 30) (k : am_W2 d y p ls (aI (zI (qAL q (kt, n) : Int)) :: st) q Q) : am_W2 d y pc ls (aR kt n :: st) q Q := fun h R => s_alen hc hk (by rw [R.2.2.2.2.2.2.1 _ h30]; exact k h R)
theorem ar_iaload {kt n j : Nat} {i : Int} (hc : am_c y pc = some (.iaload, p)) (hk : am_ka kt = some 0) (hi : i = (j : Int)) (hj : j < qAL q (kt, n)) (hn : qAL q (kt, n) < 2147483648) (k : am_W2 d y p ls (aI (zI (qAI q (kt, n) j)) :: st) q Q) : am_W2 d y pc ls (aI (zI i) :: aR kt n :: st) q Q := fun h R => s_iaload hc hk (by rw [zI_toInt (by unfold in32; omega), hi]) (by rw [R.2.2.2.2.2.2.1 _ (by intro e; subst e; cases hk)]; exact hj) (by rw [R.2.2.1 _ _ (by intro e; subst e; cases hk)]; exact k h R)
theorem ar_baload {kt n j : Nat} {i : Int} (hc : am_c y pc = some (.baload, p)) (hk : am_ka kt = some 1) (hi : i = (j : Int)) (hj : j < qAL q (kt, n)) (hn : qAL q (kt, n) < 2147483648) (k : am_W2 d y p ls (aI (zI (qAI q (kt, n) j)) :: st) q Q) : am_W2 d y pc ls (aI (zI i) :: aR kt n :: st) q Q := fun h R => s_baload hc hk (by rw [zI_toInt (by unfold in32; omega), hi]) (by rw [R.2.2.2.2.2.2.1 _ (by intro e; subst e; cases hk)]; exact hj) (by rw [R.2.2.1 _ _ (by intro e; subst e; cases hk)]; exact k h R)
theorem ar_aaload {kt n j : Nat} {i : Int} {v : Option am_R} (hc : am_c y pc = some (.aaload, p)) (hk : am_ka kt = some 5 ∨ am_ka kt = some 6) (hi : i = (j : Int)) (hj : j < qAL q (kt, n)) (hn : qAL q (kt, n) < 2147483648) (hv : qAR q (kt, n) j = v) (k : am_W2 d y p ls (aO v :: st) q Q) : am_W2 d y pc ls (aI (zI i) :: aR kt n :: st) q Q := fun h R => by
  have h30 : kt ≠ 30 := by intro e; subst e; rcases hk with hk | hk <;> cases hk
  exact s_aaload hc (Or.inr hk) (by rw [zI_toInt (by unfold in32; omega), hi]) (by rw [R.2.2.2.2.2.2.1 _ h30]; exact hj) ((R.2.2.2.1 _ _ h30).trans hv) (k h R)
theorem ar_ret (hc : am_c y pc = some (.return_, p)) (hr : am_rt y = none) (k : Q (.inl none) q) : am_W2 d y pc ls [] q Q := fun h R => s_ret hc hr ⟨q, R, k⟩
theorem ar_iret {v : Int} (hc : am_c y pc = some (.ireturn, p)) (hr : am_rt y = some .int ∨ (am_rt y = some .boolean ∧ (v = 0 ∨ v = 1))) (k : Q (.inl (some (aI (zI v)))) q) : am_W2 d y pc ls [aI (zI v)] q Q := fun h R => s_iret hc (hr.imp id (fun ⟨a, b⟩ => ⟨a, b.imp (fun e => by rw [e]; rfl) (fun e => by rw [e]; rfl)⟩)) ⟨q, R, k⟩
theorem ar_fret {v : UInt32} (hc : am_c y pc = some (.freturn, p)) (hr : am_rt y = some .float) (k : Q (.inl (some (aF v))) q) : am_W2 d y pc ls [aF v] q Q := fun h R => s_fret hc hr ⟨q, R, k⟩
theorem ar_aret {v : Option am_R} (hc : am_c y pc = some (.areturn, p)) {c : String} (hr : am_rt y = some (.object c)) (k : Q (.inl (some (aO v))) q) : am_W2 d y pc ls [aO v] q Q := fun h R => s_aret hc hr ⟨q, R, k⟩
end ROWS2
end

noncomputable section
section CROWS
variable {d y pc p : Nat} {ls : List (Option am_V)} {st : List am_V} {q : am_A} {Q : am_O → am_A → Prop}
theorem cq_join {pc' : Nat} {V : Int} (K : am_W2 d y pc' ls (aI (zI V) :: st) q Q) (k : (∀ v, v = V → am_W2 d y pc' ls (aI (zI v) :: st) q Q) → am_W2 d y pc ls st q Q) : am_W2 d y pc ls st q Q := k (fun _ e => e ▸ K)
theorem ar_gfIv {f ci kt n : Nat} {v : Int} (hc : am_gf y pc = some (f, ci, p)) (hk : am_kc kt = some ci) (hr : am_fr f = false) (h10 : f / 100 ≠ 10) (hv : qFI q f (kt, n) = v) (k : am_W2 d y p ls (aI (zI v) :: st) q Q) : am_W2 d y pc ls (aR kt n :: st) q Q := ar_gfI hc hk hr h10 (by rw [hv]; exact k)
/-- a method that throws kt where P fails, and else answers v, and changes nothing -/
def am_T2 (P : Prop) (kt : Nat) (v : Option am_V) (q : am_A) : am_O → am_A → Prop := fun o q' => (P → o = .inl v ∧ q' = q) ∧ (¬ P → o = .inr kt ∧ q' = uNO q kt 6)
def am_psh (v : Option am_V) (r : List am_V) : List am_V := match v with | some x => x :: r | none => r
theorem am_B2_T {P : Prop} {kt : Nat} {v : Option am_V} {r : List am_V} {o : am_O} {q' : am_A} (hh : am_hh y = []) (k1 : P → am_W2 d y p ls (am_psh v r) q Q) (k2 : ¬ P → Q (.inr kt) (uNO q kt 6)) (e : am_T2 P kt v q o q') : am_B2 d y pc p ls r Q o q' := by
  by_cases hP : P
  · obtain ⟨rfl, rfl⟩ := e.1 hP
    cases v with
    | none => exact k1 hP
    | some x => exact k1 hP
  · obtain ⟨rfl, rfl⟩ := e.2 hP
    unfold am_B2
    rw [hh]
    exact ⟨rfl, k2 hP⟩
theorem cq_eP {v x : Int} (h : v = x) : am_is2 (aI (zI x)) q (.inl (some (aI (zI v)))) q := ⟨by rw [h], rfl⟩
theorem cq_eB {P : Prop} [Decidable P] {v : Int} (h : v = if P then 1 else 0) : am_is2 (aI (zI (if P then 1 else 0))) q (.inl (some (aI (zI v)))) q := ⟨by rw [h], rfl⟩
end CROWS
theorem zI_xneg {a b : Int} (ha : in32 a) (hb : 0 ≤ b ∧ b ≤ 2147483647) : (zI a ^^^ zI b).toInt < 0 ↔ a < 0 := by
  have h1 : ∀ x : Int32, x.toBitVec.msb = decide (x.toInt < 0) := fun x => BitVec.msb_eq_toInt
  have h2 : (zI a ^^^ zI b).toBitVec.msb = ((zI a).toBitVec.msb ^^ (zI b).toBitVec.msb) := by rw [Int32.toBitVec_xor, BitVec.msb_xor]
  rw [h1, h1, h1, zI_toInt ha, zI_toInt (by unfold in32; omega)] at h2
  have h3 : decide (b < 0) = false := decide_eq_false (by omega)
  rw [h3, Bool.xor_false] at h2
  constructor
  · intro h; rw [decide_eq_true h] at h2; exact of_decide_eq_true h2.symm
  · intro h; rw [decide_eq_true h] at h2; exact of_decide_eq_true h2
theorem tdiv_24 (a : Int) : a.tdiv 24 = if 0 ≤ a then a / 24 else -((-a) / 24) := by
  split
  · rename_i h; exact Int.tdiv_eq_ediv_of_nonneg h
  · rename_i h
    have := Int.neg_tdiv (a := -a) (b := 24)
    rw [Int.neg_neg] at this
    rw [this, Int.tdiv_eq_ediv_of_nonneg (by omega)]
theorem cs_min {d : Nat} {q : am_A} {a b : Int} (ha : in32 a) (hb : in32 b) : am_C2 d m_Ma_min [aI (zI a), aI (zI b)] q (am_is2 (aI (zI (min a b))) q) := by
  refine am_C2_i (ls := [some (aI (zI a)), some (aI (zI b))]) rfl ?_
  refine ar_iload_n rfl rfl ?_
  refine ar_iload_n rfl rfl ?_
  refine ar_icmp_gt rfl rfl (by omega) (by omega) (fun h2 => ?_) (fun h2 => ?_)
  · refine ar_iload_n rfl rfl ?_
    exact ar_iret rfl (Or.inl rfl) (cq_eP (by first | rfl | omega))
  · refine ar_iload_n rfl rfl ?_
    refine ar_goto rfl rfl ?_
    exact ar_iret rfl (Or.inl rfl) (cq_eP (by first | rfl | omega))
theorem cs_max {d : Nat} {q : am_A} {a b : Int} (ha : in32 a) (hb : in32 b) : am_C2 d m_Ma_max [aI (zI a), aI (zI b)] q (am_is2 (aI (zI (max a b))) q) := by
  refine am_C2_i (ls := [some (aI (zI a)), some (aI (zI b))]) rfl ?_
  refine ar_iload_n rfl rfl ?_
  refine ar_iload_n rfl rfl ?_
  refine ar_icmp_lt rfl rfl (by omega) (by omega) (fun h2 => ?_) (fun h2 => ?_)
  · refine ar_iload_n rfl rfl ?_
    exact ar_iret rfl (Or.inl rfl) (cq_eP (by first | rfl | omega))
  · refine ar_iload_n rfl rfl ?_
    refine ar_goto rfl rfl ?_
    exact ar_iret rfl (Or.inl rfl) (cq_eP (by first | rfl | omega))
theorem cs_fdiv {d : Nat} {q : am_A} {a : Int} (ha : -1000000 ≤ a ∧ a ≤ 1000000) : am_C2 d m_Ma_floorDiv [aI (zI a), aI (zI 24)] q (am_is2 (aI (zI (a / 24))) q) := by
  refine am_C2_i (ls := [some (aI (zI a)), some (aI (zI 24)), none]) rfl ?_
  refine ar_iload_n rfl rfl ?_
  refine ar_iload_n rfl rfl ?_
  refine ar_idivt rfl (by omega) (by omega) ?_
  have ht := tdiv_24 a
  refine ar_stI2 rfl ?_
  refine ar_iload_n rfl rfl ?_
  refine ar_iload_n rfl rfl ?_
  refine ar_ixor rfl ?_
  have hx := zI_xneg (a := a) (b := 24) (by omega) (by omega)
  rw [show zI a ^^^ zI 24 = zI (zI a ^^^ zI 24).toInt from (Int32.ofInt_toInt _).symm]
  have hxi := in32_t (zI a ^^^ zI 24)
  refine ar_if_ge rfl rfl (by omega) (fun h7 => ?_) (fun h7 => ?_)
  · refine ar_iload_n rfl rfl ?_
    exact ar_iret rfl (Or.inl rfl) (cq_eP (by split at ht <;> omega))
  · refine ar_iload_n rfl rfl ?_
    refine ar_iload_n rfl rfl ?_
    refine ar_imul rfl ?_
    refine ar_iload_n rfl rfl ?_
    refine ar_icmp_eq rfl rfl (by omega) (by omega) (fun h14 => ?_) (fun h14 => ?_)
    · refine ar_iload_n rfl rfl ?_
      exact ar_iret rfl (Or.inl rfl) (cq_eP (by split at ht <;> omega))
    · refine ar_iload_n rfl rfl ?_
      refine ar_iconst rfl ?_
      refine ar_isub rfl ?_
      exact ar_iret rfl (Or.inl rfl) (cq_eP (by split at ht <;> omega))
theorem cs_needIndex {d : Nat} {q : am_A} {v n : Int} (hv : in32 v) (hn : in32 n) : am_C2 d m_X_needIndex [aI (zI v), aI (zI n)] q (am_T2 (0 ≤ v ∧ v < n) 13 none q) := by
  refine am_C2_i (ls := [some (aI (zI v)), some (aI (zI n))]) rfl ?_
  refine ar_iload_n rfl rfl ?_
  refine ar_if_lt rfl rfl (by omega) (fun h1 => ?_) (fun h1 => ?_)
  · exact ar_throw rfl rfl rfl rfl rfl rfl rfl (Nat.le_of_ble_eq_true rfl) (by intro z; cases z) (by omega) (⟨fun z => absurd z (by omega), fun _ => ⟨rfl, rfl⟩⟩)
  · refine ar_iload_n rfl rfl ?_
    refine ar_iload_n rfl rfl ?_
    refine ar_icmp_lt rfl rfl (by omega) (by omega) (fun h6 => ?_) (fun h6 => ?_)
    · exact ar_ret rfl rfl (⟨fun _ => ⟨rfl, rfl⟩, fun z => absurd (by omega) z⟩)
    · exact ar_throw rfl rfl rfl rfl rfl rfl rfl (Nat.le_of_ble_eq_true rfl) (by intro z; cases z) (by omega) (⟨fun z => absurd z (by omega), fun _ => ⟨rfl, rfl⟩⟩)

end

noncomputable section
theorem fp_fin (s : Bool) (c : Nat) (q : Int) (hc : c < 16777216) (hq : q ≤ 104) : FP.Core.encode FP.Core.b32 (.fin s c q) % 2147483648 ≤ 2139095040 ∧ FP.Core.encode FP.Core.b32 (.fin s c q) < 4294967296 := by
  have e1 : FP.Core.b32.tails = 8388608 := by decide
  have e2 : FP.Core.b32.exps = 256 := by decide
  have e3 : FP.Core.b32.qmin = -149 := by decide
  show (if c < FP.Core.b32.tails then FP.Core.assemble FP.Core.b32 s 0 c else FP.Core.assemble FP.Core.b32 s ((q - FP.Core.b32.qmin).toNat + 1) (c - FP.Core.b32.tails)) % 2147483648 ≤ 2139095040 ∧ (if c < FP.Core.b32.tails then FP.Core.assemble FP.Core.b32 s 0 c else FP.Core.assemble FP.Core.b32 s ((q - FP.Core.b32.qmin).toNat + 1) (c - FP.Core.b32.tails)) < 4294967296
  unfold FP.Core.assemble
  rw [e1, e2, e3]
  have hs : s.toNat ≤ 1 := by cases s <;> decide
  split
  · omega
  · omega
theorem fp_inf (s : Bool) : FP.Core.encode FP.Core.b32 (.inf s) % 2147483648 ≤ 2139095040 ∧ FP.Core.encode FP.Core.b32 (.inf s) < 4294967296 := by
  cases s <;> decide
theorem fp_rr (s : Bool) (n d : Nat) (e : Int) : FP.Core.encode FP.Core.b32 (FP.Core.roundRatio FP.Core.b32 s n d e) % 2147483648 ≤ 2139095040 ∧ FP.Core.encode FP.Core.b32 (FP.Core.roundRatio FP.Core.b32 s n d e) < 4294967296 := by
  have e1 : FP.Core.b32.tails = 8388608 := by decide
  have e4 : FP.Core.b32.qmax = 104 := by decide
  have e3 : FP.Core.b32.qmin = -149 := by decide
  have e5 : 2 ^ FP.Core.b32.p = 16777216 := by decide
  have hb : ∀ (c : Nat) (q : Int), c < 16777216 → FP.Core.encode FP.Core.b32 (FP.Core.bound FP.Core.b32 s c q) % 2147483648 ≤ 2139095040 ∧ FP.Core.encode FP.Core.b32 (FP.Core.bound FP.Core.b32 s c q) < 4294967296 := fun c q hc => by
    unfold FP.Core.bound
    split
    · rename_i h
      exact fp_fin s c q hc (by rw [e4] at h; exact h)
    · exact fp_inf s
  unfold FP.Core.roundRatio
  split
  · exact fp_fin s 0 _ (by omega) (by rw [e3]; omega)
  · unfold FP.Core.roundAt FP.Core.settle
    split
    · rename_i h
      exact hb _ _ (by rw [e5] at h; exact h)
    · exact hb _ _ (by rw [e1]; omega)
theorem fp_dec {n : Nat} (h : n % 2147483648 ≤ 2139095040) : FP.Core.decode FP.Core.b32 n ≠ .nan := by
  have e1 : FP.Core.b32.tails = 8388608 := by decide
  have e2 : FP.Core.b32.exps = 256 := by decide
  unfold FP.Core.decode FP.Core.fieldE FP.Core.fieldT
  rw [e1, e2]
  split
  · split
    · exact fun z => FP.Core.Datum.noConfusion z
    · omega
  · split
    · exact fun z => FP.Core.Datum.noConfusion z
    · exact fun z => FP.Core.Datum.noConfusion z
theorem fp_i2f (a : Int32) : FP.Core.decode FP.Core.b32 (FP.i2f a).toNat ≠ .nan := by
  have h := fp_rr (decide (a.toInt < 0)) a.toInt.natAbs 1 0
  refine fp_dec ?_
  show (UInt32.ofNat (FP.Core.encode FP.Core.b32 (FP.Core.roundRatio FP.Core.b32 (decide (a.toInt < 0)) a.toInt.natAbs 1 0))).toNat % 2147483648 ≤ 2139095040
  rw [UInt32.toNat_ofNat_of_lt' (by exact h.2)]
  exact h.1
def fpC (k : Nat) : Bool := match FP.Core.decode FP.Core.b32 (FP.i2f (zI ((k : Int) + 1))).toNat with
  | .fin _ c _ => !(Nat.beq c 0)
  | _ => false
theorem fpC_all : ∀ k : Fin 60, fpC k.1 = true := by decide +kernel
theorem fp_div {a : Int32} {b : Int} (hb : 1 ≤ b ∧ b ≤ 60) : FP.fdiv (FP.i2f a) (FP.i2f (zI b)) &&& 0x7fffffff ≤ 0x7f800000 := by
  have hc := fpC_all ⟨(b - 1).toNat, by omega⟩
  have eb : (((b - 1).toNat : Nat) : Int) + 1 = b := by omega
  unfold fpC at hc
  dsimp only at hc
  rw [eb] at hc
  have ha := fp_i2f a
  have hq : ∃ m : Nat, FP.fdiv (FP.i2f a) (FP.i2f (zI b)) = UInt32.ofNat m ∧ m % 2147483648 ≤ 2139095040 ∧ m < 4294967296 := by
    refine ⟨FP.Core.encode FP.Core.b32 (FP.Core.quotient FP.Core.b32 (FP.Core.decode FP.Core.b32 (FP.i2f a).toNat) (FP.Core.decode FP.Core.b32 (FP.i2f (zI b)).toNat)), rfl, ?_⟩
    generalize FP.Core.decode FP.Core.b32 (FP.i2f a).toNat = x at ha ⊢
    generalize FP.Core.decode FP.Core.b32 (FP.i2f (zI b)).toNat = y at hc ⊢
    cases y with
    | nan => exact Bool.noConfusion hc
    | inf s => exact Bool.noConfusion hc
    | fin s c q =>
      have hc0 : c ≠ 0 := fun z => by
        subst z
        exact Bool.noConfusion hc
      cases x with
      | nan => exact absurd rfl ha
      | inf s' => exact fp_inf _
      | fin s' c' q' =>
        show FP.Core.encode FP.Core.b32 (if c = 0 then (if c' = 0 then .nan else .inf (s' != s)) else FP.Core.roundRatio FP.Core.b32 (s' != s) c' c (q' - q)) % 2147483648 ≤ 2139095040 ∧ FP.Core.encode FP.Core.b32 (if c = 0 then (if c' = 0 then .nan else .inf (s' != s)) else FP.Core.roundRatio FP.Core.b32 (s' != s) c' c (q' - q)) < 4294967296
        rw [if_neg hc0]
        exact fp_rr _ _ _ _
  obtain ⟨m, e, h1, h2⟩ := hq
  rw [e, UInt32.le_iff_toNat_le, UInt32.toNat_and, UInt32.toNat_ofNat_of_lt' (by exact h2), show (0x7fffffff : UInt32).toNat = 2 ^ 31 - 1 from rfl, Nat.and_two_pow_sub_one_eq_mod]
  exact h1
end

noncomputable section
theorem sumI_h {f g : Int → Int} {a c : Int} : ∀ n : Nat, (∀ k : Nat, k < n → f (a + k) = g (c + k)) → sumI a n f = sumI c n g
  | 0, _ => rfl
  | n + 1, h => by
    rw [sumI_s, sumI_s, sumI_h n (fun k hk => h k (by omega)), h n (by omega)]
section PRT
variable {s : am_Z} {b n : Int}
theorem prt_k (hk : kPart s b n = 0) : (0 ≤ b ∧ b < rI s 44) ∧ (1 ≤ n ∧ n ≤ rA s 45 b - 1) ∧ rI s 44 ≠ 40 := by
  unfold kPart at hk
  split at hk
  · omega
  · split at hk
    · omega
    · split at hk
      · omega
      · rename_i h1 h2 h3
        exact ⟨Decidable.not_not.mp h1, Decidable.not_not.mp h2, fun z => h3 (Or.inr z)⟩
theorem prt_o (hk : kPart s b n = 0) {j : Nat} {x : Int} (h : j ≠ 45) : rA (prtS s b n) j x = rA (partP s b n) j x := by
  rw [prt_A (prt_k hk).1.2, wA_A, if_neg (fun z => h z.1)]
theorem prt_src (hk : kPart s b n = 0) (c : Nat) (hc : (c : Int) < rI s 44 + 1) : ∃ a : Nat, (a : Int) < rI s 44 ∧ (∀ j, 46 ≤ j ∧ j ≤ 52 → rA (prtS s b n) j c = rA s j a) ∧ (∀ (j : Nat) (k : Int), 53 ≤ j ∧ j ≤ 58 → 0 ≤ k ∧ k < 10 → rA (prtS s b n) j (10 * c + k) = rA s j (10 * a + k)) ∧ (∀ (j : Nat) (k : Int), 59 ≤ j ∧ j ≤ 60 → 0 ≤ k ∧ k < 4 → rA (prtS s b n) j (4 * c + k) = rA s j (4 * a + k)) := by
  have hb := (prt_k hk).1
  by_cases e : (c : Int) = rI s 44
  · refine ⟨b.toNat, by omega, fun j h => ?_, fun j k h h2 => ?_, fun j k h h2 => ?_⟩
    · rw [prt_o hk (by omega), e, paP_b h, show ((b.toNat : Nat) : Int) = b by omega]
    · rw [prt_o hk (by omega), e, paP_c h h2, show ((b.toNat : Nat) : Int) = b by omega]
    · rw [prt_o hk (by omega), e, paP_d h h2, show ((b.toNat : Nat) : Int) = b by omega]
  · refine ⟨c, by omega, fun j h => ?_, fun j k h h2 => ?_, fun j k h h2 => ?_⟩
    · rw [prt_o hk (by omega), paP_o (by omega) (by omega) (by omega)]
    · rw [prt_o hk (by omega), paP_o (by omega) (by omega) (by omega)]
    · rw [prt_o hk (by omega), paP_o (by omega) (by omega) (by omega)]
theorem prt_lo (hk : kPart s b n = 0) {j : Nat} {x : Int} (h : j < 45 ∨ 60 < j) : rA (prtS s b n) j x = rA s j x := by
  rw [prt_o hk (by omega), paP_o (by omega) (by omega) (by omega)]
theorem IB_part (I : am_IB s) (h52 : h52P s) (hk : kPart s b n = 0) : am_IB (prtS s b n) := by
  obtain ⟨V4, HO, UQ, CK, PE, PT, PD, SX⟩ := I
  have pk := prt_k hk
  have n44 : rI (prtS s b n) 44 = rI s 44 + 1 := (prt_I (j := 0) (by omega)).2
  refine ⟨fun i hi => ?_, fun c k hc h0 hk2 => ?_, fun c hc0 hc => ?_, fun c k hc hk2 hh => ?_, fun c hc => ?_, ?_, fun c hc h0 => ?_, fun c hc t t0 t4 hk2 => ?_⟩
  · rw [n44] at hi
    rw [prt_o hk (by omega), prt_o hk (by omega), paP_o (by omega) (by omega) (by omega), paP_o (by omega) (by omega) (by omega)]
    exact V4 i (by omega)
  · rw [n44] at hc
    obtain ⟨a, a1, a2, a3, a4⟩ := prt_src hk c hc
    have y := h52 a
    rw [a2 47 (by omega)] at h0
    rw [a2 52 (by omega)] at hk2
    rw [a3 55 k (by omega) (by omega)]
    exact HO a k a1 h0 hk2
  · rw [n44] at hc
    obtain ⟨a, a1, a2, a3, a4⟩ := prt_src hk c.toNat (by omega)
    have ec : ((c.toNat : Nat) : Int) = c := by omega
    rw [ec] at a2 a3
    have y := h52 a
    intro i j h1 h2 h3 h4 h5
    rw [a2 52 (by omega)] at h3
    rw [a3 55 i (by omega) (by omega)] at h4
    rw [a3 55 j (by omega) (by omega)] at h5
    rw [a3 53 i (by omega) (by omega), a3 53 j (by omega) (by omega)]
    exact UQ a (by omega) a1 i j h1 h2 h3 h4 h5
  · rw [n44] at hc
    obtain ⟨a, a1, a2, a3, a4⟩ := prt_src hk c hc
    have y := h52 a
    rw [a2 52 (by omega)] at hk2
    rw [a3 55 k (by omega) (by omega)] at hh
    rw [a2 47 (by omega)]
    exact CK a k a1 hk2 hh
  · rw [n44] at hc
    rw [prt_A pk.1.2, wA_A]
    split
    · omega
    · by_cases e : (c : Int) = rI s 44
      · rw [e, paP_45]
        omega
      · rw [paP_o (by omega) (by omega) (by omega)]
        exact PE c (by omega)
  · have hn : nF s ≤ nF (prtS s b n) := by
      have e0 : ∀ c : Int, 0 ≤ c → c < rI s 44 → nFb (prtS s b n) c = nFb s c := fun c h1 h2 => by
        have y := h52 c
        have z : ∀ j, j = 52 → rA (prtS s b n) j c = rA s j c := fun j hj => by
          rw [prt_o hk (by omega), paP_o (by omega) (by omega) (by omega)]
        unfold nFb
        rw [z 52 rfl]
        refine sumI_c (fun x x1 x2 => ?_)
        unfold nF1
        rw [prt_o hk (by omega), paP_o (by omega) (by omega) (by omega)]
      unfold nF
      rw [n44, show (rI s 44 + 1).toNat = (rI s 44).toNat + 1 by omega, sumI_s]
      rw [show sumI 0 (rI s 44).toNat (nFb (prtS s b n)) = sumI 0 (rI s 44).toNat (nFb s) from sumI_c (fun x x1 x2 => e0 x x1 (by omega))]
      have : 0 ≤ nFb (prtS s b n) (0 + ((rI s 44).toNat : Int)) := by
        unfold nFb
        exact (sumI_b (M := 1) (fun i => nF1_b _ i)).1
      omega
    intro i i1 i2
    have y := PT i i1 i2
    rw [prt_lo hk (by omega)]
    omega
  · rw [n44] at hc
    obtain ⟨a, a1, a2, a3, a4⟩ := prt_src hk c hc
    have y := h52 a
    rw [a2 47 (by omega)] at h0
    rw [a2 49 (by omega), PD a a1 h0]
    unfold pfoS
    rw [a2 52 (by omega), sumI_h 4 (fun k hk2 => (a4 59 k (by omega) (by omega)).symm), sumI_h (rA s 52 a).toNat (fun k hk2 => (a3 58 k (by omega) (by omega)).symm)]
  · rw [n44] at hc
    obtain ⟨a, a1, a2, a3, a4⟩ := prt_src hk c hc
    have y := h52 a
    rw [a4 60 t (by omega) (by omega)]
    refine SX a a1 t t0 t4 (fun k hk3 => ?_)
    have z := hk2 k (by rw [a2 52 (by omega)]; exact hk3)
    rw [a3 56 k (by omega) (by omega)] at z
    exact z
theorem INV_part (I : am_INV s) (B : in_S s) (hk : kPart s b n = 0) : am_INV (prtS s b n) ∧ rI (prtS s b n) 0 = rI s 0 := by
  have m := fun (j : Nat) (x : Int) (h : j < 45 ∨ 60 < j) => prt_lo (x := x) hk h
  have u := fun (j : Nat) (h : j ≠ 44 ∧ j ≠ 74) => (prt_I (s := s) (b := b) (n := n) h).1
  exact ⟨⟨IN_cg I.1 (fun j x h => m j x (by omega)) (u 3 (by omega)) (u 20 (by omega)), IB_part I.2.1 (fun x => B.1 52 x 0 10 rfl) hk, WO_cg I.2.2 (fun j x h => m j x (by omega)) (u 61 (by omega)) (u 33 (by omega))⟩, u 0 (by omega)⟩
end PRT
end


noncomputable section
/-- flights take time and have seats -/
def am_FL (s : am_Z) : Prop := ∀ f : Int, 0 ≤ f → f < rI s 3 → 1 ≤ rA s 8 f ∧ 1 ≤ rA s 9 f
/-- what a held booking costs -/
def am_PD (s : am_Z) : Prop := ∀ b : Nat, (b : Int) < rI s 44 → rA s 47 b = 0 → rA s 49 b = pfoS s b
/-- where there is no coupon, there is nothing to give back -/
def am_SX (s : am_Z) : Prop := ∀ b : Nat, (b : Int) < rI s 44 → ∀ t : Int, 0 ≤ t → t < 4 → (∀ k : Nat, (k : Int) < rA s 52 b → rA s 56 (10 * b + k) ≠ t) → rA s 60 (4 * b + t) = 0
def am_IN (s : am_Z) : Prop := am_FL s ∧ (∀ i, rI s 3 ≤ i → i < 12 → rA s 10 i = 0 ∧ rA s 15 i = -1 ∧ rA s 16 i = 0) ∧ (∀ f t, 0 ≤ f → f < 12 → 0 ≤ t → t < 61 → ¬ thereP s f t → rA s 17 (61 * f + t) = 0 ∧ rA s 18 (61 * f + t) = 0) ∧ (∀ i, rI s 20 ≤ i → rA s 28 i = 0 ∧ rA s 29 i = 0 ∧ rA s 30 i = 0 ∧ rA s 31 i = 0)
def am_IB (s : am_Z) : Prop := am_V4 s ∧ am_HOs s ∧ am_UQ s ∧ am_CK s ∧ am_PE s ∧ am_PT s ∧ am_PD s ∧ am_SX s
/-- the legs of the draft, and those of a wish, are not the same -/
def am_DD (s : am_Z) : Prop := ∀ i j : Int, 0 ≤ i → i < j → j < rI s 33 → rA s 34 i ≠ rA s 34 j
def am_WD (s : am_Z) : Prop := ∀ w : Nat, (w : Int) < rI s 61 → ∀ i j : Int, 0 ≤ i → i < j → j < rA s 64 w → rA s 65 (4 * w + i) ≠ rA s 65 (4 * w + j)
def am_IW (s : am_Z) : Prop := am_WO s ∧ am_DD s ∧ am_WD s
def am_INV (s : am_Z) : Prop := am_IN s ∧ am_IB s ∧ am_IW s
section INV
variable {s s' : am_Z}
theorem INV_VG (I : am_INV s) : am_VG s := ⟨I.1.2.1, I.1.2.2.1, I.1.2.2.2, I.2.1.1⟩
theorem IN_cg (I : am_IN s) (m : ∀ j x, ((8 ≤ j ∧ j ≤ 13) ∨ (15 ≤ j ∧ j ≤ 18) ∨ (28 ≤ j ∧ j ≤ 31)) → rA s' j x = rA s j x) (n3 : rI s' 3 = rI s 3) (n20 : rI s' 20 = rI s 20) : am_IN s' := by
  obtain ⟨a, b, c, d⟩ := I
  refine ⟨fun f h1 h2 => ?_, fun i h1 h2 => ?_, fun f t h1 h2 h3 h4 h5 => ?_, fun i h1 => ?_⟩
  · rw [m 8 _ (by omega), m 9 _ (by omega)]
    exact a f h1 (by omega)
  · rw [m 10 _ (by omega), m 15 _ (by omega), m 16 _ (by omega)]
    exact b i (by omega) h2
  · rw [m 17 _ (by omega), m 18 _ (by omega)]
    refine c f t h1 h2 h3 h4 (fun z => h5 ?_)
    unfold thereP at z ⊢
    rw [m 10 _ (by omega), m 11 _ (by omega), m 12 _ (by omega), m 13 _ (by omega)]
    exact z
  · rw [m 28 _ (by omega), m 29 _ (by omega), m 30 _ (by omega), m 31 _ (by omega)]
    exact d i (by omega)
theorem pfo_cg {b : Int} (m : ∀ j x, j = 58 ∨ j = 59 → rA s' j x = rA s j x) (h52 : rA s' 52 b = rA s 52 b) : pfoS s' b = pfoS s b := by
  unfold pfoS
  rw [h52, show rA s' 59 = rA s 59 from funext (fun x => m 59 x (by omega)), show rA s' 58 = rA s 58 from funext (fun x => m 58 x (by omega))]
theorem IB_cg (I : am_IB s) (m : ∀ j x, ((45 ≤ j ∧ j ≤ 60 ∧ j ≠ 51) ∨ j = 69) → rA s' j x = rA s j x) (n44 : rI s' 44 = rI s 44) : am_IB s' := by
  obtain ⟨a, b, c, d, e, f, g, h⟩ := I
  refine ⟨fun i hi => ?_, HOs_s b (fun j x hj => m j x (by omega)) n44, UQ_cg n44 (fun x => m 52 x (by omega)) (fun x => m 53 x (by omega)) (fun x hx => by rw [m 55 x (by omega)] at hx; exact hx) c, fun b k hb hk hh => ?_, PE_s e (fun x => m 45 x (by omega)) n44, PT_s f (fun x => m 69 x (by omega)) (fun x => m 52 x (by omega)) (fun x hx => (m 55 x (by omega)).trans hx) n44, fun b hb h0 => ?_, fun b hb t t0 t4 hk => ?_⟩
  · rw [m 59 _ (by omega), m 60 _ (by omega)]
    exact a i (by omega)
  · rw [m 52 _ (by omega)] at hk
    rw [m 55 _ (by omega)] at hh
    rw [m 47 _ (by omega)]
    exact d b k (by omega) hk hh
  · rw [m 47 _ (by omega)] at h0
    rw [m 49 _ (by omega), pfo_cg (fun j x hj => m j x (by omega)) (m 52 _ (by omega))]
    exact g b (by omega) h0
  · rw [m 60 _ (by omega)]
    refine h b (by omega) t t0 t4 (fun k hk2 => ?_)
    have z := hk k (by rw [m 52 _ (by omega)]; exact hk2)
    rw [m 56 _ (by omega)] at z
    exact z
theorem WO_cg (I : am_IW s) (m : ∀ j x, (j = 34 ∨ j = 62 ∨ j = 64 ∨ j = 65) → rA s' j x = rA s j x) (n61 : rI s' 61 = rI s 61) (n33 : rI s' 33 = rI s 33) : am_IW s' := by
  refine ⟨fun w hw => ?_, fun i j h1 h2 h3 => ?_, fun w hw i j h1 h2 h3 => ?_⟩
  · rw [m 64 _ (by omega), m 62 _ (by omega)]
    exact I.1 w (by omega)
  · rw [m 34 _ (by omega), m 34 _ (by omega)]
    exact I.2.1 i j h1 h2 (by omega)
  · rw [m 64 _ (by omega)] at h3
    rw [m 65 _ (by omega), m 65 _ (by omega)]
    exact I.2.2 w (by omega) i j h1 h2 h3
abbrev ivA (j : Nat) : Prop := (8 ≤ j ∧ j ≤ 13) ∨ (15 ≤ j ∧ j ≤ 18) ∨ (28 ≤ j ∧ j ≤ 31) ∨ (45 ≤ j ∧ j ≤ 60 ∧ j ≠ 51) ∨ j = 34 ∨ j = 62 ∨ j = 64 ∨ j = 65 ∨ j = 69
abbrev ivI (j : Nat) : Prop := j = 3 ∨ j = 20 ∨ j = 33 ∨ j = 44 ∨ j = 61
theorem INV_cg (I : am_INV s) (m : ∀ j x, ivA j → rA s' j x = rA s j x) (n : ∀ j, ivI j → rI s' j = rI s j) : am_INV s' := ⟨IN_cg I.1 (fun j x h => m j x (by omega)) (n 3 (by omega)) (n 20 (by omega)), IB_cg I.2.1 (fun j x h => m j x (by omega)) (n 44 (by omega)), WO_cg I.2.2 (fun j x h => m j x (by omega)) (n 61 (by omega)) (n 33 (by omega))⟩
theorem INV_I {j : Nat} {v : Int} (I : am_INV s) (h : ¬ ivI j) : am_INV (wI s j v) := INV_cg I (fun _ _ _ => rfl) (fun i hi => if_neg (fun z => h (by rw [← z]; exact hi)))
theorem INV_A {j : Nat} {i v : Int} (I : am_INV s) (h : ¬ ivA j) : am_INV (wA s j i v) := INV_cg I (fun j' x hj => if_neg (fun z => h (by rw [← z.1]; exact hj))) (fun _ _ => rfl)
theorem INV_BR (I : am_INV s) (R : am_BR s s') : am_INV s' := INV_cg I (fun j x h => R.1 j x (scr_o (by omega))) (fun j h => R.2 j (by omega) (by omega))
theorem INV_J (I : am_INV s) : am_INV (jrn s) := INV_cg I (fun j x h => jr_A (by omega)) (fun j h => jr_I (by omega))
theorem INV_link {f g n : Int} (I : am_INV s) (hf : f < rI s 3) : am_INV (wA (wA s 15 f g) 16 f n) := by
  refine ⟨⟨I.1.1, fun i h1 h2 => ?_, fun f t h1 h2 h3 h4 h5 => ?_, fun i h => ?_⟩, IB_cg I.2.1 (fun j x h => ?_) rfl, WO_cg I.2.2 (fun j x h => ?_) rfl rfl⟩
  · have h1' : rI s 3 ≤ i := h1
    have z := I.1.2.1 i h1' h2
    simp only [wA_A]
    rw [if_neg (by omega), if_neg (by omega), if_neg (by omega), if_neg (by omega), if_neg (by omega), if_neg (by omega)]
    exact z
  · have z := I.1.2.2.1 f t h1 h2 h3 h4 h5
    exact z
  · exact I.1.2.2.2 i h
  · simp only [wA_A]
    rw [if_neg (by omega), if_neg (by omega)]
  · simp only [wA_A]
    rw [if_neg (by omega), if_neg (by omega)]
theorem INV_rules {f a b ad h st w : Int} (I : am_INV s) (hf : f < rI s 20) : am_INV (wA (wA (wA (wA (wA (wA s 26 f a) 27 f b) 28 f ad) 29 f h) 30 f st) 31 f w) := by
  refine ⟨⟨I.1.1, I.1.2.1, I.1.2.2.1, fun i h1 => ?_⟩, IB_cg I.2.1 (fun j x h => ?_) rfl, WO_cg I.2.2 (fun j x h => ?_) rfl rfl⟩
  · have h1' : rI s 20 ≤ i := h1
    have z := I.1.2.2.2 i h1'
    simp only [wA_A]
    rw [if_neg (by omega), if_neg (by omega), if_neg (by omega), if_neg (by omega), if_neg (by omega), if_neg (by omega), if_neg (by omega), if_neg (by omega), if_neg (by omega), if_neg (by omega), if_neg (by omega), if_neg (by omega), if_neg (by omega), if_neg (by omega), if_neg (by omega), if_neg (by omega), if_neg (by omega), if_neg (by omega), if_neg (by omega), if_neg (by omega), if_neg (by omega), if_neg (by omega), if_neg (by omega), if_neg (by omega)]
    exact z
  · simp only [wA_A]
    rw [if_neg (by omega), if_neg (by omega), if_neg (by omega), if_neg (by omega), if_neg (by omega), if_neg (by omega)]
  · simp only [wA_A]
    rw [if_neg (by omega), if_neg (by omega), if_neg (by omega), if_neg (by omega), if_neg (by omega), if_neg (by omega)]
theorem INV_flight {c a b t w n : Int} (I : am_INV s) (hw : 1 ≤ w) (hn : 1 ≤ n) : am_INV (wI (wB (wA (wA (wA (wA (wA (wA s 4 (rI s 3) c) 5 (rI s 3) a) 6 (rI s 3) b) 7 (rI s 3) t) 8 (rI s 3) w) 9 (rI s 3) n) 14 (4 * rI s 3) 4 (fun _ => n)) 3 (rI s 3 + 1)) := by
  have m : ∀ j x, (j < 4 ∨ 9 < j) → j ≠ 14 → rA (wI (wB (wA (wA (wA (wA (wA (wA s 4 (rI s 3) c) 5 (rI s 3) a) 6 (rI s 3) b) 7 (rI s 3) t) 8 (rI s 3) w) 9 (rI s 3) n) 14 (4 * rI s 3) 4 (fun _ => n)) 3 (rI s 3 + 1)) j x = rA s j x := fun j x h h2 => by
    simp only [wI_A, wB_A, wA_A]
    rw [if_neg (by omega), if_neg (by omega), if_neg (by omega), if_neg (by omega), if_neg (by omega), if_neg (by omega), if_neg (by omega)]
  refine ⟨⟨fun f h1 h2 => ?_, fun i h1 h2 => ?_, fun f t h1 h2 h3 h4 h5 => ?_, fun i h1 => ?_⟩, IB_cg I.2.1 (fun j x h => m j x (by omega) (by omega)) rfl, WO_cg I.2.2 (fun j x h => m j x (by omega) (by omega)) rfl rfl⟩
  · have h2' : f < rI s 3 + 1 := h2
    simp only [wI_A, wB_A, wA_A]
    rw [if_neg (by omega), if_neg (by omega)]
    by_cases e : f = rI s 3
    · rw [e]
      simp
      omega
    · have z := I.1.1 f h1 (by omega)
      simp [e]
      exact z
  · have h1' : rI s 3 + 1 ≤ i := h1
    rw [m 10 _ (by omega) (by omega), m 15 _ (by omega) (by omega), m 16 _ (by omega) (by omega)]
    exact I.1.2.1 i (by omega) h2
  · rw [m 17 _ (by omega) (by omega), m 18 _ (by omega) (by omega)]
    refine I.1.2.2.1 f t h1 h2 h3 h4 (fun z => h5 ?_)
    unfold thereP at z ⊢
    rw [m 10 _ (by omega) (by omega), m 11 _ (by omega) (by omega), m 12 _ (by omega) (by omega), m 13 _ (by omega) (by omega)]
    exact z
  · rw [m 28 _ (by omega) (by omega), m 29 _ (by omega) (by omega), m 30 _ (by omega) (by omega), m 31 _ (by omega) (by omega)]
    exact I.1.2.2.2 i h1
theorem INV_days {f a b n : Int} (I : am_INV s) (hf : f < rI s 3) (h10 : rA s 10 f = 0) : am_INV (wA (wA (wA (wA s 10 f 1) 11 f a) 12 f b) 13 f n) := by
  have m : ∀ j x, (j < 10 ∨ 13 < j ∨ x ≠ f) → rA (wA (wA (wA (wA s 10 f 1) 11 f a) 12 f b) 13 f n) j x = rA s j x := fun j x h => by
    simp only [wA_A]
    rw [if_neg (by omega), if_neg (by omega), if_neg (by omega), if_neg (by omega)]
  refine ⟨⟨fun g h1 h2 => ?_, fun i h1 h2 => ?_, fun g t h1 h2 h3 h4 h5 => ?_, fun i h1 => ?_⟩, IB_cg I.2.1 (fun j x h => m j x (by omega)) rfl, WO_cg I.2.2 (fun j x h => m j x (by omega)) rfl rfl⟩
  · rw [m 8 _ (by omega), m 9 _ (by omega)]
    exact I.1.1 g h1 h2
  · have h1' : rI s 3 ≤ i := h1
    rw [m 10 _ (by omega), m 15 _ (by omega), m 16 _ (by omega)]
    exact I.1.2.1 i h1' h2
  · rw [m 17 _ (by omega), m 18 _ (by omega)]
    by_cases e : g = f
    · rw [e] at h1 h2 ⊢
      exact I.1.2.2.1 f t h1 h2 h3 h4 (fun z => z.1 h10)
    · refine I.1.2.2.1 g t h1 h2 h3 h4 (fun z => h5 ?_)
      unfold thereP at z ⊢
      rw [m 10 _ (by omega), m 11 _ (by omega), m 12 _ (by omega), m 13 _ (by omega)]
      exact z
  · rw [m 28 _ (by omega), m 29 _ (by omega), m 30 _ (by omega), m 31 _ (by omega)]
    exact I.1.2.2.2 i h1
theorem INV_fare {c a b k v : Int} (I : am_INV s) : am_INV (wI (wA (wA (wA (wA (wA (wA (wA (wA s 21 (rI s 20) c) 22 (rI s 20) a) 23 (rI s 20) b) 24 (rI s 20) k) 25 (rI s 20) v) 26 (rI s 20) (-1)) 27 (rI s 20) 61) 32 (rI s 20) 50) 20 (rI s 20 + 1)) := by
  have m : ∀ j x, (j < 21 ∨ (27 < j ∧ j ≠ 32)) → rA (wI (wA (wA (wA (wA (wA (wA (wA (wA s 21 (rI s 20) c) 22 (rI s 20) a) 23 (rI s 20) b) 24 (rI s 20) k) 25 (rI s 20) v) 26 (rI s 20) (-1)) 27 (rI s 20) 61) 32 (rI s 20) 50) 20 (rI s 20 + 1)) j x = rA s j x := fun j x h => by
    simp only [wI_A, wA_A]
    rw [if_neg (by omega), if_neg (by omega), if_neg (by omega), if_neg (by omega), if_neg (by omega), if_neg (by omega), if_neg (by omega), if_neg (by omega)]
  refine ⟨⟨fun g h1 h2 => ?_, fun i h1 h2 => ?_, fun g t h1 h2 h3 h4 h5 => ?_, fun i h1 => ?_⟩, IB_cg I.2.1 (fun j x h => m j x (by omega)) rfl, WO_cg I.2.2 (fun j x h => m j x (by omega)) rfl rfl⟩
  · rw [m 8 _ (by omega), m 9 _ (by omega)]
    exact I.1.1 g h1 h2
  · rw [m 10 _ (by omega), m 15 _ (by omega), m 16 _ (by omega)]
    exact I.1.2.1 i h1 h2
  · rw [m 17 _ (by omega), m 18 _ (by omega)]
    refine I.1.2.2.1 g t h1 h2 h3 h4 (fun z => h5 ?_)
    unfold thereP at z ⊢
    rw [m 10 _ (by omega), m 11 _ (by omega), m 12 _ (by omega), m 13 _ (by omega)]
    exact z
  · have h1' : rI s 20 + 1 ≤ i := h1
    rw [m 28 _ (by omega), m 29 _ (by omega), m 30 _ (by omega), m 31 _ (by omega)]
    exact I.1.2.2.2 i (by omega)
theorem INV_wish {n m : Int} (I : am_INV s) (hn : 1 ≤ n) (h33 : 1 ≤ rI s 33) (h61 : 0 ≤ rI s 61) (h4 : ∀ w, 0 ≤ rA s 64 w ∧ rA s 64 w ≤ 4) : am_INV (wI (wI (wA (wB (wA (wA (wA s 62 (rI s 61) n) 63 (rI s 61) m) 64 (rI s 61) (rI s 33)) 65 (4 * rI s 61) (rI s 33).toNat (fun i => rA s 34 (i - 4 * rI s 61))) 66 (rI s 61) (-1)) 33 0) 61 (rI s 61 + 1)) := by
  have mm : ∀ j x, (j < 62 ∨ 66 < j ∨ (j ≠ 65 ∧ x ≠ rI s 61)) → rA (wI (wI (wA (wB (wA (wA (wA s 62 (rI s 61) n) 63 (rI s 61) m) 64 (rI s 61) (rI s 33)) 65 (4 * rI s 61) (rI s 33).toNat (fun i => rA s 34 (i - 4 * rI s 61))) 66 (rI s 61) (-1)) 33 0) 61 (rI s 61 + 1)) j x = rA s j x := fun j x h => by
    simp only [wI_A, wB_A, wA_A]
    rw [if_neg (by omega), if_neg (by omega), if_neg (by omega), if_neg (by omega), if_neg (by omega)]
  have e65 : ∀ x, rA (wI (wI (wA (wB (wA (wA (wA s 62 (rI s 61) n) 63 (rI s 61) m) 64 (rI s 61) (rI s 33)) 65 (4 * rI s 61) (rI s 33).toNat (fun i => rA s 34 (i - 4 * rI s 61))) 66 (rI s 61) (-1)) 33 0) 61 (rI s 61 + 1)) 65 x = if 4 * rI s 61 ≤ x ∧ x < 4 * rI s 61 + ((rI s 33).toNat : Int) then rA s 34 (x - 4 * rI s 61) else rA s 65 x := fun x => by
    simp only [wI_A, wB_A, wA_A]
    rw [if_neg (by omega)]
    by_cases h : 4 * rI s 61 ≤ x ∧ x < 4 * rI s 61 + ((rI s 33).toNat : Int)
    · rw [if_pos ⟨trivial, h⟩, if_pos h]
    · rw [if_neg (fun z => h z.2), if_neg h, if_neg (by omega), if_neg (by omega), if_neg (by omega)]
  have e64 : rA (wI (wI (wA (wB (wA (wA (wA s 62 (rI s 61) n) 63 (rI s 61) m) 64 (rI s 61) (rI s 33)) 65 (4 * rI s 61) (rI s 33).toNat (fun i => rA s 34 (i - 4 * rI s 61))) 66 (rI s 61) (-1)) 33 0) 61 (rI s 61 + 1)) 64 (rI s 61) = rI s 33 := by
    simp only [wI_A, wB_A, wA_A]
    simp
  have e62 : rA (wI (wI (wA (wB (wA (wA (wA s 62 (rI s 61) n) 63 (rI s 61) m) 64 (rI s 61) (rI s 33)) 65 (4 * rI s 61) (rI s 33).toNat (fun i => rA s 34 (i - 4 * rI s 61))) 66 (rI s 61) (-1)) 33 0) 61 (rI s 61 + 1)) 62 (rI s 61) = n := by
    simp only [wI_A, wB_A, wA_A]
    simp
  refine ⟨IN_cg I.1 (fun j x h => mm j x (by omega)) rfl rfl, IB_cg I.2.1 (fun j x h => mm j x (by omega)) rfl, fun w hw => ?_, fun i j h1 h2 h3 => ?_, fun w hw i j h1 h2 h3 => ?_⟩
  · have hw' : (w : Int) < rI s 61 + 1 := hw
    by_cases e : (w : Int) = rI s 61
    · rw [e, e64, e62]
      omega
    · rw [mm 64 _ (by omega), mm 62 _ (by omega)]
      exact I.2.2.1 w (by omega)
  · have h3' : j < 0 := h3
    omega
  · have hw' : (w : Int) < rI s 61 + 1 := hw
    by_cases e : (w : Int) = rI s 61
    · rw [e, e64] at h3
      rw [e, e65, e65, if_pos (by omega), if_pos (by omega), show 4 * rI s 61 + i - 4 * rI s 61 = i by omega, show 4 * rI s 61 + j - 4 * rI s 61 = j by omega]
      exact I.2.2.2.1 i j h1 h2 h3
    · rw [mm 64 _ (by omega)] at h3
      have b64 := h4 w
      rw [e65, e65, if_neg (by omega), if_neg (by omega)]
      exact I.2.2.2.2 w (by omega) i j h1 h2 h3
theorem INV_leg {l : Int} (I : am_INV s) (h33 : 0 ≤ rI s 33) (hd : ∀ i, 0 ≤ i → i < rI s 33 → rA s 34 i ≠ l) : am_INV (wI (wA s 34 (rI s 33) l) 33 (rI s 33 + 1)) := by
  have m : ∀ j x, j ≠ 34 → rA (wI (wA s 34 (rI s 33) l) 33 (rI s 33 + 1)) j x = rA s j x := fun j x h => by rw [wI_A, wA_A, if_neg (fun z => h z.1)]
  have e34 : ∀ x, rA (wI (wA s 34 (rI s 33) l) 33 (rI s 33 + 1)) 34 x = if x = rI s 33 then l else rA s 34 x := fun x => by
    rw [wI_A, wA_A]
    by_cases e : x = rI s 33
    · rw [if_pos ⟨rfl, e⟩, if_pos e]
    · rw [if_neg (fun z => e z.2), if_neg e]
  refine ⟨IN_cg I.1 (fun j x h => m j x (by omega)) rfl rfl, IB_cg I.2.1 (fun j x h => m j x (by omega)) rfl, fun w hw => ?_, fun i j h1 h2 h3 => ?_, fun w hw i j h1 h2 h3 => ?_⟩
  · rw [m 64 _ (by omega), m 62 _ (by omega)]
    exact I.2.2.1 w hw
  · have h3' : j < rI s 33 + 1 := h3
    rw [e34, e34, if_neg (by omega)]
    split
    · exact hd i h1 (by omega)
    · exact I.2.2.2.1 i j h1 h2 (by omega)
  · rw [m 64 _ (by omega)] at h3
    rw [m 65 _ (by omega), m 65 _ (by omega)]
    exact I.2.2.2.2 w hw i j h1 h2 h3
theorem INV_drop (I : am_INV s) : am_INV (wI s 33 0) := by
  refine ⟨IN_cg I.1 (fun _ _ _ => rfl) rfl rfl, IB_cg I.2.1 (fun _ _ _ => rfl) rfl, I.2.2.1, fun i j h1 h2 h3 => ?_, I.2.2.2.2⟩
  have h3' : j < 0 := h3
  omega
theorem INV_ticket {b : Int} (I : am_INV s) (h0 : rA s 47 b = 0) : am_INV (wA s 47 b 1) := by
  have m : ∀ j x, j ≠ 47 → rA (wA s 47 b 1) j x = rA s j x := fun j x h => if_neg (fun z => h z.1)
  have h47 : ∀ c, rA (wA s 47 b 1) 47 c = if c = b then 1 else rA s 47 c := fun c => by
    rw [wA_A]
    by_cases e : c = b
    · rw [if_pos ⟨rfl, e⟩, if_pos e]
    · rw [if_neg (fun z => e z.2), if_neg e]
  obtain ⟨a, hb, c, d, e, f, g, h⟩ := I.2.1
  refine ⟨IN_cg I.1 (fun j x h => m j x (by omega)) rfl rfl, ⟨a, fun c k h1 h2 h3 => ?_, c, fun c k h1 h2 h3 => ?_, e, f, fun c h1 h2 => ?_, h⟩, WO_cg I.2.2 (fun j x h => m j x (by omega)) rfl rfl⟩
  · rw [h47] at h2
    split at h2
    · omega
    · exact hb c k h1 h2 h3
  · rw [h47]
    split
    · rfl
    · exact d c k h1 h2 h3
  · rw [h47] at h2
    split at h2
    · omega
    · exact g c h1 h2
end INV
end


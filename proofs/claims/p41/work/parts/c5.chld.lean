noncomputable section
/-- a state behind the building of a price -/
theorem hold_s1 {s : am_Z} {n : Int} (B : in_S s) (hne : (bestW (jrn s) n).1 ≠ -1) : ∃ s1, am_BR (jrn s) s1 ∧ am_WQ s1 (bestW (jrn s) n) ∧ in_S s1 := by
  obtain ⟨W, hW⟩ : ∃ W, bestW (jrn s) n = W := ⟨_, rfl⟩
  have BJ := jrn_in B
  rw [hW] at hne ⊢
  obtain ⟨w1, w2, w3, w4, w5⟩ := price_W B hW hne
  have y4 := price_len B hW hne
  have b20 := B.2.1 20 0 16 rfl
  have bW : W.1 ≤ 20000 := by
    have z := sumI_b (a := 0) (n := W.2.length) (f := fun k => rA s 25 (pF W.2 k.toNat)) (M := 5000) (fun k => B.1 25 _ 0 5000 rfl)
    omega
  refine ⟨(fun j i => if j = 40 ∧ 0 ≤ i ∧ i < W.2.length then pF W.2 i.toNat else if j = 39 ∧ 0 ≤ i ∧ i < W.2.length then pC W.2 i.toNat else (jrn s).1 j i, fun j => if j = 37 then W.1 else if j = 38 then (W.2.length : Int) else (jrn s).2 j), ⟨fun j i h => ?_, fun j h1 h2 => ?_⟩, ⟨rfl, rfl, y4, fun i hi => ⟨?_, ?_⟩⟩, fun j i lo hi h => ?_, fun j lo hi h => ?_, fun j i h => ?_⟩
  · show (if j = 40 ∧ 0 ≤ i ∧ i < W.2.length then pF W.2 i.toNat else if j = 39 ∧ 0 ≤ i ∧ i < W.2.length then pC W.2 i.toNat else (jrn s).1 j i) = rA (jrn s) j i
    rw [if_neg (fun z => by rw [z.1] at h; cases h), if_neg (fun z => by rw [z.1] at h; cases h)]
    rfl
  · show (if j = 37 then W.1 else if j = 38 then (W.2.length : Int) else (jrn s).2 j) = rI (jrn s) j
    rw [if_neg h1, if_neg h2]
    rfl
  · show (if (40 : Nat) = 40 ∧ 0 ≤ (i : Int) ∧ (i : Int) < W.2.length then pF W.2 (i : Int).toNat else if (40 : Nat) = 39 ∧ 0 ≤ (i : Int) ∧ (i : Int) < W.2.length then pC W.2 (i : Int).toNat else (jrn s).1 40 i) = pF W.2 i
    rw [if_pos ⟨rfl, by omega, by omega⟩, Int.toNat_natCast]
  · show (if (39 : Nat) = 40 ∧ 0 ≤ (i : Int) ∧ (i : Int) < W.2.length then pF W.2 (i : Int).toNat else if (39 : Nat) = 39 ∧ 0 ≤ (i : Int) ∧ (i : Int) < W.2.length then pC W.2 (i : Int).toNat else (jrn s).1 39 i) = pC W.2 i
    rw [if_neg (fun z => absurd z.1 (by omega)), if_pos ⟨rfl, by omega, by omega⟩, Int.toNat_natCast]
  · show lo ≤ (if j = 40 ∧ 0 ≤ i ∧ i < W.2.length then pF W.2 i.toNat else if j = 39 ∧ 0 ≤ i ∧ i < W.2.length then pC W.2 i.toNat else (jrn s).1 j i) ∧ (if j = 40 ∧ 0 ≤ i ∧ i < W.2.length then pF W.2 i.toNat else if j = 39 ∧ 0 ≤ i ∧ i < W.2.length then pC W.2 i.toNat else (jrn s).1 j i) ≤ hi
    by_cases c1 : j = 40 ∧ 0 ≤ i ∧ i < W.2.length
    · rw [if_pos c1]
      rw [c1.1] at h
      cases h
      have := w5 i.toNat (by omega)
      omega
    · rw [if_neg c1]
      by_cases c2 : j = 39 ∧ 0 ≤ i ∧ i < W.2.length
      · rw [if_pos c2]
        rw [c2.1] at h
        cases h
        have := w5 i.toNat (by omega)
        omega
      · rw [if_neg c2]
        exact BJ.1 j i lo hi h
  · show lo ≤ (if j = 37 then W.1 else if j = 38 then (W.2.length : Int) else (jrn s).2 j) ∧ (if j = 37 then W.1 else if j = 38 then (W.2.length : Int) else (jrn s).2 j) ≤ hi
    by_cases c1 : j = 37
    · rw [if_pos c1]
      rw [c1] at h
      cases h
      omega
    · rw [if_neg c1]
      by_cases c2 : j = 38
      · rw [if_pos c2]
        rw [c2] at h
        cases h
        omega
      · rw [if_neg c2]
        exact BJ.2.1 j lo hi h
  · show (if j = 40 ∧ 0 ≤ i ∧ i < W.2.length then pF W.2 i.toNat else if j = 39 ∧ 0 ≤ i ∧ i < W.2.length then pC W.2 i.toNat else (jrn s).1 j i) % 100 ≤ 60
    rw [if_neg (fun z => by rw [z.1] at h; cases h), if_neg (fun z => by rw [z.1] at h; cases h)]
    exact BJ.2.2 j i h
/-- what hold makes -/
theorem hold_N {s s1 : am_Z} {n m h : Int} (J : am_JJ s) (B : in_S s) (R : am_BR (jrn s) s1) (Q : am_WQ s1 (bestW (jrn s) n)) (hne : (bestW (jrn s) n).1 ≠ -1) : (rI (bkT (wI (wI s1 74 0) 33 0) n m h) 44 = rI s 44 + 1 ∧ rI (bkT (wI (wI s1 74 0) 33 0) n m h) 33 = 0 ∧ ∀ j, (j = 0 ∨ j = 3 ∨ j = 20 ∨ j = 61 ∨ j = 68) → rI (bkT (wI (wI s1 74 0) 33 0) n m h) j = rI s j) ∧ (∀ j x, (j ≤ 14 ∨ j = 25 ∨ j = 63) → rA (bkT (wI (wI s1 74 0) 33 0) n m h) j x = rA s j x) ∧ (∀ b : Int, 0 ≤ b → b < rI s 44 → rA (bkT (wI (wI s1 74 0) 33 0) n m h) 46 b = rA s 46 b ∧ sumI (4 * b) 4 (rA (bkT (wI (wI s1 74 0) 33 0) n m h) 59) = sumI (4 * b) 4 (rA s 59)) ∧ (rA (bkT (wI (wI s1 74 0) 33 0) n m h) 45 (rI s 44) = n ∧ rA (bkT (wI (wI s1 74 0) 33 0) n m h) 46 (rI s 44) = m ∧ rA (bkT (wI (wI s1 74 0) 33 0) n m h) 47 (rI s 44) = 0 ∧ rA (bkT (wI (wI s1 74 0) 33 0) n m h) 52 (rI s 44) = rI s 33) ∧ sumI (4 * rI s 44) 4 (rA (bkT (wI (wI s1 74 0) 33 0) n m h) 59) = (bestW (jrn s) n).1 := by
  have BJ := jrn_in B
  have b44 := B.2.1 44 0 40 rfl
  have hok := bestW_ok BJ n hne
  have e35 : rI (jrn s) 35 = rI s 33 := rfl
  have hl := hok.2.1.trans e35
  have Q2 : am_WQ (wI (wI s1 74 0) 33 0) (bestW (jrn s) n) := WQ_I (WQ_I Q ⟨by omega, by omega⟩) ⟨by omega, by omega⟩
  have f35 : rI (wI (wI s1 74 0) 33 0) 35 = rI s 33 := R.2 35 (by omega) (by omega)
  have V4 : am_V4 (wI (wI s1 74 0) 33 0) := (INV_I (INV_BR (INV_J J.1) R) (j := 74) (v := 0) (by omega)).2.1.1
  have e44 : rI (wI (wI s1 74 0) 33 0) 44 = rI s 44 := R.2 44 (by omega) (by omega)
  have w := wq_S Q2 hok.1 hl
  have hS : ∀ i : Nat, (i : Int) < rI (wI (wI s1 74 0) 33 0) 38 → 0 ≤ sumI 0 i (rA (wI (wI s1 74 0) 33 0) 39) := fun i hi => (w.2.1 i hi).1
  have hn := bkT_n (p := n) (mb := m) (hh := h) Q2 hok.1 hl V4 (by omega) f35
  have h7 := (bkT_7 (p := n) (mb := m) (hh := h) Q2 hok.1 hl V4 (by omega)).2
  rw [e44] at hn h7
  have u : ∀ j x, bkU (rI s 44) j x → (j < 36 ∨ 43 < j) → rA (bkT (wI (wI s1 74 0) 33 0) n m h) j x = rA s j x := fun j x hb hj => by
    refine (bkT_U hS (by rw [e44]; exact hb)).trans ?_
    exact (R.1 j x (scr_o (by omega))).trans (jr_A (by omega))
  have hI : ∀ j, j ≠ 44 → rI (bkT (wI (wI s1 74 0) 33 0) n m h) j = rI (wI (wI s1 74 0) 33 0) j := fun j hj => (bkT_I j).trans (if_neg hj)
  refine ⟨⟨?_, ?_, fun j hj => ?_⟩, fun j x hj => u j x (Or.inl (by omega)) (by omega), fun b h1 h2 => ⟨u 46 b (Or.inr (Or.inl ⟨by omega, by omega, by omega⟩)) (by omega), sumI_c (fun x x1 x2 => u 59 x (Or.inr (Or.inr (Or.inr ⟨Or.inl rfl, by omega⟩))) (by omega))⟩, ⟨hn.1.1, hn.1.2.1, hn.1.2.2.1, hn.1.2.2.2.2⟩, ?_⟩
  · rw [bkT_I, if_pos rfl, e44]
  · rw [hI 33 (by omega)]
    rfl
  · rw [hI j (by omega)]
    have e : rI (wI (wI s1 74 0) 33 0) j = rI s1 j := (if_neg (by omega)).trans (if_neg (by omega))
    rw [e, R.2 j (by omega) (by omega), jr_I (by omega)]
  · rw [h7, hok.2.2]
    exact sumI_c (fun i _ _ => (R.1 25 _ (scr_o (by omega))).trans (jr_A (by omega)))
theorem PL_hold {s s' : am_Z} {T T' : am_LT} {n m : Int} (P : am_PL s T) (b44 : 0 ≤ rI s 44) (h44 : rI s' 44 = rI s 44 + 1) (h33 : rI s' 33 = 0) (k1 : ∀ j, (j = 0 ∨ j = 3 ∨ j = 20 ∨ j = 61 ∨ j = 68) → rI s' j = rI s j) (k2 : ∀ j x, (j ≤ 14 ∨ j = 25 ∨ j = 63) → rA s' j x = rA s j x) (k3 : ∀ b : Int, 0 ≤ b → b < rI s 44 → rA s' 46 b = rA s 46 b ∧ sumI (4 * b) 4 (rA s' 59) = sumI (4 * b) 4 (rA s 59)) (hm : rA s' 46 (rI s 44) = m) (hn : sumI (4 * rI s 44) 4 (rA s' 59) = n) (t44 : T' 5 4 = rI s 44 + 1) (t33 : T' 5 3 = 0) (t3 : T' 3 (rI s 44) = n) (t4 : T' 4 (rI s 44) = m) (eo : ∀ (i : Nat) (x : Int), (i ≠ 3 ∨ x ≠ rI s 44) → (i ≠ 4 ∨ x ≠ rI s 44) → (i ≠ 5 ∨ (x ≠ 3 ∧ x ≠ 4)) → T' i x = T i x) : am_PL s' T' := by
  obtain ⟨⟨p0, p1, p2, p3, p4, p5, p6⟩, pn, pm, pf, pb, px⟩ := P
  refine ⟨⟨by rw [k1 3 (by omega), eo _ _ (by omega) (by omega) (by omega)]; exact p0, by rw [k1 20 (by omega), eo _ _ (by omega) (by omega) (by omega)]; exact p1, by rw [k1 0 (by omega), eo _ _ (by omega) (by omega) (by omega)]; exact p2, by rw [h33, t33], by rw [h44, t44], by rw [k1 61 (by omega), eo _ _ (by omega) (by omega) (by omega)]; exact p5, P6_cg p6 (k1 68 (by omega)) (k1 0 (by omega)) (eo 5 6 (by omega) (by omega) (by omega))⟩, fun f h1 h2 => ?_, fun f b h1 h2 h3 h4 => ?_, fun i h1 h2 => ?_, fun k h1 h2 => ?_, fun w h1 h2 => ?_⟩
  · rw [k1 3 (by omega)] at h2
    rw [k2 4 _ (by omega), k2 5 _ (by omega), k2 6 _ (by omega), k2 8 _ (by omega), k2 9 _ (by omega), eo 0 _ (by omega) (by omega) (by omega), eo 0 _ (by omega) (by omega) (by omega), eo 0 _ (by omega) (by omega) (by omega), eo 0 _ (by omega) (by omega) (by omega), eo 0 _ (by omega) (by omega) (by omega)]
    exact pn f h1 h2
  · rw [k1 3 (by omega)] at h2
    rw [k2 14 _ (by omega), eo 1 _ (by omega) (by omega) (by omega)]
    exact pm f b h1 h2 h3 h4
  · rw [k1 20 (by omega)] at h2
    rw [k2 25 _ (by omega), eo 2 _ (by omega) (by omega) (by omega)]
    exact pf i h1 h2
  · rw [h44] at h2
    by_cases e : k = rI s 44
    · rw [e, hm, hn]
      exact ⟨t3, t4⟩
    · have z := k3 k h1 (by omega)
      rw [z.1, z.2, eo 3 _ (by omega) (by omega) (by omega), eo 4 _ (by omega) (by omega) (by omega)]
      exact pb k h1 (by omega)
  · rw [k1 61 (by omega)] at h2
    rw [k2 63 _ (by omega), eo 7 _ (by omega) (by omega) (by omega)]
    exact px w h1 h2
theorem wish_N {s : am_Z} {n m : Int} (b33 : 0 ≤ rI s 33) : (∀ j x, (j < 62 ∨ 66 < j ∨ (j ≠ 65 ∧ x ≠ rI s 61)) → rA (wishS s n m) j x = rA s j x) ∧ rA (wishS s n m) 63 (rI s 61) = m ∧ rA (wishS s n m) 66 (rI s 61) = -1 := by
  refine ⟨fun j x h => ?_, ?_, ?_⟩
  · unfold wishS
    simp only [wI_A, wB_A, wA_A]
    rw [if_neg (by omega), if_neg (by omega), if_neg (by omega), if_neg (by omega), if_neg (by omega)]
  · unfold wishS
    simp only [wI_A, wB_A, wA_A]
    simp
  · unfold wishS
    simp only [wI_A, wB_A, wA_A]
    simp
theorem PL_wish {s : am_Z} {T T' : am_LT} {n m : Int} (P : am_PL s T) (b33 : 0 ≤ rI s 33) (t5 : T' 5 5 = rI s 61 + 1) (t3 : T' 5 3 = 0) (t7 : T' 7 (rI s 61) = m) (eo : ∀ (i : Nat) (x : Int), (i ≠ 7 ∨ x ≠ rI s 61) → (i ≠ 5 ∨ (x ≠ 3 ∧ x ≠ 5)) → T' i x = T i x) : am_PL (wishS s n m) T' := by
  obtain ⟨⟨p0, p1, p2, p3, p4, p5, p6⟩, pn, pm, pf, pb, px⟩ := P
  obtain ⟨w1, w2, w3⟩ := wish_N (s := s) (n := n) (m := m) b33
  have n61 : rI (wishS s n m) 61 = rI s 61 + 1 := rfl
  have n33 : rI (wishS s n m) 33 = 0 := rfl
  have nn : ∀ j, j ≠ 61 → j ≠ 33 → rI (wishS s n m) j = rI s j := fun j h1 h2 => (if_neg h1).trans (if_neg h2)
  refine ⟨⟨by rw [nn 3 (by omega) (by omega), eo _ _ (by omega) (by omega)]; exact p0, by rw [nn 20 (by omega) (by omega), eo _ _ (by omega) (by omega)]; exact p1, by rw [nn 0 (by omega) (by omega), eo _ _ (by omega) (by omega)]; exact p2, by rw [n33, t3], by rw [nn 44 (by omega) (by omega), eo _ _ (by omega) (by omega)]; exact p4, by rw [n61, t5], P6_cg p6 (nn 68 (by omega) (by omega)) (nn 0 (by omega) (by omega)) (eo 5 6 (by omega) (by omega))⟩, fun f h1 h2 => ?_, fun f b h1 h2 h3 h4 => ?_, fun i h1 h2 => ?_, fun k h1 h2 => ?_, fun w h1 h2 => ?_⟩
  · rw [nn 3 (by omega) (by omega)] at h2
    rw [w1 4 _ (by omega), w1 5 _ (by omega), w1 6 _ (by omega), w1 8 _ (by omega), w1 9 _ (by omega), eo 0 _ (by omega) (by omega), eo 0 _ (by omega) (by omega), eo 0 _ (by omega) (by omega), eo 0 _ (by omega) (by omega), eo 0 _ (by omega) (by omega)]
    exact pn f h1 h2
  · rw [nn 3 (by omega) (by omega)] at h2
    rw [w1 14 _ (by omega), eo 1 _ (by omega) (by omega)]
    exact pm f b h1 h2 h3 h4
  · rw [nn 20 (by omega) (by omega)] at h2
    rw [w1 25 _ (by omega), eo 2 _ (by omega) (by omega)]
    exact pf i h1 h2
  · rw [nn 44 (by omega) (by omega)] at h2
    rw [w1 46 _ (by omega), show rA (wishS s n m) 59 = rA s 59 from funext (fun x => w1 59 x (by omega)), eo 3 _ (by omega) (by omega), eo 4 _ (by omega) (by omega)]
    exact pb k h1 h2
  · rw [n61] at h2
    by_cases e : w = rI s 61
    · rw [e, t7, w2]
    · rw [w1 63 _ (by omega), eo 7 _ (by omega) (by omega)]
      exact px w h1 (by omega)
theorem hold_len {s : am_Z} (J : am_JJ s) (B : in_S s) : ∀ k, 0 ≤ k → k < rI s 33 → 1 ≤ rA s 8 (rA s 34 k / 100) := fun k h1 h2 => by
  have b := B.1 34 k 0 1160 rfl
  exact (J.1.1.1 (rA s 34 k / 100) (by omega) (J.2.1.2.2.2.1 k h1 h2)).1
theorem dz_hold {d e : Nat} {q : am_A} {s s1 : am_Z} {a b c p r t : Int} (I : am_CI e q s) (F : am_DFh q) (J : am_JJ s) (ha : in32 a) (hb : in32 b) (hc : in32 c) (hk : kHold s a b c = 0) (R : am_BR (jrn s) s1) (Q : am_WQ s1 (bestW (jrn s) a)) (B1 : in_S s1) : am_C2 (d + 21) m_L_does [aR 8 0, aI (zI 14), aI (zI a), aI (zI b), aI (zI c), aI (zI p), aI (zI r), aI (zI t)] q (am_OX e q (bkT (wI (wI s1 74 0) 33 0) a b c) (rI s 44)) := by
  have h := ds_hold (d := d) (e := e) (q := q) (s1 := bkT (wI (wI s1 74 0) 33 0) a b c) (a := a) (b := b) (c := c) (p := p) (r := r) (t := t) (k := 0) (v := rI s 44) (kd := kd3) (fun z => absurd rfl z) (am_C2_imp (cs_hold (d := 3) I ha hb hc (fun _ => ⟨R, Q, B1⟩) J.1.2.1.1 (hold_len J (CV_B I.1))) (fun o q1 h => by { rw [hk, if_pos rfl] at h; exact OQ_OP F h }))
  rw [rc_0 rfl] at h
  exact h
theorem dx_hold {d e : Nat} {q : am_A} {s : am_Z} {a b c p r t : Int} (I : am_CI e q s) (F : am_DFh q) (J : am_JJ s) (ha : in32 a) (hb : in32 b) (hc : in32 c) {k R : Int} (hk : kHold s a b c = k) (h0 : k ≠ 0) (hR : am_rc k kd3 (rI s 44) = R) : am_C2 (d + 21) m_L_does [aR 8 0, aI (zI 14), aI (zI a), aI (zI b), aI (zI c), aI (zI p), aI (zI r), aI (zI t)] q (am_OX e q s R) := by
  have h := ds_hold (d := d) (e := e) (q := q) (s1 := s) (a := a) (b := b) (c := c) (p := p) (r := r) (t := t) (k := k) (v := rI s 44) (kd := kd3) (kdx3 k) (am_C2_imp (cs_hold (d := 3) (s1 := s) I ha hb hc (fun z => absurd (hk.symm.trans z) h0) J.1.2.1.1 (hold_len J (CV_B I.1))) (fun o q1 h => by { rw [hk, if_neg h0] at h; exact OQ_OP F h }))
  rw [hR] at h
  exact h
theorem wo_64 {s : am_Z} (J : am_JJ s) : ∀ w, 0 ≤ w → w < rI s 61 → 1 ≤ rA s 64 w := fun w h1 h2 => by
  have z := J.1.2.2.1 w.toNat (by omega)
  rw [show ((w.toNat : Nat) : Int) = w by omega] at z
  exact z.1
theorem ih_wA {d e : Nat} {q : am_A} {s : am_Z} {T : am_LT} (I : am_CI e q s) (L : am_LS q s T) {o1 o2 p M : Int} (b1 : 0 ≤ o1 ∧ o1 ≤ 100000) (b2 : 0 ≤ o2 ∧ o2 ≤ 100000) (bp : 1 ≤ p ∧ p ≤ 9) (hM : M = 5) {Q : am_O → am_A → Prop} (K : ∀ o q', am_LR 8 e q s o q' → Q o q') : am_W2 (d + 22) m_L_isHeld 63 [some (aR 8 0), some (aR 24 3), some (aR 24 4), some (aR 24 7), some (aR 24 5), some (aI (zI o1)), some (aI (zI o2)), some (aI (zI p)), some (aI (zI M)), some (aI (zI (bestW (jrn s) p).1)), some (aI (zI (rI s 33))), none, none, none] [] q Q := by
  obtain ⟨F, J, H, P⟩ := L
  have B := CV_B I.1
  have b44 := B.2.1 44 0 40 rfl
  have b61 := B.2.1 61 0 20 rfl
  have b33 := B.2.1 33 0 4 rfl
  obtain ⟨⟨p0, p1, p2, p3, p4, p5, p6⟩, pn, pm, pf, pb, px⟩ := id P
  have hk : kWish s p M = 1 := if_pos (by omega)
  refine ar_aload_n rfl rfl ?_
  refine ar_bipush (x := 15) rfl rfl ?_
  refine ar_iload rfl rfl ?_
  refine ar_iload rfl rfl ?_
  refine ar_iconst rfl ?_
  refine ar_iconst rfl ?_
  refine ar_iconst rfl ?_
  refine ar_iconst rfl ?_
  refine ar_cs8 rfl rfl (Nat.le_of_ble_eq_true rfl) (dx_wish (d := 0) (R := -3000000) I F J (by omega) (by omega) hk (by omega) rfl) (by omega) (fun o q74 hq => ?_)
  obtain ⟨rfl, I74, Y74, F74⟩ := hq
  have H74 := LA_CY H Y74
  refine ar_stI11 rfl ?_
  refine ar_iload rfl rfl ?_
  refine ar_iconst rfl ?_
  refine ar_icmp_le rfl rfl (by omega) (by omega) (fun ht => by omega) (fun h82 => ?_)
  refine ar_ldc (x := -3000000) rfl rfl ?_
  refine ar_goto rfl rfl ?_
  refine ar_stI12 rfl ?_
  refine ar_iload rfl rfl ?_
  refine ar_if_lt rfl rfl (by omega) (fun h119 => ?_) (fun hf => by omega)
  refine ar_iload rfl rfl ?_
  refine ar_iload rfl rfl ?_
  refine ar_icmp_ne rfl rfl (by omega) (by omega) (fun ht => by omega) (fun h145 => ?_)
  refine ar_iload rfl rfl ?_
  refine ar_if_lt rfl rfl (by omega) (fun h150 => ?_) (fun hf => by omega)
  refine ar_iconst rfl ?_
  refine ar_goto rfl rfl ?_
  exact ar_iret rfl (Or.inr ⟨rfl, by first | omega | (split <;> omega)⟩) (K _ _ ⟨rfl, s, T, CI_le I74 (by omega), ⟨F74, J, H74, P⟩, S31_CY Y74, rfl⟩)
theorem ih_wB {d e : Nat} {q : am_A} {s : am_Z} {T : am_LT} (I : am_CI e q s) (L : am_LS q s T) {o1 o2 p M : Int} (b1 : 0 ≤ o1 ∧ o1 ≤ 100000) (b2 : 0 ≤ o2 ∧ o2 ≤ 100000) (bp : 1 ≤ p ∧ p ≤ 9) (hM : -1 ≤ M ∧ M ≤ 3) (h3 : rI s 33 = 0 ∨ rI s 61 = 20) (h33 : rI s 33 = 0) {Q : am_O → am_A → Prop} (K : ∀ o q', am_LR 8 e q s o q' → Q o q') : am_W2 (d + 22) m_L_isHeld 63 [some (aR 8 0), some (aR 24 3), some (aR 24 4), some (aR 24 7), some (aR 24 5), some (aI (zI o1)), some (aI (zI o2)), some (aI (zI p)), some (aI (zI M)), some (aI (zI (bestW (jrn s) p).1)), some (aI (zI (rI s 33))), none, none, none] [] q Q := by
  obtain ⟨F, J, H, P⟩ := L
  have B := CV_B I.1
  have b44 := B.2.1 44 0 40 rfl
  have b61 := B.2.1 61 0 20 rfl
  have b33 := B.2.1 33 0 4 rfl
  obtain ⟨⟨p0, p1, p2, p3, p4, p5, p6⟩, pn, pm, pf, pb, px⟩ := id P
  have hk : kWish s p M = 3 := by { unfold kWish; rw [if_neg (by omega), if_neg (by omega), if_pos h3] }
  refine ar_aload_n rfl rfl ?_
  refine ar_bipush (x := 15) rfl rfl ?_
  refine ar_iload rfl rfl ?_
  refine ar_iload rfl rfl ?_
  refine ar_iconst rfl ?_
  refine ar_iconst rfl ?_
  refine ar_iconst rfl ?_
  refine ar_iconst rfl ?_
  refine ar_cs8 rfl rfl (Nat.le_of_ble_eq_true rfl) (dx_wish (d := 0) (R := -1000000) I F J (by omega) (by omega) hk (by omega) rfl) (by omega) (fun o q74 hq => ?_)
  obtain ⟨rfl, I74, Y74, F74⟩ := hq
  have H74 := LA_CY H Y74
  refine ar_stI11 rfl ?_
  refine ar_iload rfl rfl ?_
  refine ar_iconst rfl ?_
  refine ar_icmp_le rfl rfl (by omega) (by omega) (fun h82 => ?_) (fun hf => by omega)
  refine ar_aload rfl rfl ?_
  refine ar_iconst rfl ?_
  refine ar_ial24 (n := 7) rfl H74 (by omega) rfl (by omega) ?_
  refine ar_if_eq rfl rfl (by omega) (fun h94 => ?_) (fun hf => by omega)
  refine ar_ldc (x := -1000000) rfl rfl ?_
  refine ar_goto rfl rfl ?_
  refine ar_stI12 rfl ?_
  refine ar_iload rfl rfl ?_
  refine ar_if_lt rfl rfl (by omega) (fun h119 => ?_) (fun hf => by omega)
  refine ar_iload rfl rfl ?_
  refine ar_iload rfl rfl ?_
  refine ar_icmp_ne rfl rfl (by omega) (by omega) (fun ht => by omega) (fun h145 => ?_)
  refine ar_iload rfl rfl ?_
  refine ar_if_lt rfl rfl (by omega) (fun h150 => ?_) (fun hf => by omega)
  refine ar_iconst rfl ?_
  refine ar_goto rfl rfl ?_
  exact ar_iret rfl (Or.inr ⟨rfl, by first | omega | (split <;> omega)⟩) (K _ _ ⟨rfl, s, T, CI_le I74 (by omega), ⟨F74, J, H74, P⟩, S31_CY Y74, rfl⟩)
theorem ih_wB2 {d e : Nat} {q : am_A} {s : am_Z} {T : am_LT} (I : am_CI e q s) (L : am_LS q s T) {o1 o2 p M : Int} (b1 : 0 ≤ o1 ∧ o1 ≤ 100000) (b2 : 0 ≤ o2 ∧ o2 ≤ 100000) (bp : 1 ≤ p ∧ p ≤ 9) (hM : -1 ≤ M ∧ M ≤ 3) (h3 : rI s 33 = 0 ∨ rI s 61 = 20) (h33 : rI s 33 ≠ 0) {Q : am_O → am_A → Prop} (K : ∀ o q', am_LR 8 e q s o q' → Q o q') : am_W2 (d + 22) m_L_isHeld 63 [some (aR 8 0), some (aR 24 3), some (aR 24 4), some (aR 24 7), some (aR 24 5), some (aI (zI o1)), some (aI (zI o2)), some (aI (zI p)), some (aI (zI M)), some (aI (zI (bestW (jrn s) p).1)), some (aI (zI (rI s 33))), none, none, none] [] q Q := by
  obtain ⟨F, J, H, P⟩ := L
  have B := CV_B I.1
  have b44 := B.2.1 44 0 40 rfl
  have b61 := B.2.1 61 0 20 rfl
  have b33 := B.2.1 33 0 4 rfl
  obtain ⟨⟨p0, p1, p2, p3, p4, p5, p6⟩, pn, pm, pf, pb, px⟩ := id P
  have hk : kWish s p M = 3 := by { unfold kWish; rw [if_neg (by omega), if_neg (by omega), if_pos h3] }
  refine ar_aload_n rfl rfl ?_
  refine ar_bipush (x := 15) rfl rfl ?_
  refine ar_iload rfl rfl ?_
  refine ar_iload rfl rfl ?_
  refine ar_iconst rfl ?_
  refine ar_iconst rfl ?_
  refine ar_iconst rfl ?_
  refine ar_iconst rfl ?_
  refine ar_cs8 rfl rfl (Nat.le_of_ble_eq_true rfl) (dx_wish (d := 0) (R := -1000000) I F J (by omega) (by omega) hk (by omega) rfl) (by omega) (fun o q74 hq => ?_)
  obtain ⟨rfl, I74, Y74, F74⟩ := hq
  have H74 := LA_CY H Y74
  refine ar_stI11 rfl ?_
  refine ar_iload rfl rfl ?_
  refine ar_iconst rfl ?_
  refine ar_icmp_le rfl rfl (by omega) (by omega) (fun h82 => ?_) (fun hf => by omega)
  refine ar_aload rfl rfl ?_
  refine ar_iconst rfl ?_
  refine ar_ial24 (n := 7) rfl H74 (by omega) rfl (by omega) ?_
  refine ar_if_eq rfl rfl (by omega) (fun ht => by omega) (fun h94 => ?_)
  refine ar_aload rfl rfl ?_
  refine ar_iconst rfl ?_
  refine ar_ial24 (n := 7) rfl H74 (by omega) rfl (by omega) ?_
  refine ar_bipush (x := 20) rfl rfl ?_
  refine ar_icmp_ne rfl rfl (by omega) (by omega) (fun ht => by omega) (fun h103 => ?_)
  refine ar_ldc (x := -1000000) rfl rfl ?_
  refine ar_goto rfl rfl ?_
  refine ar_stI12 rfl ?_
  refine ar_iload rfl rfl ?_
  refine ar_if_lt rfl rfl (by omega) (fun h119 => ?_) (fun hf => by omega)
  refine ar_iload rfl rfl ?_
  refine ar_iload rfl rfl ?_
  refine ar_icmp_ne rfl rfl (by omega) (by omega) (fun ht => by omega) (fun h145 => ?_)
  refine ar_iload rfl rfl ?_
  refine ar_if_lt rfl rfl (by omega) (fun h150 => ?_) (fun hf => by omega)
  refine ar_iconst rfl ?_
  refine ar_goto rfl rfl ?_
  exact ar_iret rfl (Or.inr ⟨rfl, by first | omega | (split <;> omega)⟩) (K _ _ ⟨rfl, s, T, CI_le I74 (by omega), ⟨F74, J, H74, P⟩, S31_CY Y74, rfl⟩)
theorem ih_wC {d e : Nat} {q : am_A} {s : am_Z} {T : am_LT} (I : am_CI e q s) (L : am_LS q s T) {o1 o2 p M : Int} (b1 : 0 ≤ o1 ∧ o1 ≤ 100000) (b2 : 0 ≤ o2 ∧ o2 ≤ 100000) (bp : 1 ≤ p ∧ p ≤ 9) (hM : -1 ≤ M ∧ M ≤ 3) (h33 : rI s 33 ≠ 0) (h61 : rI s 61 ≠ 20) {Q : am_O → am_A → Prop} (K : ∀ o q', am_LR 8 e q s o q' → Q o q') : am_W2 (d + 22) m_L_isHeld 63 [some (aR 8 0), some (aR 24 3), some (aR 24 4), some (aR 24 7), some (aR 24 5), some (aI (zI o1)), some (aI (zI o2)), some (aI (zI p)), some (aI (zI M)), some (aI (zI (bestW (jrn s) p).1)), some (aI (zI (rI s 33))), none, none, none] [] q Q := by
  obtain ⟨F, J, H, P⟩ := L
  have B := CV_B I.1
  have b44 := B.2.1 44 0 40 rfl
  have b61 := B.2.1 61 0 20 rfl
  have b33 := B.2.1 33 0 4 rfl
  obtain ⟨⟨p0, p1, p2, p3, p4, p5, p6⟩, pn, pm, pf, pb, px⟩ := id P
  have hk : kWish s p M = 0 := by { unfold kWish; rw [if_neg (by omega), if_neg (by omega), if_neg (by omega)] }
  have J1 := JJ_wish J B hk hM.2
  have n61 : rI (wishS s p M) 61 = rI s 61 + 1 := rfl
  have e66 := (wish_N (s := s) (n := p) (m := M) b33.1).2.2
  have ew : wishedS (wishS s p M) (rI s 61) = -1 ∨ wishedS (wishS s p M) (rI s 61) = -2 := by { unfold wishedS; rw [if_neg (fun z => z e66)]; split; exact Or.inl rfl; exact Or.inr rfl }
  refine ar_aload_n rfl rfl ?_
  refine ar_bipush (x := 15) rfl rfl ?_
  refine ar_iload rfl rfl ?_
  refine ar_iload rfl rfl ?_
  refine ar_iconst rfl ?_
  refine ar_iconst rfl ?_
  refine ar_iconst rfl ?_
  refine ar_iconst rfl ?_
  refine ar_cs8 rfl rfl (Nat.le_of_ble_eq_true rfl) (dz_wish (d := 0) I F J (by omega) (by omega) hk) (by omega) (fun o q74 hq => ?_)
  obtain ⟨rfl, I74, Y74, F74⟩ := hq
  have H74 := LA_CY H Y74
  refine ar_stI11 rfl ?_
  refine ar_iload rfl rfl ?_
  refine ar_iconst rfl ?_
  refine ar_icmp_le rfl rfl (by omega) (by omega) (fun h82 => ?_) (fun hf => by omega)
  refine ar_aload rfl rfl ?_
  refine ar_iconst rfl ?_
  refine ar_ial24 (n := 7) rfl H74 (by omega) rfl (by omega) ?_
  refine ar_if_eq rfl rfl (by omega) (fun ht => by omega) (fun h94 => ?_)
  refine ar_aload rfl rfl ?_
  refine ar_iconst rfl ?_
  refine ar_ial24 (n := 7) rfl H74 (by omega) rfl (by omega) ?_
  refine ar_bipush (x := 20) rfl rfl ?_
  refine ar_icmp_ne rfl rfl (by omega) (by omega) (fun h103 => ?_) (fun hf => by omega)
  refine ar_aload rfl rfl ?_
  refine ar_iconst rfl ?_
  refine ar_ial24 (n := 7) rfl H74 (by omega) rfl (by omega) ?_
  rw [p5]
  refine ar_stI12 rfl ?_
  refine ar_iload rfl rfl ?_
  refine ar_if_lt rfl rfl (by omega) (fun ht => by omega) (fun h119 => ?_)
  refine ar_aload_n rfl rfl ?_
  refine ar_iload rfl rfl ?_
  refine ar_iload rfl rfl ?_
  refine ar_ias24 (n := 20) rfl H74 (by omega) rfl (by omega) (fun q127 H127 W127 => ?_)
  refine ar_aload rfl rfl ?_
  refine ar_iconst rfl ?_
  refine ar_iconst rfl ?_
  refine ar_ias24 (n := 7) rfl H127 (by omega) rfl (by omega) (fun q132 H132 W132 => ?_)
  refine ar_aload rfl rfl ?_
  refine ar_iconst rfl ?_
  refine ar_dup2 rfl rfl rfl ?_
  refine ar_ial24 (n := 7) rfl H132 (by omega) rfl (by omega) ?_
  refine ar_iconst rfl ?_
  refine ar_iadd rfl ?_
  refine ar_ias24 (n := 7) rfl H132 (by omega) rfl (by omega) (fun q140 H140 W140 => ?_)
  have WW := W24_t W127 (W24_t W132 W140)
  have I2 := WW.1 _ _ I74
  have e5 : uT (uT T 7 (rI s 61) M) 5 3 0 5 5 + 1 = rI s 61 + 1 := by rw [uT_n (by omega), uT_n (by omega), p5]
  rw [e5] at H140
  refine ar_iload rfl rfl ?_
  refine ar_iload rfl rfl ?_
  refine ar_icmp_ne rfl rfl (by omega) (by omega) (fun ht => by omega) (fun h145 => ?_)
  refine ar_iload rfl rfl ?_
  refine ar_if_lt rfl rfl (by omega) (fun ht => by omega) (fun h150 => ?_)
  refine ar_aload_n rfl rfl ?_
  refine ar_iload rfl rfl ?_
  refine ar_cv1 rfl rfl rfl (Nat.le_of_ble_eq_true rfl) (T2_is (cs_wished (d := 0) I2.1 (by omega) (wo_64 J1)) ⟨by omega, by omega⟩) (by omega) (fun o q156 hq => am_B2_is ?_ hq)
  refine ar_if_ge rfl rfl (by omega) (fun ht => by omega) (fun h159 => ?_)
  refine ar_aload_n rfl rfl ?_
  refine ar_bipush (x := 16) rfl rfl ?_
  refine ar_aload rfl rfl ?_
  refine ar_iconst rfl ?_
  refine ar_ial24 (n := 7) rfl H140 (by omega) rfl (by omega) ?_
  rw [uT_e]
  refine ar_iconst rfl ?_
  refine ar_iconst rfl ?_
  refine ar_iconst rfl ?_
  refine ar_iconst rfl ?_
  refine ar_iconst rfl ?_
  refine ar_cs8 rfl rfl (Nat.le_of_ble_eq_true rfl) (dn_wished (d := 0) I2 (WW.2.1 F74) (by omega) (wo_64 J1) (by omega)) (by omega) (fun o q174 hq => ?_)
  obtain ⟨rfl, I174, Y174, F174⟩ := hq
  have H174 := LA_CY H140 Y174
  refine ar_ldc (x := -3000000) rfl rfl ?_
  refine ar_icmp_ne rfl rfl (by omega) (by omega) (fun ht => by omega) (fun h179 => ?_)
  refine ar_iconst rfl ?_
  refine ar_goto rfl rfl ?_
  exact ar_iret rfl (Or.inr ⟨rfl, by first | omega | (split <;> omega)⟩) (K _ _ ⟨rfl, _, _, CI_le I174 (by omega), ⟨F174, J1, H174, PL_wish P b33.1 uT_e (by rw [uT_n (by omega), uT_e]) (by rw [uT_n (by omega), uT_n (by omega), uT_e]) (fun i x h1 h2 => by rw [uT_n (by omega), uT_n (by omega), uT_n (by omega)])⟩, S31_t (S31_CY Y74) (S31_t WW.2.2 (S31_CY Y174)), rfl⟩)
theorem ih_hA {d e : Nat} {q : am_A} {s : am_Z} {T : am_LT} (I : am_CI e q s) (L : am_LS q s T) {o1 o2 p M : Int} (b1 : 0 ≤ o1 ∧ o1 ≤ 100000) (b2 : 0 ≤ o2 ∧ o2 ≤ 100000) (bp : 1 ≤ p ∧ p ≤ 9) {hh : Int} (bh : 1 ≤ hh ∧ hh ≤ 73) (hM : M = 5) {Q : am_O → am_A → Prop} (K : ∀ o q', am_LR 8 e q s o q' → Q o q') : am_W2 (d + 22) m_L_isHeld 214 [some (aR 8 0), some (aR 24 3), some (aR 24 4), some (aR 24 7), some (aR 24 5), some (aI (zI o1)), some (aI (zI o2)), some (aI (zI p)), some (aI (zI M)), some (aI (zI (bestW (jrn s) p).1)), some (aI (zI (rI s 33))), some (aI (zI hh)), none, none] [] q Q := by
  obtain ⟨F, J, H, P⟩ := L
  have B := CV_B I.1
  have b44 := B.2.1 44 0 40 rfl
  have b61 := B.2.1 61 0 20 rfl
  have b33 := B.2.1 33 0 4 rfl
  obtain ⟨⟨p0, p1, p2, p3, p4, p5, p6⟩, pn, pm, pf, pb, px⟩ := id P
  have hk : kHold s p M hh = 1 := if_pos (by omega)
  refine ar_aload_n rfl rfl ?_
  refine ar_bipush (x := 14) rfl rfl ?_
  refine ar_iload rfl rfl ?_
  refine ar_iload rfl rfl ?_
  refine ar_iload rfl rfl ?_
  refine ar_iconst rfl ?_
  refine ar_iconst rfl ?_
  refine ar_iconst rfl ?_
  refine ar_cs8 rfl rfl (Nat.le_of_ble_eq_true rfl) (dx_hold (d := 0) (R := -3000000) I F J (by omega) (by omega) (by omega) hk (by omega) rfl) (by omega) (fun o q226 hq => ?_)
  obtain ⟨rfl, I226, Y226, F226⟩ := hq
  have H226 := LA_CY H Y226
  refine ar_stI12 rfl ?_
  refine ar_iload rfl rfl ?_
  refine ar_iconst rfl ?_
  refine ar_icmp_le rfl rfl (by omega) (by omega) (fun ht => by omega) (fun h234 => ?_)
  refine ar_ldc (x := -3000000) rfl rfl ?_
  refine ar_goto rfl rfl ?_
  refine ar_stI13 rfl ?_
  refine ar_iload rfl rfl ?_
  refine ar_if_ge rfl rfl (by omega) (fun ht => by omega) (fun h281 => ?_)
  refine ar_iload rfl rfl ?_
  refine ar_iload rfl rfl ?_
  refine ar_icmp_ne rfl rfl (by omega) (by omega) (fun ht => by omega) (fun h288 => ?_)
  refine ar_iconst rfl ?_
  refine ar_goto rfl rfl ?_
  exact ar_iret rfl (Or.inr ⟨rfl, by first | omega | (split <;> omega)⟩) (K _ _ ⟨rfl, s, T, CI_le I226 (by omega), ⟨F226, J, H226, P⟩, S31_CY Y226, rfl⟩)
theorem ih_hB {d e : Nat} {q : am_A} {s : am_Z} {T : am_LT} (I : am_CI e q s) (L : am_LS q s T) {o1 o2 p M : Int} (b1 : 0 ≤ o1 ∧ o1 ≤ 100000) (b2 : 0 ≤ o2 ∧ o2 ≤ 100000) (bp : 1 ≤ p ∧ p ≤ 9) {hh : Int} (bh : 1 ≤ hh ∧ hh ≤ 73) (hM : -1 ≤ M ∧ M ≤ 3) (h7 : 72 < hh) {Q : am_O → am_A → Prop} (K : ∀ o q', am_LR 8 e q s o q' → Q o q') : am_W2 (d + 22) m_L_isHeld 214 [some (aR 8 0), some (aR 24 3), some (aR 24 4), some (aR 24 7), some (aR 24 5), some (aI (zI o1)), some (aI (zI o2)), some (aI (zI p)), some (aI (zI M)), some (aI (zI (bestW (jrn s) p).1)), some (aI (zI (rI s 33))), some (aI (zI hh)), none, none] [] q Q := by
  obtain ⟨F, J, H, P⟩ := L
  have B := CV_B I.1
  have b44 := B.2.1 44 0 40 rfl
  have b61 := B.2.1 61 0 20 rfl
  have b33 := B.2.1 33 0 4 rfl
  obtain ⟨⟨p0, p1, p2, p3, p4, p5, p6⟩, pn, pm, pf, pb, px⟩ := id P
  have hk : kHold s p M hh = 2 := by { unfold kHold; rw [if_neg (by omega), if_pos (by omega)] }
  refine ar_aload_n rfl rfl ?_
  refine ar_bipush (x := 14) rfl rfl ?_
  refine ar_iload rfl rfl ?_
  refine ar_iload rfl rfl ?_
  refine ar_iload rfl rfl ?_
  refine ar_iconst rfl ?_
  refine ar_iconst rfl ?_
  refine ar_iconst rfl ?_
  refine ar_cs8 rfl rfl (Nat.le_of_ble_eq_true rfl) (dx_hold (d := 0) (R := -2000000) I F J (by omega) (by omega) (by omega) hk (by omega) rfl) (by omega) (fun o q226 hq => ?_)
  obtain ⟨rfl, I226, Y226, F226⟩ := hq
  have H226 := LA_CY H Y226
  refine ar_stI12 rfl ?_
  refine ar_iload rfl rfl ?_
  refine ar_iconst rfl ?_
  refine ar_icmp_le rfl rfl (by omega) (by omega) (fun h234 => ?_) (fun hf => by omega)
  refine ar_iload rfl rfl ?_
  refine ar_bipush (x := 72) rfl rfl ?_
  refine ar_icmp_le rfl rfl (by omega) (by omega) (fun ht => by omega) (fun h246 => ?_)
  refine ar_ldc (x := -2000000) rfl rfl ?_
  refine ar_goto rfl rfl ?_
  refine ar_stI13 rfl ?_
  refine ar_iload rfl rfl ?_
  refine ar_if_ge rfl rfl (by omega) (fun ht => by omega) (fun h281 => ?_)
  refine ar_iload rfl rfl ?_
  refine ar_iload rfl rfl ?_
  refine ar_icmp_ne rfl rfl (by omega) (by omega) (fun ht => by omega) (fun h288 => ?_)
  refine ar_iconst rfl ?_
  refine ar_goto rfl rfl ?_
  exact ar_iret rfl (Or.inr ⟨rfl, by first | omega | (split <;> omega)⟩) (K _ _ ⟨rfl, s, T, CI_le I226 (by omega), ⟨F226, J, H226, P⟩, S31_CY Y226, rfl⟩)
theorem ih_hC {d e : Nat} {q : am_A} {s : am_Z} {T : am_LT} (I : am_CI e q s) (L : am_LS q s T) {o1 o2 p M : Int} (b1 : 0 ≤ o1 ∧ o1 ≤ 100000) (b2 : 0 ≤ o2 ∧ o2 ≤ 100000) (bp : 1 ≤ p ∧ p ≤ 9) {hh : Int} (bh : 1 ≤ hh ∧ hh ≤ 73) (hM : -1 ≤ M ∧ M ≤ 3) (h7 : hh ≤ 72) (h3 : (bestW (jrn s) p).1 = -1 ∨ rI s 44 = 40) (hw : (bestW (jrn s) p).1 = -1) {Q : am_O → am_A → Prop} (K : ∀ o q', am_LR 8 e q s o q' → Q o q') : am_W2 (d + 22) m_L_isHeld 214 [some (aR 8 0), some (aR 24 3), some (aR 24 4), some (aR 24 7), some (aR 24 5), some (aI (zI o1)), some (aI (zI o2)), some (aI (zI p)), some (aI (zI M)), some (aI (zI (bestW (jrn s) p).1)), some (aI (zI (rI s 33))), some (aI (zI hh)), none, none] [] q Q := by
  obtain ⟨F, J, H, P⟩ := L
  have B := CV_B I.1
  have b44 := B.2.1 44 0 40 rfl
  have b61 := B.2.1 61 0 20 rfl
  have b33 := B.2.1 33 0 4 rfl
  obtain ⟨⟨p0, p1, p2, p3, p4, p5, p6⟩, pn, pm, pf, pb, px⟩ := id P
  have hk : kHold s p M hh = 3 := by { unfold kHold; rw [if_neg (by omega), if_neg (by omega), if_pos h3] }
  refine ar_aload_n rfl rfl ?_
  refine ar_bipush (x := 14) rfl rfl ?_
  refine ar_iload rfl rfl ?_
  refine ar_iload rfl rfl ?_
  refine ar_iload rfl rfl ?_
  refine ar_iconst rfl ?_
  refine ar_iconst rfl ?_
  refine ar_iconst rfl ?_
  refine ar_cs8 rfl rfl (Nat.le_of_ble_eq_true rfl) (dx_hold (d := 0) (R := -1000000) I F J (by omega) (by omega) (by omega) hk (by omega) rfl) (by omega) (fun o q226 hq => ?_)
  obtain ⟨rfl, I226, Y226, F226⟩ := hq
  have H226 := LA_CY H Y226
  refine ar_stI12 rfl ?_
  refine ar_iload rfl rfl ?_
  refine ar_iconst rfl ?_
  refine ar_icmp_le rfl rfl (by omega) (by omega) (fun h234 => ?_) (fun hf => by omega)
  refine ar_iload rfl rfl ?_
  refine ar_bipush (x := 72) rfl rfl ?_
  refine ar_icmp_le rfl rfl (by omega) (by omega) (fun h246 => ?_) (fun hf => by omega)
  refine ar_iload rfl rfl ?_
  refine ar_if_lt rfl rfl (by omega) (fun h256 => ?_) (fun hf => by omega)
  refine ar_ldc (x := -1000000) rfl rfl ?_
  refine ar_goto rfl rfl ?_
  refine ar_stI13 rfl ?_
  refine ar_iload rfl rfl ?_
  refine ar_if_ge rfl rfl (by omega) (fun ht => by omega) (fun h281 => ?_)
  refine ar_iload rfl rfl ?_
  refine ar_iload rfl rfl ?_
  refine ar_icmp_ne rfl rfl (by omega) (by omega) (fun ht => by omega) (fun h288 => ?_)
  refine ar_iconst rfl ?_
  refine ar_goto rfl rfl ?_
  exact ar_iret rfl (Or.inr ⟨rfl, by first | omega | (split <;> omega)⟩) (K _ _ ⟨rfl, s, T, CI_le I226 (by omega), ⟨F226, J, H226, P⟩, S31_CY Y226, rfl⟩)
theorem ih_hC2 {d e : Nat} {q : am_A} {s : am_Z} {T : am_LT} (I : am_CI e q s) (L : am_LS q s T) {o1 o2 p M : Int} (b1 : 0 ≤ o1 ∧ o1 ≤ 100000) (b2 : 0 ≤ o2 ∧ o2 ≤ 100000) (bp : 1 ≤ p ∧ p ≤ 9) {hh : Int} (bh : 1 ≤ hh ∧ hh ≤ 73) (hM : -1 ≤ M ∧ M ≤ 3) (h7 : hh ≤ 72) (h3 : (bestW (jrn s) p).1 = -1 ∨ rI s 44 = 40) (hw : (bestW (jrn s) p).1 ≠ -1) {Q : am_O → am_A → Prop} (K : ∀ o q', am_LR 8 e q s o q' → Q o q') : am_W2 (d + 22) m_L_isHeld 214 [some (aR 8 0), some (aR 24 3), some (aR 24 4), some (aR 24 7), some (aR 24 5), some (aI (zI o1)), some (aI (zI o2)), some (aI (zI p)), some (aI (zI M)), some (aI (zI (bestW (jrn s) p).1)), some (aI (zI (rI s 33))), some (aI (zI hh)), none, none] [] q Q := by
  obtain ⟨F, J, H, P⟩ := L
  have B := CV_B I.1
  have b44 := B.2.1 44 0 40 rfl
  have b61 := B.2.1 61 0 20 rfl
  have b33 := B.2.1 33 0 4 rfl
  obtain ⟨⟨p0, p1, p2, p3, p4, p5, p6⟩, pn, pm, pf, pb, px⟩ := id P
  have hk : kHold s p M hh = 3 := by { unfold kHold; rw [if_neg (by omega), if_neg (by omega), if_pos h3] }
  obtain ⟨w1, w2, w3, w4, w5⟩ := price_W B rfl hw
  have bW : (bestW (jrn s) p).1 ≤ 20000 := by { have z := sumI_b (a := 0) (n := (bestW (jrn s) p).2.length) (f := fun k => rA s 25 (pF (bestW (jrn s) p).2 k.toNat)) (M := 5000) (fun k => B.1 25 _ 0 5000 rfl); have y := price_len B rfl hw; omega }
  refine ar_aload_n rfl rfl ?_
  refine ar_bipush (x := 14) rfl rfl ?_
  refine ar_iload rfl rfl ?_
  refine ar_iload rfl rfl ?_
  refine ar_iload rfl rfl ?_
  refine ar_iconst rfl ?_
  refine ar_iconst rfl ?_
  refine ar_iconst rfl ?_
  refine ar_cs8 rfl rfl (Nat.le_of_ble_eq_true rfl) (dx_hold (d := 0) (R := -1000000) I F J (by omega) (by omega) (by omega) hk (by omega) rfl) (by omega) (fun o q226 hq => ?_)
  obtain ⟨rfl, I226, Y226, F226⟩ := hq
  have H226 := LA_CY H Y226
  refine ar_stI12 rfl ?_
  refine ar_iload rfl rfl ?_
  refine ar_iconst rfl ?_
  refine ar_icmp_le rfl rfl (by omega) (by omega) (fun h234 => ?_) (fun hf => by omega)
  refine ar_iload rfl rfl ?_
  refine ar_bipush (x := 72) rfl rfl ?_
  refine ar_icmp_le rfl rfl (by omega) (by omega) (fun h246 => ?_) (fun hf => by omega)
  refine ar_iload rfl rfl ?_
  refine ar_if_lt rfl rfl (by omega) (fun ht => by omega) (fun h256 => ?_)
  refine ar_aload rfl rfl ?_
  refine ar_iconst rfl ?_
  refine ar_ial24 (n := 7) rfl H226 (by omega) rfl (by omega) ?_
  refine ar_bipush (x := 40) rfl rfl ?_
  refine ar_icmp_ne rfl rfl (by omega) (by omega) (fun ht => by omega) (fun h265 => ?_)
  refine ar_ldc (x := -1000000) rfl rfl ?_
  refine ar_goto rfl rfl ?_
  refine ar_stI13 rfl ?_
  refine ar_iload rfl rfl ?_
  refine ar_if_ge rfl rfl (by omega) (fun ht => by omega) (fun h281 => ?_)
  refine ar_iload rfl rfl ?_
  refine ar_iload rfl rfl ?_
  refine ar_icmp_ne rfl rfl (by omega) (by omega) (fun ht => by omega) (fun h288 => ?_)
  refine ar_iconst rfl ?_
  refine ar_goto rfl rfl ?_
  exact ar_iret rfl (Or.inr ⟨rfl, by first | omega | (split <;> omega)⟩) (K _ _ ⟨rfl, s, T, CI_le I226 (by omega), ⟨F226, J, H226, P⟩, S31_CY Y226, rfl⟩)
theorem ih_hD {d e : Nat} {q : am_A} {s : am_Z} {T : am_LT} (I : am_CI e q s) (L : am_LS q s T) {o1 o2 p M : Int} (b1 : 0 ≤ o1 ∧ o1 ≤ 100000) (b2 : 0 ≤ o2 ∧ o2 ≤ 100000) (bp : 1 ≤ p ∧ p ≤ 9) {hh : Int} (bh : 1 ≤ hh ∧ hh ≤ 73) (hM : -1 ≤ M ∧ M ≤ 3) (h7 : hh ≤ 72) (hw : (bestW (jrn s) p).1 ≠ -1) (h44 : rI s 44 ≠ 40) {Q : am_O → am_A → Prop} (K : ∀ o q', am_LR 8 e q s o q' → Q o q') : am_W2 (d + 22) m_L_isHeld 214 [some (aR 8 0), some (aR 24 3), some (aR 24 4), some (aR 24 7), some (aR 24 5), some (aI (zI o1)), some (aI (zI o2)), some (aI (zI p)), some (aI (zI M)), some (aI (zI (bestW (jrn s) p).1)), some (aI (zI (rI s 33))), some (aI (zI hh)), none, none] [] q Q := by
  obtain ⟨F, J, H, P⟩ := L
  have B := CV_B I.1
  have b44 := B.2.1 44 0 40 rfl
  have b61 := B.2.1 61 0 20 rfl
  have b33 := B.2.1 33 0 4 rfl
  obtain ⟨⟨p0, p1, p2, p3, p4, p5, p6⟩, pn, pm, pf, pb, px⟩ := id P
  have hk : kHold s p M hh = 0 := by { unfold kHold; rw [if_neg (by omega), if_neg (by omega), if_neg (by omega)] }
  obtain ⟨s1, R, Q1, B1⟩ := hold_s1 B hw
  obtain ⟨⟨g1, g2, g3⟩, g4, g5, ⟨g6, g7, g8, g9⟩, g10⟩ := hold_N (m := M) (h := hh) J B R Q1 hw
  have J1 := JJ_hold (m := M) (h := hh) J B R Q1 B1 hw bp.1 hM.2
  obtain ⟨w1, w2, w3, w4, w5⟩ := price_W B rfl hw
  have bW : (bestW (jrn s) p).1 ≤ 20000 := by { have z := sumI_b (a := 0) (n := (bestW (jrn s) p).2.length) (f := fun k => rA s 25 (pF (bestW (jrn s) p).2 k.toNat)) (M := 5000) (fun k => B.1 25 _ 0 5000 rfl); have y := price_len B rfl hw; omega }
  refine ar_aload_n rfl rfl ?_
  refine ar_bipush (x := 14) rfl rfl ?_
  refine ar_iload rfl rfl ?_
  refine ar_iload rfl rfl ?_
  refine ar_iload rfl rfl ?_
  refine ar_iconst rfl ?_
  refine ar_iconst rfl ?_
  refine ar_iconst rfl ?_
  refine ar_cs8 rfl rfl (Nat.le_of_ble_eq_true rfl) (dz_hold (d := 0) I F J (by omega) (by omega) (by omega) hk R Q1 B1) (by omega) (fun o q226 hq => ?_)
  obtain ⟨rfl, I226, Y226, F226⟩ := hq
  have H226 := LA_CY H Y226
  generalize bkT (wI (wI s1 74 0) 33 0) p M hh = S1 at *
  refine ar_stI12 rfl ?_
  refine ar_iload rfl rfl ?_
  refine ar_iconst rfl ?_
  refine ar_icmp_le rfl rfl (by omega) (by omega) (fun h234 => ?_) (fun hf => by omega)
  refine ar_iload rfl rfl ?_
  refine ar_bipush (x := 72) rfl rfl ?_
  refine ar_icmp_le rfl rfl (by omega) (by omega) (fun h246 => ?_) (fun hf => by omega)
  refine ar_iload rfl rfl ?_
  refine ar_if_lt rfl rfl (by omega) (fun ht => by omega) (fun h256 => ?_)
  refine ar_aload rfl rfl ?_
  refine ar_iconst rfl ?_
  refine ar_ial24 (n := 7) rfl H226 (by omega) rfl (by omega) ?_
  refine ar_bipush (x := 40) rfl rfl ?_
  refine ar_icmp_ne rfl rfl (by omega) (by omega) (fun h265 => ?_) (fun hf => by omega)
  refine ar_aload rfl rfl ?_
  refine ar_iconst rfl ?_
  refine ar_ial24 (n := 7) rfl H226 (by omega) rfl (by omega) ?_
  rw [p4]
  refine ar_stI13 rfl ?_
  refine ar_iload rfl rfl ?_
  refine ar_if_ge rfl rfl (by omega) (fun h281 => ?_) (fun hf => by omega)
  refine ar_aload_n rfl rfl ?_
  refine ar_iload rfl rfl ?_
  refine ar_iload rfl rfl ?_
  refine ar_ias24 (n := 40) rfl H226 (by omega) rfl (by omega) (fun q302 H302 W302 => ?_)
  refine ar_aload_n rfl rfl ?_
  refine ar_iload rfl rfl ?_
  refine ar_iload rfl rfl ?_
  refine ar_ias24 (n := 40) rfl H302 (by omega) rfl (by omega) (fun q308 H308 W308 => ?_)
  refine ar_aload rfl rfl ?_
  refine ar_iconst rfl ?_
  refine ar_dup2 rfl rfl rfl ?_
  refine ar_ial24 (n := 7) rfl H308 (by omega) rfl (by omega) ?_
  refine ar_iconst rfl ?_
  refine ar_iadd rfl ?_
  refine ar_ias24 (n := 7) rfl H308 (by omega) rfl (by omega) (fun q316 H316 W316 => ?_)
  refine ar_aload rfl rfl ?_
  refine ar_iconst rfl ?_
  refine ar_iconst rfl ?_
  refine ar_ias24 (n := 7) rfl H316 (by omega) rfl (by omega) (fun q321 H321 W321 => ?_)
  have WW := W24_t W302 (W24_t W308 (W24_t W316 W321))
  have I2 := WW.1 _ _ I226
  have F2 := WW.2.1 F226
  refine ar_iload rfl rfl ?_
  refine ar_iload rfl rfl ?_
  refine ar_icmp_ne rfl rfl (by omega) (by omega) (fun ht => by omega) (fun h326 => ?_)
  refine ar_aload_n rfl rfl ?_
  refine ar_iload rfl rfl ?_
  refine ar_cv1 rfl rfl rfl (Nat.le_of_ble_eq_true rfl) (T2_is (cs_booking (d := 0) I2.1 (by omega)) ⟨by omega, by omega⟩) (by omega) (fun o q332 hq => am_B2_is ?_ hq)
  refine ar_bipush (x := 10) rfl rfl ?_
  refine ar_iload rfl rfl ?_
  refine ar_imul rfl ?_
  refine ar_iload rfl rfl ?_
  refine ar_iadd rfl ?_
  refine ar_icmp_ne rfl rfl (by omega) (by omega) (fun ht => by omega) (fun h343 => ?_)
  refine ar_aload_n rfl rfl ?_
  refine ar_cv0 rfl rfl rfl (Nat.le_of_ble_eq_true rfl) (co_dropLegs (d := 0) I2) (by omega) (fun o q347 hq => ?_)
  obtain ⟨o347, -, I347, G347⟩ := hq
  obtain rfl := o347 rfl
  have Y347 := G347.1
  have F347 := DF_FP F2 G347.2
  have H347 := LA_CY H321 Y347
  rw [g2]
  refine ar_if_ne rfl rfl (by omega) (fun ht => by omega) (fun h350 => ?_)
  refine ar_iconst rfl ?_
  refine ar_goto rfl rfl ?_
  exact ar_iret rfl (Or.inr ⟨rfl, by first | omega | (split <;> omega)⟩) (K _ _ ⟨rfl, _, _, CI_le I347 (by omega), ⟨F347, JJ_drop J1, H347, PL_hold (s' := wI S1 33 0) P b44.1 g1 rfl (fun j hj => (if_neg (by omega)).trans (g3 j hj)) g4 g5 g7 g10 (by rw [uT_n (by omega), uT_e, uT_n (by omega), uT_n (by omega), p4]) uT_e (by rw [uT_n (by omega), uT_n (by omega), uT_n (by omega), uT_e]) (by rw [uT_n (by omega), uT_n (by omega), uT_e]) (fun i x h1 h2 h3 => by rw [uT_n (by omega), uT_n (by omega), uT_n (by omega), uT_n (by omega)])⟩, S31_t (S31_CY Y226) (S31_t WW.2.2 (S31_CY Y347)), g3 0 (by omega)⟩)
theorem ih_w {d e : Nat} {q : am_A} {s : am_Z} {T : am_LT} (I : am_CI e q s) (L : am_LS q s T) {o1 o2 p M : Int} (b1 : 0 ≤ o1 ∧ o1 ≤ 100000) (b2 : 0 ≤ o2 ∧ o2 ≤ 100000) (bp : 1 ≤ p ∧ p ≤ 9) (hM : M = 5 ∨ (-1 ≤ M ∧ M ≤ 3)) {Q : am_O → am_A → Prop} (K : ∀ o q', am_LR 8 e q s o q' → Q o q') : am_W2 (d + 22) m_L_isHeld 63 [some (aR 8 0), some (aR 24 3), some (aR 24 4), some (aR 24 7), some (aR 24 5), some (aI (zI o1)), some (aI (zI o2)), some (aI (zI p)), some (aI (zI M)), some (aI (zI (bestW (jrn s) p).1)), some (aI (zI (rI s 33))), none, none, none] [] q Q := by
  rcases hM with hM | hM
  · exact ih_wA I L b1 b2 bp hM K
  · by_cases h3 : rI s 33 = 0
    · exact ih_wB I L b1 b2 bp hM (Or.inl h3) h3 K
    · by_cases h6 : rI s 61 = 20
      · exact ih_wB2 I L b1 b2 bp hM (Or.inr h6) h3 K
      · exact ih_wC I L b1 b2 bp hM h3 h6 K
theorem ih_h {d e : Nat} {q : am_A} {s : am_Z} {T : am_LT} (I : am_CI e q s) (L : am_LS q s T) {o1 o2 p M : Int} (b1 : 0 ≤ o1 ∧ o1 ≤ 100000) (b2 : 0 ≤ o2 ∧ o2 ≤ 100000) (bp : 1 ≤ p ∧ p ≤ 9) {hh : Int} (bh : 1 ≤ hh ∧ hh ≤ 73) (hM : M = 5 ∨ (-1 ≤ M ∧ M ≤ 3)) {Q : am_O → am_A → Prop} (K : ∀ o q', am_LR 8 e q s o q' → Q o q') : am_W2 (d + 22) m_L_isHeld 214 [some (aR 8 0), some (aR 24 3), some (aR 24 4), some (aR 24 7), some (aR 24 5), some (aI (zI o1)), some (aI (zI o2)), some (aI (zI p)), some (aI (zI M)), some (aI (zI (bestW (jrn s) p).1)), some (aI (zI (rI s 33))), some (aI (zI hh)), none, none] [] q Q := by
  rcases hM with hM | hM
  · exact ih_hA I L b1 b2 bp bh hM K
  · by_cases h7 : 72 < hh
    · exact ih_hB I L b1 b2 bp bh hM h7 K
    · by_cases hw : (bestW (jrn s) p).1 = -1
      · exact ih_hC I L b1 b2 bp bh hM (by omega) (Or.inl hw) hw K
      · by_cases h4 : rI s 44 = 40
        · exact ih_hC2 I L b1 b2 bp bh hM (by omega) (Or.inr h4) hw K
        · exact ih_hD I L b1 b2 bp bh hM (by omega) hw h4 K
theorem cs_isHeld {d : Nat} {q : am_A} {e : Nat} {s : am_Z} {T : am_LT} (I : am_CI e q s) (L : am_LS q s T) {o1 o2 : Int} (b1 : 0 ≤ o1 ∧ o1 ≤ 100000) (b2 : 0 ≤ o2 ∧ o2 ≤ 100000)  : am_C2 (d + 22) m_L_isHeld [aR 8 0, aR 24 3, aR 24 4, aR 24 7, aR 24 5, aI (zI o1), aI (zI o2)] q (am_LR 10 e q s) := by
  refine am_C2_i (ls := [some (aR 8 0), some (aR 24 3), some (aR 24 4), some (aR 24 7), some (aR 24 5), some (aI (zI o1)), some (aI (zI o2)), none, none, none, none, none, none, none]) rfl ?_
  obtain ⟨F, J, H, P⟩ := L
  have B := CV_B I.1
  have b44 := B.2.1 44 0 40 rfl
  have b61 := B.2.1 61 0 20 rfl
  have b33 := B.2.1 33 0 4 rfl
  obtain ⟨⟨p0, p1, p2, p3, p4, p5, p6⟩, pn, pm, pf, pb, px⟩ := id P
  have hk : kMany (1 + o1 % 4) = 0 := if_pos (by omega)
  refine ar_iconst rfl ?_
  refine ar_iload rfl rfl ?_
  refine ar_iconst rfl ?_
  refine ar_irem rfl (by omega) (by omega) ?_
  refine ar_iadd rfl ?_
  refine ar_stI7 rfl ?_
  refine cq_join (pc' := 40) (V := if o2 % 7 = 6 then 5 else if 3 < o2 % 7 then -1 else o2 % 7) ?_ (fun K40 => ?_)
  · have hM : (if o2 % 7 = 6 then 5 else if 3 < o2 % 7 then -1 else o2 % 7) = 5 ∨ (-1 ≤ (if o2 % 7 = 6 then 5 else if 3 < o2 % 7 then -1 else o2 % 7) ∧ (if o2 % 7 = 6 then 5 else if 3 < o2 % 7 then -1 else o2 % 7) ≤ 3) := by { by_cases z1 : o2 % 7 = 6; rw [if_pos z1]; exact Or.inl rfl; rw [if_neg z1]; by_cases z2 : 3 < o2 % 7; rw [if_pos z2]; omega; rw [if_neg z2]; omega }
    generalize (if o2 % 7 = 6 then 5 else if 3 < o2 % 7 then -1 else o2 % 7) = M at hM ⊢
    refine ar_stI8 rfl ?_
    refine ar_aload_n rfl rfl ?_
    refine ar_iload rfl rfl ?_
    refine ar_cv1 rfl rfl rfl (Nat.le_of_ble_eq_true rfl) (cs_price (d := 0) I (by omega)) (by omega) (fun o q45 hq => ?_)
    rw [hk] at hq
    obtain ⟨o45, -, I45, G45⟩ := hq
    obtain rfl := o45 rfl
    have Y45 := G45.1
    have F45 := DF_FP F G45.2
    have H45 := LA_CY H Y45
    refine ar_stI9 rfl ?_
    refine ar_aload rfl rfl ?_
    refine ar_iconst rfl ?_
    refine ar_ial24 (n := 7) rfl H45 (by omega) rfl (by omega) ?_
    rw [p3]
    refine ar_stI10 rfl ?_
    refine ar_iload rfl rfl ?_
    refine ar_iconst rfl ?_
    refine ar_irem rfl (by omega) (by omega) ?_
    refine ar_if_ne rfl rfl (by omega) (fun h60 => ?_) (fun h60 => ?_)
    · refine cq_join (pc' := 212) (V := if o1 % 30 = 1 then 73 else 1 + o2 / 7 % 72) ?_ (fun K212 => ?_)
      · refine ar_stI11 rfl ?_
        exact ih_h (d := d) I45 ⟨F45, J, H45, P⟩ b1 b2 (by omega) (by split <;> omega) hM (fun o q2 h => by { obtain ⟨z1, s2, T2, z2, z3, z4, z5⟩ := h; exact ⟨z1, s2, T2, CI_le z2 (by omega), z3, S31_t (S31_CY Y45) z4, z5⟩ })
      · refine ar_iload rfl rfl ?_
        refine ar_bipush (x := 30) rfl rfl ?_
        refine ar_irem rfl (by omega) (by omega) ?_
        refine ar_iconst rfl ?_
        refine ar_icmp_ne rfl rfl (by omega) (by omega) (fun h194 => ?_) (fun h194 => ?_)
        · refine ar_iconst rfl ?_
          refine ar_iload rfl rfl ?_
          refine ar_bipush (x := 7) rfl rfl ?_
          refine ar_idiv rfl (by omega) (by omega) ?_
          refine ar_bipush (x := 72) rfl rfl ?_
          refine ar_irem rfl (by omega) (by omega) ?_
          refine ar_iadd rfl ?_
          exact K212 _ (by first | rw [if_pos (by omega)] | rw [if_neg (by omega)])
        · refine ar_bipush (x := 73) rfl rfl ?_
          refine ar_goto rfl rfl ?_
          exact K212 _ (by first | rw [if_pos (by omega)] | rw [if_neg (by omega)])
    · exact ih_w (d := d) I45 ⟨F45, J, H45, P⟩ b1 b2 (by omega) hM (fun o q2 h => by { obtain ⟨z1, s2, T2, z2, z3, z4, z5⟩ := h; exact ⟨z1, s2, T2, CI_le z2 (by omega), z3, S31_t (S31_CY Y45) z4, z5⟩ })
  · refine ar_iload rfl rfl ?_
    refine ar_bipush (x := 7) rfl rfl ?_
    refine ar_irem rfl (by omega) (by omega) ?_
    refine ar_bipush (x := 6) rfl rfl ?_
    refine ar_icmp_ne rfl rfl (by omega) (by omega) (fun h15 => ?_) (fun h15 => ?_)
    · refine ar_iload rfl rfl ?_
      refine ar_bipush (x := 7) rfl rfl ?_
      refine ar_irem rfl (by omega) (by omega) ?_
      refine ar_iconst rfl ?_
      refine ar_icmp_le rfl rfl (by omega) (by omega) (fun h28 => ?_) (fun h28 => ?_)
      · refine ar_iload rfl rfl ?_
        refine ar_bipush (x := 7) rfl rfl ?_
        refine ar_irem rfl (by omega) (by omega) ?_
        exact K40 _ (by first | rw [if_pos (by omega)] | rw [if_neg (by omega), if_pos (by omega)] | rw [if_neg (by omega), if_neg (by omega)])
      · refine ar_iconst rfl ?_
        refine ar_goto rfl rfl ?_
        exact K40 _ (by first | rw [if_pos (by omega)] | rw [if_neg (by omega), if_pos (by omega)] | rw [if_neg (by omega), if_neg (by omega)])
    · refine ar_iconst rfl ?_
      refine ar_goto rfl rfl ?_
      exact K40 _ (by first | rw [if_pos (by omega)] | rw [if_neg (by omega), if_pos (by omega)] | rw [if_neg (by omega), if_neg (by omega)])
end

noncomputable section
/-- all that is asked of the state -/
def am_JJ (s : am_Z) : Prop := am_INV s ∧ am_JA s ∧ am_JG s
section JJS
variable {s s1 s2 : am_Z} {n : Int}
theorem gone_all (m : ∀ j x, (j = 1 ∨ j = 5 ∨ j = 7 ∨ j = 17 ∨ j = 18) → rA s1 j x = rA s j x) (n0 : rI s1 0 = rI s 0) (l : Int) : l / 100 < rI s 3 → goneP s l → goneP s1 l := fun _ g => gone_m m (Int.le_of_eq n0.symm) g
theorem JG_cg (G : am_JG s) (m : ∀ j x, (j = 1 ∨ j = 5 ∨ j = 7 ∨ j = 17 ∨ j = 18 ∨ j = 53 ∨ j = 55) → rA s1 j x = rA s j x) (n0 : rI s1 0 = rI s 0) (n3 : rI s1 3 = rI s 3) : am_JG s1 := JG_w G (fun x => m 53 x (by omega)) (fun x => Or.inl (m 55 x (by omega))) (by omega) (gone_all (fun j x h => m j x (by omega)) n0)
theorem JA_drop (J : am_JA s) : am_JA (wI s 33 0) := by
  refine JA_w J rfl (Int.le_refl _) (fun _ _ _ => rfl) (fun _ _ => ⟨rfl, rfl⟩) (fun _ => Or.inl rfl) (fun b k h1 h2 h3 h4 h5 => ((J.1 b h1 h2).2.2 k h3 h4).2.1 h5) J.2.2.1 ⟨fun i h1 h2 => ?_, J.2.2.2.2⟩
  have h2' : i < 0 := h2
  omega
theorem JJ_drop (J : am_JJ s) : am_JJ (wI s 33 0) := ⟨INV_drop J.1, JA_drop J.2.1, JG_cg J.2.2 (fun _ _ _ => rfl) rfl rfl⟩
theorem JA_BR (J : am_JA s) (R : am_BR s s1) : am_JA s1 := JA_cg J (fun j x h => R.1 j x (scr_o (by omega))) (fun j h => R.2 j (by omega) (by omega))
theorem JG_BR (J : am_JG s) (R : am_BR s s1) : am_JG s1 := by
  refine JG_cg J (fun j x h => R.1 j x ?_) (R.2 0 (by omega) (by omega)) (R.2 3 (by omega) (by omega))
  have e : j = 1 ∨ j = 5 ∨ j = 7 ∨ j = 17 ∨ j = 18 ∨ j = 53 ∨ j = 55 := h
  rcases e with rfl | rfl | rfl | rfl | rfl | rfl | rfl <;> rfl
theorem JJ_jrn (J : am_JJ s) : am_JJ (jrn s) := ⟨INV_J J.1, JA_cg J.2.1 (fun j x h => jr_A (by omega)) (fun j h => jr_I (by omega)), JG_cg J.2.2 (fun j x h => jr_A (by omega)) (jr_I (by omega)) (jr_I (by omega))⟩
/-- the state behind hold -/
theorem JJ_hold {m h : Int} (J : am_JJ s) (B : in_S s) (R : am_BR (jrn s) s1) (Q : am_WQ s1 (bestW (jrn s) n)) (B1 : in_S s1) (hne : (bestW (jrn s) n).1 ≠ -1) (bn : 1 ≤ n) (bm : m ≤ 3) : am_JJ (bkT (wI (wI s1 74 0) 33 0) n m h) := by
  have BJ := jrn_in B
  have hok := bestW_ok BJ n hne
  have h1 := best_pos hne
  have b33 := B.2.1 33 0 4 rfl
  have e35 : rI (jrn s) 35 = rI s 33 := rfl
  have JJ1 := JJ_jrn J
  have J1 : am_JA (wI (wI s1 74 0) 33 0) := JA_drop (s := wI s1 74 0) (JA_cg (JA_BR JJ1.2.1 R) (fun _ _ _ => rfl) (fun j h => if_neg (by omega)))
  have G1 : am_JG (wI (wI s1 74 0) 33 0) := JG_cg (JG_BR JJ1.2.2 R) (fun _ _ _ => rfl) rfl rfl
  have I1 : am_INV (wI (wI s1 74 0) 33 0) := INV_drop (INV_I (INV_BR JJ1.1 R) (by omega))
  have B2 : in_S (wI (wI s1 74 0) 33 0) := in_S_I (in_S_I B1 (fun lo hi z => by cases z; omega)) (fun lo hi z => by cases z; omega)
  have Q2 : am_WQ (wI (wI s1 74 0) 33 0) (bestW (jrn s) n) := WQ_I (WQ_I Q ⟨by omega, by omega⟩) ⟨by omega, by omega⟩
  have f35 : rI (wI (wI s1 74 0) 33 0) 35 = rI s 33 := R.2 35 (by omega) (by omega)
  refine ⟨INV_hold J.1 B R Q B1 hne bn, JA_bkT J1 B2 I1.2.1.1 Q2 hok.1 (hok.2.1.trans e35) f35 (by omega) bm (fun i i1 i2 => ?_), JG_bkT G1 Q2 hok.1 (hok.2.1.trans e35)⟩
  show rA s1 36 i / 100 < rI s1 3
  rw [R.1 36 _ (scr_o (by omega)), jr_J s i i1 (by omega), R.2 3 (by omega) (by omega)]
  exact J.2.1.2.2.2.1 i i1 i2
/-- what clearing leaves as it is, and what it makes -/
def cW1 (s : am_Z) (w : Int) : Int := if rA s 66 w = -1 then 1 else 0
def cW (s : am_Z) : Int := sumI 0 (rI s 61).toNat (cW1 s)
def am_ClQ (s s2 : am_Z) (n v : Int) : Prop := rI s 44 ≤ rI s2 44 ∧ v - n = rI s2 44 - rI s 44 ∧ v + cW s2 = n + cW s ∧ (∀ j, (j = 0 ∨ j = 3 ∨ j = 20 ∨ j = 33 ∨ j = 61 ∨ j = 68) → rI s2 j = rI s j) ∧ (∀ j x, (j ≤ 14 ∨ j = 25 ∨ j = 63) → rA s2 j x = rA s j x) ∧ (∀ b : Int, 0 ≤ b → b < rI s 44 → rA s2 46 b = rA s 46 b ∧ rA s2 47 b = rA s 47 b ∧ sumI (4 * b) 4 (rA s2 59) = sumI (4 * b) 4 (rA s 59)) ∧ (∀ b : Int, rI s 44 ≤ b → b < rI s2 44 → rA s2 47 b = 0 ∧ ∃ w : Int, 0 ≤ w ∧ w < rI s 61 ∧ rA s2 66 w = b) ∧ ∀ w, rA s 66 w ≠ -1 → rA s2 66 w = rA s 66 w
theorem ClQ_r : am_ClQ s s n n := ⟨Int.le_refl _, by omega, rfl, fun _ _ => rfl, fun _ _ _ => rfl, fun _ _ _ => ⟨rfl, rfl, rfl⟩, fun b h1 h2 => absurd h2 (by omega), fun _ _ => rfl⟩
theorem ClQ_t {m v : Int} (h0 : 0 ≤ rI s 44) (a : am_ClQ s s1 n m) (b : am_ClQ s1 s2 m v) : am_ClQ s s2 n v := by
  obtain ⟨a1, a2, a3, a4, a5, a6, a7, a8⟩ := a
  obtain ⟨b1, b2, b3, b4, b5, b6, b7, b8⟩ := b
  have e61 := a4 61 (by omega)
  refine ⟨by omega, by omega, by omega, fun j h => (b4 j h).trans (a4 j h), fun j x h => (b5 j x h).trans (a5 j x h), fun c c1 c2 => ?_, fun c c1 c2 => ?_, fun w hw => ?_⟩
  · have y := a6 c c1 c2
    have z := b6 c c1 (by omega)
    exact ⟨z.1.trans y.1, z.2.1.trans y.2.1, z.2.2.trans y.2.2⟩
  · by_cases e : c < rI s1 44
    · obtain ⟨y1, w, w1, w2, w3⟩ := a7 c c1 e
      exact ⟨(b6 c (by omega) e).2.1.trans y1, w, w1, w2, (b8 w (by omega)).trans w3⟩
    · obtain ⟨y1, w, w1, w2, w3⟩ := b7 c (by omega) c2
      exact ⟨y1, w, w1, by omega, w3⟩
  · have y := a8 w hw
    exact (b8 w (by omega)).trans y
theorem ClQ_o (m : ∀ j x, (j < 36 ∨ 43 < j) → j ≠ 67 → rA s1 j x = rA s j x) (k : ∀ j, j ≠ 35 → j ≠ 37 → j ≠ 38 → rI s1 j = rI s j) : am_ClQ s s1 n n := by
  have e66 : cW1 s1 = cW1 s := funext (fun w => by unfold cW1; rw [m 66 _ (by omega) (by omega)])
  refine ⟨by rw [k 44 (by omega) (by omega) (by omega)]; exact Int.le_refl _, by rw [k 44 (by omega) (by omega) (by omega)]; omega, by unfold cW; rw [k 61 (by omega) (by omega) (by omega), e66], fun j h => k j (by omega) (by omega) (by omega), fun j x h => m j x (by omega) (by omega), fun b _ _ => ⟨m 46 _ (by omega) (by omega), m 47 _ (by omega) (by omega), sumI_c (fun x _ _ => m 59 x (by omega) (by omega))⟩, fun b h1 h2 => absurd h2 (by rw [k 44 (by omega) (by omega) (by omega)]; omega), fun w _ => m 66 _ (by omega) (by omega)⟩
theorem ClQ_b {W : am_wQ} {p mb hh w L : Int} (Q : am_WQ s W) (hok : okP W.2) (hl : pLen W.2 = L) (V4 : am_V4 s) (h0 : 0 ≤ rI s 44) (e35 : rI s 35 = L) (hw : 0 ≤ w ∧ w < rI s 61) (h66 : rA s 66 w = -1) : am_ClQ s (wA (bkT s p mb hh) 66 w (rI s 44)) n (n + 1) := by
  have wq := wq_S Q hok hl
  have hS : ∀ i : Nat, (i : Int) < rI s 38 → 0 ≤ sumI 0 i (rA s 39) := fun i hi => (wq.2.1 i hi).1
  have t := (bkT_n (p := p) (mb := mb) (hh := hh) Q hok hl V4 h0 e35).1
  have n44 : rI (wA (bkT s p mb hh) 66 w (rI s 44)) 44 = rI s 44 + 1 := (bkT_I 44).trans (if_pos rfl)
  have un : ∀ j, j ≠ 44 → rI (wA (bkT s p mb hh) 66 w (rI s 44)) j = rI s j := fun j h => (bkT_I j).trans (if_neg h)
  have u0 : ∀ j x, j ≠ 66 → (j < 45 ∨ 60 < j) → rA (wA (bkT s p mb hh) 66 w (rI s 44)) j x = rA s j x := fun j x h1 h => (wA_ne h1).trans (bkT_U hS (Or.inl h))
  have e66 : ∀ x, rA (wA (bkT s p mb hh) 66 w (rI s 44)) 66 x = if x = w then rI s 44 else rA s 66 x := fun x => by
    rw [wA_A]
    by_cases e : x = w
    · rw [if_pos ⟨rfl, e⟩, if_pos e]
    · rw [if_neg (fun z => e z.2), if_neg e]
      exact bkT_U hS (Or.inl (by omega))
  refine ⟨by omega, by omega, ?_, fun j h => un j (by omega), fun j x h => u0 j x (by omega) (by omega), fun b h1 h2 => ⟨(wA_ne (by omega)).trans (bkT_U hS (Or.inr (Or.inl ⟨by omega, by omega, by omega⟩))), (wA_ne (by omega)).trans (bkT_U hS (Or.inr (Or.inl ⟨by omega, by omega, by omega⟩))), sumI_c (fun x x1 x2 => (wA_ne (by omega)).trans (bkT_U hS (Or.inr (Or.inr (Or.inr ⟨Or.inl rfl, by omega⟩)))))⟩, fun b h1 h2 => ⟨?_, w, hw.1, hw.2, ?_⟩, fun x hx => ?_⟩
  · unfold cW
    rw [un 61 (by omega)]
    rw [sumI_upd (a := 0) (n := (rI s 61).toNat) (f := cW1 s) (g := cW1 (wA (bkT s p mb hh) 66 w (rI s 44))) (i0 := w) (by omega) (fun i hi => by unfold cW1; rw [e66, if_neg hi])]
    have a1 : cW1 s w = 1 := if_pos h66
    have a2 : cW1 (wA (bkT s p mb hh) 66 w (rI s 44)) w = 0 := if_neg (by rw [e66, if_pos rfl]; omega)
    omega
  · rw [show b = rI s 44 by omega, wA_ne (by omega)]
    exact t.2.2.1
  · rw [e66, if_pos rfl]
    omega
  · rw [e66, if_neg (fun z => hx (by rw [z]; exact h66))]
theorem clQ_J : ∀ (F : Nat) (s : am_Z) (n : Int) (s2 : am_Z) (v : Int), clQ F s n s2 v → am_JJ s → in_S s → am_JJ s2 ∧ am_ClQ s s2 n v := by
  intro F
  induction F with
  | zero => intro s n s2 v h; exact False.elim h
  | succ F ih =>
    intro s n s2 v h J B
    have b61 := B.2.1 61 0 20 rfl
    have b44 := B.2.1 44 0 40 rfl
    rcases h with ⟨c, rfl, rfl⟩ | ⟨c, s3, B3, R3, Q3, alt⟩
    · exact ⟨J, ClQ_r⟩
    · have hb : -1 ≤ nwS s ∧ nwS s < ((rI s 61).toNat : Int) := nwN_b s (rI s 61).toNat
      have c1 : nwS s ≠ -1 := c.1
      have hw0 := nwN_w (s := s) (n := (rI s 61).toNat) c1
      have h66 : rA s 66 (nwS s) = -1 := hw0.1.1
      have ew : (((nwS s).toNat : Nat) : Int) = nwS s := by omega
      have y := BR_jw R3
      have y1 := y.1
      have I3 : am_INV s3 := INV_BR (INV_cg (s' := jw s (nwS s)) J.1 (fun j x h => (if_neg (fun z => by have := z.1; omega)).trans (if_neg (fun z => by have := z.1; omega))) (fun j h => if_neg (by omega))) R3
      have J3 : am_JA s3 := JA_cg J.2.1 (fun j x h => y1 j x (by omega) (by omega)) (fun j h => y.2.2 j (by omega) (by omega) (by omega))
      have G3 : am_JG s3 := JG_cg J.2.2 (fun j x h => y1 j x (by omega) (by omega)) (y.2.2 0 (by omega) (by omega) (by omega)) (y.2.2 3 (by omega) (by omega) (by omega))
      have C3 : am_ClQ s s3 n n := ClQ_o y1 y.2.2
      have e44 : rI s3 44 = rI s 44 := y.2.2 44 (by omega) (by omega) (by omega)
      have e61 : rI s3 61 = rI s 61 := y.2.2 61 (by omega) (by omega) (by omega)
      have e3 : rI s3 3 = rI s 3 := y.2.2 3 (by omega) (by omega) (by omega)
      rcases alt with alt | alt
      · have z := ih s3 n s2 v alt.2 ⟨I3, J3, G3⟩ B3
        exact ⟨z.1, ClQ_t b44.1 C3 z.2⟩
      · have hok := bestW_ok (jw_in B (nwS s)) (rA s 62 (nwS s)) alt.1
        have h1 := best_pos alt.1
        have e35 : rI (jw s (nwS s)) 35 = rA s 64 (nwS s) := rfl
        have f35 : rI s3 35 = rA s 64 (nwS s) := (R3.2 35 (by omega) (by omega)).trans e35
        have b64 := B.1 64 (nwS s) 0 4 rfl
        have b62 := B.1 62 (nwS s) 0 9 rfl
        have b63 := B.1 63 (nwS s) (-1) 4 rfl
        have wo := J.1.2.2.1 (nwS s).toNat (by omega)
        rw [ew] at wo
        have hl := hok.2.1.trans e35
        have w := wq_S Q3 hok.1 hl
        have h38 := Q3.2.1
        have ej : ∀ k, 0 ≤ k → k < rA s 64 (nwS s) → rA s3 36 k = rA s 65 (4 * nwS s + k) := fun k k1 k2 => (R3.1 36 k (scr_o (by omega))).trans (if_pos ⟨rfl, k1, by omega⟩)
        have IT := INV_bkT (p := rA s 62 (nwS s)) (mb := rA s 63 (nwS s)) (hh := 24) I3 B3 Q3 hok.1 hl f35 (by omega) (hok.2.2.trans (pSum_BR R3 _).symm) wo.2 (fun i j i1 i2 i3 => by
          rw [ej i i1 (by omega), ej j (by omega) i3]
          have z := J.1.2.2.2.2 (nwS s).toNat (by omega) i j i1 i2 (by rw [ew]; exact i3)
          rw [ew] at z
          exact z)
        have jw := J.2.1.2.2.1 (nwS s) (by omega) (by omega)
        have JT : am_JA (bkT s3 (rA s 62 (nwS s)) (rA s 63 (nwS s)) 24) := JA_bkT J3 B3 I3.2.1.1 Q3 hok.1 hl f35 (by omega) jw.1 (fun i i1 i2 => by
          rw [ej i i1 i2, e3]
          exact J.2.1.2.2.2.2 (nwS s) i (by omega) (by omega) i1 i2)
        have GT : am_JG (bkT s3 (rA s 62 (nwS s)) (rA s 63 (nwS s)) 24) := JG_bkT G3 Q3 hok.1 hl
        have BT : in_S (bkT s3 (rA s 62 (nwS s)) (rA s 63 (nwS s)) 24) := bkT_B B3 (by omega) (by omega) (by omega) (by omega) w.1 (fun i hi => by have := w.2.1 i hi; omega)
        have tn := (bkT_n (p := rA s 62 (nwS s)) (mb := rA s 63 (nwS s)) (hh := 24) Q3 hok.1 hl I3.2.1.1 (by omega) f35).1
        have n44 : rI (bkT s3 (rA s 62 (nwS s)) (rA s 63 (nwS s)) 24) 44 = rI s3 44 + 1 := (bkT_I 44).trans (if_pos rfl)
        have n61 : rI (bkT s3 (rA s 62 (nwS s)) (rA s 63 (nwS s)) 24) 61 = rI s3 61 := (bkT_I 61).trans (if_neg (by omega))
        have JU : am_JA (wA (bkT s3 (rA s 62 (nwS s)) (rA s 63 (nwS s)) 24) 66 (nwS s) (rI s 44)) := by
          refine JA_w JT rfl (Int.le_refl _) (fun j x h => wA_ne (by omega)) (fun f _ => ⟨rfl, rfl⟩) (fun _ => Or.inl rfl) (fun b k h1 h2 h3 h4 h5 => ((JT.1 b h1 h2).2.2 k h3 h4).2.1 h5) (fun x x1 x2 => ?_) JT.2.2.2
          have z := JT.2.2.1 x x1 x2
          rw [wA_ne (by omega), wA_A]
          by_cases e : x = nwS s
          · rw [if_pos ⟨rfl, e⟩]
            refine ⟨z.1, Or.inr ⟨b44.1, ?_, ?_⟩⟩
            · show rI s 44 < rI (bkT s3 (rA s 62 (nwS s)) (rA s 63 (nwS s)) 24) 44
              omega
            · rw [wA_ne (by omega), e, ← e44, tn.2.1]
              exact ((bkT_U (fun i hi => (w.2.1 i hi).1) (Or.inl (by omega))).trans (y1 63 _ (by omega) (by omega))).symm
          · rw [if_neg (fun q => e q.2)]
            exact z
        have z := ih (wA (bkT s3 (rA s 62 (nwS s)) (rA s 63 (nwS s)) 24) 66 (nwS s) (rI s 44)) (n + 1) s2 v alt.2 ⟨INV_A IT (by omega), JU, JG_cg GT (fun j x h => wA_ne (by omega)) rfl rfl⟩ (in_S_A BT (fun lo hi z => by cases z; omega) (fun z => by cases z))
        have C4 := ClQ_b (n := n) (p := rA s 62 (nwS s)) (mb := rA s 63 (nwS s)) (hh := 24) (w := nwS s) Q3 hok.1 hl I3.2.1.1 (by omega) f35 (by omega) ((y1 66 _ (by omega) (by omega)).trans h66)
        rw [e44] at C4
        exact ⟨z.1, ClQ_t b44.1 C3 (ClQ_t (by omega) C4 z.2)⟩
end JJS
end

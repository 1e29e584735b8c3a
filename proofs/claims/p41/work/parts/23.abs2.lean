noncomputable section
section STORE2
variable {d y pc p t : Nat} {ls : List (Option am_V)} {st : List am_V} {q : am_A} {h : am_H} {Q : am_O → am_A → Prop}
theorem am_Re_FI {f : Nat} {r : am_R} {v : Int} (R : am_Re q h) (h10 : f / 100 ≠ 10) : am_Re (uFI q f r v) (sFI h f r (zI v)) := by
  obtain ⟨r1, r2, r3, r4, r5, r6, r7, r8, r9, r10, r11, r12⟩ := R
  refine ⟨fun f' r' h' => ?_, r2, r3, r4, r5, r6, r7, r8, fun r' hl => ?_, r10, r11, r12⟩
  · show am_u2 (hFI h) f r (zI v) f' r' = zI (am_u2 (qFI q) f r v f' r')
    unfold am_u2
    split
    · rfl
    · exact r1 f' r' h'
  · obtain ⟨x, y, a1, a2, a3⟩ := r9 r' hl
    refine ⟨x, y, a1, ?_, a3⟩
    show am_u2 (hFI h) f r (zI v) 1002 r' = _
    unfold am_u2
    rw [if_neg (fun e => h10 (by rw [← e.1]))]
    exact a2
theorem am_Re_FR {f : Nat} {r : am_R} {v : Option am_R} (R : am_Re q h) (h10 : f / 100 ≠ 10) : am_Re (uFR q f r v) (sFR h f r v) := by
  obtain ⟨r1, r2, r3, r4, r5, r6, r7, r8, r9, r10, r11, r12⟩ := R
  have e1 : ∀ r', hFR (sFR h f r v) 1001 r' = hFR h 1001 r' := by
    intro r'
    show am_u2 (hFR h) f r v 1001 r' = _
    unfold am_u2
    rw [if_neg (fun e => h10 (by rw [← e.1]))]
  refine ⟨r1, fun f' r' h' => ?_, r3, r4, r5, r6, r7, r8, fun r' hl => ?_, fun r' r'' y hl hl' h1 h2 => r10 r' r'' y hl hl' ((e1 r').symm.trans h1) ((e1 r'').symm.trans h2), r11, r12⟩
  · show am_u2 (hFR h) f r v f' r' = am_u2 (qFR q) f r v f' r'
    unfold am_u2
    split
    · rfl
    · exact r2 f' r' h'
  · obtain ⟨x, y, a1, a3⟩ := r9 r' hl
    exact ⟨x, y, (e1 r').trans a1, a3⟩
theorem am_Re_AI {r : am_R} {k : Nat} {v : Int} (R : am_Re q h) : am_Re (uAI q r k v) (sAI h r k (zI v)) := by
  obtain ⟨r1, r2, r3, r4⟩ := R
  refine ⟨r1, r2, fun r' j h' => ?_, r4⟩
  show am_u2 (hAI h) r k (zI v) r' j = zI (am_u2 (qAI q) r k v r' j)
  unfold am_u2
  split
  · rfl
  · exact r3 r' j h'
theorem am_Re_AR {r : am_R} {k : Nat} {v : Option am_R} (R : am_Re q h) (h30 : r.1 ≠ 30) (h32 : r.1 ≠ 32) : am_Re (uAR q r k v) (sAR h r k v) := by
  obtain ⟨r1, r2, r3, r4, r5, r6, r7, r8, r9, r10, r11⟩ := R
  refine ⟨r1, r2, r3, fun r' j h' => ?_, r5, r6, r7, r8, fun r' hl => ?_, r10, r11⟩
  · show am_u2 (hAR h) r k v r' j = am_u2 (qAR q) r k v r' j
    unfold am_u2
    split
    · rfl
    · exact r4 r' j h'
  · obtain ⟨x, y, a1, a2, a3, a4, a5, a6, a7⟩ := r9 r' hl
    refine ⟨x, y, a1, a2, a3, a4, a5, fun i w hw => ?_, a7⟩
    show am_u2 (hAR h) r k v (x, y) i = _
    unfold am_u2
    rw [if_neg]
    · exact a6 i w hw
    · rintro ⟨e, -⟩
      rcases a7 with ⟨e2, -⟩ | ⟨e2, -⟩
      · exact h32 (by rw [← e]; exact e2)
      · exact h30 (by rw [← e]; exact e2)
theorem am_Re_AJ {r : am_R} {k : Nat} {v : Int64} (R : am_Re q h) : am_Re (uAJ q r k v) (sAJ h r k v) := by
  obtain ⟨r1, r2, r3, r4, r5, r6⟩ := R
  refine ⟨r1, r2, r3, r4, fun r' j h' => ?_, r6⟩
  show am_u2 (hAJ h) r k v r' j = am_u2 (qAJ q) r k v r' j
  unfold am_u2
  split
  · rfl
  · exact r5 r' j h'
theorem am_Re_AD {r : am_R} {k : Nat} {v : UInt64} (R : am_Re q h) : am_Re (uAD q r k v) (sAD h r k v) := by
  obtain ⟨r1, r2, r3, r4, r5, r6, r7⟩ := R
  refine ⟨r1, r2, r3, r4, r5, fun r' j h' => ?_, r7⟩
  show am_u2 (hAD h) r k v r' j = am_u2 (qAD q) r k v r' j
  unfold am_u2
  split
  · rfl
  · exact r6 r' j h'
theorem ar_pfI {f ci kt n : Nat} {v : Int} (hc : am_pf y pc = some (f, ci, p)) (hk : am_kc kt = some ci) (hr : am_fr f = false) (hw : am_wr y f ci = true) (h10 : f / 100 ≠ 10) (hb : am_fb f = false ∨ v = 0 ∨ v = 1) (k : am_W2 d y p ls st (uFI q f (kt, n) v) Q) : am_W2 d y pc ls (aI (zI v) :: aR kt n :: st) q Q := fun h R => s_pfI hc hk hr hw (hb.imp id (fun b => b.imp (fun e => by rw [e]; rfl) (fun e => by rw [e]; rfl))) (k _ (am_Re_FI R h10))
theorem ar_pfR {f ci kt n : Nat} {v : Option am_R} (hc : am_pf y pc = some (f, ci, p)) (hk : am_kc kt = some ci) (hr : am_fr f = true) (hw : am_wr y f ci = true) (h10 : f / 100 ≠ 10) (k : am_W2 d y p ls st (uFR q f (kt, n) v) Q) : am_W2 d y pc ls (aO v :: aR kt n :: st) q Q := fun h R => s_pfR hc hk hr hw (k _ (am_Re_FR R h10))
theorem ar_iastore {kt n j : Nat} {i v : Int} (hc : am_c y pc = some (.iastore, p)) (hk : am_ka kt = some 0 ∧ ¬ kt = 31) (hi : i = (j : Int)) (hj : j < qAL q (kt, n)) (hn : qAL q (kt, n) < 2147483648) (k : am_W2 d y p ls st (uAI q (kt, n) j v) Q) : am_W2 d y pc ls (aI (zI v) :: aI (zI i) :: aR kt n :: st) q Q := fun h R => s_iastore hc hk (by rw [zI_toInt (by unfold in32; omega), hi]) (by rw [R.2.2.2.2.2.2.1 _ (by intro e; subst e; cases hk.1)]; exact hj) (k _ (am_Re_AI R))
theorem ar_bastore {kt n j : Nat} {i v : Int} (hc : am_c y pc = some (.bastore, p)) (hk : am_ka kt = some 1) (hv : v = 0 ∨ v = 1) (hi : i = (j : Int)) (hj : j < qAL q (kt, n)) (hn : qAL q (kt, n) < 2147483648) (k : am_W2 d y p ls st (uAI q (kt, n) j v) Q) : am_W2 d y pc ls (aI (zI v) :: aI (zI i) :: aR kt n :: st) q Q := fun h R => s_bastore hc hk (hv.imp (fun e => by rw [e]; rfl) (fun e => by rw [e]; rfl)) (by rw [zI_toInt (by unfold in32; omega), hi]) (by rw [R.2.2.2.2.2.2.1 _ (by intro e; subst e; cases hk)]; exact hj) (k _ (am_Re_AI R))
theorem ar_lastore {kt n j : Nat} {i : Int} {v : Int64} (hc : am_c y pc = some (.lastore, p)) (hk : am_ka kt = some 2) (hi : i = (j : Int)) (hj : j < qAL q (kt, n)) (hn : qAL q (kt, n) < 2147483648) (k : am_W2 d y p ls st (uAJ q (kt, n) j v) Q) : am_W2 d y pc ls (aJ v :: aI (zI i) :: aR kt n :: st) q Q := fun h R => s_lastore hc hk (by rw [zI_toInt (by unfold in32; omega), hi]) (by rw [R.2.2.2.2.2.2.1 _ (by intro e; subst e; cases hk)]; exact hj) (k _ (am_Re_AJ R))
theorem ar_dastore {kt n j : Nat} {i : Int} {v : UInt64} (hc : am_c y pc = some (.dastore, p)) (hk : am_ka kt = some 3) (hi : i = (j : Int)) (hj : j < qAL q (kt, n)) (hn : qAL q (kt, n) < 2147483648) (k : am_W2 d y p ls st (uAD q (kt, n) j v) Q) : am_W2 d y pc ls (aD v :: aI (zI i) :: aR kt n :: st) q Q := fun h R => s_dastore hc hk (by rw [zI_toInt (by unfold in32; omega), hi]) (by rw [R.2.2.2.2.2.2.1 _ (by intro e; subst e; cases hk)]; exact hj) (k _ (am_Re_AD R))
theorem ar_laload {kt n j : Nat} {i : Int} (hc : am_c y pc = some (.laload, p)) (hk : am_ka kt = some 2) (hi : i = (j : Int)) (hj : j < qAL q (kt, n)) (hn : qAL q (kt, n) < 2147483648) (k : am_W2 d y p ls (aJ (qAJ q (kt, n) j) :: st) q Q) : am_W2 d y pc ls (aI (zI i) :: aR kt n :: st) q Q := fun h R => s_laload hc hk (by rw [zI_toInt (by unfold in32; omega), hi]) (by rw [R.2.2.2.2.2.2.1 _ (by intro e; subst e; cases hk)]; exact hj) (by rw [R.2.2.2.2.1 _ _ (by intro e; subst e; cases hk)]; exact k h R)
theorem ar_daload {kt n j : Nat} {i : Int} (hc : am_c y pc = some (.daload, p)) (hk : am_ka kt = some 3) (hi : i = (j : Int)) (hj : j < qAL q (kt, n)) (hn : qAL q (kt, n) < 2147483648) (k : am_W2 d y p ls (aD (qAD q (kt, n) j) :: st) q Q) : am_W2 d y pc ls (aI (zI i) :: aR kt n :: st) q Q := fun h R => s_daload hc hk (by rw [zI_toInt (by unfold in32; omega), hi]) (by rw [R.2.2.2.2.2.2.1 _ (by intro e; subst e; cases hk)]; exact hj) (by rw [R.2.2.2.2.2.1 _ _ (by intro e; subst e; cases hk)]; exact k h R)
theorem ar_aastore {kt n j kt' n' : Nat} {i : Int} (hc : am_c y pc = some (.aastore, p)) (hk : kt = 1408 ∧ kt' = 5) (hi : i = (j : Int)) (hj : j < qAL q (kt, n)) (hn : qAL q (kt, n) < 2147483648) (k : am_W2 d y p ls st (uAR q (kt, n) j (some (kt', n'))) Q) : am_W2 d y pc ls (aR kt' n' :: aI (zI i) :: aR kt n :: st) q Q := fun h R => s_aastore hc (Or.inl hk) (by rw [zI_toInt (by unfold in32; omega), hi]) (by rw [R.2.2.2.2.2.2.1 _ (by rintro rfl; omega)]; exact hj) (k _ (am_Re_AR R (by show kt ≠ 30; omega) (by show kt ≠ 32; omega)))
theorem ar_aastoreN {kt n j : Nat} {i : Int} (hc : am_c y pc = some (.aastore, p)) (hk : kt = 1408) (hi : i = (j : Int)) (hj : j < qAL q (kt, n)) (hn : qAL q (kt, n) < 2147483648) (k : am_W2 d y p ls st (uAR q (kt, n) j none) Q) : am_W2 d y pc ls (aN :: aI (zI i) :: aR kt n :: st) q Q := fun h R => s_aastoreN hc (Or.inl hk) (by rw [zI_toInt (by unfold in32; omega), hi]) (by rw [R.2.2.2.2.2.2.1 _ (by rintro rfl; omega)]; exact hj) (k _ (am_Re_AR R (by show kt ≠ 30; omega) (by show kt ≠ 32; omega)))
/-- behind a call -/
def am_B2 (d y pc p : Nat) (ls : List (Option am_V)) (r : List am_V) (Q : am_O → am_A → Prop) (o : am_O) (q' : am_A) : Prop := match o with
  | .inl none => am_W2 d y p ls r q' Q
  | .inl (some v) => am_W2 d y p ls (v :: r) q' Q
  | .inr x => match am_hnd (am_hh y) pc x with | some hp => (match am_hs y hp with | some (k, p') => k < ls.length ∧ am_W2 d y p' (ls.set k none) [] q' Q | none => False) | none => am_hh y = [] ∧ Q (.inr x) q'
theorem am_B2_s {r : List am_V} {o : am_O} {q' : am_A} {h' : am_H} (k : am_B2 d y pc p ls r Q o q') (R : am_Re q' h') : am_B d y pc p ls r (fun o h' => ∃ a', am_Re a' h' ∧ Q o a') o h' := by
  rcases o with (_ | v) | x
  · exact k h' R
  · exact k h' R
  · unfold am_B2 at k
    unfold am_B
    dsimp only at k ⊢
    split
    · rename_i hp hh
      rw [hh] at k
      dsimp only at k
      split
      · rename_i k9 p' hs
        rw [hs] at k
        exact ⟨k.1, k.2 h' R⟩
      · rename_i hs
        rw [hs] at k
        exact k
    · rename_i hh
      rw [hh] at k
      exact ⟨k.1, q', R, k.2⟩
/-- a method that changes nothing and answers v -/
abbrev am_is2 (v : am_V) (q : am_A) : am_O → am_A → Prop := fun o q' => o = .inl (some v) ∧ q' = q
theorem am_B2_is {r : List am_V} {v : am_V} {o : am_O} {q' : am_A} (k : am_W2 d y p ls (v :: r) q Q) (e : am_is2 v q o q') : am_B2 d y pc p ls r Q o q' := by
  obtain ⟨rfl, rfl⟩ := e
  exact k
theorem ar_cs0 {y' d0 : Nat} {r : List am_V} {Q1 : am_O → am_A → Prop} (hc : am_ca y pc = some (false, y', 0, p)) (hx : am_sum [] = 0) (hs : am_sum r ≤ 8) (hC : am_C2 d0 y' [] q Q1) (hd : d0 ≤ d) (kk : ∀ o q', Q1 o q' → am_B2 (d + 1) y pc p ls r Q o q') : am_W2 (d + 1) y pc ls (r) q Q := fun h R => s_cs0 hc hx hs (hC h R) hd (fun o h' ⟨q', R', hq⟩ => am_B2_s (kk o q' hq) R')
theorem ar_cv0 {y' d0 kt n : Nat} {r : List am_V} {Q1 : am_O → am_A → Prop} (hc : am_ca y pc = some (true, y', 0, p)) (hk : am_kc kt = some (am_ow y')) (hx : am_sum [] = 0) (hs : am_sum r ≤ 8) (hC : am_C2 d0 y' [aR kt n] q Q1) (hd : d0 ≤ d) (kk : ∀ o q', Q1 o q' → am_B2 (d + 1) y pc p ls r Q o q') : am_W2 (d + 1) y pc ls (aR kt n :: r) q Q := fun h R => s_cv0 hc hk hx hs (hC h R) hd (fun o h' ⟨q', R', hq⟩ => am_B2_s (kk o q' hq) R')
theorem ar_cs1 {y' d0 : Nat} {x0 : am_V} {r : List am_V} {Q1 : am_O → am_A → Prop} (hc : am_ca y pc = some (false, y', 1, p)) (hx : am_sum [x0] = 1) (hs : am_sum r ≤ 8) (hC : am_C2 d0 y' [x0] q Q1) (hd : d0 ≤ d) (kk : ∀ o q', Q1 o q' → am_B2 (d + 1) y pc p ls r Q o q') : am_W2 (d + 1) y pc ls (x0 :: r) q Q := fun h R => s_cs1 hc hx hs (hC h R) hd (fun o h' ⟨q', R', hq⟩ => am_B2_s (kk o q' hq) R')
theorem ar_cv1 {y' d0 kt n : Nat} {x0 : am_V} {r : List am_V} {Q1 : am_O → am_A → Prop} (hc : am_ca y pc = some (true, y', 1, p)) (hk : am_kc kt = some (am_ow y')) (hx : am_sum [x0] = 1) (hs : am_sum r ≤ 8) (hC : am_C2 d0 y' [aR kt n, x0] q Q1) (hd : d0 ≤ d) (kk : ∀ o q', Q1 o q' → am_B2 (d + 1) y pc p ls r Q o q') : am_W2 (d + 1) y pc ls (x0 :: aR kt n :: r) q Q := fun h R => s_cv1 hc hk hx hs (hC h R) hd (fun o h' ⟨q', R', hq⟩ => am_B2_s (kk o q' hq) R')
theorem ar_cs2 {y' d0 : Nat} {x0 x1 : am_V} {r : List am_V} {Q1 : am_O → am_A → Prop} (hc : am_ca y pc = some (false, y', 2, p)) (hx : am_sum [x1, x0] = 2) (hs : am_sum r ≤ 8) (hC : am_C2 d0 y' [x0, x1] q Q1) (hd : d0 ≤ d) (kk : ∀ o q', Q1 o q' → am_B2 (d + 1) y pc p ls r Q o q') : am_W2 (d + 1) y pc ls (x1 :: x0 :: r) q Q := fun h R => s_cs2 hc hx hs (hC h R) hd (fun o h' ⟨q', R', hq⟩ => am_B2_s (kk o q' hq) R')
theorem ar_cv2 {y' d0 kt n : Nat} {x0 x1 : am_V} {r : List am_V} {Q1 : am_O → am_A → Prop} (hc : am_ca y pc = some (true, y', 2, p)) (hk : am_kc kt = some (am_ow y')) (hx : am_sum [x1, x0] = 2) (hs : am_sum r ≤ 8) (hC : am_C2 d0 y' [aR kt n, x0, x1] q Q1) (hd : d0 ≤ d) (kk : ∀ o q', Q1 o q' → am_B2 (d + 1) y pc p ls r Q o q') : am_W2 (d + 1) y pc ls (x1 :: x0 :: aR kt n :: r) q Q := fun h R => s_cv2 hc hk hx hs (hC h R) hd (fun o h' ⟨q', R', hq⟩ => am_B2_s (kk o q' hq) R')
theorem ar_cs3 {y' d0 : Nat} {x0 x1 x2 : am_V} {r : List am_V} {Q1 : am_O → am_A → Prop} (hc : am_ca y pc = some (false, y', 3, p)) (hx : am_sum [x2, x1, x0] = 3) (hs : am_sum r ≤ 8) (hC : am_C2 d0 y' [x0, x1, x2] q Q1) (hd : d0 ≤ d) (kk : ∀ o q', Q1 o q' → am_B2 (d + 1) y pc p ls r Q o q') : am_W2 (d + 1) y pc ls (x2 :: x1 :: x0 :: r) q Q := fun h R => s_cs3 hc hx hs (hC h R) hd (fun o h' ⟨q', R', hq⟩ => am_B2_s (kk o q' hq) R')
theorem ar_cv3 {y' d0 kt n : Nat} {x0 x1 x2 : am_V} {r : List am_V} {Q1 : am_O → am_A → Prop} (hc : am_ca y pc = some (true, y', 3, p)) (hk : am_kc kt = some (am_ow y')) (hx : am_sum [x2, x1, x0] = 3) (hs : am_sum r ≤ 8) (hC : am_C2 d0 y' [aR kt n, x0, x1, x2] q Q1) (hd : d0 ≤ d) (kk : ∀ o q', Q1 o q' → am_B2 (d + 1) y pc p ls r Q o q') : am_W2 (d + 1) y pc ls (x2 :: x1 :: x0 :: aR kt n :: r) q Q := fun h R => s_cv3 hc hk hx hs (hC h R) hd (fun o h' ⟨q', R', hq⟩ => am_B2_s (kk o q' hq) R')
theorem ar_cs4 {y' d0 : Nat} {x0 x1 x2 x3 : am_V} {r : List am_V} {Q1 : am_O → am_A → Prop} (hc : am_ca y pc = some (false, y', 4, p)) (hx : am_sum [x3, x2, x1, x0] = 4) (hs : am_sum r ≤ 8) (hC : am_C2 d0 y' [x0, x1, x2, x3] q Q1) (hd : d0 ≤ d) (kk : ∀ o q', Q1 o q' → am_B2 (d + 1) y pc p ls r Q o q') : am_W2 (d + 1) y pc ls (x3 :: x2 :: x1 :: x0 :: r) q Q := fun h R => s_cs4 hc hx hs (hC h R) hd (fun o h' ⟨q', R', hq⟩ => am_B2_s (kk o q' hq) R')
theorem ar_cv4 {y' d0 kt n : Nat} {x0 x1 x2 x3 : am_V} {r : List am_V} {Q1 : am_O → am_A → Prop} (hc : am_ca y pc = some (true, y', 4, p)) (hk : am_kc kt = some (am_ow y')) (hx : am_sum [x3, x2, x1, x0] = 4) (hs : am_sum r ≤ 8) (hC : am_C2 d0 y' [aR kt n, x0, x1, x2, x3] q Q1) (hd : d0 ≤ d) (kk : ∀ o q', Q1 o q' → am_B2 (d + 1) y pc p ls r Q o q') : am_W2 (d + 1) y pc ls (x3 :: x2 :: x1 :: x0 :: aR kt n :: r) q Q := fun h R => s_cv4 hc hk hx hs (hC h R) hd (fun o h' ⟨q', R', hq⟩ => am_B2_s (kk o q' hq) R')
theorem ar_cs5 {y' d0 : Nat} {x0 x1 x2 x3 x4 : am_V} {r : List am_V} {Q1 : am_O → am_A → Prop} (hc : am_ca y pc = some (false, y', 5, p)) (hx : am_sum [x4, x3, x2, x1, x0] = 5) (hs : am_sum r ≤ 8) (hC : am_C2 d0 y' [x0, x1, x2, x3, x4] q Q1) (hd : d0 ≤ d) (kk : ∀ o q', Q1 o q' → am_B2 (d + 1) y pc p ls r Q o q') : am_W2 (d + 1) y pc ls (x4 :: x3 :: x2 :: x1 :: x0 :: r) q Q := fun h R => s_cs5 hc hx hs (hC h R) hd (fun o h' ⟨q', R', hq⟩ => am_B2_s (kk o q' hq) R')
theorem ar_cv5 {y' d0 kt n : Nat} {x0 x1 x2 x3 x4 : am_V} {r : List am_V} {Q1 : am_O → am_A → Prop} (hc : am_ca y pc = some (true, y', 5, p)) (hk : am_kc kt = some (am_ow y')) (hx : am_sum [x4, x3, x2, x1, x0] = 5) (hs : am_sum r ≤ 8) (hC : am_C2 d0 y' [aR kt n, x0, x1, x2, x3, x4] q Q1) (hd : d0 ≤ d) (kk : ∀ o q', Q1 o q' → am_B2 (d + 1) y pc p ls r Q o q') : am_W2 (d + 1) y pc ls (x4 :: x3 :: x2 :: x1 :: x0 :: aR kt n :: r) q Q := fun h R => s_cv5 hc hk hx hs (hC h R) hd (fun o h' ⟨q', R', hq⟩ => am_B2_s (kk o q' hq) R')
theorem ar_cs6 {y' d0 : Nat} {x0 x1 x2 x3 x4 x5 : am_V} {r : List am_V} {Q1 : am_O → am_A → Prop} (hc : am_ca y pc = some (false, y', 6, p)) (hx : am_sum [x5, x4, x3, x2, x1, x0] = 6) (hs : am_sum r ≤ 8) (hC : am_C2 d0 y' [x0, x1, x2, x3, x4, x5] q Q1) (hd : d0 ≤ d) (kk : ∀ o q', Q1 o q' → am_B2 (d + 1) y pc p ls r Q o q') : am_W2 (d + 1) y pc ls (x5 :: x4 :: x3 :: x2 :: x1 :: x0 :: r) q Q := fun h R => s_cs6 hc hx hs (hC h R) hd (fun o h' ⟨q', R', hq⟩ => am_B2_s (kk o q' hq) R')
theorem ar_cv6 {y' d0 kt n : Nat} {x0 x1 x2 x3 x4 x5 : am_V} {r : List am_V} {Q1 : am_O → am_A → Prop} (hc : am_ca y pc = some (true, y', 6, p)) (hk : am_kc kt = some (am_ow y')) (hx : am_sum [x5, x4, x3, x2, x1, x0] = 6) (hs : am_sum r ≤ 8) (hC : am_C2 d0 y' [aR kt n, x0, x1, x2, x3, x4, x5] q Q1) (hd : d0 ≤ d) (kk : ∀ o q', Q1 o q' → am_B2 (d + 1) y pc p ls r Q o q') : am_W2 (d + 1) y pc ls (x5 :: x4 :: x3 :: x2 :: x1 :: x0 :: aR kt n :: r) q Q := fun h R => s_cv6 hc hk hx hs (hC h R) hd (fun o h' ⟨q', R', hq⟩ => am_B2_s (kk o q' hq) R')
theorem ar_cs7 {y' d0 : Nat} {x0 x1 x2 x3 x4 x5 x6 : am_V} {r : List am_V} {Q1 : am_O → am_A → Prop} (hc : am_ca y pc = some (false, y', 7, p)) (hx : am_sum [x6, x5, x4, x3, x2, x1, x0] = 7) (hs : am_sum r ≤ 8) (hC : am_C2 d0 y' [x0, x1, x2, x3, x4, x5, x6] q Q1) (hd : d0 ≤ d) (kk : ∀ o q', Q1 o q' → am_B2 (d + 1) y pc p ls r Q o q') : am_W2 (d + 1) y pc ls (x6 :: x5 :: x4 :: x3 :: x2 :: x1 :: x0 :: r) q Q := fun h R => s_cs7 hc hx hs (hC h R) hd (fun o h' ⟨q', R', hq⟩ => am_B2_s (kk o q' hq) R')
theorem ar_cv7 {y' d0 kt n : Nat} {x0 x1 x2 x3 x4 x5 x6 : am_V} {r : List am_V} {Q1 : am_O → am_A → Prop} (hc : am_ca y pc = some (true, y', 7, p)) (hk : am_kc kt = some (am_ow y')) (hx : am_sum [x6, x5, x4, x3, x2, x1, x0] = 7) (hs : am_sum r ≤ 8) (hC : am_C2 d0 y' [aR kt n, x0, x1, x2, x3, x4, x5, x6] q Q1) (hd : d0 ≤ d) (kk : ∀ o q', Q1 o q' → am_B2 (d + 1) y pc p ls r Q o q') : am_W2 (d + 1) y pc ls (x6 :: x5 :: x4 :: x3 :: x2 :: x1 :: x0 :: aR kt n :: r) q Q := fun h R => s_cv7 hc hk hx hs (hC h R) hd (fun o h' ⟨q', R', hq⟩ => am_B2_s (kk o q' hq) R')
theorem ar_cs8 {y' d0 : Nat} {x0 x1 x2 x3 x4 x5 x6 x7 : am_V} {r : List am_V} {Q1 : am_O → am_A → Prop} (hc : am_ca y pc = some (false, y', 8, p)) (hx : am_sum [x7, x6, x5, x4, x3, x2, x1, x0] = 8) (hs : am_sum r ≤ 8) (hC : am_C2 d0 y' [x0, x1, x2, x3, x4, x5, x6, x7] q Q1) (hd : d0 ≤ d) (kk : ∀ o q', Q1 o q' → am_B2 (d + 1) y pc p ls r Q o q') : am_W2 (d + 1) y pc ls (x7 :: x6 :: x5 :: x4 :: x3 :: x2 :: x1 :: x0 :: r) q Q := fun h R => s_cs8 hc hx hs (hC h R) hd (fun o h' ⟨q', R', hq⟩ => am_B2_s (kk o q' hq) R')
theorem ar_cv8 {y' d0 kt n : Nat} {x0 x1 x2 x3 x4 x5 x6 x7 : am_V} {r : List am_V} {Q1 : am_O → am_A → Prop} (hc : am_ca y pc = some (true, y', 8, p)) (hk : am_kc kt = some (am_ow y')) (hx : am_sum [x7, x6, x5, x4, x3, x2, x1, x0] = 8) (hs : am_sum r ≤ 8) (hC : am_C2 d0 y' [aR kt n, x0, x1, x2, x3, x4, x5, x6, x7] q Q1) (hd : d0 ≤ d) (kk : ∀ o q', Q1 o q' → am_B2 (d + 1) y pc p ls r Q o q') : am_W2 (d + 1) y pc ls (x7 :: x6 :: x5 :: x4 :: x3 :: x2 :: x1 :: x0 :: aR kt n :: r) q Q := fun h R => s_cv8 hc hk hx hs (hC h R) hd (fun o h' ⟨q', R', hq⟩ => am_B2_s (kk o q' hq) R')
end STORE2
end

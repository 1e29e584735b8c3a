noncomputable section
/-- the first m elements of an array are null -/
def hNl (h : am_H) (r : am_R) (m : Nat) : am_H := (hFI h, hFR h, hAI h, fun x => if x = r then (fun j => if j < m then none else hAR h r j) else hAR h x, h.2.2.2.2)
theorem hNl_0 (h : am_H) (r : am_R) : hNl h r 0 = h := by
  have e : (fun x => if x = r then (fun j => if j < 0 then none else hAR h r j) else hAR h x) = hAR h := by
    funext x j
    split
    · rename_i hx; rw [hx]; exact if_neg (Nat.not_lt_zero j)
    · rfl
  unfold hNl
  rw [e]
  rfl
theorem hNl_s (h : am_H) (r : am_R) (m : Nat) : sAR (hNl h r m) r m none = hNl h r (m + 1) := by
  have e : am_u2 (hAR (hNl h r m)) r m none = (fun x => if x = r then (fun j => if j < m + 1 then none else hAR h r j) else hAR h x) := by
    funext x j
    show (if x = r ∧ j = m then none else (if x = r then (fun j => if j < m then none else hAR h r j) else hAR h x) j) = _
    by_cases hx : x = r
    · rw [if_pos hx, if_pos hx]
      by_cases hj : j = m
      · rw [if_pos ⟨hx, hj⟩]
        exact (if_pos (by omega)).symm
      · rw [if_neg (fun z => hj z.2)]
        by_cases hj2 : j < m
        · exact (if_pos hj2).trans (if_pos (by omega)).symm
        · exact (if_neg hj2).trans (if_neg (by omega)).symm
    · rw [if_neg (fun z => hx z.1), if_neg hx, if_neg hx]
  unfold sAR
  rw [e]
  rfl
section CLR
variable {d : Nat} {h : am_H}
theorem lp_clear {t q x y n : Nat} {Q : am_O → am_H → Prop} (hn : n ≤ 1000) (hx : n = 0 ∨ x = 30) (hl : n ≤ hAL h (x, y)) : ∀ (m j : Nat), n - j < m → j ≤ n → Q (.inl none) (hNl h (x, y) n) → am_W d m_AL_clear 27 [some (aR t q), some (aR x y), some (aI (zI (n : Int))), some (aI (zI (j : Int)))] [] (hNl h (x, y) j) Q := by
  intro m
  induction m with
  | zero => intro j hm; exact absurd hm (Nat.not_lt_zero _)
  | succ m ih =>
    intro j hm hj K
    refine s_iload_n rfl rfl ?_
    refine s_iload_n rfl rfl ?_
    refine s_icmp_ge rfl rfl (fun hc => ?_) (fun hc => ?_)
    · have h2 := (zI_le (a := (n : Int)) (b := (j : Int)) (by unfold in32; omega) (by unfold in32; omega)).mp hc
      have e : j = n := by omega
      rw [e]
      exact s_ret rfl rfl K
    · have h2 : j < n := by
        by_cases h3 : j < n
        · exact h3
        · exact absurd ((zI_le (a := (n : Int)) (b := (j : Int)) (by unfold in32; omega) (by unfold in32; omega)).mpr (by omega)) hc
      have hx3 : x = 30 := by omega
      refine s_aload_n rfl rfl ?_
      refine s_iload_n rfl rfl ?_
      refine s_null rfl ?_
      refine s_aastoreN (j := j) rfl (Or.inr hx3) (zI_toInt (by unfold in32; omega)) (by show j < hAL h (x, y); omega) ?_
      rw [hNl_s]
      refine s_inc3 rfl ?_
      refine s_goto rfl rfl ?_
      rw [show zI (j : Int) + Int32.ofInt 1 = zI ((j + 1 : Nat) : Int) from (Int32.ofInt_add ..).symm]
      exact ih (j + 1) (by omega) (by omega) K

theorem sp_clear {t q x y n : Nat} (hk : am_kc t = some 10) (hs : hFI h 1002 (t, q) = zI (n : Int)) (he : hFR h 1001 (t, q) = some (x, y)) (hn : n ≤ 1000) (hx : n = 0 ∨ x = 30) (hl : n ≤ hAL h (x, y)) : am_C d m_AL_clear [aR t q] h (fun o h' => o = .inl none ∧ h' = hNl (sFI (sFI h 1000 (t, q) (hFI h 1000 (t, q) + zI 1)) 1002 (t, q) (zI 0)) (x, y) n) := by
  refine am_C_i (ls := [some (aR t q), none, none, none]) rfl ?_
  refine s_aload_n rfl rfl ?_
  refine s_dup rfl rfl ?_
  refine s_gfI rfl hk rfl ?_
  refine s_iconst rfl rfl ?_
  refine s_iadd rfl ?_
  refine s_pfI rfl hk rfl rfl (Or.inl rfl) ?_
  refine s_aload_n rfl rfl ?_
  refine s_gfR rfl hk rfl he ?_
  refine s_stA1 rfl ?_
  refine s_aload_n rfl rfl ?_
  refine s_gfI rfl hk rfl ?_
  rw [am_mc hs]
  refine s_stI2 rfl ?_
  refine s_aload_n rfl rfl ?_
  refine s_iconst rfl rfl ?_
  refine s_dup_x1 rfl rfl rfl ?_
  refine s_pfI rfl hk rfl rfl (Or.inl rfl) ?_
  refine s_stI3 rfl ?_
  refine (congrArg (fun z => am_W _ _ _ _ _ z _) (hNl_0 (sFI (sFI h 1000 (t, q) (hFI h 1000 (t, q) + zI 1)) 1002 (t, q) (Int32.ofInt 0)) (x, y))).mp ?_
  refine lp_clear (n := n) (h := sFI (sFI h 1000 (t, q) (hFI h 1000 (t, q) + zI 1)) 1002 (t, q) (Int32.ofInt 0)) hn hx hl (n + 1) 0 (by omega) (Nat.zero_le _) ?_
  exact ⟨rfl, rfl⟩
theorem sp_rc {t q i n : Nat} (hk : am_kc t = some 10) (hs : hFI h 1002 (t, q) = zI (n : Int)) (hi : i ≤ n) (hn : n ≤ 1000) : am_C d m_AL_rangeCheckForAdd [aR t q, aI (zI (i : Int))] h (fun o h' => o = .inl none ∧ h' = h) := by
  refine am_C_i (ls := [some (aR t q), some (aI (zI (i : Int)))]) rfl ?_
  refine s_iload_n rfl rfl ?_
  refine s_aload_n rfl rfl ?_
  refine s_gfI rfl hk rfl ?_
  rw [hs]
  refine s_icmp_gt rfl rfl (fun ht => absurd ((zI_lt (a := (n : Int)) (b := (i : Int)) (by unfold in32; omega) (by unfold in32; omega)).mp ht) (by omega)) (fun _ => ?_)
  refine s_iload_n rfl rfl ?_
  refine s_if_ge rfl rfl (fun _ => ?_) (fun hf => absurd ((zI_le (a := 0) (b := (i : Int)) in32_0 (by unfold in32; omega)).mpr (by omega)) hf)
  exact s_ret rfl rfl ⟨rfl, rfl⟩
theorem sp_ins {t q y c i n kt kn : Nat} (hk : am_kc t = some 10) (hs : hFI h 1002 (t, q) = zI (n : Int)) (he : hFR h 1001 (t, q) = some (30, y)) (hcap : hAL h (30, y) = c) (h2 : c ≤ 1000) (hn : n < c) (hi : i ≤ n) (hkv : (am_kc kt).isSome = true ∧ kt < 10) : am_C (d + 1) m_AL_add3 [aR t q, aI (zI (i : Int)), aR kt kn] h (fun o h' => o = .inl none ∧ h' = sFI (sAR (hCP (sFI h 1000 (t, q) (hFI h 1000 (t, q) + zI 1)) (30, y) (30, y) i (i + 1) (n - i)) (30, y) i (some (kt, kn))) 1002 (t, q) (zI ((n : Int) + 1))) := by
  refine am_C_i (ls := [some (aR t q), some (aI (zI (i : Int))), some (aR kt kn), none, none]) rfl ?_
  refine s_aload_n rfl rfl ?_
  refine s_iload_n rfl rfl ?_
  refine s_cv1 rfl hk rfl (Nat.le_of_ble_eq_true rfl) (sp_rc (d := 0) hk hs hi (by omega)) (by omega) (fun o h' hq => ?_)
  obtain ⟨rfl, rfl⟩ := hq
  refine s_aload_n rfl rfl ?_
  refine s_dup rfl rfl ?_
  refine s_gfI rfl hk rfl ?_
  refine s_iconst rfl rfl ?_
  refine s_iadd rfl ?_
  refine s_pfI rfl hk rfl rfl (Or.inl rfl) ?_
  refine s_aload_n rfl rfl ?_
  refine s_gfI rfl hk rfl ?_
  rw [am_mc hs]
  refine s_dup rfl rfl ?_
  refine s_stI3 rfl ?_
  refine s_aload_n rfl rfl ?_
  refine s_gfR rfl hk rfl he ?_
  refine s_dup rfl rfl ?_
  refine s_stA4 rfl ?_
  refine s_alen rfl rfl ?_
  rw [show hAL (sFI h' 1000 (t, q) (hFI h' 1000 (t, q) + zI 1)) (30, y) = c from hcap, show Int32.ofNat c = zI (c : Int) from rfl]
  refine s_icmp_ne rfl rfl (fun _ => ?_) (fun hf => absurd ((zI_eq (a := (n : Int)) (b := (c : Int)) (by unfold in32; omega) (by unfold in32; omega)).mp (Classical.not_not.mp hf)) (by omega))
  refine s_aload rfl rfl ?_
  refine s_iload_n rfl rfl ?_
  refine s_aload rfl rfl ?_
  refine s_iload_n rfl rfl ?_
  refine s_iconst rfl rfl ?_
  refine s_iadd rfl ?_
  rw [show zI (i : Int) + Int32.ofInt 1 = zI (((i + 1 : Nat)) : Int) from (Int32.ofInt_add ..).symm]
  refine s_iload_n rfl rfl ?_
  refine s_iload_n rfl rfl ?_
  refine s_isub rfl ?_
  rw [show zI (n : Int) - zI (i : Int) = zI (((n - i : Nat)) : Int) from by rw [show (((n - i : Nat)) : Int) = (n : Int) - (i : Int) by omega]; exact (Int32.ofInt_sub ..).symm]
  refine s_copy (c' := n - i) (dp' := i + 1) (sp' := i) rfl rfl rfl (zI_toInt (by unfold in32; omega)) (zI_toInt (by unfold in32; omega)) (zI_toInt (by unfold in32; omega)) (by show i + (n - i) ≤ hAL h' (30, y); omega) (by show i + 1 + (n - i) ≤ hAL h' (30, y); omega) (Nat.le_of_ble_eq_true rfl) ?_
  refine s_aload rfl rfl ?_
  refine s_iload_n rfl rfl ?_
  refine s_aload_n rfl rfl ?_
  refine s_aastore (j := i) rfl (Or.inr ⟨rfl, hkv.1, hkv.2⟩) (zI_toInt (by unfold in32; omega)) (by show i < hAL h' (30, y); omega) ?_
  refine s_aload_n rfl rfl ?_
  refine s_iload_n rfl rfl ?_
  refine s_iconst rfl rfl ?_
  refine s_iadd rfl ?_
  rw [← Int32.ofInt_add]
  refine s_pfI rfl hk rfl rfl (Or.inl rfl) ?_
  exact s_ret rfl rfl ⟨rfl, rfl⟩
theorem sp_fastRem {t q y c m : Nat} (hk : am_kc t = some 10) (hs : hFI h 1002 (t, q) = zI (((m + 1 : Nat)) : Int)) (hcap : hAL h (30, y) = c) (h2 : c ≤ 1000) (hm : m < c) : am_C d m_AL_fastRemove [aR t q, aR 30 y, aI (zI (m : Int))] h (fun o h' => o = .inl none ∧ h' = sAR (sFI (sFI h 1000 (t, q) (hFI h 1000 (t, q) + zI 1)) 1002 (t, q) (zI (m : Int))) (30, y) m none) := by
  refine am_C_i (ls := [some (aR t q), some (aR 30 y), some (aI (zI (m : Int))), none]) rfl ?_
  refine s_aload_n rfl rfl ?_
  refine s_dup rfl rfl ?_
  refine s_gfI rfl hk rfl ?_
  refine s_iconst rfl rfl ?_
  refine s_iadd rfl ?_
  refine s_pfI rfl hk rfl rfl (Or.inl rfl) ?_
  refine s_aload_n rfl rfl ?_
  refine s_gfI rfl hk rfl ?_
  rw [am_mc hs]
  refine s_iconst rfl rfl ?_
  refine s_isub rfl ?_
  rw [show zI (((m + 1 : Nat)) : Int) - Int32.ofInt 1 = zI (m : Int) from by rw [show (m : Int) = (((m + 1 : Nat)) : Int) - 1 by omega]; exact (Int32.ofInt_sub ..).symm]
  refine s_dup rfl rfl ?_
  refine s_stI3 rfl ?_
  refine s_iload_n rfl rfl ?_
  refine s_icmp_le rfl rfl (fun _ => ?_) (fun hf => absurd ((zI_le (a := (m : Int)) (b := (m : Int)) (by unfold in32; omega) (by unfold in32; omega)).mpr (Int.le_refl _)) hf)
  refine s_aload_n rfl rfl ?_
  refine s_aload_n rfl rfl ?_
  refine s_iload_n rfl rfl ?_
  refine s_dup_x1 rfl rfl rfl ?_
  refine s_pfI rfl hk rfl rfl (Or.inl rfl) ?_
  refine s_null rfl ?_
  refine s_aastoreN (j := m) rfl (Or.inr rfl) (zI_toInt (by unfold in32; omega)) (by show m < hAL h (30, y); omega) ?_
  exact s_ret rfl rfl ⟨rfl, rfl⟩
theorem sp_rem {t q y c m : Nat} {v : Option am_R} (hk : am_kc t = some 10) (hs : hFI h 1002 (t, q) = zI (((m + 1 : Nat)) : Int)) (he : hFR h 1001 (t, q) = some (30, y)) (hcap : hAL h (30, y) = c) (h2 : c ≤ 1000) (hm : m < c) (hv : hAR h (30, y) m = v) : am_C (d + 2) m_AL_remove [aR t q, aI (zI (m : Int))] h (fun o h' => o = .inl (some (aO v)) ∧ h' = sAR (sFI (sFI h 1000 (t, q) (hFI h 1000 (t, q) + zI 1)) 1002 (t, q) (zI (m : Int))) (30, y) m none) := by
  refine am_C_i (ls := [some (aR t q), some (aI (zI (m : Int))), none, none]) rfl ?_
  refine s_iload_n rfl rfl ?_
  refine s_aload_n rfl rfl ?_
  refine s_gfI rfl hk rfl ?_
  refine s_cs2 rfl rfl (Nat.le_of_ble_eq_true rfl) (sp_Oci (d := 0) ((zI_le (a := 0) (b := (m : Int)) in32_0 (by unfold in32; omega)).mpr (by omega)) (by rw [hs]; exact (zI_lt (a := (m : Int)) (b := (((m + 1 : Nat)) : Int)) (by unfold in32; omega) (by unfold in32; omega)).mpr (by omega))) (by omega) (fun o h' hq => am_B_is ?_ hq)
  refine s_pop rfl rfl ?_
  refine s_aload_n rfl rfl ?_
  refine s_gfR rfl hk rfl he ?_
  refine s_stA2 rfl ?_
  refine s_aload_n rfl rfl ?_
  refine s_iload_n rfl rfl ?_
  refine s_aaload (j := m) rfl (Or.inl rfl) (zI_toInt (by unfold in32; omega)) (by omega) hv ?_
  refine s_stA3 rfl ?_
  refine s_aload_n rfl rfl ?_
  refine s_aload_n rfl rfl ?_
  refine s_iload_n rfl rfl ?_
  refine s_cv2 rfl hk rfl (Nat.le_of_ble_eq_true rfl) (sp_fastRem (d := 0) hk hs hcap h2 hm) (by omega) (fun o h' hq => ?_)
  obtain ⟨rfl, rfl⟩ := hq
  refine s_aload_n rfl rfl ?_
  exact s_aret rfl rfl ⟨rfl, rfl⟩
end CLR
/-- a list with v put at place i -/
def insL (xs : List am_R) (i : Nat) (v : am_R) : List am_R := xs.take i ++ v :: xs.drop i
theorem insL_l {xs : List am_R} {i : Nat} {v : am_R} (hi : i ≤ xs.length) : (insL xs i v).length = xs.length + 1 := by
  unfold insL
  rw [List.length_append, List.length_cons, List.length_take, List.length_drop]
  omega
theorem insL_g {xs : List am_R} {i : Nat} {v : am_R} (hi : i ≤ xs.length) (j : Nat) : (insL xs i v)[j]? = if j < i then xs[j]? else if j = i then some v else xs[j - 1]? := by
  unfold insL
  have hl : (xs.take i).length = i := by rw [List.length_take]; omega
  by_cases h1 : j < i
  · rw [if_pos h1, List.getElem?_append_left (by omega), List.getElem?_take_of_lt h1]
  · rw [if_neg h1, List.getElem?_append_right (by omega), hl]
    by_cases h2 : j = i
    · rw [if_pos h2, h2, Nat.sub_self]
      rfl
    · rw [if_neg h2, show j - i = (j - i - 1) + 1 by omega, List.getElem?_cons_succ, List.getElem?_drop]
      congr 1
      omega
section LST3
variable {q : am_A} {h h' : am_H}
/-- a list whose array stays -/
theorem am_Re_inp {t n x y : Nat} {v0 : Int32} {xs : List am_R} (R : am_Re q h) (hl : am_isL h (t, n)) (he : hFR h 1001 (t, n) = some (x, y)) (hw : xs.length ≤ qCP q (t, n))
    (eI : ∀ f r, hFI h' f r = if f = 1002 ∧ r = (t, n) then zI (xs.length : Int) else if f = 1000 ∧ r = (t, n) then v0 else hFI h f r)
    (eR : hFR h' = hFR h) (eAI : hAI h' = hAI h) (eAR : ∀ r k, r ≠ (x, y) → hAR h' r k = hAR h r k) (eAR2 : x ≠ 30 → hAR h' = hAR h) (eN : ∀ i v, xs[i]? = some v → hAR h' (x, y) i = some v) (e5 : h'.2.2.2.2 = h.2.2.2.2) :
    am_Re (uLS q (t, n) xs) h' := by
  obtain ⟨r1, r2, r3, r4, r5, r6, r7, r8, r9, r10, r11, r12, r13⟩ := R
  have eAJ : hAJ h' = hAJ h := congrArg (fun z => z.1) e5
  have eAD : hAD h' = hAD h := congrArg (fun z => z.2.1) e5
  have eAL : hAL h' = hAL h := congrArg (fun z => z.2.2.1) e5
  have eCN : hCN h' = hCN h := congrArg (fun z => z.2.2.2.1) e5
  have eCE : hCE h' = hCE h := congrArg (fun z => z.2.2.2.2.1) e5
  have eSL : hSL h' = hSL h := congrArg (fun z => z.2.2.2.2.2) e5
  have cL : ∀ r, am_isL h' r → am_isL h r := fun r hr => ⟨hr.1, by have z := hr.2; rw [eCN] at z; exact z⟩
  obtain ⟨x0, y0, b1, b2, b3, b4, b5, b6, b7⟩ := r9 (t, n) hl
  cases he.symm.trans b1
  refine ⟨fun f r hf => ?_, fun f r hf => by rw [eR]; exact r2 f r hf, fun r k hr => by rw [eAI]; exact r3 r k hr, fun r k hr => ?_, fun r k hr => by rw [eAJ]; exact r5 r k hr, fun r k hr => by rw [eAD]; exact r6 r k hr, fun r hr => by rw [eAL]; exact r7 r hr, fun t' ht' => by rw [eCN]; exact r8 t' ht', fun r hr => ?_, fun r r' y' hr hr' h1 h2 => r10 r r' y' (cL r hr) (cL r' hr') (by rw [← eR]; exact h1) (by rw [← eR]; exact h2), by rw [eCE]; exact r11, by rw [eSL]; exact r12, by rw [eAL]; exact r13⟩
  · rw [eI, if_neg (fun z => hf (by rw [z.1])), if_neg (fun z => hf (by rw [z.1]))]
    exact r1 f r hf
  · by_cases hx : x = 30
    · rw [eAR r k (fun z => hr (by rw [z]; exact hx))]
      exact r4 r k hr
    · rw [eAR2 hx]
      exact r4 r k hr
  · obtain ⟨x', y', a1, a2, a3, a4, a5, a6, a7⟩ := r9 r (cL r hr)
    by_cases hrt : r = (t, n)
    · subst hrt
      cases he.symm.trans a1
      have eL : qLS (uLS q (t, n) xs) (t, n) = xs := if_pos rfl
      refine ⟨x, y, by rw [eR]; exact he, ?_, by rw [eL]; exact hw, by rw [eAL]; exact a4, a5, fun i v hv => eN i v (by rw [eL] at hv; exact hv), a7.imp id (fun z => ⟨z.1, by rw [eCN]; exact z.2.1, z.2.2⟩)⟩
      rw [eI, if_pos ⟨rfl, rfl⟩, eL]
    · have eL : qLS (uLS q (t, n) xs) r = qLS q r := if_neg hrt
      refine ⟨x', y', by rw [eR]; exact a1, ?_, by rw [eL]; exact a3, by rw [eAL]; exact a4, a5, fun i v hv => ?_, a7.imp id (fun z => ⟨z.1, by rw [eCN]; exact z.2.1, z.2.2⟩)⟩
      · rw [eI, if_neg (fun z => hrt z.2), if_neg (fun z => hrt z.2), eL]
        exact a2
      · rw [eL] at hv
        have hi := (List.getElem?_eq_some_iff.mp hv).1
        rcases a7 with ⟨c1, c2, c3⟩ | ⟨c1, c2, c3⟩
        · omega
        · rw [eAR _ _ (fun z => hrt (r10 r (t, n) y' (cL r hr) hl (by rw [a1, c1]) (by rw [he, ← z, c1])))]
          exact a6 i v hv
/-- add(E), with what is known of its capacity -/
theorem sq_addL {d t n kt kn : Nat} (hk : am_kc t = some 10) (h30 : t ≠ 30) (hn : n < qCN q t) (hw : qCP q (t, n) ≤ 600) (hkv : (am_kc kt).isSome = true ∧ kt < 10) : am_C2 (d + 5) m_AL_add2 [aR t n, aR kt kn] q (fun o q' => o = .inl (some (aI (zI 1))) ∧ q' = qAdd q (t, n) (kt, kn) ∧ (qLS q (t, n)).length ≤ qCP q (t, n)) := fun h R => by
  have hl : am_isL h (t, n) := ⟨hk, by show n < hCN h t; rw [R.2.2.2.2.2.2.2.1 t h30]; exact hn⟩
  obtain ⟨x, y, a1, a2, a3, -⟩ := R.2.2.2.2.2.2.2.2.1 (t, n) hl
  exact am_C_imp (sq_add (d := d) hk h30 hn hw hkv h R) (fun o h' ⟨a', r, e1, e2⟩ => ⟨a', r, e1, e2, a3⟩)
theorem sq_clear {d t n : Nat} (hk : am_kc t = some 10) (h30 : t ≠ 30) (hn : n < qCN q t) : am_C2 d m_AL_clear [aR t n] q (fun o q' => o = .inl none ∧ q' = uLS q (t, n) []) := fun h R => by
  have hl : am_isL h (t, n) := ⟨hk, by show n < hCN h t; rw [R.2.2.2.2.2.2.2.1 t h30]; exact hn⟩
  obtain ⟨x, y, a1, a2, a3, a4, a5, a6, a7⟩ := R.2.2.2.2.2.2.2.2.1 (t, n) hl
  refine am_C_imp (sp_clear (d := d) (n := (qLS q (t, n)).length) hk a2 a1 (by omega) (by omega) (by omega)) (fun o h' hq => ?_)
  obtain ⟨rfl, rfl⟩ := hq
  refine ⟨uLS q (t, n) [], am_Re_inp (v0 := hFI h 1000 (t, n) + zI 1) R hl a1 (Nat.zero_le _) (fun f r => ?_) rfl rfl (fun r k hr => congrFun (if_neg hr) k) (fun hx => ?_) (fun i v hv => by cases hv) rfl, rfl, rfl⟩
  · rfl
  · rw [show (qLS q (t, n)).length = 0 by omega, hNl_0]
    rfl
theorem sq_ins {d t n i kt kn : Nat} (hk : am_kc t = some 10) (h30 : t ≠ 30) (hn : n < qCN q t) (hi : i ≤ (qLS q (t, n)).length) (hc : qCP q (t, n) = 0 ∨ qCP q (t, n) = 10) (h0 : 0 < (qLS q (t, n)).length ∧ (qLS q (t, n)).length < 10) (hkv : (am_kc kt).isSome = true ∧ kt < 10) : am_C2 (d + 1) m_AL_add3 [aR t n, aI (zI (i : Int)), aR kt kn] q (fun o q' => o = .inl none ∧ q' = uLS q (t, n) (insL (qLS q (t, n)) i (kt, kn))) := fun h R => by
  have hl : am_isL h (t, n) := ⟨hk, by show n < hCN h t; rw [R.2.2.2.2.2.2.2.1 t h30]; exact hn⟩
  obtain ⟨x, y, a1, a2, a3, a4, a5, a6, a7⟩ := R.2.2.2.2.2.2.2.2.1 (t, n) hl
  have hx : x = 30 := by omega
  subst hx
  have hlen := insL_l (v := (kt, kn)) hi
  refine am_C_imp (sp_ins (d := d) (n := (qLS q (t, n)).length) (i := i) hk a2 a1 a4.symm a5 (by omega) hi hkv) (fun o h' hq => ?_)
  obtain ⟨rfl, rfl⟩ := hq
  refine ⟨uLS q (t, n) (insL (qLS q (t, n)) i (kt, kn)), am_Re_inp (v0 := hFI h 1000 (t, n) + zI 1) R hl a1 (by omega) (fun f r => ?_) rfl rfl (fun r k hr => ?_) (fun hx => absurd rfl hx) (fun j v hv => ?_) rfl, rfl, rfl⟩
  · rw [hlen]
    rfl
  · exact (if_neg (fun z => hr z.1)).trans (congrFun (if_neg hr) k)
  · rw [insL_g hi] at hv
    show (if (30, y) = (30, y) ∧ j = i then some (kt, kn) else (if (30, y) = (30, y) then (fun j => if i + 1 ≤ j ∧ j < i + 1 + ((qLS q (t, n)).length - i) then hAR h (30, y) (i + (j - (i + 1))) else hAR h (30, y) j) else hAR h (30, y)) j) = some v
    rw [if_pos (rfl : ((30, y) : am_R) = (30, y))]
    by_cases h1 : j < i
    · rw [if_pos h1] at hv
      rw [if_neg (fun z => by omega)]
      exact (if_neg (by omega)).trans (a6 j v hv)
    · rw [if_neg h1] at hv
      by_cases h2 : j = i
      · rw [if_pos h2] at hv
        rw [if_pos ⟨rfl, h2⟩]
        exact hv
      · rw [if_neg h2] at hv
        have h3 := (List.getElem?_eq_some_iff.mp hv).1
        rw [if_neg (fun z => h2 z.2)]
        refine (if_pos (by omega)).trans ?_
        rw [show i + (j - (i + 1)) = j - 1 by omega]
        exact a6 (j - 1) v hv
/-- remove(int) of the last element -/
theorem sq_remL {d t n : Nat} {i : Int} {xs : List am_R} {v : am_R} (hk : am_kc t = some 10) (h30 : t ≠ 30) (hn : n < qCN q t) (hL : qLS q (t, n) = xs ++ [v]) (hi : i = (xs.length : Int)) : am_C2 (d + 2) m_AL_remove [aR t n, aI (zI i)] q (fun o q' => o = .inl (some (aO (some v))) ∧ q' = uLS q (t, n) xs) := fun h R => by
  subst hi
  have hl : am_isL h (t, n) := ⟨hk, by show n < hCN h t; rw [R.2.2.2.2.2.2.2.1 t h30]; exact hn⟩
  obtain ⟨x, y, a1, a2, a3, a4, a5, a6, a7⟩ := R.2.2.2.2.2.2.2.2.1 (t, n) hl
  have hlen : (qLS q (t, n)).length = xs.length + 1 := by rw [hL]; simp
  have hx : x = 30 := by omega
  subst hx
  rw [hlen] at a2
  have hv : hAR h (30, y) xs.length = some v := a6 _ _ (by rw [hL]; simp)
  refine am_C_imp (sp_rem (d := d) (m := xs.length) hk a2 a1 a4.symm a5 (by omega) hv) (fun o h' hq => ?_)
  obtain ⟨rfl, rfl⟩ := hq
  refine ⟨uLS q (t, n) xs, am_Re_inp (v0 := hFI h 1000 (t, n) + zI 1) R hl a1 (by omega) (fun f r => rfl) rfl rfl (fun r k hr => if_neg (fun z => hr z.1)) (fun hx => absurd rfl hx) (fun j w hw => ?_) rfl, rfl, rfl⟩
  have hj := (List.getElem?_eq_some_iff.mp hw).1
  refine (if_neg (fun z => by omega)).trans (a6 j w ?_)
  rw [hL, List.getElem?_append_left hj]
  exact hw
end LST3
end

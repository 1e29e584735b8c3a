noncomputable section
def uLS (a : am_A) (r : am_R) (xs : List am_R) : am_A := (qFI a, qFR a, qAI a, qAR a, qAJ a, qAD a, qAL a, qCN a, am_u1 (qLS a) r xs, qCP a, qCE a, qSL a)
section ADD2
variable {q : am_A} {h : am_H}
theorem am_Re_addN {t n y kt kn : Nat} {v0 : Int32} (R : am_Re q h) (hl : am_isL h (t, n)) (hlen : (qLS q (t, n)).length < qCP q (t, n)) (he : hFR h 1001 (t, n) = some (30, y)) :
    am_Re (uLS q (t, n) (qLS q (t, n) ++ [(kt, kn)])) (sFI (sAR (sFI h 1000 (t, n) v0) (30, y) (qLS q (t, n)).length (some (kt, kn))) 1002 (t, n) (zI (((qLS q (t, n)).length : Int) + 1))) := by
  obtain ⟨r1, r2, r3, r4, r5, r6, r7, r8, r9, r10, r11, r12, r13⟩ := R
  have eI : ∀ f r, hFI (sFI (sAR (sFI h 1000 (t, n) v0) (30, y) (qLS q (t, n)).length (some (kt, kn))) 1002 (t, n) (zI (((qLS q (t, n)).length : Int) + 1))) f r = if f = 1002 ∧ r = (t, n) then zI (((qLS q (t, n)).length : Int) + 1) else if f = 1000 ∧ r = (t, n) then v0 else hFI h f r := fun f r => rfl
  have eA : ∀ r k, hAR (sFI (sAR (sFI h 1000 (t, n) v0) (30, y) (qLS q (t, n)).length (some (kt, kn))) 1002 (t, n) (zI (((qLS q (t, n)).length : Int) + 1))) r k = if r = (30, y) ∧ k = (qLS q (t, n)).length then some (kt, kn) else hAR h r k := fun r k => rfl
  refine ⟨fun f r hf => ?_, r2, r3, fun r k hr => ?_, r5, r6, r7, r8, fun r hr => ?_, r10, r11, r12, r13⟩
  · rw [eI, if_neg (fun z => hf (by rw [z.1])), if_neg (fun z => hf (by rw [z.1]))]
    exact r1 f r hf
  · rw [eA, if_neg (fun z => hr (by rw [z.1]))]
    exact r4 r k hr
  · obtain ⟨x, y', a1, a2, a3, a4, a5, a6, a7⟩ := r9 r hr
    by_cases hrt : r = (t, n)
    · subst hrt
      cases he.symm.trans a1
      have eL : qLS (uLS q (t, n) (qLS q (t, n) ++ [(kt, kn)])) (t, n) = qLS q (t, n) ++ [(kt, kn)] := if_pos rfl
      refine ⟨30, y, he, ?_, ?_, a4, a5, fun i w hw => ?_, a7⟩
      · rw [eI, if_pos ⟨rfl, rfl⟩, eL, List.length_append]
        rfl
      · rw [eL, List.length_append]
        exact hlen
      · rw [eL] at hw
        rw [eA]
        by_cases hi : i = (qLS q (t, n)).length
        · subst hi
          rw [if_pos ⟨rfl, rfl⟩]
          simpa using hw
        · rw [if_neg (fun z => hi z.2)]
          have hlt := (List.getElem?_eq_some_iff.mp hw).1
          rw [List.length_append] at hlt
          have h1 : ([(kt, kn)] : List am_R).length = 1 := rfl
          rw [List.getElem?_append_left (by omega)] at hw
          exact a6 i w hw
    · have eL : qLS (uLS q (t, n) (qLS q (t, n) ++ [(kt, kn)])) r = qLS q r := if_neg hrt
      refine ⟨x, y', a1, ?_, by rw [eL]; exact a3, a4, a5, fun i w hw => ?_, a7⟩
      · rw [eI, if_neg (fun z => hrt z.2), if_neg (fun z => hrt z.2), eL]
        exact a2
      · rw [eL] at hw
        rw [eA, if_neg]
        · exact a6 i w hw
        · rintro ⟨z, -⟩
          rw [z] at a1
          exact hrt (r10 r (t, n) y hr hl a1 he)
end ADD2
def uLG (a : am_A) (r : am_R) (xs : List am_R) (c : Nat) : am_A := (qFI a, qFR a, qAI a, qAR a, qAJ a, qAD a, qAL a, qCN a, am_u1 (qLS a) r xs, am_u1 (qCP a) r c, qCE a + 1, qSL a + c)
section ADD3
variable {q : am_A} {h h' : am_H}
theorem am_Re_grow {t n w kt kn : Nat} {v0 : Int32} (R : am_Re q h) (hl : am_isL h (t, n)) (hw : (qLS q (t, n)).length < w) (hw1 : w ≤ 1000)
    (eI : ∀ f r, hFI h' f r = if f = 1002 ∧ r = (t, n) then zI (((qLS q (t, n)).length : Int) + 1) else if f = 1000 ∧ r = (t, n) then v0 else hFI h f r)
    (eR : ∀ f r, hFR h' f r = if f = 1001 ∧ r = (t, n) then some (30, hCN h 30) else hFR h f r)
    (eAI : ∀ r k, r.1 ≠ 30 → hAI h' r k = hAI h r k) (eAJ : ∀ r k, r.1 ≠ 30 → hAJ h' r k = hAJ h r k) (eAD : ∀ r k, r.1 ≠ 30 → hAD h' r k = hAD h r k)
    (eAR : ∀ r k, r ≠ (30, hCN h 30) → hAR h' r k = hAR h r k) (eN : ∀ i v, (qLS q (t, n))[i]? = some v → hAR h' (30, hCN h 30) i = some v) (eV : hAR h' (30, hCN h 30) (qLS q (t, n)).length = some (kt, kn))
    (eL : ∀ r, r ≠ (30, hCN h 30) → hAL h' r = hAL h r) (eL2 : hAL h' (30, hCN h 30) = w) (eC : ∀ t, t ≠ 30 → hCN h' t = hCN h t) (eC2 : hCN h' 30 = hCN h 30 + 1) (eE : hCE h' = hCE h + 1) (eS : hSL h' = hSL h + w) :
    am_Re (uLG q (t, n) (qLS q (t, n) ++ [(kt, kn)]) w) h' := by
  obtain ⟨r1, r2, r3, r4, r5, r6, r7, r8, r9, r10, r11, r12, r13⟩ := R
  have n30 : ∀ r : am_R, r.1 ≠ 30 → r ≠ (30, hCN h 30) := fun r hr z => hr (by rw [z])
  have nk : ∀ r : am_R, am_kc r.1 = some 10 → r.1 ≠ 30 := fun r hr z => by rw [z] at hr; cases hr
  have cL : ∀ r, am_isL h' r → am_isL h r := fun r hr => ⟨hr.1, by have := hr.2; rw [eC _ (nk r hr.1)] at this; exact this⟩
  refine ⟨fun f r hf => ?_, fun f r hf => ?_, fun r k hr => (eAI r k hr).trans (r3 r k hr), fun r k hr => (eAR r k (n30 r hr)).trans (r4 r k hr), fun r k hr => (eAJ r k hr).trans (r5 r k hr), fun r k hr => (eAD r k hr).trans (r6 r k hr), fun r hr => (eL r (n30 r hr)).trans (r7 r hr), fun t' ht' => (eC t' ht').trans (r8 t' ht'), fun r hr => ?_, fun r r' y' hr hr' h1 h2 => ?_, ?_, ?_, ?_⟩
  · rw [eI, if_neg (fun z => hf (by rw [z.1])), if_neg (fun z => hf (by rw [z.1]))]
    exact r1 f r hf
  · rw [eR, if_neg (fun z => hf (by rw [z.1]))]
    exact r2 f r hf
  · obtain ⟨x, y', a1, a2, a3, a4, a5, a6, a7⟩ := r9 r (cL r hr)
    by_cases hrt : r = (t, n)
    · subst hrt
      have eLS : qLS (uLG q (t, n) (qLS q (t, n) ++ [(kt, kn)]) w) (t, n) = qLS q (t, n) ++ [(kt, kn)] := if_pos rfl
      have eCP : qCP (uLG q (t, n) (qLS q (t, n) ++ [(kt, kn)]) w) (t, n) = w := if_pos rfl
      refine ⟨30, hCN h 30, by rw [eR, if_pos ⟨rfl, rfl⟩], ?_, ?_, by rw [eCP]; exact eL2.symm, by rw [eCP]; exact hw1, fun i v hv => ?_, Or.inr ⟨rfl, by rw [eC2]; exact Nat.lt_succ_self _, by rw [eCP]; omega⟩⟩
      · rw [eI, if_pos ⟨rfl, rfl⟩, eLS, List.length_append]
        rfl
      · rw [eLS, eCP, List.length_append]
        exact hw
      · rw [eLS] at hv
        by_cases hi : i = (qLS q (t, n)).length
        · subst hi
          rw [eV]
          simpa using hv
        · have hlt := (List.getElem?_eq_some_iff.mp hv).1
          rw [List.length_append] at hlt
          have h1 : ([(kt, kn)] : List am_R).length = 1 := rfl
          rw [List.getElem?_append_left (by omega)] at hv
          exact eN i v hv
    · have eLS : qLS (uLG q (t, n) (qLS q (t, n) ++ [(kt, kn)]) w) r = qLS q r := if_neg hrt
      have eCP : qCP (uLG q (t, n) (qLS q (t, n) ++ [(kt, kn)]) w) r = qCP q r := if_neg hrt
      have hxy : (x, y') ≠ (30, hCN h 30) := by
        intro z
        have z1 : x = 30 := congrArg Prod.fst z
        have z2 : y' = hCN h 30 := congrArg Prod.snd z
        rcases a7 with ⟨b1, -⟩ | ⟨-, b2, -⟩ <;> omega
      refine ⟨x, y', by rw [eR, if_neg (fun z => hrt z.2)]; exact a1, ?_, by rw [eLS, eCP]; exact a3, by rw [eCP, eL _ hxy]; exact a4, by rw [eCP]; exact a5, fun i v hv => ?_, ?_⟩
      · rw [eI, if_neg (fun z => hrt z.2), if_neg (fun z => hrt z.2), eLS]
        exact a2
      · rw [eLS] at hv
        rw [eAR _ _ hxy]
        exact a6 i v hv
      · rw [eCP, eC2]
        exact a7.imp id (fun z => ⟨z.1, Nat.lt_succ_of_lt z.2.1, z.2.2⟩)
  · have hf : ∀ r y, am_isL h r → hFR h 1001 r = some (30, y) → y < hCN h 30 := by
      intro r y hr he
      obtain ⟨x, y2, a1, -, -, -, -, -, a7⟩ := r9 r hr
      rw [he] at a1
      cases a1
      rcases a7 with ⟨b1, -⟩ | ⟨-, b2, -⟩
      · cases b1
      · exact b2
    rw [eR] at h1 h2
    by_cases c1 : r = (t, n) <;> by_cases c2 : r' = (t, n)
    · rw [c1, c2]
    · rw [if_pos ⟨rfl, c1⟩] at h1
      rw [if_neg (fun z => c2 z.2)] at h2
      cases h1
      exact absurd (hf r' _ (cL r' hr') h2) (Nat.lt_irrefl _)
    · rw [if_neg (fun z => c1 z.2)] at h1
      rw [if_pos ⟨rfl, c2⟩] at h2
      cases h2
      exact absurd (hf r _ (cL r hr) h1) (Nat.lt_irrefl _)
    · rw [if_neg (fun z => c1 z.2)] at h1
      rw [if_neg (fun z => c2 z.2)] at h2
      exact r10 r r' y' (cL r hr) (cL r' hr') h1 h2
  · rw [eE]
    exact Nat.succ_le_succ r11
  · rw [eS]
    exact Nat.add_le_add_right r12 w
  · rw [eL _ (by intro z; cases z)]
    exact r13
/-- add(E) on the abstract heap -/
def qAdd (q : am_A) (r v : am_R) : am_A := if (qLS q r).length < qCP q r then uLS q r (qLS q r ++ [v]) else uLG q r (qLS q r ++ [v]) (if qCP q r = 0 then 10 else qCP q r + max 1 (qCP q r / 2))
theorem sq_add {d t n kt kn : Nat} (hk : am_kc t = some 10) (h30 : t ≠ 30) (hn : n < qCN q t) (hw : qCP q (t, n) ≤ 600) (hkv : (am_kc kt).isSome = true ∧ kt < 10) : am_C2 (d + 5) m_AL_add2 [aR t n, aR kt kn] q (fun o q' => o = .inl (some (aI (zI 1))) ∧ q' = qAdd q (t, n) (kt, kn)) := fun h R => by
  have hl : am_isL h (t, n) := ⟨hk, by show n < hCN h t; rw [R.2.2.2.2.2.2.2.1 t h30]; exact hn⟩
  obtain ⟨x, y, a1, a2, a3, a4, a5, a6, a7⟩ := R.2.2.2.2.2.2.2.2.1 (t, n) hl
  have hz := R.2.2.2.2.2.2.2.2.2.2.2.2
  by_cases hlt : (qLS q (t, n)).length < qCP q (t, n)
  · rcases a7 with ⟨rfl, rfl, b3⟩ | ⟨rfl, b2, b3⟩
    · omega
    · refine am_C_imp (sp_add2N (d := d + 4) hk a2 a1 a4.symm a5 hlt hkv) (fun o h' hq => ?_)
      obtain ⟨rfl, rfl⟩ := hq
      refine ⟨qAdd q (t, n) (kt, kn), ?_, rfl, rfl⟩
      unfold qAdd
      rw [if_pos hlt]
      exact am_Re_addN R hl hlt a1
  · have hlen : (qLS q (t, n)).length = qCP q (t, n) := by omega
    rcases a7 with ⟨rfl, rfl, b3⟩ | ⟨rfl, b2, b3⟩
    · have h0 : qLS q (t, n) = [] := List.eq_nil_of_length_eq_zero (by omega)
      rw [h0] at a2
      refine am_C_imp (sp_add2E (d := d + 1) hk a2 a1 hz hkv) (fun o h' hq => ?_)
      obtain ⟨rfl, rfl⟩ := hq
      refine ⟨qAdd q (t, n) (kt, kn), ?_, rfl, rfl⟩
      unfold qAdd
      rw [if_neg hlt, if_pos b3]
      refine am_Re_grow (v0 := hFI h 1000 (t, n) + zI 1) R hl (by omega) (by omega) (fun f r => by rw [h0]; rfl) (fun f r => rfl) (fun r k hr => ?_) (fun r k hr => ?_) (fun r k hr => ?_) (fun r k hr => ?_) (fun i v hv => ?_) ?_ (fun r hr => ?_) ?_ (fun t' ht' => ?_) ?_ rfl rfl
      · exact congrFun (if_neg (fun z => hr (by rw [z]))) k
      · exact congrFun (if_neg (fun z => hr (by rw [z]))) k
      · exact congrFun (if_neg (fun z => hr (by rw [z]))) k
      · exact (if_neg (fun z => hr z.1)).trans (congrFun (if_neg hr) k)
      · rw [h0] at hv; cases hv
      · rw [h0]; exact if_pos ⟨rfl, rfl⟩
      · exact if_neg hr
      · exact if_pos rfl
      · exact if_neg ht'
      · show am_u1 (hCN h) 30 (hCN h 30 + 1) 30 = hCN h 30 + 1
        exact if_pos rfl
    · have b4 : qCP q (t, n) = hAL h (30, y) := a4
      rw [hlen] at a2
      refine am_C_imp (sp_add2C (d := d) (w := qCP q (t, n) + max 1 (qCP q (t, n) / 2)) hk a2 a1 a4.symm (by omega) (by omega) (by omega) (by omega) hkv) (fun o h' hq => ?_)
      obtain ⟨rfl, rfl⟩ := hq
      refine ⟨qAdd q (t, n) (kt, kn), ?_, rfl, rfl⟩
      unfold qAdd
      rw [if_neg hlt, if_neg (by omega)]
      refine am_Re_grow (v0 := hFI h 1000 (t, n) + zI 1) R hl (by omega) (by omega) (fun f r => by rw [hlen]; rfl) (fun f r => rfl) (fun r k hr => ?_) (fun r k hr => ?_) (fun r k hr => ?_) (fun r k hr => ?_) (fun i v hv => ?_) ?_ (fun r hr => ?_) ?_ (fun t' ht' => ?_) ?_ rfl rfl
      · exact congrFun (if_neg (fun z => hr (by rw [z]))) k
      · exact congrFun (if_neg (fun z => hr (by rw [z]))) k
      · exact congrFun (if_neg (fun z => hr (by rw [z]))) k
      · refine (if_neg (fun z => hr z.1)).trans ?_
        refine (congrFun (if_neg hr) k).trans ?_
        exact congrFun (if_neg hr) k
      · have hi := (List.getElem?_eq_some_iff.mp hv).1
        refine (if_neg (fun z => by have := z.2; omega)).trans ?_
        refine (congrFun (if_pos rfl) i).trans ?_
        have hb : i < 0 + min (hAL h (30, y)) (qCP q (t, n) + max 1 (qCP q (t, n) / 2)) := by
          rw [← b4]
          omega
        refine (if_pos ⟨Nat.zero_le _, hb⟩).trans ?_
        have hne : ¬ ((30, y) = hNX (sFI h 1000 (t, n) (hFI h 1000 (t, n) + zI 1)) 30) := fun z => by
          have z2 : y = hCN h 30 := congrArg Prod.snd z
          omega
        refine (congrFun (if_neg hne) _).trans ?_
        rw [show 0 + (i - 0) = i by omega]
        exact a6 i v hv
      · rw [hlen]; exact if_pos ⟨rfl, rfl⟩
      · exact if_neg hr
      · exact if_pos rfl
      · exact if_neg ht'
      · show am_u1 (hCN h) 30 (hCN h 30 + 1) 30 = hCN h 30 + 1
        exact if_pos rfl
end ADD3
end

noncomputable section
def uLS (a : am_A) (r : am_R) (xs : List am_R) : am_A := (qFI a, qFR a, qAI a, qAR a, qAJ a, qAD a, qAL a, qCN a, am_u1 (qLS a) r xs, qCP a, qCE a, qSL a)
section ADD2
variable {q : am_A} {h : am_H}
theorem am_Re_addN {t n y kt kn : Nat} {v0 : Int32} (R : am_Re q h) (hl : am_isL h (t, n)) (hlen : (qLS q (t, n)).length < qCP q (t, n)) (he : hFR h 1001 (t, n) = some (30, y)) :
    am_Re (uLS q (t, n) (qLS q (t, n) ++ [(kt, kn)])) (sFI (sAR (sFI h 1000 (t, n) v0) (30, y) (qLS q (t, n)).length (some (kt, kn))) 1002 (t, n) (zI (((qLS q (t, n)).length : Int) + 1))) := by
  obtain ⟨r1, r2, r3, r4, r5, r6, r7, r8, r9, r10, r11, r12, r13⟩ := R
  have eI : ∀ f r, hFI (sFI (sAR (sFI h 1000 (t, n) v0) (30, y) (qLS q (t, n)).length (some (kt, kn))) 1002 (t, n) (zI (((qLS q (t, n)).length : Int) + 1))) f r = if f = 1002 ∧ r = (t, n) then zI (((qLS q (t, n)).length : Int) + 1) else if f = 1000 ∧ r = (t, n) then v0 else hFI h f r := fun f r => rfl
  have eA : ∀ r k, hAR (sFI (sAR (sFI h 1000 (t, n) v0) (30, y) (qLS q (t, n)).length (some (kt, kn))) 1002 (t, n) (zI (((qLS q (t, n)).length : Int) + 1))) r k = if r = (30, y) ∧ k = (qLS q (t, n)).length then some (kt, kn) else hAR h r k := fun r k => rfl
  refine ⟨fun f r hf => ?_, r2, r3, fun r k hr => ?_, r5, r6, r7, r8, fun r hr => ?_, r10, r11, r12, r13⟩
  · rw [eI, if_neg (fun z => hf (by rw [z.1])), if_neg (fun z => hf (by rw [z.1]))]
    exact r1 f r hf
  · rw [eA, if_neg (fun z => hr (by rw [z.1]))]
    exact r4 r k hr
  · obtain ⟨x, y', a1, a2, a3, a4, a5, a6, a7⟩ := r9 r hr
    by_cases hrt : r = (t, n)
    · subst hrt
      cases he.symm.trans a1
      have eL : qLS (uLS q (t, n) (qLS q (t, n) ++ [(kt, kn)])) (t, n) = qLS q (t, n) ++ [(kt, kn)] := if_pos rfl
      refine ⟨30, y, he, ?_, ?_, a4, a5, fun i w hw => ?_, a7⟩
      · rw [eI, if_pos ⟨rfl, rfl⟩, eL, List.length_append]
        rfl
      · rw [eL, List.length_append]
        exact hlen
      · rw [eL] at hw
        rw [eA]
        by_cases hi : i = (qLS q (t, n)).length
        · subst hi
          rw [if_pos ⟨rfl, rfl⟩]
          simpa using hw
        · rw [if_neg (fun z => hi z.2)]
          have hlt := (List.getElem?_eq_some_iff.mp hw).1
          rw [List.length_append] at hlt
          have h1 : ([(kt, kn)] : List am_R).length = 1 := rfl
          rw [List.getElem?_append_left (by omega)] at hw
          exact a6 i w hw
    · have eL : qLS (uLS q (t, n) (qLS q (t, n) ++ [(kt, kn)])) r = qLS q r := if_neg hrt
      refine ⟨x, y', a1, ?_, by rw [eL]; exact a3, a4, a5, fun i w hw => ?_, a7⟩
      · rw [eI, if_neg (fun z => hrt z.2), if_neg (fun z => hrt z.2), eL]
        exact a2
      · rw [eL] at hw
        rw [eA, if_neg]
        · exact a6 i w hw
        · rintro ⟨z, -⟩
          rw [z] at a1
          exact hrt (r10 r (t, n) y hr hl a1 he)
end ADD2
end

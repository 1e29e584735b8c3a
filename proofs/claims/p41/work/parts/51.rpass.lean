noncomputable section
theorem fLv_0 {s : am_Z} (B : in_S s) (hU : am_UQ s) {l : Int} : nTc (gl0 s) l = sumI 0 (rI s 44).toNat (fLv (gl0 s) l) := by
  show sumI 0 (rI s 44).toNat (bTc (gl0 s) l) = _
  refine sumI_c (fun b h1 h2 => ?_)
  have e1 : bTc (gl0 s) l b = bTc s l b := rfl
  have e2 : cfS (gl0 s) b l = cfS s b l := cfS_cg (s := s) (s' := gl0 s) rfl rfl (fun _ _ => ⟨rfl, Iff.rfl⟩) l
  have e3 : rA (gl0 s) 67 b = 0 := if_pos ⟨rfl, h1, h2⟩
  unfold fLv
  rw [e1, bTc_cf B (hU b h1 (by omega)), e3, e2, if_pos rfl]
  rfl
def lapF (i : Nat) (t : am_Z) : am_Z := if rA t 47 i = 0 ∧ rA t 48 i ≤ rI t 0 then voidS (wA t 47 i 2) i else t
def lgF (i : Nat) (t : am_Z) : am_Z := if legP t i ∧ rA t 18 (61 * ((i : Int) / 100) + (i : Int) % 100) = 0 ∧ dep t i = rI t 0 then goS t i else t
def hrS (t : am_Z) : am_Z := itS lgF (100 * rI t 3).toNat (itS lapF (rI t 44).toNat (wI t 0 (rI t 0 + 1)))
def kPass (h : Int) : Int := if 1 ≤ h ∧ h ≤ 100 then 0 else 1
theorem lapF_2 (i : Nat) (t : am_Z) : (lapF i t).2 = t.2 := by unfold lapF; split <;> rfl
theorem lapF_UQ {i : Nat} {t : am_Z} (h : am_UQ t) : am_UQ (lapF i t) := by
  unfold lapF
  split
  · exact voidS_UQ (UQ_cg (s := t) (s' := wA t 47 i 2) rfl (fun _ => rfl) (fun _ => rfl) (fun _ z => z) h)
  · exact h
theorem lgF_I {i : Nat} {t : am_Z} {j : Nat} (h1 : j ≠ 68) (h2 : j ≠ 72) (h3 : j ≠ 73) : rI (lgF i t) j = rI t j := by
  unfold lgF
  split
  · exact goS_I t i h1 h2 h3
  · rfl
end


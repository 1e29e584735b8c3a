noncomputable section
def uNO (a : am_A) (t n : Nat) : am_A := (fun f r => if r = (t, qCN a t) then 0 else qFI a f r, fun f r => if r = (t, qCN a t) then none else qFR a f r, qAI a, qAR a, qAJ a, qAD a, qAL a, am_u1 (qCN a) t (qCN a t + 1), qLS a, qCP a, qCE a + 1, qSL a + n)
def uNA (a : am_A) (t n : Nat) : am_A := (qFI a, qFR a, fun r => if r = (t, qCN a t) then (fun _ => 0) else qAI a r, fun r => if r = (t, qCN a t) then (fun _ => none) else qAR a r, fun r => if r = (t, qCN a t) then (fun _ => 0) else qAJ a r, fun r => if r = (t, qCN a t) then (fun _ => 0) else qAD a r, am_u1 (qAL a) (t, qCN a t) n, am_u1 (qCN a) t (qCN a t + 1), qLS a, qCP a, qCE a + 1, qSL a + n)
/-- a new list -/
def uNL (a : am_A) (t : Nat) : am_A := (fun f r => if r = (t, qCN a t) then 0 else qFI a f r, fun f r => if r = (t, qCN a t) then none else qFR a f r, qAI a, qAR a, qAJ a, qAD a, qAL a, am_u1 (qCN a) t (qCN a t + 1), am_u1 (qLS a) (t, qCN a t) [], am_u1 (qCP a) (t, qCN a t) 0, qCE a + 1, qSL a + 3)
section NEW2
variable {d y pc p t : Nat} {ls : List (Option am_V)} {st : List am_V} {q : am_A} {h : am_H} {Q : am_O → am_A → Prop}
theorem am_Re_NO {t n : Nat} (R : am_Re q h) (ht : am_kc t ≠ some 10) (h30 : t ≠ 30) : am_Re (uNO q t n) (hNO h t n) := by
  obtain ⟨r1, r2, r3, r4, r5, r6, r7, r8, r9, r10, r11, r12, r13⟩ := R
  have e : hCN h t = qCN q t := r8 t h30
  have hne : ∀ r, am_kc r.1 = some 10 → r ≠ hNX h t := fun r hr z => ht (by rw [z] at hr; exact hr)
  have eL : ∀ r, am_isL (hNO h t n) r → am_isL h r := by
    intro r hr
    refine ⟨hr.1, ?_⟩
    have h2 : r.2 < am_u1 (hCN h) t (hCN h t + 1) r.1 := hr.2
    unfold am_u1 at h2
    rw [if_neg (fun z => ht (by rw [← z]; exact hr.1))] at h2
    exact h2
  have eF : ∀ r, am_kc r.1 = some 10 → hFR (hNO h t n) 1001 r = hFR h 1001 r := fun r hr => if_neg (hne r hr)
  refine ⟨fun f r hf => ?_, fun f r hf => ?_, r3, r4, r5, r6, r7, fun t' ht' => ?_, fun r hl => ?_, fun r r' y hl hl' h1 h2 => r10 r r' y (eL r hl) (eL r' hl') ((eF r hl.1).symm.trans h1) ((eF r' hl'.1).symm.trans h2), Nat.succ_le_succ r11, Nat.add_le_add_right r12 n, r13⟩
  · show (if r = hNX h t then (0 : Int32) else hFI h f r) = zI (if r = (t, qCN q t) then 0 else qFI q f r)
    rw [← e]
    split
    · rfl
    · exact r1 f r hf
  · show (if r = hNX h t then none else hFR h f r) = (if r = (t, qCN q t) then none else qFR q f r)
    rw [← e]
    split
    · rfl
    · exact r2 f r hf
  · show am_u1 (hCN h) t (hCN h t + 1) t' = am_u1 (qCN q) t (qCN q t + 1) t'
    unfold am_u1
    split
    · rw [e]
    · exact r8 t' ht'
  · obtain ⟨x, y, a1, a2, a3, a4, a5, a6, a7⟩ := r9 r (eL r hl)
    refine ⟨x, y, (eF r hl.1).trans a1, ?_, a3, a4, a5, a6, a7.imp id (fun z => ⟨z.1, ?_, z.2.2⟩)⟩
    · show (if r = hNX h t then (0 : Int32) else hFI h 1002 r) = _
      rw [if_neg (hne r hl.1)]
      exact a2
    · show y < am_u1 (hCN h) t (hCN h t + 1) 30
      unfold am_u1
      rw [if_neg (Ne.symm h30)]
      exact z.2.1
theorem am_Re_NA {t n : Nat} (R : am_Re q h) (ht : am_kc t ≠ some 10) (h30 : t ≠ 30) (h32 : t ≠ 32) : am_Re (uNA q t n) (hNA h t n) := by
  obtain ⟨r1, r2, r3, r4, r5, r6, r7, r8, r9, r10, r11, r12, r13⟩ := R
  have e : hCN h t = qCN q t := r8 t h30
  have eL : ∀ r, am_isL (hNA h t n) r → am_isL h r := by
    intro r hr
    refine ⟨hr.1, ?_⟩
    have h2 : r.2 < am_u1 (hCN h) t (hCN h t + 1) r.1 := hr.2
    unfold am_u1 at h2
    rw [if_neg (fun z => ht (by rw [← z]; exact hr.1))] at h2
    exact h2
  refine ⟨r1, r2, fun r k hr => ?_, fun r k hr => ?_, fun r k hr => ?_, fun r k hr => ?_, fun r hr => ?_, fun t' ht' => ?_, fun r hl => ?_, fun r r' y hl hl' h1 h2 => r10 r r' y (eL r hl) (eL r' hl') h1 h2, Nat.succ_le_succ r11, Nat.add_le_add_right r12 n, ?_⟩
  · show (if r = hNX h t then (fun _ => (0 : Int32)) else hAI h r) k = zI ((if r = (t, qCN q t) then (fun _ => 0) else qAI q r) k)
    rw [← e]
    split
    · rfl
    · exact r3 r k hr
  · show (if r = hNX h t then (fun _ => none) else hAR h r) k = (if r = (t, qCN q t) then (fun _ => none) else qAR q r) k
    rw [← e]
    split
    · rfl
    · exact r4 r k hr
  · show (if r = hNX h t then (fun _ => (0 : Int64)) else hAJ h r) k = (if r = (t, qCN q t) then (fun _ => 0) else qAJ q r) k
    rw [← e]
    split
    · rfl
    · exact r5 r k hr
  · show (if r = hNX h t then (fun _ => (0 : UInt64)) else hAD h r) k = (if r = (t, qCN q t) then (fun _ => 0) else qAD q r) k
    rw [← e]
    split
    · rfl
    · exact r6 r k hr
  · show am_u1 (hAL h) (hNX h t) n r = am_u1 (qAL q) (t, qCN q t) n r
    rw [← e]
    unfold am_u1
    split
    · rfl
    · exact r7 r hr
  · show am_u1 (hCN h) t (hCN h t + 1) t' = am_u1 (qCN q) t (qCN q t + 1) t'
    unfold am_u1
    split
    · rw [e]
    · exact r8 t' ht'
  · obtain ⟨x, y, a1, a2, a3, a4, a5, a6, a7⟩ := r9 r (eL r hl)
    have hxy : (x, y) ≠ hNX h t := by
      intro z
      have z1 : x = t := congrArg Prod.fst z
      rcases a7 with ⟨z2, -⟩ | ⟨z2, -⟩
      · exact h32 (z1.symm.trans z2)
      · exact h30 (z1.symm.trans z2)
    refine ⟨x, y, a1, a2, a3, ?_, a5, fun i v hv => ?_, a7.imp id (fun z => ⟨z.1, ?_, z.2.2⟩)⟩
    · show qCP q r = am_u1 (hAL h) (hNX h t) n (x, y)
      unfold am_u1
      rw [if_neg hxy]
      exact a4
    · show (if (x, y) = hNX h t then (fun _ => none) else hAR h (x, y)) i = _
      rw [if_neg hxy]
      exact a6 i v hv
    · show y < am_u1 (hCN h) t (hCN h t + 1) 30
      unfold am_u1
      rw [if_neg (Ne.symm h30)]
      exact z.2.1
  · show am_u1 (hAL h) (hNX h t) n (32, 0) = 0
    unfold am_u1
    rw [if_neg (fun z => h32 (congrArg Prod.fst z).symm)]
    exact r13
theorem am_Re_NL {t : Nat} (R : am_Re q h) (ht : am_kc t = some 10) (h30 : t ≠ 30) : am_Re (uNL q t) (sFR (sFI (hNO h t 3) 1000 (hNX h t) 0) 1001 (hNX h t) (some (32, 0))) := by
  obtain ⟨r1, r2, r3, r4, r5, r6, r7, r8, r9, r10, r11, r12, r13⟩ := R
  have e : hCN h t = qCN q t := r8 t h30
  have eR : ∀ f r, r ≠ hNX h t → hFR (sFR (sFI (hNO h t 3) 1000 (hNX h t) 0) 1001 (hNX h t) (some (32, 0))) f r = hFR h f r := by
    intro f r hr
    show (if f = 1001 ∧ r = hNX h t then some (32, 0) else (if r = hNX h t then none else hFR h f r)) = _
    rw [if_neg (fun z => hr z.2), if_neg hr]
  have eI : ∀ f r, r ≠ hNX h t → hFI (sFR (sFI (hNO h t 3) 1000 (hNX h t) 0) 1001 (hNX h t) (some (32, 0))) f r = hFI h f r := by
    intro f r hr
    show (if f = 1000 ∧ r = hNX h t then (0 : Int32) else (if r = hNX h t then (0 : Int32) else hFI h f r)) = _
    rw [if_neg (fun z => hr z.2), if_neg hr]
  have eN : hFR (sFR (sFI (hNO h t 3) 1000 (hNX h t) 0) 1001 (hNX h t) (some (32, 0))) 1001 (hNX h t) = some (32, 0) := by
    show am_u2 (fun f r => if r = hNX h t then none else hFR h f r) 1001 (hNX h t) (some (32, 0)) 1001 (hNX h t) = _
    unfold am_u2
    rw [if_pos ⟨rfl, rfl⟩]
  have eL : ∀ r, am_isL (sFR (sFI (hNO h t 3) 1000 (hNX h t) 0) 1001 (hNX h t) (some (32, 0))) r → r = hNX h t ∨ (r ≠ hNX h t ∧ am_isL h r) := by
    intro r hr
    obtain ⟨a, b⟩ := r
    have h2 : b < am_u1 (hCN h) t (hCN h t + 1) a := hr.2
    unfold am_u1 at h2
    by_cases ha : a = t
    · subst ha
      rw [if_pos rfl] at h2
      by_cases hb : b = hCN h a
      · exact Or.inl (by rw [hb])
      · exact Or.inr ⟨fun z => hb (congrArg Prod.snd z), hr.1, by show b < hCN h a; omega⟩
    · rw [if_neg ha] at h2
      exact Or.inr ⟨fun z => ha (congrArg Prod.fst z), hr.1, h2⟩
  have eLS : qLS (uNL q t) (hNX h t) = [] := by
    show am_u1 (qLS q) (t, qCN q t) [] (t, hCN h t) = []
    rw [e]
    exact if_pos rfl
  have eCP : qCP (uNL q t) (hNX h t) = 0 := by
    show am_u1 (qCP q) (t, qCN q t) 0 (t, hCN h t) = 0
    rw [e]
    exact if_pos rfl
  refine ⟨fun f r hf => ?_, fun f r hf => ?_, r3, r4, r5, r6, r7, fun t' ht' => ?_, fun r hl => ?_, fun r r' y hl hl' h1 h2 => ?_, Nat.succ_le_succ r11, Nat.add_le_add_right r12 3, r13⟩
  · show (if f = 1000 ∧ r = hNX h t then (0 : Int32) else (if r = hNX h t then (0 : Int32) else hFI h f r)) = zI (if r = (t, qCN q t) then 0 else qFI q f r)
    rw [if_neg (fun z => hf (by rw [z.1])), ← e]
    split
    · rfl
    · exact r1 f r hf
  · show (if f = 1001 ∧ r = hNX h t then some (32, 0) else (if r = hNX h t then none else hFR h f r)) = (if r = (t, qCN q t) then none else qFR q f r)
    rw [if_neg (fun z => hf (by rw [z.1])), ← e]
    split
    · rfl
    · exact r2 f r hf
  · show am_u1 (hCN h) t (hCN h t + 1) t' = am_u1 (qCN q) t (qCN q t + 1) t'
    unfold am_u1
    split
    · rw [e]
    · exact r8 t' ht'
  · rcases eL r hl with rfl | ⟨hr, hl'⟩
    · refine ⟨32, 0, eN, ?_, by rw [eLS, eCP]; exact Nat.le_refl 0, by rw [eCP]; exact r13.symm, by rw [eCP]; omega, fun i v hv => (by rw [eLS] at hv; cases hv), Or.inl ⟨rfl, rfl, eCP⟩⟩
      rw [eLS]
      show (if 1002 = 1000 ∧ hNX h t = hNX h t then (0 : Int32) else (if hNX h t = hNX h t then (0 : Int32) else hFI h 1002 (hNX h t))) = _
      rw [if_neg (fun z => by cases z.1), if_pos rfl]
      rfl
    · obtain ⟨x, y, a1, a2, a3, a4, a5, a6, a7⟩ := r9 r hl'
      have hr' : r ≠ (t, qCN q t) := by rw [← e]; exact hr
      have eo : qLS (uNL q t) r = qLS q r := by
        show am_u1 (qLS q) (t, qCN q t) [] r = _
        unfold am_u1
        exact if_neg hr'
      have ep : qCP (uNL q t) r = qCP q r := by
        show am_u1 (qCP q) (t, qCN q t) 0 r = _
        unfold am_u1
        exact if_neg hr'
      refine ⟨x, y, (eR 1001 r hr).trans a1, (eI 1002 r hr).trans (by rw [eo]; exact a2), by rw [eo, ep]; exact a3, by rw [ep]; exact a4, by rw [ep]; exact a5, fun i v hv => (by rw [eo] at hv; exact a6 i v hv), a7.imp (fun z => ⟨z.1, z.2.1, by rw [ep]; exact z.2.2⟩) (fun z => ⟨z.1, ?_, by rw [ep]; exact z.2.2⟩)⟩
      show y < am_u1 (hCN h) t (hCN h t + 1) 30
      unfold am_u1
      rw [if_neg (Ne.symm h30)]
      exact z.2.1
  · rcases eL r hl with rfl | ⟨hr, hl2⟩
    · cases eN.symm.trans h1
    · rcases eL r' hl' with rfl | ⟨hr', hl2'⟩
      · cases eN.symm.trans h2
      · exact r10 r r' y hl2 hl2' ((eR 1001 r hr).symm.trans h1) ((eR 1001 r' hr').symm.trans h2)
theorem ar_new {kt nf : Nat} (hc : am_ne y pc = some (kt, nf, p)) (ht : am_kc kt ≠ some 10) (h30 : kt ≠ 30) (k : am_W2 d y p ls (aR kt (qCN q kt) :: st) (uNO q kt nf) Q) : am_W2 d y pc ls st q Q := fun h R => s_new hc (by rw [R.2.2.2.2.2.2.2.1 kt h30]; exact k _ (am_Re_NO R ht h30))
theorem ar_newa {kt m : Nat} {i : Int} (hc : am_na y pc = some (kt, p)) (ht : am_kc kt ≠ some 10) (h30 : kt ≠ 30) (h32 : kt ≠ 32) (hi : i = (m : Int)) (hm : m ≤ 1000) (k : am_W2 d y p ls (aR kt (qCN q kt) :: st) (uNA q kt m) Q) : am_W2 d y pc ls (aI (zI i) :: st) q Q := fun h R => s_newa hc (by rw [zI_toInt (by unfold in32; omega), hi]) hm (by rw [R.2.2.2.2.2.2.2.1 kt h30]; exact k _ (am_Re_NA R ht h30 h32))
end NEW2
end

noncomputable section
/-! What a write, and what is new, do to the clean heap's picture. -/
def am_tyc (ci : Nat) : Nat → FieldType := match ci with
  | 0 => tyX0
  | 1 => tyX1
  | 2 => tyX2
  | 3 => tyX3
  | 4 => tyX4
  | 5 => tyX5
  | 6 => tyX6
  | 7 => tyX7
  | 8 => tyX8
  | 9 => tyX8
  | 10 => tyJx4a65c
  | _ => fun _ => .int
/-- a class's fields: as the tables of the clean machine have them -/
def am_fck (ci : Nat) (C : String) (T : u_T) (N : Nat) : Bool := (List.range N).all (fun k => (match am_tyc ci k with
    | .int => !(am_fr (100 * ci + k)) && !(am_fb (100 * ci + k))
    | .boolean => !(am_fr (100 * ci + k)) && am_fb (100 * ci + k)
    | .object _ => am_fr (100 * ci + k)
    | .array _ => am_fr (100 * ci + k)
    | _ => false) && ((T k).2.2.2 == am_ff (100 * ci + k)) && (!((T k).2.2.2) || decide ((T k).1 = C)))
theorem am_clf {ci : Nat} {C : String} {T : u_T} {N : Nat} (h : am_cls[ci]? = some (C, T, N)) : (∀ w ∈ u_ws C T N, w ∈ am_WS) ∧ (∀ k, k < N → parseFieldDescriptor (T k).2.2.1 = some (am_tyc ci k)) ∧ (∀ a, a < N → ∀ b, b < N → a ≠ b → (T a).2.1 ≠ (T b).2.1) ∧ am_fck ci C T N = true ∧ C = am_cn ci := by
  match ci, h with
  | 0, h => cases h; exact ⟨am_in_0, tyX0_ok, nmX0, by decide +kernel, rfl⟩
  | 1, h => cases h; exact ⟨am_in_1, tyX1_ok, nmX1, by decide +kernel, rfl⟩
  | 2, h => cases h; exact ⟨am_in_2, tyX2_ok, nmX2, by decide +kernel, rfl⟩
  | 3, h => cases h; exact ⟨am_in_3, tyX3_ok, nmX3, by decide +kernel, rfl⟩
  | 4, h => cases h; exact ⟨am_in_4, tyX4_ok, nmX4, by decide +kernel, rfl⟩
  | 5, h => cases h; exact ⟨am_in_5, tyX5_ok, nmX5, by decide +kernel, rfl⟩
  | 6, h => cases h; exact ⟨am_in_6, tyX6_ok, nmX6, by decide +kernel, rfl⟩
  | 7, h => cases h; exact ⟨am_in_7, tyX7_ok, nmX7, by decide +kernel, rfl⟩
  | 8, h => cases h; exact ⟨am_in_8, tyX8_ok, nmX8, by decide +kernel, rfl⟩
  | 9, h => cases h; exact ⟨am_in_9, tyX8_ok, nmX8, by decide +kernel, rfl⟩
  | 10, h => cases h; exact ⟨am_in_10, tyJx4a65c_ok, nmJx4a65c, by decide +kernel, rfl⟩
  | n + 11, h => simp [am_cls] at h
theorem am_fck_s {ci : Nat} {C : String} {T : u_T} {N : Nat} (h : am_fck ci C T N = true) {k : Nat} (hk : k < N) : ((am_fr (100 * ci + k) = false ∧ ((am_tyc ci k = .int ∧ am_fb (100 * ci + k) = false) ∨ (am_tyc ci k = .boolean ∧ am_fb (100 * ci + k) = true))) ∨ (am_fr (100 * ci + k) = true ∧ ((∃ n, am_tyc ci k = .object n) ∨ ∃ t, am_tyc ci k = .array t))) ∧ (T k).2.2.2 = am_ff (100 * ci + k) ∧ ((T k).2.2.2 = true → (T k).1 = C) := by
  have h1 := List.all_eq_true.mp h k (List.mem_range.mpr hk)
  simp only [Bool.and_eq_true] at h1
  obtain ⟨⟨h1, h2⟩, h3⟩ := h1
  refine ⟨?_, by simpa using h2, fun hf => by rw [hf] at h3; simpa using h3⟩
  cases ht : am_tyc ci k <;> rw [ht] at h1 <;> simp at h1
  · exact Or.inl ⟨h1.1, Or.inl ⟨rfl, h1.2⟩⟩
  · exact Or.inl ⟨h1.1, Or.inr ⟨rfl, h1.2⟩⟩
  · exact Or.inr ⟨h1, Or.inl ⟨_, rfl⟩⟩
  · exact Or.inr ⟨h1, Or.inr ⟨_, rfl⟩⟩
theorem am_cl14_of {ci : Nat} {r : vw_C} (h : am_cls[ci]? = some r) : am_cl14[ci]? = some r := by
  show (am_cls ++ _)[ci]? = some r
  rw [List.getElem?_append_left (List.getElem?_eq_some_iff.mp h).1]
  exact h
theorem am_nf_of {ci : Nat} {C : String} {T : u_T} {N : Nat} (h : am_cls[ci]? = some (C, T, N)) : am_nf ci = N := by
  unfold am_nf
  rw [am_cl14_of h]
theorem am_ob_at {ad : am_R → Nat} {h : am_H} {r : am_R} {ci j : Nat} (hj : j < am_nf ci) : (am_ob ad h r ci)[j]? = some (am_fv ad h r (100 * ci + j)) := by
  unfold am_ob
  rw [List.getElem?_map, List.getElem?_range hj]
  rfl
theorem am_ob_I {ad : am_R → Nat} {h : am_H} {r : am_R} {ci j : Nat} {v : Int32} (hr : am_fr (100 * ci + j) = false) : (am_ob ad h r ci).set j (.int v) = am_ob ad (sFI h (100 * ci + j) r v) r ci := by
  apply List.ext_getElem (by simp [am_ob])
  intro k h1 h2
  simp only [List.getElem_set, am_ob, List.getElem_map, List.getElem_range]
  by_cases hk : j = k
  · subst hk
    rw [if_pos rfl]
    simp [am_fv, hr, hFI, sFI, am_u2]
  · rw [if_neg hk]
    have hne : ¬ (100 * ci + k = 100 * ci + j) := by omega
    have hne2 : ¬ (k = j) := fun e => hk e.symm
    simp [am_fv, hFI, hFR, sFI, am_u2, hne2]
theorem am_ob_R {ad : am_R → Nat} {h : am_H} {r : am_R} {ci j : Nat} {v : Option am_R} (hr : am_fr (100 * ci + j) = true) : (am_ob ad h r ci).set j (va_rf (v.map ad)) = am_ob ad (sFR h (100 * ci + j) r v) r ci := by
  apply List.ext_getElem (by simp [am_ob])
  intro k h1 h2
  simp only [List.getElem_set, am_ob, List.getElem_map, List.getElem_range]
  by_cases hk : j = k
  · subst hk
    rw [if_pos rfl]
    simp [am_fv, hr, hFR, hFI, sFR, am_u2]
  · rw [if_neg hk]
    have hne2 : ¬ (k = j) := fun e => hk e.symm
    simp [am_fv, hFI, hFR, sFR, am_u2, hne2]
theorem am_en_FI {G : am_G} {ad : am_R → Nat} {h : am_H} {f : Nat} {r r' : am_R} {v : Int32} (hr : r' ≠ r) : am_en G ad (sFI h f r v) r' = am_en G ad h r' := by
  unfold am_en
  cases am_kc r'.1 with
  | none => rfl
  | some ci => simp [am_ob, am_fv, hFI, hFR, sFI, am_u2, hr]
theorem am_en_FR {G : am_G} {ad : am_R → Nat} {h : am_H} {f : Nat} {r r' : am_R} {v : Option am_R} (hr : r' ≠ r) : am_en G ad (sFR h f r v) r' = am_en G ad h r' := by
  unfold am_en
  cases am_kc r'.1 with
  | none => rfl
  | some ci => simp [am_ob, am_fv, hFI, hFR, sFR, am_u2, hr]
section UPD
variable {G : am_G} {A : Nat → Prop} {H0 H H1 : Heap} {h : am_H} {ad : am_R → Nat} {L : List am_R} {locs locs1 : List Loc} {q0 : Nat} {r : am_R}
theorem am_Si_FI {ci j : Nat} {v : Int32} (S : am_Si G A H0 h ad L H locs) (hq : L[q0]? = some r) (hk : am_kc r.1 = some ci) (hr : am_fr (100 * ci + j) = false)
    (hP : va_P (gD G) am_cl14 ((am_ws G ad h L).set q0 (ad r, .inr (ci, (am_ob ad h r ci).set j (.int v)))) H1) (hD : va_D A ((am_ws G ad h L).set q0 (ad r, .inr (ci, (am_ob ad h r ci).set j (.int v))))) (hS : va_S A H0 H1 locs1) : am_Si G A H0 (sFI h (100 * ci + j) r v) ad L H1 locs1 := by
  have e : (.inr (ci, (am_ob ad h r ci).set j (.int v)) : va_E) = am_en G ad (sFI h (100 * ci + j) r v) r := by
    rw [am_ob_I hr]
    unfold am_en
    rw [hk]
  rw [e, am_ws_set S.2.2.1 hq (fun r' h' => am_en_FI h')] at hP hD
  exact ⟨S.1, hP, hD, hS⟩
theorem am_Si_FR {ci j : Nat} {v : Option am_R} (S : am_Si G A H0 h ad L H locs) (hq : L[q0]? = some r) (hk : am_kc r.1 = some ci) (hr : am_fr (100 * ci + j) = true) (hv : ∀ x, v = some x → am_ok h x)
    (hP : va_P (gD G) am_cl14 ((am_ws G ad h L).set q0 (ad r, .inr (ci, (am_ob ad h r ci).set j (va_rf (v.map ad))))) H1) (hD : va_D A ((am_ws G ad h L).set q0 (ad r, .inr (ci, (am_ob ad h r ci).set j (va_rf (v.map ad)))))) (hS : va_S A H0 H1 locs1) : am_Si G A H0 (sFR h (100 * ci + j) r v) ad L H1 locs1 := by
  have e : (.inr (ci, (am_ob ad h r ci).set j (va_rf (v.map ad))) : va_E) = am_en G ad (sFR h (100 * ci + j) r v) r := by
    rw [am_ob_R hr]
    unfold am_en
    rw [hk]
  rw [e, am_ws_set S.2.2.1 hq (fun r' h' => am_en_FR h')] at hP hD
  obtain ⟨⟨s1, s2, s3, s4, s5, s6, s7, s8, s9⟩, -⟩ := S
  refine ⟨⟨s1, fun f q x hx => ?_, s3, s4, s5, s6, s7, s8, s9⟩, hP, hD, hS⟩
  have hx' : am_u2 (hFR h) (100 * ci + j) r v f q = some x := hx
  unfold am_u2 at hx'
  split at hx'
  · exact hv x hx'
  · exact s2 f q x hx'
/-- the content of an array after a write -/
theorem am_Si_A {a : Nat} {h' : am_H} {cell : vp_A} (S : am_Si G A H0 h ad L H locs) (hq : L[q0]? = some r) (hk : am_kc r.1 = none) (ha : am_ka r.1 = some a) (hm : am_Sm G h' ad L) (hc : cell = am_aa ad h' r a) (he : ∀ r', r' ≠ r → am_en G ad h' r' = am_en G ad h r')
    (hP : va_P (gD G) am_cl14 ((am_ws G ad h L).set q0 (ad r, .inl (gA G a, cell))) H1) (hD : va_D A ((am_ws G ad h L).set q0 (ad r, .inl (gA G a, cell)))) (hS : va_S A H0 H1 locs1) : am_Si G A H0 h' ad L H1 locs1 := by
  have e : (.inl (gA G a, cell) : va_E) = am_en G ad h' r := by
    subst hc
    unfold am_en
    rw [hk, ha]
    rfl
  rw [e, am_ws_set S.2.2.1 hq he] at hP hD
  exact ⟨hm, hP, hD, hS⟩
theorem am_aa_ne {h h' : am_H} {r' : am_R} (h1 : hAL h' r' = hAL h r') (h2 : hAI h' r' = hAI h r') (h3 : hAR h' r' = hAR h r') (h4 : hAJ h' r' = hAJ h r') (h5 : hAD h' r' = hAD h r') (a : Nat) : am_aa ad h' r' a = am_aa ad h r' a := by
  unfold am_aa
  rw [h1, h2, h3, h4, h5]
theorem am_en_A {h h' : am_H} {r' : am_R} (hF : hFI h' = hFI h) (hR : hFR h' = hFR h) (h1 : hAL h' r' = hAL h r') (h2 : hAI h' r' = hAI h r') (h3 : hAR h' r' = hAR h r') (h4 : hAJ h' r' = hAJ h r') (h5 : hAD h' r' = hAD h r') : am_en G ad h' r' = am_en G ad h r' := by
  unfold am_en
  cases am_kc r'.1 with
  | none => dsimp only; rw [am_aa_ne h1 h2 h3 h4 h5]
  | some ci => unfold am_ob am_fv; rw [hF, hR]
theorem am_u2_ne {α β γ : Type} [DecidableEq α] [DecidableEq β] {f : α → β → γ} {a a' : α} {b : β} {v : γ} (h : a' ≠ a) : am_u2 f a b v a' = f a' := by
  funext x
  simp [am_u2, h]
theorem am_u2_eq {α γ : Type} [DecidableEq α] {f : α → Nat → γ} {a : α} {b : Nat} {v : γ} : am_u2 f a b v a = fun j => if j = b then v else f a j := by
  funext x
  simp [am_u2]
/-- a new cell -/
theorem am_Si_new {h' : am_H} {q : Nat} {e : va_E} {t : Nat} (S : am_Si G A H0 h ad L H locs) (hg : am_gk t) (ht : t < 13 ∨ 15 < t) (hcn : hCN h' = am_u1 (hCN h) t (hCN h t + 1)) (hm1 : ∀ f r q, hFR h' f r = some q → am_ok h q) (hm2 : ∀ r j q, hAR h' r j = some q → am_ok h q ∧ q.1 < 10)
    (he : e = am_en G (fun x => if x = (t, hCN h t) then q else ad x) h' (t, hCN h t)) (hne : ∀ r', r' ≠ (t, hCN h t) → am_en G ad h' r' = am_en G ad h r') (h31 : t ≠ 31) (h32 : t ≠ 32) (hal : ∀ r', r' ≠ (t, hCN h t) → hAL h' r' = hAL h r' ∧ hAI h' r' = hAI h r')
    (hP : va_P (gD G) am_cl14 (am_ws G ad h L ++ [(q, e)]) H1) (hD : va_D A (am_ws G ad h L ++ [(q, e)])) (hS : va_S A H0 H1 locs1) :
    am_Si G A H0 h' (fun x => if x = (t, hCN h t) then q else ad x) (L ++ [(t, hCN h t)]) H1 locs1 ∧ (∀ r, am_ok h r → (if r = (t, hCN h t) then q else ad r) = ad r) ∧ (∀ r, am_ok h r → am_ok h' r) ∧ am_ok h' (t, hCN h t) := by
  obtain ⟨⟨s1, s2, s3, s4, s5, s6, s7, s8, s9⟩, sP, sD, -⟩ := S
  have hnl : ∀ r, am_ok h r → r ≠ (t, hCN h t) := by
    intro r hr e
    subst e
    rcases hr with hr | hr | hr
    · exact Nat.lt_irrefl _ hr.1
    · exact h31 (congrArg Prod.fst hr)
    · exact h32 (congrArg Prod.fst hr)
  have hlv : ∀ r, am_lv h' r ↔ (am_lv h r ∨ r = (t, hCN h t)) := by
    intro r
    obtain ⟨a, b⟩ := r
    unfold am_lv
    rw [hcn]
    unfold am_u1
    by_cases ha : a = t
    · subst ha
      simp only [if_true, Prod.mk.injEq, true_and]
      omega
    · simp only [Prod.mk.injEq, ha, false_and, or_false, if_false]
  have hok : ∀ r, am_ok h r → am_ok h' r := by
    intro r hr
    rcases hr with hr | hr
    · exact Or.inl ((hlv r).mpr (Or.inl hr))
    · exact Or.inr hr
  have hx : ∀ r, am_ok h r → (if r = (t, hCN h t) then q else ad r) = ad r := fun r hr => if_neg (hnl r hr)
  have hw : am_ws G (fun x => if x = (t, hCN h t) then q else ad x) h' (L ++ [(t, hCN h t)]) = am_ws G ad h L ++ [(q, e)] := by
    unfold am_ws
    rw [List.map_append]
    congr 1
    · apply List.map_congr_left
      intro r hr
      have hlr : am_ok h r := Or.inl ((s1 r).mpr hr)
      dsimp only
      rw [hx r hlr, ← hne r (hnl r hlr)]
      congr 1
      have hmap : ∀ o : Option am_R, (∀ x, o = some x → am_ok h x) → o.map (fun x => if x = (t, hCN h t) then q else ad x) = o.map ad := by
        intro o ho
        cases o with
        | none => rfl
        | some x => exact congrArg some (hx x (ho x rfl))
      unfold am_en
      cases am_kc r.1 with
      | none =>
        dsimp only
        congr 2
        unfold am_aa
        congr 1
        split <;> try rfl
        congr 4
        funext j
        exact hmap _ (fun x hx' => (hm2 r j x hx').1)
      | some ci =>
        dsimp only
        congr 2
        unfold am_ob
        apply List.map_congr_left
        intro j _
        unfold am_fv
        split
        · rw [hmap _ (fun x hx' => hm1 _ r x hx')]
        · rfl
    · show [(_, _)] = [(q, e)]
      rw [he]
      simp
  rw [← hw] at hP hD
  refine ⟨⟨⟨fun r => ?_, fun f r x hx' => hok x (hm1 f r x hx'), fun r j x hx' => ⟨hok x (hm2 r j x hx').1, (hm2 r j x hx').2⟩, fun t' ht' => ?_, ?_, ?_, ?_, ?_, ?_⟩, hP, hD, hS⟩, hx, hok, Or.inl ((hlv _).mpr (Or.inr rfl))⟩
  · rw [hlv r, s1 r, List.mem_append, List.mem_singleton]
  · rw [hcn] at ht'
    unfold am_u1 at ht'
    by_cases h' : t' = t
    · subst h'; exact hg
    · rw [if_neg h'] at ht'; exact s4 t' ht'
  · rw [(hal (32, 0) (fun e => h32 (congrArg Prod.fst e).symm)).1]; exact s5
  · rw [(hal (31, 0) (fun e => h31 (congrArg Prod.fst e).symm)).1]; exact s6
  · rw [(hal (31, 0) (fun e => h31 (congrArg Prod.fst e).symm)).2]; exact s7
  · show (if ((31 : Nat), (0 : Nat)) = (t, hCN h t) then q else ad (31, 0)) = gb G
    rw [if_neg (fun e => h31 (congrArg Prod.fst e).symm)]; exact s8
  · show (if ((32 : Nat), (0 : Nat)) = (t, hCN h t) then q else ad (32, 0)) = ge G
    rw [if_neg (fun e => h32 (congrArg Prod.fst e).symm)]; exact s9
end UPD
end

noncomputable section
section LIST
variable {d : Nat} {h : am_H}
theorem sp_AbCinit {t q : Nat} (hk : am_kc t = some 10) : am_C d m_AbC_init [aR t q] h (fun o h' => o = .inl none ∧ h' = h) := by
  refine am_C_i (ls := [some (aR t q)]) rfl ?_
  refine s_aload_n rfl rfl ?_
  refine s_objinit rfl rfl rfl (by rw [hk]; rfl) (Nat.le_of_ble_eq_true rfl) ?_
  exact s_ret rfl rfl ⟨rfl, rfl⟩
theorem sp_AbLinit {t q : Nat} (hk : am_kc t = some 10) : am_C (d + 1) m_AbL_init [aR t q] h (fun o h' => o = .inl none ∧ h' = sFI h 1000 (t, q) 0) := by
  refine am_C_i (ls := [some (aR t q)]) rfl ?_
  refine s_aload_n rfl rfl ?_
  refine s_cw0 rfl hk (Nat.le_of_ble_eq_true rfl) (Nat.le_of_ble_eq_true rfl) (sp_AbCinit (d := 0) hk) (by omega) (fun o h' hq => ?_)
  obtain ⟨rfl, rfl⟩ := hq
  refine s_aload_n rfl rfl ?_
  refine s_iconst rfl rfl ?_
  refine s_pfI rfl hk rfl rfl (Or.inl rfl) ?_
  exact s_ret rfl rfl ⟨rfl, rfl⟩
theorem sp_ALinit {t q : Nat} (hk : am_kc t = some 10) : am_C (d + 2) m_AL_init [aR t q] h (fun o h' => o = .inl none ∧ h' = sFR (sFI h 1000 (t, q) 0) 1001 (t, q) (some (32, 0))) := by
  refine am_C_i (ls := [some (aR t q)]) rfl ?_
  refine s_aload_n rfl rfl ?_
  refine s_cw0 rfl hk (Nat.le_of_ble_eq_true rfl) (Nat.le_of_ble_eq_true rfl) (sp_AbLinit (d := 0) hk) (by omega) (fun o h' hq => ?_)
  obtain ⟨rfl, rfl⟩ := hq
  refine s_aload_n rfl rfl ?_
  refine s_gets rfl rfl ?_
  refine s_pfR rfl hk rfl rfl ?_
  exact s_ret rfl rfl ⟨rfl, rfl⟩
end LIST
section LIST2
variable {d y pc p : Nat} {ls : List (Option am_V)} {st : List am_V} {q : am_A} {Q : am_O → am_A → Prop}
theorem ar_newL {kt p1 p2 : Nat} (hc : am_ne y pc = some (kt, 3, p)) (hk : am_kc kt = some 10) (h30 : kt ≠ 30) (hd1 : am_c y p = some (.dup, p1)) (hcall : am_ca y p1 = some (true, m_AL_init, 0, p2)) (hs : am_sum st + 1 ≤ 8) (k : am_W2 (d + 3) y p2 ls (aR kt (qCN q kt) :: st) (uNL q kt) Q) : am_W2 (d + 3) y pc ls st q Q := fun h R => by
  refine s_new hc ?_
  refine s_dup hd1 rfl ?_
  refine s_cv0 hcall (by rw [hk]; rfl) rfl (by show 1 + am_sum st ≤ 8; omega) (sp_ALinit (d := 0) hk) (by omega) (fun o h' hq => ?_)
  obtain ⟨rfl, rfl⟩ := hq
  have := k _ (am_Re_NL R hk h30)
  rw [← R.2.2.2.2.2.2.2.1 kt h30] at this
  exact this
/-- the readers -/
theorem sq_size {t n : Nat} (hk : am_kc t = some 10) (h30 : t ≠ 30) (hn : n < qCN q t) : am_C2 d m_AL_size [aR t n] q (am_is2 (aI (zI ((qLS q (t, n)).length : Int))) q) := fun h R => am_C_imp (sp_size hk) (fun o h' ⟨e1, e2⟩ => by
  subst e2
  obtain ⟨x, y, a1, a2, -⟩ := R.2.2.2.2.2.2.2.2.1 (t, n) ⟨hk, by show n < hCN h' t; rw [R.2.2.2.2.2.2.2.1 t h30]; exact hn⟩
  exact ⟨q, R, by rw [e1, a2], rfl⟩)
theorem sq_isEmpty {t n : Nat} (hk : am_kc t = some 10) (h30 : t ≠ 30) (hn : n < qCN q t) : am_C2 d m_AL_isEmpty [aR t n] q (am_is2 (aI (zI (if qLS q (t, n) = [] then 1 else 0))) q) := fun h R => am_C_imp (sp_isEmpty hk) (fun o h' ⟨e1, e2⟩ => by
  subst e2
  obtain ⟨x, y, a1, a2, a3, a4, a5, -⟩ := R.2.2.2.2.2.2.2.2.1 (t, n) ⟨hk, by show n < hCN h' t; rw [R.2.2.2.2.2.2.2.1 t h30]; exact hn⟩
  refine ⟨q, R, ?_, rfl⟩
  rw [e1, a2]
  cases hL : qLS q (t, n) with
  | nil => rfl
  | cons v vs =>
    have hb : in32 (((v :: vs).length : Nat) : Int) := by
      rw [hL] at a3
      unfold in32
      omega
    have h1 : ¬ zI (((v :: vs).length : Nat) : Int) = 0 := fun z => by
      have := (zI_eq hb in32_0).mp z
      simp at this
      omega
    have h2 : ¬ (v :: vs = ([] : List am_R)) := by simp
    rw [if_neg h1, if_neg h2]
    rfl)
theorem sq_get {t n j : Nat} {i : Int} {v : am_R} (hk : am_kc t = some 10) (h30 : t ≠ 30) (hn : n < qCN q t) (hi : i = (j : Int)) (hv : (qLS q (t, n))[j]? = some v) : am_C2 (d + 2) m_AL_get [aR t n, aI (zI i)] q (am_is2 (aO (some v)) q) := fun h R => by
  obtain ⟨x, y, a1, a2, a3, a4, a5, a6, a7⟩ := R.2.2.2.2.2.2.2.2.1 (t, n) ⟨hk, by show n < hCN h t; rw [R.2.2.2.2.2.2.2.1 t h30]; exact hn⟩
  have hj : j < (qLS q (t, n)).length := (List.getElem?_eq_some_iff.mp hv).1
  have hb : in32 ((j : Nat) : Int) := by unfold in32; omega
  have hb2 : in32 (((qLS q (t, n)).length : Nat) : Int) := by unfold in32; omega
  subst hi
  have hx : am_ka x = some 4 := by rcases a7 with ⟨rfl, -⟩ | ⟨rfl, -⟩ <;> rfl
  exact am_C_imp (sp_get (d := d) hk a1 hx (zI_toInt hb) (by omega) (by rw [a2]; exact (zI_lt hb hb2).mpr (by omega)) (a6 j v hv)) (fun o h' ⟨e1, e2⟩ => by
    subst e2
    exact ⟨q, R, e1, rfl⟩)
end LIST2
end

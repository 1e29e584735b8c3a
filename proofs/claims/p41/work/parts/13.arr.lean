noncomputable section
section ARR
variable {G : am_G} {l : Launch} {d y : Nat} {o : am_O} {h' h h1 : am_H} {pc pc1 n : Nat} {ls ls1 : List (Option am_V)} {st st1 : List am_V}
theorem v_arraylength  (hc : am_cd y pc = some (.arraylength, n)) (hs : am_do y pc n ls st h (.arraylength) = some (.inl (pc1, ls1, st1, h1))) (K : am_P G l d y o h' pc1 ls1 st1 h1) : am_P G l d y o h' pc ls st h := by
  have hn := am_lt_of_beq (am_len hc)
  simp only [am_do, am_r1] at hs
  split at hs
  · rename_i t q r
    split at hs
    · rename_i hk
      simp only [am_nx, Option.some.injEq, Sum.inl.injEq, Prod.mk.injEq] at hs
      obtain ⟨rfl, rfl, rfl, rfl⟩ := hs
      subst hn
      obtain ⟨a, ha⟩ := Option.isSome_iff_exists.mp hk
      refine v_pure K (v_pureI (a := []) (fun v hv => by simp at hv ⊢; grind)) (fun p e R s m args below meth c A ad L H locs cells slots lsM Q C S hl hov hrm k => ?_)
      have hok := am_okr (am_okc hov)
      have hWf := C.2.2.2.2.2.2.2.2.2.2.1
      by_cases h31 : t = 31
      · subst h31
        have hq := am_31 S hok
        subst hq
        have e9 : ad (31, 0) = gb G := S.1.2.2.2.2.2.2.2.1
        have e8 : hAL h (31, 0) = gL G := S.1.2.2.2.2.2.1
        show W p l e R s m args below meth c H locs cells slots Q (F0 m pc lsM (.ref (ad (31, 0)) :: r.map (am_e ad)))
        rw [e9]
        refine va_slen C.1 C.2.1 hWf.2.2.2.2.1.1 hWf.2.2.2.2.1.2.1 hWf.2.2.2.2.1.2.2 S.2.2.2 (am_dec hc) ?_
        rw [← e8]
        exact k
      · by_cases h32 : t = 32
        · subst h32
          have hq := am_32 S hok
          subst hq
          have e9 : ad (32, 0) = ge G := S.1.2.2.2.2.2.2.2.2
          have e8 : hAL h (32, 0) = 0 := S.1.2.2.2.2.1
          show W p l e R s m args below meth c H locs cells slots Q (F0 m pc lsM (.ref (ad (32, 0)) :: r.map (am_e ad)))
          rw [e9]
          obtain ⟨cell, g1, g2, -, -, g5, -, g7⟩ := hWf.2.1
          refine W.alen (n := Int32.ofNat 0) C.1 C.2.1 (cell := cell) (by rw [S.2.2.2.2.1 _ (Array.getElem?_eq_some_iff.mp g1).1 g7]; exact g1) g2 g5 rfl rfl (am_dec hc) ?_
          rw [e8] at k
          exact k
        · obtain ⟨q0, hq0⟩ := am_live_a S hok h31 h32
          have ha7 := (am_ka_lt t a ha).1
          exact va_alen C.1 C.2.1 C.2.2.2.2.2.2.2.2.2.1 S.2.1 q0 a (am_ws_a hq0 ha) (am_tys_at ha7) rfl (am_dec hc) k
    · cases hs
  · cases hs
theorem v_iaload  (hc : am_cd y pc = some (.iaload, n)) (hs : am_do y pc n ls st h (.iaload) = some (.inl (pc1, ls1, st1, h1))) (K : am_P G l d y o h' pc1 ls1 st1 h1) : am_P G l d y o h' pc ls st h := by
  have hn := am_lt_of_beq (am_len hc)
  simp only [am_do, am_ir] at hs
  split at hs
  · rename_i i t q r
    split at hs
    · rename_i ha
      split at hs
      · rename_i k0 hix
        simp only [am_nx, Option.some.injEq, Sum.inl.injEq, Prod.mk.injEq] at hs
        obtain ⟨rfl, rfl, rfl, rfl⟩ := hs
        subst hn
        refine v_pure K (v_pureI (a := []) (fun v hv => by simp at hv ⊢; grind)) (fun p e R s m args below meth c A ad L H locs cells slots lsM Q C S hl hov hrm k => ?_)
        have hok := am_okr (hov _ (List.mem_cons_of_mem _ List.mem_cons_self))
        obtain ⟨hin, hk0⟩ := am_ix_s hix
        by_cases h31 : t = 31
        · subst h31
          have hq := am_31 S hok
          subst hq
          have hWf := C.2.2.2.2.2.2.2.2.2.2.1
          have e9 : ad (31, 0) = gb G := S.1.2.2.2.2.2.2.2.1
          have e8 : hAL h (31, 0) = gL G := S.1.2.2.2.2.2.1
          have e7 : hAI h (31, 0) = gx G := S.1.2.2.2.2.2.2.1
          show W p l e R s m args below meth c H locs cells slots Q (F0 m pc lsM (.int i :: .ref (ad (31, 0)) :: r.map (am_e ad)))
          rw [e9]
          refine va_sld C.1 C.2.1 hWf.2.2.2.2.1.1 hWf.2.2.2.2.1.2.1 hWf.2.2.2.2.1.2.2 S.2.2.2 (by rw [← e8]; exact hin) (am_dec hc) ?_
          rw [hk0, ← e7]
          exact k
        · obtain ⟨q0, hq0⟩ := am_live_a S hok h31 (by intro z; subst z; exact absurd ha (by decide))
          subst hk0
          exact va_iald C.1 C.2.1 C.2.2.2.2.2.2.2.2.2.1 S.2.1 q0 0 (am_ws_a hq0 ha) (am_tys_at (by decide)) hin (am_dec hc) k
      · cases hs
    · cases hs
  · cases hs
theorem v_baload  (hc : am_cd y pc = some (.baload, n)) (hs : am_do y pc n ls st h (.baload) = some (.inl (pc1, ls1, st1, h1))) (K : am_P G l d y o h' pc1 ls1 st1 h1) : am_P G l d y o h' pc ls st h := by
  have hn := am_lt_of_beq (am_len hc)
  simp only [am_do, am_ir] at hs
  split at hs
  · rename_i i t q r
    split at hs
    · rename_i ha
      split at hs
      · rename_i k0 hix
        simp only [am_nx, Option.some.injEq, Sum.inl.injEq, Prod.mk.injEq] at hs
        obtain ⟨rfl, rfl, rfl, rfl⟩ := hs
        subst hn
        refine v_pure K (v_pureI (a := []) (fun v hv => by simp at hv ⊢; grind)) (fun p e R s m args below meth c A ad L H locs cells slots lsM Q C S hl hov hrm k => ?_)
        have hok := am_okr (hov _ (List.mem_cons_of_mem _ List.mem_cons_self))
        obtain ⟨hin, hk0⟩ := am_ix_s hix
        exact absurd (am_ka_p _ _ ha) (by omega)
      · cases hs
    · cases hs
  · cases hs
theorem v_laload  (hc : am_cd y pc = some (.laload, n)) (hs : am_do y pc n ls st h (.laload) = some (.inl (pc1, ls1, st1, h1))) (K : am_P G l d y o h' pc1 ls1 st1 h1) : am_P G l d y o h' pc ls st h := by
  have hn := am_lt_of_beq (am_len hc)
  simp only [am_do, am_ir] at hs
  split at hs
  · rename_i i t q r
    split at hs
    · rename_i ha
      split at hs
      · rename_i k0 hix
        simp only [am_nx, Option.some.injEq, Sum.inl.injEq, Prod.mk.injEq] at hs
        obtain ⟨rfl, rfl, rfl, rfl⟩ := hs
        subst hn
        refine v_pure K (v_pureI (a := []) (fun v hv => by simp at hv ⊢; grind)) (fun p e R s m args below meth c A ad L H locs cells slots lsM Q C S hl hov hrm k => ?_)
        have hok := am_okr (hov _ (List.mem_cons_of_mem _ List.mem_cons_self))
        obtain ⟨hin, hk0⟩ := am_ix_s hix
        exact absurd (am_ka_p _ _ ha) (by omega)
      · cases hs
    · cases hs
  · cases hs
theorem v_daload  (hc : am_cd y pc = some (.daload, n)) (hs : am_do y pc n ls st h (.daload) = some (.inl (pc1, ls1, st1, h1))) (K : am_P G l d y o h' pc1 ls1 st1 h1) : am_P G l d y o h' pc ls st h := by
  have hn := am_lt_of_beq (am_len hc)
  simp only [am_do, am_ir] at hs
  split at hs
  · rename_i i t q r
    split at hs
    · rename_i ha
      split at hs
      · rename_i k0 hix
        simp only [am_nx, Option.some.injEq, Sum.inl.injEq, Prod.mk.injEq] at hs
        obtain ⟨rfl, rfl, rfl, rfl⟩ := hs
        subst hn
        refine v_pure K (v_pureI (a := []) (fun v hv => by simp at hv ⊢; grind)) (fun p e R s m args below meth c A ad L H locs cells slots lsM Q C S hl hov hrm k => ?_)
        have hok := am_okr (hov _ (List.mem_cons_of_mem _ List.mem_cons_self))
        obtain ⟨hin, hk0⟩ := am_ix_s hix
        exact absurd (am_ka_p _ _ ha) (by omega)
      · cases hs
    · cases hs
  · cases hs
theorem v_aaload  (hc : am_cd y pc = some (.aaload, n)) (hs : am_do y pc n ls st h (.aaload) = some (.inl (pc1, ls1, st1, h1))) (K : am_P G l d y o h' pc1 ls1 st1 h1) : am_P G l d y o h' pc ls st h := by
  have hn := am_lt_of_beq (am_len hc)
  simp only [am_do, am_ir] at hs
  split at hs
  · rename_i i t q r
    split at hs
    · rename_i ha
      split at hs
      · rename_i k0 hix
        simp only [am_nx, Option.some.injEq, Sum.inl.injEq, Prod.mk.injEq] at hs
        obtain ⟨rfl, rfl, rfl, rfl⟩ := hs
        subst hn
        refine v_pure K (fun h1 _ _ h3 w hw => ?_) (fun p e R s m args below meth c A ad L H locs cells slots lsM Q C S hl hov hrm k => ?_)
        · rcases List.mem_cons.mp hw with rfl | hw
          · intro x hx
            exact h3 _ _ x (by simpa using hx)
          · exact h1 w (List.mem_cons_of_mem _ (List.mem_cons_of_mem _ hw))
        have hok := am_okr (hov _ (List.mem_cons_of_mem _ List.mem_cons_self))
        obtain ⟨hin, hk0⟩ := am_ix_s hix
        have h31 : t ≠ 31 := by intro z; subst z; exact absurd ha (by decide)
        have h32 : t ≠ 32 := by
          intro z
          subst z
          have hq := am_32 S hok
          subst hq
          have e8 : hAL h (32, 0) = 0 := S.1.2.2.2.2.1
          rw [e8] at hin
          exact hin (Or.inr (Nat.zero_le _))
        obtain ⟨q0, hq0⟩ := am_live_a S hok h31 h32
        subst hk0
        rcases ha with ha | ha | ha
        · exact va_aldq C.1 C.2.1 C.2.2.2.2.2.2.2.2.2.1 S.2.1 q0 4 (am_ws_a hq0 ha) (am_tys_at (by decide)) hin (am_dec hc) k
        · exact va_aldq C.1 C.2.1 C.2.2.2.2.2.2.2.2.2.1 S.2.1 q0 5 (am_ws_a hq0 ha) (am_tys_at (by decide)) hin (am_dec hc) k
        · exact va_aldq C.1 C.2.1 C.2.2.2.2.2.2.2.2.2.1 S.2.1 q0 6 (am_ws_a hq0 ha) (am_tys_at (by decide)) hin (am_dec hc) k
      · cases hs
    · cases hs
  · cases hs
/-- behind a store into an array -/
theorem am_st_go {h2 : am_H} {st2 : List am_V} {pc2 : Nat} {p : Program} {e : Env} {R : Room} {s : State} {m : MethodId} {args : Array Value} {below : List Frame} {meth : Method} {c : Code} {A : Nat → Prop} {ad : am_R → Nat} {L : List am_R} {H1 : Heap} {locs1 : List Loc} {kc ks : Int} {lsM : Array Slot} {Q : State → Prop}
    (K : am_P G l d y o h' pc2 ls st2 h2) (C : am_Cx G p l s m args meth c y A) (S2 : am_Si G A s.heap h2 ad L H1 locs1) (hl : am_lr ad lsM (am_ml y) ls) (hf : am_fo h y ls st) (hst : ∀ v ∈ st2, v ∈ st) (hce : hCE h2 = hCE h ∧ hSL h2 = hSL h) (hcn : hCN h2 = hCN h) (hr : am_rm R kc ks d h h') (hE : am_En G p l e R s m args below meth c y A h h' o ad kc ks Q) :
    W p l e R s m args below meth c H1 locs1 (kc + (hCE h : Int)).toNat (ks + (hSL h : Int)).toNat Q (F0 m pc2 lsM (st2.map (am_e ad))) := by
  have hokm : ∀ x, am_ok h x ↔ am_ok h2 x := fun x => by unfold am_ok am_lv; rw [hcn]
  have := K p e R s m args below meth c A ad L H1 locs1 kc ks lsM Q C S2 hl ⟨hf.1, fun v hv => ⟨fun x hx => (hokm x).mp ((hf.2.1 v hv).1 x hx), (hf.2.1 v hv).2⟩, fun v hv x hx => (hokm x).mp (hf.2.2 v (hst v hv) x hx)⟩ (am_rm_eq hce hr) (fun ad2 L2 H2 locs2 a b b2 => hE ad2 L2 H2 locs2 a (fun x hx => b x ((hokm x).mp hx)) (fun x hx => b2 x ((hokm x).mp hx)))
  rw [hce.1, hce.2] at this
  exact this
theorem am_Sm_AI {ad : am_R → Nat} {L : List am_R} {r : am_R} {k : Nat} {v : Int32} (S : am_Sm G h ad L) (h31 : r.1 ≠ 31) : am_Sm G (sAI h r k v) ad L := by
  obtain ⟨s1, s2, s3, s4, s5, s6, s7, s8, s9⟩ := S
  refine ⟨s1, s2, s3, s4, s5, s6, ?_, s8, s9⟩
  show am_u2 (hAI h) r k v (31, 0) = gx G
  rw [am_u2_ne (fun z => h31 (by rw [← z]))]
  exact s7
theorem am_Sm_AR {ad : am_R → Nat} {L : List am_R} {r : am_R} {k : Nat} {v : Option am_R} (S : am_Sm G h ad L) (hv : ∀ x, v = some x → am_ok h x ∧ x.1 < 10) : am_Sm G (sAR h r k v) ad L := by
  obtain ⟨s1, s2, s3, s4, s5, s6, s7, s8, s9⟩ := S
  refine ⟨s1, s2, fun r' j q hq => ?_, s4, s5, s6, s7, s8, s9⟩
  have hq' : am_u2 (hAR h) r k v r' j = some q := hq
  unfold am_u2 at hq'
  split at hq'
  · exact hv q hq'
  · exact s3 r' j q hq'
theorem v_iastore  (hc : am_cd y pc = some (.iastore, n)) (hs : am_do y pc n ls st h (.iastore) = some (.inl (pc1, ls1, st1, h1))) (K : am_P G l d y o h' pc1 ls1 st1 h1) : am_P G l d y o h' pc ls st h := by
  have hn := am_lt_of_beq (am_len hc)
  simp only [am_do, am_i1, am_ir] at hs
  split at hs
  · rename_i v rs
    split at hs
    · rename_i i t q r
      split at hs
      · rename_i ha
        split at hs
        · rename_i k0 hix
          simp only [am_nx, Option.some.injEq, Sum.inl.injEq, Prod.mk.injEq] at hs
          obtain ⟨rfl, rfl, rfl, rfl⟩ := hs
          subst hn
          intro p e R s m args below meth c A ad L H locs kc ks lsM Q C S hl hf hr hE
          have hok := am_okr (hf.2.2 _ (List.mem_cons_of_mem _ (List.mem_cons_of_mem _ List.mem_cons_self)))
          obtain ⟨hin, hk0⟩ := am_ix_s hix
          have h31 : t ≠ 31 := ha.2
          have h32 : t ≠ 32 := by intro z; subst z; exact absurd ha.1 (by decide)
          obtain ⟨q0, hq0⟩ := am_live_a S hok h31 h32
          subst hk0
          refine va_iast C.1 C.2.1 C.2.2.2.2.2.2.2.2.2.1 S.2.1 S.2.2.1 S.2.2.2 q0 0 (am_ws_a hq0 ha.1) (am_tys_at (by decide)) hin (am_dec hc) (fun H1 locs1 hP1 hD1 hS1 => ?_)
          · refine am_st_go K C (am_Si_A S hq0 (am_ka_kc t 0 ha.1) ha.1 (am_Sm_AI S.1 h31) ?_ (fun r' hr' => ?_) hP1 hD1 hS1) hl hf (fun w hw => by simp [hw]) ⟨rfl, rfl⟩ rfl hr hE
            · unfold am_aa
              congr 1
              · congr 1
                funext j
                simp [hAI, sAI, am_u2, upd]
            · refine am_en_A rfl rfl rfl ?_ ?_ ?_ ?_
              · exact am_u2_ne hr'
              · rfl
              · rfl
              · rfl
        · cases hs
      · cases hs
    · cases hs
  · cases hs
theorem v_bastore  (hc : am_cd y pc = some (.bastore, n)) (hs : am_do y pc n ls st h (.bastore) = some (.inl (pc1, ls1, st1, h1))) (K : am_P G l d y o h' pc1 ls1 st1 h1) : am_P G l d y o h' pc ls st h := by
  have hn := am_lt_of_beq (am_len hc)
  simp only [am_do, am_i1, am_ir] at hs
  split at hs
  · rename_i v rs
    split at hs
    · rename_i i t q r
      split at hs
      · rename_i ha
        split at hs
        · rename_i k0 hix
          simp only [am_nx, Option.some.injEq, Sum.inl.injEq, Prod.mk.injEq] at hs
          obtain ⟨rfl, rfl, rfl, rfl⟩ := hs
          subst hn
          intro p e R s m args below meth c A ad L H locs kc ks lsM Q C S hl hf hr hE
          have hok := am_okr (hf.2.2 _ (List.mem_cons_of_mem _ (List.mem_cons_of_mem _ List.mem_cons_self)))
          obtain ⟨hin, hk0⟩ := am_ix_s hix
          exact absurd (am_ka_p _ _ ha.1) (by omega)
        · cases hs
      · cases hs
    · cases hs
  · cases hs
theorem v_lastore  (hc : am_cd y pc = some (.lastore, n)) (hs : am_do y pc n ls st h (.lastore) = some (.inl (pc1, ls1, st1, h1))) (K : am_P G l d y o h' pc1 ls1 st1 h1) : am_P G l d y o h' pc ls st h := by
  have hn := am_lt_of_beq (am_len hc)
  simp only [am_do, am_j1, am_ir] at hs
  split at hs
  · rename_i v rs
    split at hs
    · rename_i i t q r
      split at hs
      · rename_i ha
        split at hs
        · rename_i k0 hix
          simp only [am_nx, Option.some.injEq, Sum.inl.injEq, Prod.mk.injEq] at hs
          obtain ⟨rfl, rfl, rfl, rfl⟩ := hs
          subst hn
          intro p e R s m args below meth c A ad L H locs kc ks lsM Q C S hl hf hr hE
          have hok := am_okr (hf.2.2 _ (List.mem_cons_of_mem _ (List.mem_cons_of_mem _ List.mem_cons_self)))
          obtain ⟨hin, hk0⟩ := am_ix_s hix
          exact absurd (am_ka_p _ _ ha) (by omega)
        · cases hs
      · cases hs
    · cases hs
  · cases hs
theorem v_dastore  (hc : am_cd y pc = some (.dastore, n)) (hs : am_do y pc n ls st h (.dastore) = some (.inl (pc1, ls1, st1, h1))) (K : am_P G l d y o h' pc1 ls1 st1 h1) : am_P G l d y o h' pc ls st h := by
  have hn := am_lt_of_beq (am_len hc)
  simp only [am_do, am_d1, am_ir] at hs
  split at hs
  · rename_i v rs
    split at hs
    · rename_i i t q r
      split at hs
      · rename_i ha
        split at hs
        · rename_i k0 hix
          simp only [am_nx, Option.some.injEq, Sum.inl.injEq, Prod.mk.injEq] at hs
          obtain ⟨rfl, rfl, rfl, rfl⟩ := hs
          subst hn
          intro p e R s m args below meth c A ad L H locs kc ks lsM Q C S hl hf hr hE
          have hok := am_okr (hf.2.2 _ (List.mem_cons_of_mem _ (List.mem_cons_of_mem _ List.mem_cons_self)))
          obtain ⟨hin, hk0⟩ := am_ix_s hix
          exact absurd (am_ka_p _ _ ha) (by omega)
        · cases hs
      · cases hs
    · cases hs
  · cases hs
end ARR
end

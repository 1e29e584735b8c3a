noncomputable section
/-! One step of the clean machine is one of the machine. -/
def am_Cx (G : am_G) (p : Program) (l : Launch) (s : State) (m : MethodId) (args : Array Value) (meth : Method) (c : Code) (y : Nat) (A : Nat → Prop) : Prop :=
  p.tables.exec = Jvm.exec ∧ c.code = am_by y ∧ meth.sig.returnType = am_rt y ∧ meth.locks = false ∧ c.maxLocals = am_ml y ∧ s.vm.findClass (am_cn (am_ow y)) = some m.cls ∧ (∀ w ∈ am_WS, w.before args s = true) ∧ (am_ii y = true → meth.name = "<init>") ∧
  c.exceptionTable.toList = tableOf (am_hh y) ∧ va_K (gD G) am_cl14 (am_tys G) s ∧ am_Wf G A s s.heap ∧ (∀ q, s.heap.size ≤ q → A q) ∧ l.stackTraces = false
/-- the locals -/
def am_lr (ad : am_R → Nat) (lsM : Array Slot) (nL : Nat) (ls : List (Option am_V)) : Prop := ∃ lv, lv_has lsM nL lv ∧ ∀ i v, ls[i]? = some (some v) → (i, am_e ad v) ∈ lv
theorem am_lr_get {ad : am_R → Nat} {lsM : Array Slot} {nL k : Nat} {ls : List (Option am_V)} {v : am_V} (h : am_lr ad lsM nL ls) (hk : ls[k]? = some (some v)) : lsM[k]? = some (.val (am_e ad v)) := by
  obtain ⟨lv, h1, h2⟩ := h
  exact h1.2.2 _ (h2 k v hk)
theorem am_cat_e {ad : am_R → Nat} {v : am_V} : (am_e ad v).category = am_cat v := by
  rcases v with x | o | x | x | x
  · rfl
  · cases o <;> rfl
  · rfl
  · rfl
  · rfl
theorem am_lr_set {ad : am_R → Nat} {lsM : Array Slot} {nL k : Nat} {ls : List (Option am_V)} {v : am_V} {lv : List (Nat × Value)} (h2 : ∀ i v, ls[i]? = some (some v) → (i, am_e ad v) ∈ lv) (hc : ∀ v, some v ∈ ls → am_cat v = 1) (h' : lv_has lsM nL ((k, am_e ad v) :: lv.filter (fun q => !(q.1 == k) && !(q.1 + 1 == k && q.2.category == 2)))) (hk : k < ls.length) : am_lr ad lsM nL (ls.set k (some v)) := by
  refine ⟨_, h', fun i w hi => ?_⟩
  by_cases hik : i = k
  · subst hik
    rw [List.getElem?_set_self hk] at hi
    cases hi
    exact List.mem_cons_self
  · rw [List.getElem?_set_ne (Ne.symm hik)] at hi
    refine List.mem_cons_of_mem _ (List.mem_filter.mpr ⟨h2 i w hi, ?_⟩)
    have := hc w (List.mem_of_getElem? hi)
    simp [hik, am_cat_e, this]
/-- a local that nobody reads any more -/
theorem am_lr_none {ad : am_R → Nat} {lsM : Array Slot} {nL k : Nat} {ls : List (Option am_V)} {w0 : Value} {lv : List (Nat × Value)} (h2 : ∀ i v, ls[i]? = some (some v) → (i, am_e ad v) ∈ lv) (hc : ∀ v, some v ∈ ls → am_cat v = 1) (h' : lv_has lsM nL ((k, w0) :: lv.filter (fun q => !(q.1 == k) && !(q.1 + 1 == k && q.2.category == 2)))) (hk : k < ls.length) : am_lr ad lsM nL (ls.set k none) := by
  refine ⟨_, h', fun i w hi => ?_⟩
  by_cases hik : i = k
  · subst hik
    rw [List.getElem?_set_self hk] at hi
    cases hi
  · rw [List.getElem?_set_ne (Ne.symm hik)] at hi
    refine List.mem_cons_of_mem _ (List.mem_filter.mpr ⟨h2 i w hi, ?_⟩)
    have := hc w (List.mem_of_getElem? hi)
    simp [hik, am_cat_e, this]
def am_fo (h : am_H) (y : Nat) (ls : List (Option am_V)) (st : List am_V) : Prop := ls.length = am_ml y ∧ (∀ v, some v ∈ ls → am_okv h v ∧ am_cat v = 1) ∧ ∀ v ∈ st, am_okv h v
def am_rm (R : Room) (kc ks : Int) (d : Nat) (h h' : am_H) : Prop := (kc + (hCE h' : Int)).toNat ≤ R.cells ∧ (ks + (hSL h' : Int)).toNat ≤ R.slots ∧ d + 8 ≤ R.frames ∧ 50 * (d + 8) ≤ R.locals ∧ 0 ≤ kc + (hCE h : Int) ∧ 0 ≤ ks + (hSL h : Int)
theorem am_rm_eq {R : Room} {kc ks : Int} {d : Nat} {h h2 h' : am_H} (e : hCE h2 = hCE h ∧ hSL h2 = hSL h) (hr : am_rm R kc ks d h h') : am_rm R kc ks d h2 h' := by
  unfold am_rm at hr ⊢
  rw [e.1, e.2]
  exact hr
theorem am_rm_add {R : Room} {kc ks : Int} {d k1 k2 : Nat} {h h2 h' : am_H} (e : hCE h2 = hCE h + k1 ∧ hSL h2 = hSL h + k2) (hr : am_rm R kc ks d h h') : am_rm R kc ks d h2 h' ∧ (kc + (hCE h2 : Int)).toNat = (kc + (hCE h : Int)).toNat + k1 ∧ (ks + (hSL h2 : Int)).toNat = (ks + (hSL h : Int)).toNat + k2 := by
  unfold am_rm at hr ⊢
  rw [e.1, e.2]
  omega
/-- the instruction that ends a method with an answer -/
def am_isr (y : Nat) (i : Instr) (v : Option am_V) : Prop := match v with
  | none => i = .return_ ∧ am_rt y = none
  | some (.inl x) => i = .ireturn ∧ (am_rt y = some .int ∨ (am_rt y = some .boolean ∧ (x = 0 ∨ x = 1)))
  | some (.inr (.inl _)) => i = .areturn ∧ ((∃ n, am_rt y = some (.object n)) ∨ ∃ t, am_rt y = some (.array t))
  | some (.inr (.inr (.inr (.inl _)))) => i = .freturn ∧ am_rt y = some .float
  | _ => False
def am_xc (t : Nat) : String := match t with | 13 => "java/lang/IndexOutOfBoundsException" | 14 => "java/lang/IllegalArgumentException" | _ => "java/lang/IllegalStateException"
def am_isx (t : Nat) : Prop := t = 13 ∨ t = 14 ∨ t = 15
/-- what the caller takes up where the run has ended -/
def am_En (G : am_G) (p : Program) (l : Launch) (e : Env) (R : Room) (s : State) (m : MethodId) (args : Array Value) (below : List Frame) (meth : Method) (c : Code) (y : Nat) (A : Nat → Prop) (h h' : am_H) (o : am_O) (ad : am_R → Nat) (kc ks : Int) (Q : State → Prop) : Prop :=
  ∀ (ad2 : am_R → Nat) (L2 : List am_R) (H2 : Heap) (locs2 : List Loc), am_Si G A s.heap h' ad2 L2 H2 locs2 → (∀ r, am_ok h r → ad2 r = ad r) → (∀ r, am_ok h r → am_ok h' r) → match o with
    | .inl v => (∀ v0, v = some v0 → am_okv h' v0) → ∀ (pc2 : Nat) (ls2 : Array Slot) (i : Instr), am_cd y pc2 = some (i, 1) → am_isr y i v → W p l e R s m args below meth c H2 locs2 (kc + (hCE h' : Int)).toNat (ks + (hSL h' : Int)).toNat Q (F0 m pc2 ls2 (v.toList.map (am_e ad2)))
    | .inr t => am_hh y = [] → am_isx t → ∀ (pc2 : Nat) (ls2 : Array Slot) (rest : List Value) (ce : Cell) (q : Addr), H2[q]? = some ce → ce.vm = .none → s.vm.findClass (am_xc t) = some ce.cls → vx_W p l e R s m args below meth c H2 locs2 (kc + (hCE h' : Int)).toNat (ks + (hSL h' : Int)).toNat Q (F0 m pc2 ls2 rest) q
def am_P (G : am_G) (l : Launch) (d y : Nat) (o : am_O) (h' : am_H) (pc : Nat) (ls : List (Option am_V)) (st : List am_V) (h : am_H) : Prop :=
  ∀ (p : Program) (e : Env) (R : Room) (s : State) (m : MethodId) (args : Array Value) (below : List Frame) (meth : Method) (c : Code) (A : Nat → Prop) (ad : am_R → Nat) (L : List am_R) (H : Heap) (locs : List Loc) (kc ks : Int) (lsM : Array Slot) (Q : State → Prop),
    am_Cx G p l s m args meth c y A → am_Si G A s.heap h ad L H locs → am_lr ad lsM (am_ml y) ls → am_fo h y ls st → am_rm R kc ks d h h' → am_En G p l e R s m args below meth c y A h h' o ad kc ks Q →
    W p l e R s m args below meth c H locs (kc + (hCE h : Int)).toNat (ks + (hSL h : Int)).toNat Q (F0 m pc lsM (st.map (am_e ad)))
section STEP
variable {G : am_G} {l : Launch} {d y : Nat} {o : am_O} {h' h h1 : am_H} {pc pc1 n : Nat} {ls ls1 : List (Option am_V)} {st st1 : List am_V}
/-- only the stack changes -/
theorem v_pure (K : am_P G l d y o h' pc1 ls st1 h) (hv : (∀ v ∈ st, am_okv h v) → (∀ v, some v ∈ ls → am_okv h v) → (∀ f r q, hFR h f r = some q → am_ok h q) → (∀ r j q, hAR h r j = some q → am_ok h q) → ∀ v ∈ st1, am_okv h v)
    (row : ∀ (p : Program) (e : Env) (R : Room) (s : State) (m : MethodId) (args : Array Value) (below : List Frame) (meth : Method) (c : Code) (A : Nat → Prop) (ad : am_R → Nat) (L : List am_R) (H : Heap) (locs : List Loc) (cells slots : Nat) (lsM : Array Slot) (Q : State → Prop),
      am_Cx G p l s m args meth c y A → am_Si G A s.heap h ad L H locs → am_lr ad lsM (am_ml y) ls → (∀ v ∈ st, am_okv h v) → 1 ≤ R.frames ∧ 400 ≤ R.locals → W p l e R s m args below meth c H locs cells slots Q (F0 m pc1 lsM (st1.map (am_e ad))) → W p l e R s m args below meth c H locs cells slots Q (F0 m pc lsM (st.map (am_e ad)))) : am_P G l d y o h' pc ls st h := by
  intro p e R s m args below meth c A ad L H locs kc ks lsM Q C S hl hf hr hE
  refine row p e R s m args below meth c A ad L H locs _ _ lsM Q C S hl hf.2.2 ⟨by have := hr.2.2.1; omega, by have := hr.2.2.2; omega⟩ (K p e R s m args below meth c A ad L H locs kc ks lsM Q C S hl ⟨hf.1, hf.2.1, hv hf.2.2 (fun v hv => (hf.2.1 v hv).1) S.1.2.1 (fun r j q hq => (S.1.2.2.1 r j q hq).1)⟩ hr hE)
theorem v_pureI {a : List am_V} (hs : ∀ v ∈ st1, v ∈ st ∨ (∀ r, v ≠ .inr (.inl (some r)))) : (∀ v ∈ st, am_okv h v) → (∀ v, some v ∈ ls → am_okv h v) → (∀ f r q, hFR h f r = some q → am_ok h q) → (∀ r j q, hAR h r j = some q → am_ok h q) → ∀ v ∈ st1, am_okv h v := by
  intro h1 _ _ _ v hv
  rcases hs v hv with h | h
  · exact h1 v h
  · exact fun r e => absurd e (h r)
/-- a local is stored -/
theorem v_store {k : Nat} {v : am_V} (hv1 : am_cat v = 1) (hk : k < ls.length) (K : am_P G l d y o h' pc1 (ls.set k (some v)) st h)
    (row : ∀ (p : Program) (e : Env) (R : Room) (s : State) (m : MethodId) (args : Array Value) (below : List Frame) (meth : Method) (c : Code) (A : Nat → Prop) (ad : am_R → Nat) (H : Heap) (locs : List Loc) (cells slots : Nat) (lsM : Array Slot) (Q : State → Prop) (lv : List (Nat × Value)),
      am_Cx G p l s m args meth c y A → lv_has lsM (am_ml y) lv → k < am_ml y → (∀ ls' : Array Slot, lv_has ls' (am_ml y) ((k, am_e ad v) :: lv.filter (fun q => !(q.1 == k) && !(q.1 + 1 == k && q.2.category == 2))) → W p l e R s m args below meth c H locs cells slots Q (F0 m pc1 ls' (st.map (am_e ad)))) →
      W p l e R s m args below meth c H locs cells slots Q (F0 m pc lsM (am_e ad v :: st.map (am_e ad)))) : am_P G l d y o h' pc ls (v :: st) h := by
  intro p e R s m args below meth c A ad L H locs kc ks lsM Q C S hl hf hr hE
  obtain ⟨lv, hl1, hl2⟩ := hl
  refine row p e R s m args below meth c A ad H locs _ _ lsM Q lv C hl1 (by rw [← hf.1]; exact hk) (fun ls' h' => K p e R s m args below meth c A ad L H locs kc ks ls' Q C S (am_lr_set hl2 (fun v hv => (hf.2.1 v hv).2) h' hk) ⟨by rw [List.length_set]; exact hf.1, fun w hw => ?_, fun w hw => hf.2.2 w (List.mem_cons_of_mem _ hw)⟩ hr hE)
  rcases List.mem_or_eq_of_mem_set hw with h2 | h2
  · exact hf.2.1 w h2
  · rw [Option.some.inj h2]
    exact ⟨hf.2.2 v List.mem_cons_self, hv1⟩
theorem am_lt_of_beq {a b : Nat} (h : Nat.beq a b = true) : a = b := Nat.eq_of_beq_eq_true h
theorem am_two {a b k : Nat} (h : (Nat.beq a b && Nat.blt k 10000) = true) : a = b ∧ k < 10000 := by
  rw [Bool.and_eq_true] at h
  exact ⟨Nat.eq_of_beq_eq_true h.1, Nat.le_of_ble_eq_true h.2⟩
theorem am_K_div {i : Nat} (hi : i < 10000) : am_K y i / 10000 = am_ow y ∧ am_K y i % 10000 = i := by
  unfold am_K
  omega
theorem v_iconst {i : Int} (hc : am_cd y pc = some (.iconst i, n)) (hs : am_do y pc n ls st h (.iconst i) = some (.inl (pc1, ls1, st1, h1))) (K : am_P G l d y o h' pc1 ls1 st1 h1) : am_P G l d y o h' pc ls st h := by
  have hn := am_lt_of_beq (am_len hc)
  simp only [am_do, am_nx, Option.some.injEq, Sum.inl.injEq, Prod.mk.injEq] at hs
  obtain ⟨rfl, rfl, rfl, rfl⟩ := hs
  subst hn
  refine v_pure K (v_pureI (a := []) (fun v hv => by simp at hv ⊢; grind)) (fun p e R s m args below meth c A ad L H locs cells slots lsM Q C S hl hov hrm k => lv_iconst C.1 C.2.1 (am_dec hc) rfl k)
theorem v_bipush {i : Int} (hc : am_cd y pc = some (.bipush i, n)) (hs : am_do y pc n ls st h (.bipush i) = some (.inl (pc1, ls1, st1, h1))) (K : am_P G l d y o h' pc1 ls1 st1 h1) : am_P G l d y o h' pc ls st h := by
  have hn := am_lt_of_beq (am_len hc)
  simp only [am_do, am_nx, Option.some.injEq, Sum.inl.injEq, Prod.mk.injEq] at hs
  obtain ⟨rfl, rfl, rfl, rfl⟩ := hs
  subst hn
  refine v_pure K (v_pureI (a := []) (fun v hv => by simp at hv ⊢; grind)) (fun p e R s m args below meth c A ad L H locs cells slots lsM Q C S hl hov hrm k => lv_bipush C.1 C.2.1 (am_dec hc) rfl k)
theorem v_sipush {i : Int} (hc : am_cd y pc = some (.sipush i, n)) (hs : am_do y pc n ls st h (.sipush i) = some (.inl (pc1, ls1, st1, h1))) (K : am_P G l d y o h' pc1 ls1 st1 h1) : am_P G l d y o h' pc ls st h := by
  have hn := am_lt_of_beq (am_len hc)
  simp only [am_do, am_nx, Option.some.injEq, Sum.inl.injEq, Prod.mk.injEq] at hs
  obtain ⟨rfl, rfl, rfl, rfl⟩ := hs
  subst hn
  refine v_pure K (v_pureI (a := []) (fun v hv => by simp at hv ⊢; grind)) (fun p e R s m args below meth c A ad L H locs cells slots lsM Q C S hl hov hrm k => lv_sipush C.1 C.2.1 (am_dec hc) rfl k)
theorem v_lconst {i : Fin 2} (hc : am_cd y pc = some (.lconst i, n)) (hs : am_do y pc n ls st h (.lconst i) = some (.inl (pc1, ls1, st1, h1))) (K : am_P G l d y o h' pc1 ls1 st1 h1) : am_P G l d y o h' pc ls st h := by
  have hn := am_lt_of_beq (am_len hc)
  simp only [am_do, am_nx, Option.some.injEq, Sum.inl.injEq, Prod.mk.injEq] at hs
  obtain ⟨rfl, rfl, rfl, rfl⟩ := hs
  subst hn
  refine v_pure K (v_pureI (a := []) (fun v hv => by simp at hv ⊢; grind)) (fun p e R s m args below meth c A ad L H locs cells slots lsM Q C S hl hov hrm k => lv_lconst C.1 C.2.1 (am_dec hc) rfl k)
theorem v_fconst {i : Fin 3} (hc : am_cd y pc = some (.fconst i, n)) (hs : am_do y pc n ls st h (.fconst i) = some (.inl (pc1, ls1, st1, h1))) (K : am_P G l d y o h' pc1 ls1 st1 h1) : am_P G l d y o h' pc ls st h := by
  have hn := am_lt_of_beq (am_len hc)
  simp only [am_do] at hs
  split at hs
  · rename_i hi
    subst hi
    simp only [am_nx, Option.some.injEq, Sum.inl.injEq, Prod.mk.injEq] at hs
    obtain ⟨rfl, rfl, rfl, rfl⟩ := hs
    subst hn
    exact v_pure K (v_pureI (a := []) (fun v hv => by simp at hv ⊢; grind)) (fun p e R s m args below meth c A ad L H locs cells slots lsM Q C S hl hov hrm k => lv_fconst0 C.1 C.2.1 (am_dec hc) k)
  · cases hs
theorem v_null  (hc : am_cd y pc = some (.aconst_null, n)) (hs : am_do y pc n ls st h (.aconst_null) = some (.inl (pc1, ls1, st1, h1))) (K : am_P G l d y o h' pc1 ls1 st1 h1) : am_P G l d y o h' pc ls st h := by
  have hn := am_lt_of_beq (am_len hc)
  simp only [am_do, am_nx, Option.some.injEq, Sum.inl.injEq, Prod.mk.injEq] at hs
  obtain ⟨rfl, rfl, rfl, rfl⟩ := hs
  subst hn
  refine v_pure K (v_pureI (a := []) (fun v hv => by simp at hv ⊢; grind)) (fun p e R s m args below meth c A ad L H locs cells slots lsM Q C S hl hov hrm k => lv_null C.1 C.2.1 (am_dec hc) k)
theorem v_iload {i : Nat} (hc : am_cd y pc = some (.iload i, n)) (hs : am_do y pc n ls st h (.iload i) = some (.inl (pc1, ls1, st1, h1))) (K : am_P G l d y o h' pc1 ls1 st1 h1) : am_P G l d y o h' pc ls st h := by
  have hn := am_lt_of_beq (am_len hc)
  simp only [am_do, am_ld] at hs
  split at hs
  · rename_i v hv
    split at hs
    · rename_i hi
      simp only [am_nx, Option.some.injEq, Sum.inl.injEq, Prod.mk.injEq] at hs
      obtain ⟨rfl, rfl, rfl, rfl⟩ := hs
      subst hn
      refine v_pure K (fun h1 h2 _ _ w hw => by
        rcases List.mem_cons.mp hw with rfl | hw
        · exact h2 _ (List.mem_of_getElem? hv)
        · exact h1 _ hw) ?_
      rcases v with x | x | x | x | x
      · exact fun p e R s m args below meth c A ad L H locs cells slots lsM Q C S hl hov hrm k => lv_iload C.1 C.2.1 (am_dec hc) (am_lr_get hl hv) k
      · cases hi
      · cases hi
      · cases hi
      · cases hi
    · cases hs
  · cases hs
theorem v_aload {i : Nat} (hc : am_cd y pc = some (.aload i, n)) (hs : am_do y pc n ls st h (.aload i) = some (.inl (pc1, ls1, st1, h1))) (K : am_P G l d y o h' pc1 ls1 st1 h1) : am_P G l d y o h' pc ls st h := by
  have hn := am_lt_of_beq (am_len hc)
  simp only [am_do, am_ld] at hs
  split at hs
  · rename_i v hv
    split at hs
    · rename_i hi
      simp only [am_nx, Option.some.injEq, Sum.inl.injEq, Prod.mk.injEq] at hs
      obtain ⟨rfl, rfl, rfl, rfl⟩ := hs
      subst hn
      refine v_pure K (fun h1 h2 _ _ w hw => by
        rcases List.mem_cons.mp hw with rfl | hw
        · exact h2 _ (List.mem_of_getElem? hv)
        · exact h1 _ hw) ?_
      rcases v with x | x | x | x | x
      · cases hi
      · cases x with
        | none => exact fun p e R s m args below meth c A ad L H locs cells slots lsM Q C S hl hov hrm k => lv_aloadN C.1 C.2.1 (am_dec hc) (am_lr_get hl hv) k
        | some r => exact fun p e R s m args below meth c A ad L H locs cells slots lsM Q C S hl hov hrm k => lv_aload C.1 C.2.1 (am_dec hc) (am_lr_get hl hv) k
      · cases hi
      · cases hi
      · cases hi
    · cases hs
  · cases hs
theorem v_fload {i : Nat} (hc : am_cd y pc = some (.fload i, n)) (hs : am_do y pc n ls st h (.fload i) = some (.inl (pc1, ls1, st1, h1))) (K : am_P G l d y o h' pc1 ls1 st1 h1) : am_P G l d y o h' pc ls st h := by
  have hn := am_lt_of_beq (am_len hc)
  simp only [am_do, am_ld] at hs
  split at hs
  · rename_i v hv
    split at hs
    · rename_i hi
      simp only [am_nx, Option.some.injEq, Sum.inl.injEq, Prod.mk.injEq] at hs
      obtain ⟨rfl, rfl, rfl, rfl⟩ := hs
      subst hn
      refine v_pure K (fun h1 h2 _ _ w hw => by
        rcases List.mem_cons.mp hw with rfl | hw
        · exact h2 _ (List.mem_of_getElem? hv)
        · exact h1 _ hw) ?_
      rcases v with x | x | x | x | x
      · cases hi
      · cases hi
      · cases hi
      · exact fun p e R s m args below meth c A ad L H locs cells slots lsM Q C S hl hov hrm k => lv_fload C.1 C.2.1 (am_dec hc) (am_lr_get hl hv) k
      · cases hi
    · cases hs
  · cases hs
theorem v_iload_n {i : Fin 4} (hc : am_cd y pc = some (.iload_n i, n)) (hs : am_do y pc n ls st h (.iload_n i) = some (.inl (pc1, ls1, st1, h1))) (K : am_P G l d y o h' pc1 ls1 st1 h1) : am_P G l d y o h' pc ls st h := by
  have hn := am_lt_of_beq (am_len hc)
  simp only [am_do, am_ld] at hs
  split at hs
  · rename_i v hv
    split at hs
    · rename_i hi
      simp only [am_nx, Option.some.injEq, Sum.inl.injEq, Prod.mk.injEq] at hs
      obtain ⟨rfl, rfl, rfl, rfl⟩ := hs
      subst hn
      refine v_pure K (fun h1 h2 _ _ w hw => by
        rcases List.mem_cons.mp hw with rfl | hw
        · exact h2 _ (List.mem_of_getElem? hv)
        · exact h1 _ hw) ?_
      rcases v with x | x | x | x | x
      · exact fun p e R s m args below meth c A ad L H locs cells slots lsM Q C S hl hov hrm k => lv_iload_n C.1 C.2.1 (am_dec hc) rfl (am_lr_get hl hv) k
      · cases hi
      · cases hi
      · cases hi
      · cases hi
    · cases hs
  · cases hs
theorem v_aload_n {i : Fin 4} (hc : am_cd y pc = some (.aload_n i, n)) (hs : am_do y pc n ls st h (.aload_n i) = some (.inl (pc1, ls1, st1, h1))) (K : am_P G l d y o h' pc1 ls1 st1 h1) : am_P G l d y o h' pc ls st h := by
  have hn := am_lt_of_beq (am_len hc)
  simp only [am_do, am_ld] at hs
  split at hs
  · rename_i v hv
    split at hs
    · rename_i hi
      simp only [am_nx, Option.some.injEq, Sum.inl.injEq, Prod.mk.injEq] at hs
      obtain ⟨rfl, rfl, rfl, rfl⟩ := hs
      subst hn
      refine v_pure K (fun h1 h2 _ _ w hw => by
        rcases List.mem_cons.mp hw with rfl | hw
        · exact h2 _ (List.mem_of_getElem? hv)
        · exact h1 _ hw) ?_
      rcases v with x | x | x | x | x
      · cases hi
      · cases x with
        | none => exact fun p e R s m args below meth c A ad L H locs cells slots lsM Q C S hl hov hrm k => lv_aload_nN C.1 C.2.1 (am_dec hc) rfl (am_lr_get hl hv) k
        | some r => exact fun p e R s m args below meth c A ad L H locs cells slots lsM Q C S hl hov hrm k => lv_aload_n C.1 C.2.1 (am_dec hc) rfl (am_lr_get hl hv) k
      · cases hi
      · cases hi
      · cases hi
    · cases hs
  · cases hs
theorem v_istore {i : Nat} (hc : am_cd y pc = some (.istore i, n)) (hs : am_do y pc n ls st h (.istore i) = some (.inl (pc1, ls1, st1, h1))) (K : am_P G l d y o h' pc1 ls1 st1 h1) : am_P G l d y o h' pc ls st h := by
  have hn := am_lt_of_beq (am_len hc)
  simp only [am_do, am_sv] at hs
  split at hs
  · rename_i v r
    split at hs
    · rename_i hi
      simp only [am_nx, Option.some.injEq, Sum.inl.injEq, Prod.mk.injEq] at hs
      obtain ⟨rfl, rfl, rfl, rfl⟩ := hs
      subst hn
      obtain ⟨hi, hk⟩ := hi
      rcases v with x | x | x | x | x
      · exact v_store rfl hk K (fun p e R s m args below meth c A ad H locs cells slots lsM Q lv C hl hk9 k => lv_istore C.1 C.2.1 (am_dec hc) hl hk9 rfl k)
      · cases hi
      · cases hi
      · cases hi
      · cases hi
    · cases hs
  · cases hs
theorem v_astore {i : Nat} (hc : am_cd y pc = some (.astore i, n)) (hs : am_do y pc n ls st h (.astore i) = some (.inl (pc1, ls1, st1, h1))) (K : am_P G l d y o h' pc1 ls1 st1 h1) : am_P G l d y o h' pc ls st h := by
  have hn := am_lt_of_beq (am_len hc)
  simp only [am_do, am_sv] at hs
  split at hs
  · rename_i v r
    split at hs
    · rename_i hi
      simp only [am_nx, Option.some.injEq, Sum.inl.injEq, Prod.mk.injEq] at hs
      obtain ⟨rfl, rfl, rfl, rfl⟩ := hs
      subst hn
      obtain ⟨hi, hk⟩ := hi
      rcases v with x | x | x | x | x
      · cases hi
      · cases x with
        | none => exact v_store rfl hk K (fun p e R s m args below meth c A ad H locs cells slots lsM Q lv C hl hk9 k => lv_astoreN C.1 C.2.1 (am_dec hc) hl hk9 rfl k)
        | some r => exact v_store rfl hk K (fun p e R s m args below meth c A ad H locs cells slots lsM Q lv C hl hk9 k => lv_astore C.1 C.2.1 (am_dec hc) hl hk9 rfl k)
      · cases hi
      · cases hi
      · cases hi
    · cases hs
  · cases hs
theorem v_fstore {i : Nat} (hc : am_cd y pc = some (.fstore i, n)) (hs : am_do y pc n ls st h (.fstore i) = some (.inl (pc1, ls1, st1, h1))) (K : am_P G l d y o h' pc1 ls1 st1 h1) : am_P G l d y o h' pc ls st h := by
  have hn := am_lt_of_beq (am_len hc)
  simp only [am_do, am_sv] at hs
  split at hs
  · rename_i v r
    split at hs
    · rename_i hi
      simp only [am_nx, Option.some.injEq, Sum.inl.injEq, Prod.mk.injEq] at hs
      obtain ⟨rfl, rfl, rfl, rfl⟩ := hs
      subst hn
      obtain ⟨hi, hk⟩ := hi
      rcases v with x | x | x | x | x
      · cases hi
      · cases hi
      · cases hi
      · exact v_store rfl hk K (fun p e R s m args below meth c A ad H locs cells slots lsM Q lv C hl hk9 k => lv_fstore C.1 C.2.1 (am_dec hc) hl hk9 rfl k)
      · cases hi
    · cases hs
  · cases hs
theorem v_istore_n {i : Fin 4} (hc : am_cd y pc = some (.istore_n i, n)) (hs : am_do y pc n ls st h (.istore_n i) = some (.inl (pc1, ls1, st1, h1))) (K : am_P G l d y o h' pc1 ls1 st1 h1) : am_P G l d y o h' pc ls st h := by
  have hn := am_lt_of_beq (am_len hc)
  simp only [am_do, am_sv] at hs
  split at hs
  · rename_i v r
    split at hs
    · rename_i hi
      simp only [am_nx, Option.some.injEq, Sum.inl.injEq, Prod.mk.injEq] at hs
      obtain ⟨rfl, rfl, rfl, rfl⟩ := hs
      subst hn
      obtain ⟨hi, hk⟩ := hi
      rcases v with x | x | x | x | x
      · exact v_store rfl hk K (fun p e R s m args below meth c A ad H locs cells slots lsM Q lv C hl hk9 k => lv_istore_n C.1 C.2.1 (am_dec hc) rfl hl hk9 rfl k)
      · cases hi
      · cases hi
      · cases hi
      · cases hi
    · cases hs
  · cases hs
theorem v_astore_n {i : Fin 4} (hc : am_cd y pc = some (.astore_n i, n)) (hs : am_do y pc n ls st h (.astore_n i) = some (.inl (pc1, ls1, st1, h1))) (K : am_P G l d y o h' pc1 ls1 st1 h1) : am_P G l d y o h' pc ls st h := by
  have hn := am_lt_of_beq (am_len hc)
  simp only [am_do, am_sv] at hs
  split at hs
  · rename_i v r
    split at hs
    · rename_i hi
      simp only [am_nx, Option.some.injEq, Sum.inl.injEq, Prod.mk.injEq] at hs
      obtain ⟨rfl, rfl, rfl, rfl⟩ := hs
      subst hn
      obtain ⟨hi, hk⟩ := hi
      rcases v with x | x | x | x | x
      · cases hi
      · cases x with
        | none => exact v_store rfl hk K (fun p e R s m args below meth c A ad H locs cells slots lsM Q lv C hl hk9 k => lv_astore_nN C.1 C.2.1 (am_dec hc) rfl hl hk9 rfl k)
        | some r => exact v_store rfl hk K (fun p e R s m args below meth c A ad H locs cells slots lsM Q lv C hl hk9 k => lv_astore_n C.1 C.2.1 (am_dec hc) rfl hl hk9 rfl k)
      · cases hi
      · cases hi
      · cases hi
    · cases hs
  · cases hs
theorem v_iinc {i : Nat} {c0 : Int} (hc : am_cd y pc = some (.iinc i c0, n)) (hs : am_do y pc n ls st h (.iinc i c0) = some (.inl (pc1, ls1, st1, h1))) (K : am_P G l d y o h' pc1 ls1 st1 h1) : am_P G l d y o h' pc ls st h := by
  have hn := am_lt_of_beq (am_len hc)
  simp only [am_do] at hs
  split at hs
  · rename_i x hv
    simp only [am_nx, Option.some.injEq, Sum.inl.injEq, Prod.mk.injEq] at hs
    obtain ⟨rfl, rfl, rfl, rfl⟩ := hs
    subst hn
    have hk : i < ls.length := (List.getElem?_eq_some_iff.mp hv).1
    intro p e R s m args below meth c A ad L H locs kc ks lsM Q C S hl hf hr hE
    obtain ⟨lv, hl1, hl2⟩ := hl
    obtain ⟨j, hj⟩ := List.getElem?_of_mem (hl2 i _ hv)
    refine lv_iinc C.1 C.2.1 (am_dec hc) hl1 hj rfl (by rw [← hf.1]; exact hk) rfl (fun ls' h' => K p e R s m args below meth c A ad L H locs kc ks ls' Q C S (am_lr_set (v := .inl (x + Int32.ofInt c0)) hl2 (fun v hv => (hf.2.1 v hv).2) h' hk) ⟨by rw [List.length_set]; exact hf.1, fun w hw => ?_, hf.2.2⟩ hr hE)
    rcases List.mem_or_eq_of_mem_set hw with h2 | h2
    · exact hf.2.1 w h2
    · rw [Option.some.inj h2]
      exact ⟨(fun _ e => nomatch e), rfl⟩
  · cases hs
theorem v_iadd (hc : am_cd y pc = some (.iadd, n)) (hs : am_do y pc n ls st h .iadd = some (.inl (pc1, ls1, st1, h1))) (K : am_P G l d y o h' pc1 ls1 st1 h1) : am_P G l d y o h' pc ls st h := by
  have hn := am_lt_of_beq (am_len hc)
  simp only [am_do, am_i2] at hs
  split at hs
  · rename_i b a r
    simp only [am_nx, Option.some.injEq, Sum.inl.injEq, Prod.mk.injEq] at hs
    obtain ⟨rfl, rfl, rfl, rfl⟩ := hs
    subst hn
    exact v_pure K (v_pureI (a := []) (fun v hv => by simp at hv ⊢; grind)) (fun p e R s m args below meth c A ad L H locs cells slots lsM Q C S hl hov hrm k => lv_iadd C.1 C.2.1 (am_dec hc) k)
  · cases hs
theorem v_isub (hc : am_cd y pc = some (.isub, n)) (hs : am_do y pc n ls st h .isub = some (.inl (pc1, ls1, st1, h1))) (K : am_P G l d y o h' pc1 ls1 st1 h1) : am_P G l d y o h' pc ls st h := by
  have hn := am_lt_of_beq (am_len hc)
  simp only [am_do, am_i2] at hs
  split at hs
  · rename_i b a r
    simp only [am_nx, Option.some.injEq, Sum.inl.injEq, Prod.mk.injEq] at hs
    obtain ⟨rfl, rfl, rfl, rfl⟩ := hs
    subst hn
    exact v_pure K (v_pureI (a := []) (fun v hv => by simp at hv ⊢; grind)) (fun p e R s m args below meth c A ad L H locs cells slots lsM Q C S hl hov hrm k => lv_isub C.1 C.2.1 (am_dec hc) k)
  · cases hs
theorem v_imul (hc : am_cd y pc = some (.imul, n)) (hs : am_do y pc n ls st h .imul = some (.inl (pc1, ls1, st1, h1))) (K : am_P G l d y o h' pc1 ls1 st1 h1) : am_P G l d y o h' pc ls st h := by
  have hn := am_lt_of_beq (am_len hc)
  simp only [am_do, am_i2] at hs
  split at hs
  · rename_i b a r
    simp only [am_nx, Option.some.injEq, Sum.inl.injEq, Prod.mk.injEq] at hs
    obtain ⟨rfl, rfl, rfl, rfl⟩ := hs
    subst hn
    exact v_pure K (v_pureI (a := []) (fun v hv => by simp at hv ⊢; grind)) (fun p e R s m args below meth c A ad L H locs cells slots lsM Q C S hl hov hrm k => lv_imul C.1 C.2.1 (am_dec hc) k)
  · cases hs
theorem v_iand (hc : am_cd y pc = some (.iand, n)) (hs : am_do y pc n ls st h .iand = some (.inl (pc1, ls1, st1, h1))) (K : am_P G l d y o h' pc1 ls1 st1 h1) : am_P G l d y o h' pc ls st h := by
  have hn := am_lt_of_beq (am_len hc)
  simp only [am_do, am_i2] at hs
  split at hs
  · rename_i b a r
    simp only [am_nx, Option.some.injEq, Sum.inl.injEq, Prod.mk.injEq] at hs
    obtain ⟨rfl, rfl, rfl, rfl⟩ := hs
    subst hn
    exact v_pure K (v_pureI (a := []) (fun v hv => by simp at hv ⊢; grind)) (fun p e R s m args below meth c A ad L H locs cells slots lsM Q C S hl hov hrm k => lv_iand C.1 C.2.1 (am_dec hc) k)
  · cases hs
theorem v_ixor (hc : am_cd y pc = some (.ixor, n)) (hs : am_do y pc n ls st h .ixor = some (.inl (pc1, ls1, st1, h1))) (K : am_P G l d y o h' pc1 ls1 st1 h1) : am_P G l d y o h' pc ls st h := by
  have hn := am_lt_of_beq (am_len hc)
  simp only [am_do, am_i2] at hs
  split at hs
  · rename_i b a r
    simp only [am_nx, Option.some.injEq, Sum.inl.injEq, Prod.mk.injEq] at hs
    obtain ⟨rfl, rfl, rfl, rfl⟩ := hs
    subst hn
    exact v_pure K (v_pureI (a := []) (fun v hv => by simp at hv ⊢; grind)) (fun p e R s m args below meth c A ad L H locs cells slots lsM Q C S hl hov hrm k => lv_ixor C.1 C.2.1 (am_dec hc) k)
  · cases hs
theorem v_ishr (hc : am_cd y pc = some (.ishr, n)) (hs : am_do y pc n ls st h .ishr = some (.inl (pc1, ls1, st1, h1))) (K : am_P G l d y o h' pc1 ls1 st1 h1) : am_P G l d y o h' pc ls st h := by
  have hn := am_lt_of_beq (am_len hc)
  simp only [am_do, am_i2] at hs
  split at hs
  · rename_i b a r
    simp only [am_nx, Option.some.injEq, Sum.inl.injEq, Prod.mk.injEq] at hs
    obtain ⟨rfl, rfl, rfl, rfl⟩ := hs
    subst hn
    exact v_pure K (v_pureI (a := []) (fun v hv => by simp at hv ⊢; grind)) (fun p e R s m args below meth c A ad L H locs cells slots lsM Q C S hl hov hrm k => lv_ishr C.1 C.2.1 (am_dec hc) k)
  · cases hs
theorem v_idiv (hc : am_cd y pc = some (.idiv, n)) (hs : am_do y pc n ls st h .idiv = some (.inl (pc1, ls1, st1, h1))) (K : am_P G l d y o h' pc1 ls1 st1 h1) : am_P G l d y o h' pc ls st h := by
  have hn := am_lt_of_beq (am_len hc)
  simp only [am_do, am_i2] at hs
  split at hs
  · rename_i b a r
    split at hs
    · cases hs
    · rename_i hb
      simp only [am_nx, Option.some.injEq, Sum.inl.injEq, Prod.mk.injEq] at hs
      obtain ⟨rfl, rfl, rfl, rfl⟩ := hs
      subst hn
      exact v_pure K (v_pureI (a := []) (fun v hv => by simp at hv ⊢; grind)) (fun p e R s m args below meth c A ad L H locs cells slots lsM Q C S hl hov hrm k => lv_idiv C.1 C.2.1 (am_dec hc) hb k)
  · cases hs
theorem v_irem (hc : am_cd y pc = some (.irem, n)) (hs : am_do y pc n ls st h .irem = some (.inl (pc1, ls1, st1, h1))) (K : am_P G l d y o h' pc1 ls1 st1 h1) : am_P G l d y o h' pc ls st h := by
  have hn := am_lt_of_beq (am_len hc)
  simp only [am_do, am_i2] at hs
  split at hs
  · rename_i b a r
    split at hs
    · cases hs
    · rename_i hb
      simp only [am_nx, Option.some.injEq, Sum.inl.injEq, Prod.mk.injEq] at hs
      obtain ⟨rfl, rfl, rfl, rfl⟩ := hs
      subst hn
      exact v_pure K (v_pureI (a := []) (fun v hv => by simp at hv ⊢; grind)) (fun p e R s m args below meth c A ad L H locs cells slots lsM Q C S hl hov hrm k => lv_irem C.1 C.2.1 (am_dec hc) hb k)
  · cases hs
theorem v_i2l (hc : am_cd y pc = some (.i2l, n)) (hs : am_do y pc n ls st h .i2l = some (.inl (pc1, ls1, st1, h1))) (K : am_P G l d y o h' pc1 ls1 st1 h1) : am_P G l d y o h' pc ls st h := by
  have hn := am_lt_of_beq (am_len hc)
  simp only [am_do, am_i1] at hs
  split at hs
  · rename_i a r
    simp only [am_nx, Option.some.injEq, Sum.inl.injEq, Prod.mk.injEq] at hs
    obtain ⟨rfl, rfl, rfl, rfl⟩ := hs
    subst hn
    exact v_pure K (v_pureI (a := []) (fun v hv => by simp at hv ⊢; grind)) (fun p e R s m args below meth c A ad L H locs cells slots lsM Q C S hl hov hrm k => lv_i2l C.1 C.2.1 (am_dec hc) rfl k)
  · cases hs
theorem v_i2f (hc : am_cd y pc = some (.i2f, n)) (hs : am_do y pc n ls st h .i2f = some (.inl (pc1, ls1, st1, h1))) (K : am_P G l d y o h' pc1 ls1 st1 h1) : am_P G l d y o h' pc ls st h := by
  have hn := am_lt_of_beq (am_len hc)
  simp only [am_do, am_i1] at hs
  split at hs
  · rename_i a r
    simp only [am_nx, Option.some.injEq, Sum.inl.injEq, Prod.mk.injEq] at hs
    obtain ⟨rfl, rfl, rfl, rfl⟩ := hs
    subst hn
    exact v_pure K (v_pureI (a := []) (fun v hv => by simp at hv ⊢; grind)) (fun p e R s m args below meth c A ad L H locs cells slots lsM Q C S hl hov hrm k => lv_i2f C.1 C.2.1 (am_dec hc) k)
  · cases hs
theorem v_lcmp (hc : am_cd y pc = some (.lcmp, n)) (hs : am_do y pc n ls st h .lcmp = some (.inl (pc1, ls1, st1, h1))) (K : am_P G l d y o h' pc1 ls1 st1 h1) : am_P G l d y o h' pc ls st h := by
  have hn := am_lt_of_beq (am_len hc)
  simp only [am_do] at hs
  split at hs
  · rename_i b a r
    simp only [am_nx, Option.some.injEq, Sum.inl.injEq, Prod.mk.injEq] at hs
    obtain ⟨rfl, rfl, rfl, rfl⟩ := hs
    subst hn
    exact v_pure K (v_pureI (a := []) (fun v hv => by simp at hv ⊢; grind)) (fun p e R s m args below meth c A ad L H locs cells slots lsM Q C S hl hov hrm k => W.lcmp C.1 C.2.1 (am_dec hc) k)
  · cases hs
theorem v_fdiv (hc : am_cd y pc = some (.fdiv, n)) (hs : am_do y pc n ls st h .fdiv = some (.inl (pc1, ls1, st1, h1))) (K : am_P G l d y o h' pc1 ls1 st1 h1) : am_P G l d y o h' pc ls st h := by
  have hn := am_lt_of_beq (am_len hc)
  simp only [am_do] at hs
  split at hs
  · rename_i b a r
    split at hs
    · rename_i hg
      simp only [am_nx, Option.some.injEq, Sum.inl.injEq, Prod.mk.injEq] at hs
      obtain ⟨rfl, rfl, rfl, rfl⟩ := hs
      subst hn
      exact v_pure K (v_pureI (a := []) (fun v hv => by simp at hv ⊢; grind)) (fun p e R s m args below meth c A ad L H locs cells slots lsM Q C S hl hov hrm k => lv_fdiv C.1 C.2.1 (am_dec hc) hg k)
    · cases hs
  · cases hs
theorem v_f2d (hc : am_cd y pc = some (.f2d, n)) (hs : am_do y pc n ls st h .f2d = some (.inl (pc1, ls1, st1, h1))) (K : am_P G l d y o h' pc1 ls1 st1 h1) : am_P G l d y o h' pc ls st h := by
  have hn := am_lt_of_beq (am_len hc)
  simp only [am_do] at hs
  split at hs
  · rename_i a r
    split at hs
    · rename_i hg
      simp only [am_nx, Option.some.injEq, Sum.inl.injEq, Prod.mk.injEq] at hs
      obtain ⟨rfl, rfl, rfl, rfl⟩ := hs
      subst hn
      exact v_pure K (v_pureI (a := []) (fun v hv => by simp at hv ⊢; grind)) (fun p e R s m args below meth c A ad L H locs cells slots lsM Q C S hl hov hrm k => lv_f2d C.1 C.2.1 (am_dec hc) hg k)
    · cases hs
  · cases hs
theorem v_dup (hc : am_cd y pc = some (.dup, n)) (hs : am_do y pc n ls st h .dup = some (.inl (pc1, ls1, st1, h1))) (K : am_P G l d y o h' pc1 ls1 st1 h1) : am_P G l d y o h' pc ls st h := by
  have hn := am_lt_of_beq (am_len hc)
  simp only [am_do] at hs
  split at hs
  · rename_i v r
    split at hs
    · rename_i hg
      simp only [am_nx, Option.some.injEq, Sum.inl.injEq, Prod.mk.injEq] at hs
      obtain ⟨rfl, rfl, rfl, rfl⟩ := hs
      subst hn
      exact v_pure K (v_pureI (a := []) (fun v hv => by simp at hv ⊢; grind)) (fun p e R s m args below meth c A ad L H locs cells slots lsM Q C S hl hov hrm k => lv_dup C.1 C.2.1 (am_dec hc) (by rw [am_cat_e]; exact hg) k)
    · cases hs
  · cases hs
theorem v_pop (hc : am_cd y pc = some (.pop, n)) (hs : am_do y pc n ls st h .pop = some (.inl (pc1, ls1, st1, h1))) (K : am_P G l d y o h' pc1 ls1 st1 h1) : am_P G l d y o h' pc ls st h := by
  have hn := am_lt_of_beq (am_len hc)
  simp only [am_do] at hs
  split at hs
  · rename_i v r
    split at hs
    · rename_i hg
      simp only [am_nx, Option.some.injEq, Sum.inl.injEq, Prod.mk.injEq] at hs
      obtain ⟨rfl, rfl, rfl, rfl⟩ := hs
      subst hn
      exact v_pure K (v_pureI (a := []) (fun v hv => by simp at hv ⊢; grind)) (fun p e R s m args below meth c A ad L H locs cells slots lsM Q C S hl hov hrm k => lv_pop C.1 C.2.1 (am_dec hc) (by rw [am_cat_e]; exact hg) k)
    · cases hs
  · cases hs
theorem v_dup_x1 (hc : am_cd y pc = some (.dup_x1, n)) (hs : am_do y pc n ls st h .dup_x1 = some (.inl (pc1, ls1, st1, h1))) (K : am_P G l d y o h' pc1 ls1 st1 h1) : am_P G l d y o h' pc ls st h := by
  have hn := am_lt_of_beq (am_len hc)
  simp only [am_do] at hs
  split at hs
  · rename_i v w r
    split at hs
    · rename_i hg
      simp only [am_nx, Option.some.injEq, Sum.inl.injEq, Prod.mk.injEq] at hs
      obtain ⟨rfl, rfl, rfl, rfl⟩ := hs
      subst hn
      exact v_pure K (v_pureI (a := []) (fun v hv => by simp at hv ⊢; grind)) (fun p e R s m args below meth c A ad L H locs cells slots lsM Q C S hl hov hrm k => lv_dup_x1 C.1 C.2.1 (am_dec hc) (by rw [am_cat_e]; exact hg.1) (by rw [am_cat_e]; exact hg.2) k)
    · cases hs
  · cases hs
theorem v_dup2 (hc : am_cd y pc = some (.dup2, n)) (hs : am_do y pc n ls st h .dup2 = some (.inl (pc1, ls1, st1, h1))) (K : am_P G l d y o h' pc1 ls1 st1 h1) : am_P G l d y o h' pc ls st h := by
  have hn := am_lt_of_beq (am_len hc)
  simp only [am_do] at hs
  split at hs
  · rename_i v w r
    split at hs
    · rename_i hg
      simp only [am_nx, Option.some.injEq, Sum.inl.injEq, Prod.mk.injEq] at hs
      obtain ⟨rfl, rfl, rfl, rfl⟩ := hs
      subst hn
      exact v_pure K (v_pureI (a := []) (fun v hv => by simp at hv ⊢; grind)) (fun p e R s m args below meth c A ad L H locs cells slots lsM Q C S hl hov hrm k => lv_dup2_11 C.1 C.2.1 (am_dec hc) (by rw [am_cat_e]; exact hg.1) (by rw [am_cat_e]; exact hg.2) k)
    · cases hs
  · cases hs
theorem v_dcmp {op : CmpOp} (hc : am_cd y pc = some (.dcmp op, n)) (hs : am_do y pc n ls st h (.dcmp op) = some (.inl (pc1, ls1, st1, h1))) (K : am_P G l d y o h' pc1 ls1 st1 h1) : am_P G l d y o h' pc ls st h := by
  have hn := am_lt_of_beq (am_len hc)
  simp only [am_do] at hs
  split at hs
  · rename_i b a r
    simp only [am_nx, Option.some.injEq, Sum.inl.injEq, Prod.mk.injEq] at hs
    obtain ⟨rfl, rfl, rfl, rfl⟩ := hs
    subst hn
    exact v_pure K (v_pureI (a := []) (fun v hv => by simp at hv ⊢; grind)) (fun p e R s m args below meth c A ad L H locs cells slots lsM Q C S hl hov hrm k => lv_dcmp C.1 C.2.1 (am_dec hc) k)
  · cases hs
theorem v_fcmp {op : CmpOp} (hc : am_cd y pc = some (.fcmp op, n)) (hs : am_do y pc n ls st h (.fcmp op) = some (.inl (pc1, ls1, st1, h1))) (K : am_P G l d y o h' pc1 ls1 st1 h1) : am_P G l d y o h' pc ls st h := by
  have hn := am_lt_of_beq (am_len hc)
  simp only [am_do] at hs
  split at hs
  · rename_i b a r
    simp only [am_nx, Option.some.injEq, Sum.inl.injEq, Prod.mk.injEq] at hs
    obtain ⟨rfl, rfl, rfl, rfl⟩ := hs
    subst hn
    exact v_pure K (v_pureI (a := []) (fun v hv => by simp at hv ⊢; grind)) (fun p e R s m args below meth c A ad L H locs cells slots lsM Q C S hl hov hrm k => lv_fcmp C.1 C.2.1 (am_dec hc) k)
  · cases hs
theorem am_tg_s {off : Int} {t : Nat} (h : am_tg pc off = some t) : (pc : Int) + off = (t : Int) := by
  unfold am_tg at h
  split at h
  · cases h; omega
  · cases h
theorem am_jp_s {off : Int} (h0 : am_jp pc off ls st h = some (.inl (pc1, ls1, st1, h1))) : (pc : Int) + off = (pc1 : Int) ∧ ls = ls1 ∧ st = st1 ∧ h = h1 := by
  unfold am_jp at h0
  split at h0
  · rename_i t ht
    simp only [am_nx, Option.some.injEq, Sum.inl.injEq, Prod.mk.injEq] at h0
    obtain ⟨rfl, rfl, rfl, rfl⟩ := h0
    exact ⟨am_tg_s ht, rfl, rfl, rfl⟩
  · cases h0
theorem am_br_s {b : Prop} [Decidable b] {off : Int} (h0 : am_br b pc n off ls st h = some (.inl (pc1, ls1, st1, h1))) : ls = ls1 ∧ st = st1 ∧ h = h1 ∧ ∃ t : Nat, (pc : Int) + off = (t : Int) ∧ ((b ∧ t = pc1) ∨ (¬ b ∧ pc1 = pc + n)) := by
  unfold am_br at h0
  split at h0
  · rename_i t ht
    split at h0
    · rename_i hb
      simp only [am_nx, Option.some.injEq, Sum.inl.injEq, Prod.mk.injEq] at h0
      obtain ⟨rfl, rfl, rfl, rfl⟩ := h0
      exact ⟨rfl, rfl, rfl, _, am_tg_s ht, Or.inl ⟨hb, rfl⟩⟩
    · rename_i hb
      simp only [am_nx, Option.some.injEq, Sum.inl.injEq, Prod.mk.injEq] at h0
      obtain ⟨rfl, rfl, rfl, rfl⟩ := h0
      exact ⟨rfl, rfl, rfl, _, am_tg_s ht, Or.inr ⟨hb, rfl⟩⟩
  · cases h0
theorem v_goto {off : Int} (hc : am_cd y pc = some (.goto off, n)) (hs : am_do y pc n ls st h (.goto off) = some (.inl (pc1, ls1, st1, h1))) (K : am_P G l d y o h' pc1 ls1 st1 h1) : am_P G l d y o h' pc ls st h := by
  have hn := am_lt_of_beq (am_len hc)
  simp only [am_do] at hs
  obtain ⟨ht, rfl, rfl, rfl⟩ := am_jp_s hs
  subst hn
  exact v_pure K (fun h1 _ _ _ => h1) (fun p e R s m args below meth c A ad L H locs cells slots lsM Q C S hl hov hrm k => lv_goto C.1 C.2.1 (am_dec hc) ht k)
theorem v_ifCond {cd : ClassFile.Cond} {off : Int} (hc : am_cd y pc = some (.ifCond cd off, n)) (hs : am_do y pc n ls st h (.ifCond cd off) = some (.inl (pc1, ls1, st1, h1))) (K : am_P G l d y o h' pc1 ls1 st1 h1) : am_P G l d y o h' pc ls st h := by
  have hn := am_lt_of_beq (am_len hc)
  simp only [am_do, am_i1] at hs
  split at hs
  · rename_i a r
    have hok : ∀ w ∈ r, w ∈ (.inl a :: r : List am_V) := fun w hw => by simp [hw]
    cases cd
    case eq =>
      obtain ⟨rfl, rfl, rfl, t, ht, ⟨hb, rfl⟩ | ⟨hb, rfl⟩⟩ := am_br_s hs
      · subst hn
        exact v_pure K (fun h1 _ _ _ w hw => h1 w (hok w hw)) (fun p e R s m args below meth c A ad L H locs cells slots lsM Q C S hl hov hrm k => lv_if_eq C.1 C.2.1 (am_dec hc) ht (fun _ => k) (fun q => absurd hb q))
      · subst hn
        exact v_pure K (fun h1 _ _ _ w hw => h1 w (hok w hw)) (fun p e R s m args below meth c A ad L H locs cells slots lsM Q C S hl hov hrm k => lv_if_eq C.1 C.2.1 (am_dec hc) ht (fun q => absurd q hb) (fun _ => k))
    case ne =>
      obtain ⟨rfl, rfl, rfl, t, ht, ⟨hb, rfl⟩ | ⟨hb, rfl⟩⟩ := am_br_s hs
      · subst hn
        exact v_pure K (fun h1 _ _ _ w hw => h1 w (hok w hw)) (fun p e R s m args below meth c A ad L H locs cells slots lsM Q C S hl hov hrm k => lv_if_ne C.1 C.2.1 (am_dec hc) ht (fun _ => k) (fun q => absurd q hb))
      · subst hn
        exact v_pure K (fun h1 _ _ _ w hw => h1 w (hok w hw)) (fun p e R s m args below meth c A ad L H locs cells slots lsM Q C S hl hov hrm k => lv_if_ne C.1 C.2.1 (am_dec hc) ht (fun q => absurd q hb) (fun _ => k))
    case lt =>
      obtain ⟨rfl, rfl, rfl, t, ht, ⟨hb, rfl⟩ | ⟨hb, rfl⟩⟩ := am_br_s hs
      · subst hn
        exact v_pure K (fun h1 _ _ _ w hw => h1 w (hok w hw)) (fun p e R s m args below meth c A ad L H locs cells slots lsM Q C S hl hov hrm k => lv_if_lt C.1 C.2.1 (am_dec hc) ht (fun _ => k) (fun q => absurd hb q))
      · subst hn
        exact v_pure K (fun h1 _ _ _ w hw => h1 w (hok w hw)) (fun p e R s m args below meth c A ad L H locs cells slots lsM Q C S hl hov hrm k => lv_if_lt C.1 C.2.1 (am_dec hc) ht (fun q => absurd q hb) (fun _ => k))
    case ge =>
      obtain ⟨rfl, rfl, rfl, t, ht, ⟨hb, rfl⟩ | ⟨hb, rfl⟩⟩ := am_br_s hs
      · subst hn
        exact v_pure K (fun h1 _ _ _ w hw => h1 w (hok w hw)) (fun p e R s m args below meth c A ad L H locs cells slots lsM Q C S hl hov hrm k => lv_if_ge C.1 C.2.1 (am_dec hc) ht (fun _ => k) (fun q => absurd hb q))
      · subst hn
        exact v_pure K (fun h1 _ _ _ w hw => h1 w (hok w hw)) (fun p e R s m args below meth c A ad L H locs cells slots lsM Q C S hl hov hrm k => lv_if_ge C.1 C.2.1 (am_dec hc) ht (fun q => absurd q hb) (fun _ => k))
    case gt =>
      obtain ⟨rfl, rfl, rfl, t, ht, ⟨hb, rfl⟩ | ⟨hb, rfl⟩⟩ := am_br_s hs
      · subst hn
        exact v_pure K (fun h1 _ _ _ w hw => h1 w (hok w hw)) (fun p e R s m args below meth c A ad L H locs cells slots lsM Q C S hl hov hrm k => lv_if_gt C.1 C.2.1 (am_dec hc) ht (fun _ => k) (fun q => absurd hb q))
      · subst hn
        exact v_pure K (fun h1 _ _ _ w hw => h1 w (hok w hw)) (fun p e R s m args below meth c A ad L H locs cells slots lsM Q C S hl hov hrm k => lv_if_gt C.1 C.2.1 (am_dec hc) ht (fun q => absurd q hb) (fun _ => k))
    case le =>
      obtain ⟨rfl, rfl, rfl, t, ht, ⟨hb, rfl⟩ | ⟨hb, rfl⟩⟩ := am_br_s hs
      · subst hn
        exact v_pure K (fun h1 _ _ _ w hw => h1 w (hok w hw)) (fun p e R s m args below meth c A ad L H locs cells slots lsM Q C S hl hov hrm k => lv_if_le C.1 C.2.1 (am_dec hc) ht (fun _ => k) (fun q => absurd hb q))
      · subst hn
        exact v_pure K (fun h1 _ _ _ w hw => h1 w (hok w hw)) (fun p e R s m args below meth c A ad L H locs cells slots lsM Q C S hl hov hrm k => lv_if_le C.1 C.2.1 (am_dec hc) ht (fun q => absurd q hb) (fun _ => k))
  · cases hs
theorem v_if_icmp {cd : ClassFile.Cond} {off : Int} (hc : am_cd y pc = some (.if_icmp cd off, n)) (hs : am_do y pc n ls st h (.if_icmp cd off) = some (.inl (pc1, ls1, st1, h1))) (K : am_P G l d y o h' pc1 ls1 st1 h1) : am_P G l d y o h' pc ls st h := by
  have hn := am_lt_of_beq (am_len hc)
  simp only [am_do, am_i2] at hs
  split at hs
  · rename_i b a r
    have hok : ∀ w ∈ r, w ∈ (.inl b :: .inl a :: r : List am_V) := fun w hw => by simp [hw]
    cases cd
    case eq =>
      obtain ⟨rfl, rfl, rfl, t, ht, ⟨hb, rfl⟩ | ⟨hb, rfl⟩⟩ := am_br_s hs
      · subst hn
        exact v_pure K (fun h1 _ _ _ w hw => h1 w (hok w hw)) (fun p e R s m args below meth c A ad L H locs cells slots lsM Q C S hl hov hrm k => lv_icmp_eq C.1 C.2.1 (am_dec hc) ht (fun _ => k) (fun q => absurd hb q))
      · subst hn
        exact v_pure K (fun h1 _ _ _ w hw => h1 w (hok w hw)) (fun p e R s m args below meth c A ad L H locs cells slots lsM Q C S hl hov hrm k => lv_icmp_eq C.1 C.2.1 (am_dec hc) ht (fun q => absurd q hb) (fun _ => k))
    case ne =>
      obtain ⟨rfl, rfl, rfl, t, ht, ⟨hb, rfl⟩ | ⟨hb, rfl⟩⟩ := am_br_s hs
      · subst hn
        exact v_pure K (fun h1 _ _ _ w hw => h1 w (hok w hw)) (fun p e R s m args below meth c A ad L H locs cells slots lsM Q C S hl hov hrm k => lv_icmp_ne C.1 C.2.1 (am_dec hc) ht (fun _ => k) (fun q => absurd q hb))
      · subst hn
        exact v_pure K (fun h1 _ _ _ w hw => h1 w (hok w hw)) (fun p e R s m args below meth c A ad L H locs cells slots lsM Q C S hl hov hrm k => lv_icmp_ne C.1 C.2.1 (am_dec hc) ht (fun q => absurd q hb) (fun _ => k))
    case lt =>
      obtain ⟨rfl, rfl, rfl, t, ht, ⟨hb, rfl⟩ | ⟨hb, rfl⟩⟩ := am_br_s hs
      · subst hn
        exact v_pure K (fun h1 _ _ _ w hw => h1 w (hok w hw)) (fun p e R s m args below meth c A ad L H locs cells slots lsM Q C S hl hov hrm k => lv_icmp_lt C.1 C.2.1 (am_dec hc) ht (fun _ => k) (fun q => absurd hb q))
      · subst hn
        exact v_pure K (fun h1 _ _ _ w hw => h1 w (hok w hw)) (fun p e R s m args below meth c A ad L H locs cells slots lsM Q C S hl hov hrm k => lv_icmp_lt C.1 C.2.1 (am_dec hc) ht (fun q => absurd q hb) (fun _ => k))
    case ge =>
      obtain ⟨rfl, rfl, rfl, t, ht, ⟨hb, rfl⟩ | ⟨hb, rfl⟩⟩ := am_br_s hs
      · subst hn
        exact v_pure K (fun h1 _ _ _ w hw => h1 w (hok w hw)) (fun p e R s m args below meth c A ad L H locs cells slots lsM Q C S hl hov hrm k => lv_icmp_ge C.1 C.2.1 (am_dec hc) ht (fun _ => k) (fun q => absurd hb q))
      · subst hn
        exact v_pure K (fun h1 _ _ _ w hw => h1 w (hok w hw)) (fun p e R s m args below meth c A ad L H locs cells slots lsM Q C S hl hov hrm k => lv_icmp_ge C.1 C.2.1 (am_dec hc) ht (fun q => absurd q hb) (fun _ => k))
    case gt =>
      obtain ⟨rfl, rfl, rfl, t, ht, ⟨hb, rfl⟩ | ⟨hb, rfl⟩⟩ := am_br_s hs
      · subst hn
        exact v_pure K (fun h1 _ _ _ w hw => h1 w (hok w hw)) (fun p e R s m args below meth c A ad L H locs cells slots lsM Q C S hl hov hrm k => lv_icmp_gt C.1 C.2.1 (am_dec hc) ht (fun _ => k) (fun q => absurd hb q))
      · subst hn
        exact v_pure K (fun h1 _ _ _ w hw => h1 w (hok w hw)) (fun p e R s m args below meth c A ad L H locs cells slots lsM Q C S hl hov hrm k => lv_icmp_gt C.1 C.2.1 (am_dec hc) ht (fun q => absurd q hb) (fun _ => k))
    case le =>
      obtain ⟨rfl, rfl, rfl, t, ht, ⟨hb, rfl⟩ | ⟨hb, rfl⟩⟩ := am_br_s hs
      · subst hn
        exact v_pure K (fun h1 _ _ _ w hw => h1 w (hok w hw)) (fun p e R s m args below meth c A ad L H locs cells slots lsM Q C S hl hov hrm k => lv_icmp_le C.1 C.2.1 (am_dec hc) ht (fun _ => k) (fun q => absurd hb q))
      · subst hn
        exact v_pure K (fun h1 _ _ _ w hw => h1 w (hok w hw)) (fun p e R s m args below meth c A ad L H locs cells slots lsM Q C S hl hov hrm k => lv_icmp_le C.1 C.2.1 (am_dec hc) ht (fun q => absurd q hb) (fun _ => k))
  · cases hs
end STEP
end

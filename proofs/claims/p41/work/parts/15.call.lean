noncomputable section
/-! A call: what the callee's run comes to is what the caller's machine comes to. -/
section CALLS
variable {G : am_G} {l : Launch} {d y : Nat} {o : am_O} {h h' h1 : am_H} {pc pc1 n : Nat} {ls ls1 : List (Option am_V)} {st st1 : List am_V}
/-- cells and slots never grow fewer -/
def am_mo (h : am_H) (x : Option am_S) : Prop := match x with
  | some (.inl (_, _, _, h1)) => hCE h ≤ hCE h1 ∧ hSL h ≤ hSL h1
  | some (.inr (.inr (_, h1))) => hCE h ≤ hCE h1 ∧ hSL h ≤ hSL h1
  | _ => True
theorem am_mo_0 : am_mo h none := True.intro
theorem am_mo_nx (a : hCE h ≤ hCE h1 ∧ hSL h ≤ hSL h1) : am_mo h (am_nx pc ls st h1) := a
theorem am_mo_fin (a : hCE h ≤ hCE h1 ∧ hSL h ≤ hSL h1) : am_mo h (am_fin o h1) := a
theorem am_mo_jp {off : Int} : am_mo h (am_jp pc off ls st h) := by
  unfold am_jp
  split
  · exact am_mo_nx ⟨Nat.le_refl _, Nat.le_refl _⟩
  · exact am_mo_0
theorem am_mo_br {off : Int} {b : Prop} [Decidable b] : am_mo h (am_br b pc n off ls st h) := by
  unfold am_br
  split
  · split <;> exact am_mo_nx ⟨Nat.le_refl _, Nat.le_refl _⟩
  · exact am_mo_0
theorem am_mo_ld {k : Nat} {c : am_V → Bool} : am_mo h (am_ld k pc n ls st h c) := by
  unfold am_ld
  split
  · split
    · exact am_mo_nx ⟨Nat.le_refl _, Nat.le_refl _⟩
    · exact am_mo_0
  · exact am_mo_0
theorem am_mo_sv {k : Nat} {c : am_V → Bool} : am_mo h (am_sv k pc n ls st h c) := by
  unfold am_sv
  split
  · split
    · exact am_mo_nx ⟨Nat.le_refl _, Nat.le_refl _⟩
    · exact am_mo_0
  · exact am_mo_0
theorem am_mo_sw {x : Int32} {dd lo hi : Int} {offs : Array Int} : am_mo h (am_sw pc x dd lo hi offs ls st h) := by
  unfold am_sw
  split
  · exact am_mo_jp
  · split
    · exact am_mo_jp
    · exact am_mo_0
theorem am_mo_cs {y' na : Nat} {b : Bool} : am_mo h (am_cs y' na pc b st) := by
  unfold am_cs
  split
  · split
    · split <;> exact True.intro
    · split
      · split <;> exact True.intro
      · exact True.intro
  · exact True.intro
theorem am_mo_i1 {f : Int32 → List am_V → Option am_S} (k : ∀ a r, am_mo h (f a r)) : am_mo h (am_i1 st f) := by unfold am_i1; split <;> first | exact k _ _ | exact am_mo_0
theorem am_mo_j1 {f : Int64 → List am_V → Option am_S} (k : ∀ a r, am_mo h (f a r)) : am_mo h (am_j1 st f) := by unfold am_j1; split <;> first | exact k _ _ | exact am_mo_0
theorem am_mo_d1 {f : UInt64 → List am_V → Option am_S} (k : ∀ a r, am_mo h (f a r)) : am_mo h (am_d1 st f) := by unfold am_d1; split <;> first | exact k _ _ | exact am_mo_0
theorem am_mo_i2 {f : Int32 → Int32 → List am_V → Option am_S} (k : ∀ a b r, am_mo h (f a b r)) : am_mo h (am_i2 st f) := by unfold am_i2; split <;> first | exact k _ _ _ | exact am_mo_0
theorem am_mo_r1 {f : Nat → Nat → List am_V → Option am_S} (k : ∀ a b r, am_mo h (f a b r)) : am_mo h (am_r1 st f) := by unfold am_r1; split <;> first | exact k _ _ _ | exact am_mo_0
theorem am_mo_ir {f : Int32 → Nat → Nat → List am_V → Option am_S} (k : ∀ i a b r, am_mo h (f i a b r)) : am_mo h (am_ir st f) := by unfold am_ir; split <;> first | exact k _ _ _ _ | exact am_mo_0
set_option maxHeartbeats 4000000 in
theorem am_mo_do {i : Instr} : am_mo h (am_do y pc n ls st h i) := by
  cases i
  all_goals first
    | exact True.intro
    | (simp only [am_do]
       repeat' first
         | exact am_mo_nx ⟨Nat.le_refl _, Nat.le_refl _⟩
         | exact am_mo_nx ⟨Nat.le_succ _, Nat.le_add_right _ _⟩
         | exact am_mo_fin ⟨Nat.le_refl _, Nat.le_refl _⟩
         | exact am_mo_fin ⟨Nat.le_succ _, Nat.le_add_right _ _⟩
         | exact am_mo_0
         | exact am_mo_jp
         | exact am_mo_br
         | exact am_mo_ld
         | exact am_mo_sv
         | exact am_mo_sw
         | exact am_mo_cs
         | (refine am_mo_i1 fun _ _ => ?_)
         | (refine am_mo_j1 fun _ _ => ?_)
         | (refine am_mo_d1 fun _ _ => ?_)
         | (refine am_mo_i2 fun _ _ _ => ?_)
         | (refine am_mo_r1 fun _ _ _ => ?_)
         | (refine am_mo_ir fun _ _ _ _ => ?_)
         | split)
theorem am_mo_st : am_mo h (am_step y pc ls st h) := by
  unfold am_step
  split
  · exact am_mo_do
  · exact am_mo_0
theorem am_mo_run : ∀ (n d y pc : Nat) (ls : List (Option am_V)) (st : List am_V) (h : am_H) (o : am_O) (h' : am_H), am_run d n y pc ls st h = some (o, h') → hCE h ≤ hCE h' ∧ hSL h ≤ hSL h' := by
  intro n
  induction n with
  | zero => intro d y pc ls st h o h' e; cases e
  | succ n ih =>
    intro d y pc ls st h o h' e
    rw [am_run_s] at e
    have hm : am_mo h (am_step y pc ls st h) := am_mo_st
    cases hs : am_step y pc ls st h with
    | none => rw [hs] at e; cases e
    | some x =>
      rw [hs] at e hm
      rcases x with ⟨pc', ls', st', h2⟩ | ⟨y', as, pc', rest⟩ | ⟨o', h2⟩
      · have hm : hCE h ≤ hCE h2 ∧ hSL h ≤ hSL h2 := hm
        have := ih _ _ _ _ _ _ _ _ e
        exact ⟨Nat.le_trans hm.1 this.1, Nat.le_trans hm.2 this.2⟩
      · cases d with
        | zero => cases e
        | succ d' =>
          dsimp only at e
          cases hr : am_run d' n y' 0 (am_lo (am_ml y') as) [] h with
          | none => rw [hr] at e; cases e
          | some z =>
            rw [hr] at e
            obtain ⟨o1, h1⟩ := z
            have hm := ih _ _ _ _ _ _ _ _ hr
            have go : ∀ {p2 : Nat} {ls2 : List (Option am_V)} {st2 : List am_V}, am_run (d' + 1) n y p2 ls2 st2 h1 = some (o, h') → hCE h ≤ hCE h' ∧ hSL h ≤ hSL h' := fun e => by
              have := ih _ _ _ _ _ _ _ _ e
              exact ⟨Nat.le_trans hm.1 this.1, Nat.le_trans hm.2 this.2⟩
            rcases o1 with (_ | v) | q
            · exact go e
            · exact go e
            · dsimp only at e
              split at e
              · split at e
                · split at e
                  · exact go e
                  · cases e
                · cases e
              · split at e
                · cases e; exact hm
                · cases e
      · cases e
        exact hm
/-- what holds behind a run that began at h and H -/
def am_Af (G : am_G) (A : Nat → Prop) (ad : am_R → Nat) (h h' : am_H) (H : Heap) (ad2 : am_R → Nat) (L2 : List am_R) (H2 : Heap) : Prop :=
  am_Sm G h' ad2 L2 ∧ va_P (gD G) am_cl14 (am_ws G ad2 h' L2) H2 ∧ va_D A (am_ws G ad2 h' L2) ∧ (∀ r, am_ok h r → ad2 r = ad r) ∧ (∀ r, am_ok h r → am_ok h' r) ∧ H.size ≤ H2.size ∧ ∀ q : Nat, q < H.size → ¬ A q → H2[q]? = H[q]?
def am_Pc (G : am_G) (A : Nat → Prop) (ad : am_R → Nat) (H : Heap) (as : List am_V) : Array Value → State → Prop := fun a U => a = (as.map (am_e ad)).toArray ∧ U.heap = H ∧ va_K (gD G) am_cl14 (am_tys G) U ∧ am_Wf G A U H ∧ ∀ q, H.size ≤ q → A q
def am_Qc (G : am_G) (A : Nat → Prop) (ad : am_R → Nat) (h h' : am_H) (H : Heap) (o : am_O) : Array Value → State → Outcome → State → Prop := fun _ _ out t => ∃ (v : Option am_V) (ad2 : am_R → Nat) (L2 : List am_R), o = .inl v ∧ out = .returned (v.map (am_e ad2)) ∧ (∀ v0, v = some v0 → am_okv h' v0) ∧ am_Af G A ad h h' H ad2 L2 t.heap
def am_XC (G : am_G) (A : Nat → Prop) (ad : am_R → Nat) (h h' : am_H) (H : Heap) (o : am_O) : String → State → State → Prop := fun E _ t => ∃ (k : Nat) (ad2 : am_R → Nat) (L2 : List am_R), o = .inr k ∧ E = am_xc k ∧ am_isx k ∧ am_Af G A ad h h' H ad2 L2 t.heap
theorem am_blind {A : Nat → Prop} {ad : am_R → Nat} {H : Heap} {as : List am_V} : FrameBlind (am_Pc G A ad H as) := by
  intro a U g mk hp
  obtain ⟨h1, h2, h3, h4, h5⟩ := hp
  exact ⟨h1, h2, va_K.moved (u := U) (U := U.calling g mk a) (Vm.Alike.refl U.vm) h3, am_Wf.warm (s := U) (U := U.calling g mk a) (State.WarmedH.refl U) h4, h5⟩
/-- the locals at a method's start -/
theorem am_lo_lr {ad : am_R → Nat} {as : List am_V} {nL : Nat} (hc : ∀ v ∈ as, am_cat v = 1) (hn : as.length ≤ nL) : am_lr ad (((as.map (am_e ad)).map Slot.val ++ List.replicate (nL - (as.map (am_e ad)).length) Slot.unset).toArray) nL (am_lo nL as) := by
  have key : ∀ (i : Nat) (z : Slot), ((as.map (am_e ad)).map Slot.val ++ List.replicate (nL - (as.map (am_e ad)).length) Slot.unset)[i]? = some z → (∃ v, as[i]? = some v ∧ z = .val (am_e ad v)) ∨ z = .unset := by
    intro i z hz
    by_cases hi : i < as.length
    · rw [List.getElem?_append_left (by simpa using hi), List.getElem?_map, List.getElem?_map] at hz
      cases ha : as[i]? with
      | none => rw [ha] at hz; cases hz
      | some v => rw [ha] at hz; exact Or.inl ⟨v, rfl, (Option.some.inj hz).symm⟩
    · rw [List.getElem?_append_right (by simpa using hi)] at hz
      exact Or.inr (List.eq_of_mem_replicate (List.mem_of_getElem? hz))
  refine ⟨(List.range as.length).filterMap (fun i => (as[i]?).map (fun v => (i, am_e ad v))), ⟨by simp; omega, ⟨fun i v hi h2 => ?_, fun i hi => ?_⟩, fun q hq => ?_⟩, fun i v hi => ?_⟩
  · simp only [List.getElem?_toArray] at hi
    rcases key i _ hi with ⟨w, h3, h4⟩ | h3
    · cases h4
      rw [am_cat_e, hc w (List.mem_of_getElem? h3)] at h2
      cases h2
    · cases h3
  · simp only [List.getElem?_toArray] at hi
    rcases key i _ hi with ⟨w, h3, h4⟩ | h3
    · cases h4
    · cases h3
  · obtain ⟨i, hi, h3⟩ := List.mem_filterMap.mp hq
    cases ha : as[i]? with
    | none => rw [ha] at h3; cases h3
    | some v =>
      rw [ha] at h3
      cases h3
      simp only [List.getElem?_toArray]
      rw [List.getElem?_append_left (by simpa using (List.getElem?_eq_some_iff.mp ha).1), List.getElem?_map, List.getElem?_map, ha]
      rfl
  · have ha : as[i]? = some v := by
      unfold am_lo at hi
      by_cases hl : i < as.length
      · rw [List.getElem?_append_left (by simpa using hl), List.getElem?_map] at hi
        cases ha : as[i]? with
        | none => rw [ha] at hi; cases hi
        | some w => rw [ha] at hi; exact congrArg some (Option.some.inj (Option.some.inj hi))
      · rw [List.getElem?_append_right (by simpa using hl)] at hi
        cases List.eq_of_mem_replicate (List.mem_of_getElem? hi)
    exact List.mem_filterMap.mpr ⟨i, List.mem_range.mpr (List.getElem?_eq_some_iff.mp ha).1, by rw [ha]; rfl⟩
theorem am_lo_fo {as : List am_V} {nL : Nat} (hc : ∀ v ∈ as, am_cat v = 1) (hk : ∀ v ∈ as, am_okv h v) (hn : as.length ≤ nL) (hy : nL = am_ml y) : am_fo h y (am_lo nL as) [] := by
  refine ⟨by unfold am_lo; simp; omega, fun v hv => ?_, fun v hv => nomatch hv⟩
  unfold am_lo at hv
  rcases List.mem_append.mp hv with h2 | h2
  · obtain ⟨w, hw, e⟩ := List.mem_map.mp h2
    cases e
    exact ⟨hk _ hw, hc _ hw⟩
  · cases List.eq_of_mem_replicate h2
theorem am_mt_at {v : am_MT} (hy : am_mt y = some v) : am_by y = v.2.1 ∧ am_ml y = v.2.2.1 ∧ am_rt y = v.2.2.2.1 ∧ am_ow y = v.2.2.2.2.1 ∧ am_hh y = v.2.2.2.2.2.1 ∧ am_ii y = decide (v.1.name = "<init>") ∧ am_mn y = v.1 := by
  refine ⟨?_, ?_, ?_, ?_, ?_, ?_, ?_⟩
  · unfold am_by; rw [hy]
  · unfold am_ml; rw [hy]
  · unfold am_rt; rw [hy]
  · unfold am_ow; rw [hy]
  · unfold am_hh; rw [hy]
  · unfold am_ii; rw [hy]
  · unfold am_mn; rw [hy]
theorem am_goodIn : GoodIn am_WS am_WS := fun _ hw => ⟨hw, good_of_word (List.mem_filter.mp hw).2⟩
/-- the callee's contract -/
theorem am_met {v : am_MT} {as : List am_V} {A : Nat → Prop} {ad : am_R → Nat} {L : List am_R} {H : Heap} (hy : am_mt y = some v) (hP : am_P G l d y o h' 0 (am_lo (am_ml y) as) [] h) (hc : ∀ v ∈ as, am_cat v = 1) (hk : ∀ v ∈ as, am_okv h v) (hn : as.length ≤ am_ml y)
    (S : am_Sm G h ad L ∧ va_P (gD G) am_cl14 (am_ws G ad h L) H ∧ va_D A (am_ws G ad h L)) (hmo : hCE h ≤ hCE h' ∧ hSL h ≤ hSL h') (hl : l.stackTraces = false) :
    vx_Met l v.1 am_WS { frames := d + 8, locals := 50 * (d + 8), cells := hCE h' - hCE h, slots := hSL h' - hSL h } (am_Pc G A ad H as) (am_Qc G A ad h h' H o) (am_XC G A ad h h' H o) (hCE h' - hCE h) (hSL h' - hSL h) A := by
  obtain ⟨e1, e2, e3, e4, e5, e6, e7⟩ := am_mt_at hy
  obtain ⟨w1, w2, w3, w4, w5, w6, w7, w8⟩ := am_mt_ok y v hy
  refine MetFree.of_bodyRF (code := v.2.1) (maxLocals := v.2.2.1) (ret := v.2.2.2.1) w4 ?_ ?_
  · intro args s m hp hm
    have hw := atoms_spec (ws := am_WS) hp _ w2
    unfold am_cw at hw
    split at hw
    · obtain ⟨meth, c, h1, h2, h3, h4, h5, h6, -⟩ := Cond.code_spec hm hw
      exact ⟨meth, c, h1, h2, h3, h4, h5, h6⟩
    · obtain ⟨m9, meth, c, hn9, h1, h2, h3, h4, -, h5, h6, -⟩ := Cond.codeWith_spec hw
      cases hm.symm.trans hn9
      exact ⟨meth, c, h1, h2, h3, h4, h5, h6⟩
  · intro p e s m args below meth c s₁ B hml hPc _ hst
    obtain ⟨p1, p2, p3, p4, p5⟩ := hPc
    have hh0 : s₁.heap = s.heap := by rw [B.state]; rfl
    have htab : c.exceptionTable.toList = tableOf (am_hh y) := by
      have hw := atoms_spec (ws := am_WS) B.pre _ w2
      rw [e5]
      unfold am_cw at hw
      split at hw
      · rename_i hz
        obtain ⟨meth9, c9, h1, h2, -, -, -, -, h7, -⟩ := Cond.code_spec B.named hw
        cases Option.some.inj (h1.symm.trans B.method)
        cases Option.some.inj (h2.symm.trans (Stand.of_body B).code)
        rw [Array.isEmpty_iff.mp h7, hz]
        rfl
      · exact vx_table (x := v.1) B hw
    have C : am_Cx G p l s m args meth c y A := by
      refine ⟨B.exec, B.bytes.trans e1.symm, B.returns.trans e3.symm, B.notSynchronized, hml.trans e2.symm, ?_, atoms_spec B.pre, fun hi => ?_, htab, p3, p2 ▸ p4, p2 ▸ p5, hl⟩
      · rw [e4, ← w1]
        exact findClass_of_methodNamed B.named
      · rw [e6] at hi
        rw [(name_of_methodNamed B.named B.method).1]
        exact of_decide_eq_true hi
    have hlr := am_lo_lr (ad := ad) hc hn
    have := hP p e { frames := d + 8, locals := 50 * (d + 8), cells := hCE h' - hCE h, slots := hSL h' - hSL h } s m args below meth c A ad L H [] (-(hCE h : Int)) (-(hSL h : Int)) _ (vx_MQ below (am_Qc G A ad h h' H o) (am_XC G A ad h h' H o) args s (hCE h' - hCE h) (hSL h' - hSL h) A) C
      ⟨S.1, S.2.1, S.2.2, by rw [p2]; exact Nat.le_refl _, fun q _ _ => by rw [p2], fun z hz => nomatch hz⟩ hlr (am_lo_fo hc hk hn rfl) ⟨by show _ ≤ hCE h' - hCE h; omega, by show _ ≤ hSL h' - hSL h; omega, Nat.le_refl _, Nat.le_refl _, by omega, by omega⟩ ?_
    · have hz1 : (-(hCE h : Int) + (hCE h : Int)).toNat = 0 := by omega
      have hz2 : (-(hSL h : Int) + (hSL h : Int)).toNat = 0 := by omega
      rw [hz1, hz2] at this
      have he : entryFrame m args v.2.2.1 = F0 m 0 (((as.map (am_e ad)).map Slot.val ++ List.replicate (am_ml y - (as.map (am_e ad)).length) Slot.unset).toArray) [] := by
        rw [p1, e2]
        exact entry_eq m _ (fun w hw => by
          obtain ⟨w0, h0, rfl⟩ := List.mem_map.mp hw
          rw [am_cat_e]
          exact hc w0 h0) _
      obtain ⟨t, a1, o9, b1, b2, b3⟩ := this s₁ (hh0.trans p2) (Stand.of_body B)
      rw [he] at hst
      exact ⟨t, o9, hst.trans a1, b1, b2, b3⟩
    · intro ad2 L2 H2 locs2 S2 b b2
      have hz1 : (-(hCE h : Int) + (hCE h' : Int)).toNat = hCE h' - hCE h := by omega
      have hz2 : (-(hSL h : Int) + (hSL h' : Int)).toNat = hSL h' - hSL h := by omega
      have hAf : ∀ t : State, t.heap = H2 → am_Af G A ad h h' H ad2 L2 t.heap := fun t ht => by
        rw [ht]
        refine ⟨S2.1, S2.2.1, S2.2.2.1, b, b2, ?_, ?_⟩
        · rw [← p2]; exact S2.2.2.2.1
        · intro q hq hA
          rw [← p2] at hq ⊢
          exact S2.2.2.2.2.1 q hq hA
      have hL2 : ∀ z ∈ locs2, A z.base := S2.2.2.2.2.2
      rw [hz1, hz2]
      rcases o with v0 | t0
      · intro hov pc2 ls2 i hci hi
        have hd := am_dec hci
        have hq : ∀ (w : Option Value), w = v0.map (am_e ad2) → ∀ t : State, t.heap = H2 → s.WarmedH t.vm → am_Qc G A ad h h' H (.inl v0) args s (.returned w) t := fun w hw t ht _ => ⟨v0, ad2, L2, rfl, by rw [hw], hov, hAf t ht⟩
        refine vx_ret ?_
        rcases v0 with _ | v0
        · obtain ⟨rfl, hrt⟩ := hi
          exact W.vret C.1 C.2.1 (C.2.2.1.trans hrt) (hq none rfl) hL2 hd C.2.2.2.1
        · rcases v0 with x | x | x | x | x
          · obtain ⟨rfl, hrt⟩ := hi
            rcases hrt with hrt | ⟨hrt, hx⟩
            · exact W.zret C.1 C.2.1 (C.2.2.1.trans hrt) rfl (hq _ rfl) hL2 hd C.2.2.2.1
            · exact W.zret C.1 C.2.1 (C.2.2.1.trans hrt) (by rcases hx with rfl | rfl <;> rfl) (hq _ rfl) hL2 hd C.2.2.2.1
          · obtain ⟨rfl, hrt⟩ := hi
            have hv : va_rf (x.map ad2) = .null ∨ ∃ a, va_rf (x.map ad2) = .ref a := by
              cases x with
              | none => exact Or.inl rfl
              | some r => exact Or.inr ⟨_, rfl⟩
            rcases hrt with ⟨nm, hrt⟩ | ⟨ty, hrt⟩
            · exact W.aret C.1 C.2.1 (C.2.2.1.trans hrt) (Or.inl ⟨_, rfl⟩) hv (hq _ rfl) hL2 hd C.2.2.2.1
            · exact W.aret C.1 C.2.1 (C.2.2.1.trans hrt) (Or.inr ⟨_, rfl⟩) hv (hq _ rfl) hL2 hd C.2.2.2.1
          · exact hi.elim
          · obtain ⟨rfl, hrt⟩ := hi
            exact W.fret C.1 C.2.1 (C.2.2.1.trans hrt) (hq _ rfl) hL2 hd C.2.2.2.1
          · exact hi.elim
      · intro hh0 hx pc2 ls2 rest ce q hq hv hcl
        refine vx_out (E := am_xc t0) (fun x hx => ?_) C.2.2.2.1 hq hv hcl (fun t ht _ => ⟨t0, ad2, L2, rfl, rfl, hx, hAf t ht⟩) hL2 (Nat.le_refl _) (Nat.le_refl _)
        rw [htab, hh0] at hx
        cases hx
end CALLS
end

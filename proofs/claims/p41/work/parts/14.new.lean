noncomputable section
section NEW
variable {G : am_G} {l : Launch} {d y : Nat} {o : am_O} {h' h h1 : am_H} {pc pc1 n : Nat} {ls ls1 : List (Option am_V)} {st st1 : List am_V}
theorem am_aa_AR {ad : am_R → Nat} {h : am_H} {r : am_R} {k a : Nat} {v : Option am_R} (ha : 4 ≤ a) : (hAL h r, (.inr (.inr (.inr (.inr (va_up (fun j => (hAR h r j).map ad) k (v.map ad))))) : (Nat → Int32) ⊕ (Nat → Int64) ⊕ (Nat → UInt32) ⊕ (Nat → UInt64) ⊕ (Nat → Option Nat))) = am_aa ad (sAR h r k v) r a := by
  have e : va_up (fun j => (hAR h r j).map ad) k (v.map ad) = fun j => (hAR (sAR h r k v) r j).map ad := by
    funext j
    show _ = (am_u2 (hAR h) r k v r j).map ad
    by_cases hj : j = k
    · subst hj; simp [va_up, am_u2]
    · simp [va_up, am_u2, hj]
  rw [e]
  match a, ha with
  | n + 4, _ => rfl
theorem am_NW_at : ∀ ci, ci < 10 → Cond.castable (am_cn ci) "java/lang/Object" ∈ am_NW := by
  intro ci h
  match ci, h with
  | 0, _ => exact List.mem_of_getElem? (i := 0) rfl
  | 1, _ => exact List.mem_of_getElem? (i := 1) rfl
  | 2, _ => exact List.mem_of_getElem? (i := 2) rfl
  | 3, _ => exact List.mem_of_getElem? (i := 3) rfl
  | 4, _ => exact List.mem_of_getElem? (i := 4) rfl
  | 5, _ => exact List.mem_of_getElem? (i := 5) rfl
  | 6, _ => exact List.mem_of_getElem? (i := 6) rfl
  | 7, _ => exact List.mem_of_getElem? (i := 7) rfl
  | 8, _ => exact List.mem_of_getElem? (i := 8) rfl
  | 9, _ => exact List.mem_of_getElem? (i := 9) rfl
  | n + 10, h => omega
theorem am_kc_same : am_all am_kc (fun t ci => t < 10 → ci = t) := by
  unfold am_kc
  repeat' (first | apply am_nd_ok | apply am_lf_ok)
  all_goals (intro h; first | rfl | exact absurd h (by decide))
theorem am_cls_at {ci : Nat} (h : ci < 11) : ∃ C T N, am_cls[ci]? = some (C, T, N) := by
  match ci, h with
  | 0, _ => exact ⟨_, _, _, rfl⟩
  | 1, _ => exact ⟨_, _, _, rfl⟩
  | 2, _ => exact ⟨_, _, _, rfl⟩
  | 3, _ => exact ⟨_, _, _, rfl⟩
  | 4, _ => exact ⟨_, _, _, rfl⟩
  | 5, _ => exact ⟨_, _, _, rfl⟩
  | 6, _ => exact ⟨_, _, _, rfl⟩
  | 7, _ => exact ⟨_, _, _, rfl⟩
  | 8, _ => exact ⟨_, _, _, rfl⟩
  | 9, _ => exact ⟨_, _, _, rfl⟩
  | 10, _ => exact ⟨_, _, _, rfl⟩
  | n + 11, h => omega
/-- an object of the clean heap may lie in an array of Object -/
theorem am_any {G : am_G} {p : Program} {l : Launch} {s : State} {m : MethodId} {args : Array Value} {meth : Method} {c : Code} {y : Nat} {A : Nat → Prop} {h : am_H} {ad : am_R → Nat} {L : List am_R} {H : Heap} {locs : List Loc} (C : am_Cx G p l s m args meth c y A) (S : am_Si G A s.heap h ad L H locs) {x : am_R} (hx : am_ok h x) {ci : Nat} (hk : am_kc x.1 = some ci) (ht : x.1 < 10) : va_Any "java/lang/Object" s H (ad x) := by
  have e := am_kc_same _ _ hk ht
  obtain ⟨t, q⟩ := x
  dsimp only at hk ht e
  subst e
  obtain ⟨C0, T, N, hcl⟩ := am_cls_at (ci := ci) (by omega)
  obtain ⟨q0, hq0⟩ := am_live_o S hx hk (by omega)
  have hWf := C.2.2.2.2.2.2.2.2.2.2.1
  obtain ⟨C1, e1, hca⟩ := hWf.2.2.2.2.2.2.1 _ (am_NW_at ci ht)
  have e2 : C0 = am_cn ci := (am_clf hcl).2.2.2.2
  exact va_rAny C.2.2.2.2.2.2.2.2.2.1 S.2.1 (am_ws_o hq0 hk) (am_cl14_of hcl) (vb_asgC (by rw [e2]; exact hca))
theorem am_kc_some : ∀ t, t < 10 → ∃ ci, am_kc t = some ci := by
  intro t h
  match t, h with
  | 0, _ => exact ⟨_, rfl⟩
  | 1, _ => exact ⟨_, rfl⟩
  | 2, _ => exact ⟨_, rfl⟩
  | 3, _ => exact ⟨_, rfl⟩
  | 4, _ => exact ⟨_, rfl⟩
  | 5, _ => exact ⟨_, rfl⟩
  | 6, _ => exact ⟨_, rfl⟩
  | 7, _ => exact ⟨_, rfl⟩
  | 8, _ => exact ⟨_, rfl⟩
  | 9, _ => exact ⟨_, rfl⟩
  | n + 10, h => omega
theorem v_aastore  (hc : am_cd y pc = some (.aastore, n)) (hs : am_do y pc n ls st h (.aastore) = some (.inl (pc1, ls1, st1, h1))) (K : am_P G l d y o h' pc1 ls1 st1 h1) : am_P G l d y o h' pc ls st h := by
  have hn := am_lt_of_beq (am_len hc)
  simp only [am_do] at hs
  split at hs
  · rename_i rs
    simp only [am_ir] at hs
    split at hs
    · rename_i i t q r
      split at hs
      · rename_i ha
        split at hs
        · rename_i k0 hix
          simp only [am_nx, Option.some.injEq, Sum.inl.injEq, Prod.mk.injEq] at hs
          obtain ⟨rfl, rfl, rfl, rfl⟩ := hs
          subst hn
          intro p e R s m args below meth c A ad L H locs kc ks lsM Q C S hl hf hr hE
          have hok := am_okr (hf.2.2 _ (List.mem_cons_of_mem _ (List.mem_cons_of_mem _ List.mem_cons_self)))
          obtain ⟨hin, hk0⟩ := am_ix_s hix
          have h31 : t ≠ 31 := by omega
          have h32 : t ≠ 32 := by omega
          obtain ⟨q0, hq0⟩ := am_live_a S hok h31 h32
          subst hk0
          rcases ha with rfl | rfl
          · exact va_astqN C.1 C.2.1 C.2.2.2.2.2.2.2.2.2.1 S.2.1 S.2.2.1 S.2.2.2 q0 5 (am_ws_a hq0 (rfl : am_ka 1408 = some 5)) (am_tys_at (by decide)) hin (am_dec hc) (fun H1 locs1 hP1 hD1 hS1 => am_st_go K C (am_Si_A S hq0 (am_ka_kc _ 5 (rfl : am_ka 1408 = some 5)) (rfl : am_ka 1408 = some 5) (am_Sm_AR S.1 (fun x hx => nomatch hx)) (by
              exact am_aa_AR (ad := ad) (h := h) (r := (1408, q)) (k := i.toNatClampNeg) (v := none) (a := 5) (by decide)) (fun r' hr' => am_en_A rfl rfl rfl rfl (am_u2_ne hr') rfl rfl) hP1 hD1 hS1) hl hf (fun w hw => by simp [hw]) ⟨rfl, rfl⟩ rfl hr hE)
          · exact va_astqN C.1 C.2.1 C.2.2.2.2.2.2.2.2.2.1 S.2.1 S.2.2.1 S.2.2.2 q0 4 (am_ws_a hq0 (rfl : am_ka 30 = some 4)) (am_tys_at (by decide)) hin (am_dec hc) (fun H1 locs1 hP1 hD1 hS1 => am_st_go K C (am_Si_A S hq0 (am_ka_kc _ 4 (rfl : am_ka 30 = some 4)) (rfl : am_ka 30 = some 4) (am_Sm_AR S.1 (fun x hx => nomatch hx)) (by
              exact am_aa_AR (ad := ad) (h := h) (r := (30, q)) (k := i.toNatClampNeg) (v := none) (a := 4) (by decide)) (fun r' hr' => am_en_A rfl rfl rfl rfl (am_u2_ne hr') rfl rfl) hP1 hD1 hS1) hl hf (fun w hw => by simp [hw]) ⟨rfl, rfl⟩ rfl hr hE)
        · cases hs
      · cases hs
    · cases hs
  · rename_i t' q' rs
    simp only [am_ir] at hs
    split at hs
    · rename_i i t q r
      split at hs
      · rename_i ha
        split at hs
        · rename_i k0 hix
          simp only [am_nx, Option.some.injEq, Sum.inl.injEq, Prod.mk.injEq] at hs
          obtain ⟨rfl, rfl, rfl, rfl⟩ := hs
          subst hn
          intro p e R s m args below meth c A ad L H locs kc ks lsM Q C S hl hf hr hE
          have hok := am_okr (hf.2.2 _ (List.mem_cons_of_mem _ (List.mem_cons_of_mem _ List.mem_cons_self)))
          have hokv := am_okr (hf.2.2 _ List.mem_cons_self)
          obtain ⟨hin, hk0⟩ := am_ix_s hix
          have h31 : t ≠ 31 := by omega
          have h32 : t ≠ 32 := by omega
          obtain ⟨q0, hq0⟩ := am_live_a S hok h31 h32
          subst hk0
          rcases ha with ⟨rfl, rfl⟩ | ⟨rfl, hkc, h10⟩
          · obtain ⟨qk, hqk⟩ := am_live_o (ci := 5) S hokv rfl (by decide)
            exact va_astq (r := (RX5, TX5, 7)) C.1 C.2.1 C.2.2.2.2.2.2.2.2.2.1 S.2.1 S.2.2.1 S.2.2.2 q0 5 qk 5 (am_ws_a hq0 (rfl : am_ka 1408 = some 5)) (am_tys_at (by decide)) (am_ws_o hqk rfl) rfl hin (am_dec hc) (fun H1 locs1 hP1 hD1 hS1 => am_st_go K C (am_Si_A S hq0 (am_ka_kc _ 5 (rfl : am_ka 1408 = some 5)) (rfl : am_ka 1408 = some 5) (am_Sm_AR S.1 (fun x hx => by cases hx; exact ⟨hokv, by show (5 : Nat) < 10; omega⟩)) (by
              exact am_aa_AR (ad := ad) (h := h) (r := (1408, q)) (k := i.toNatClampNeg) (v := some (_, _)) (a := 5) (by decide)) (fun r' hr' => am_en_A rfl rfl rfl rfl (am_u2_ne hr') rfl rfl) hP1 hD1 hS1) hl hf (fun w hw => by simp [hw]) ⟨rfl, rfl⟩ rfl hr hE)
          · obtain ⟨ci, hci⟩ := Option.isSome_iff_exists.mp hkc
            exact va_astqM C.1 C.2.1 C.2.2.2.2.2.2.2.2.2.1 S.2.1 S.2.2.1 S.2.2.2 q0 4 (am_ws_a hq0 (rfl : am_ka 30 = some 4)) (am_tys_at (by decide)) (am_any C S hokv hci h10) hin (am_dec hc) (fun H1 locs1 hP1 hD1 hS1 => am_st_go K C (am_Si_A S hq0 (am_ka_kc _ 4 (rfl : am_ka 30 = some 4)) (rfl : am_ka 30 = some 4) (am_Sm_AR S.1 (fun x hx => by cases hx; exact ⟨hokv, h10⟩)) (by
              exact am_aa_AR (ad := ad) (h := h) (r := (30, q)) (k := i.toNatClampNeg) (v := some (_, _)) (a := 4) (by decide)) (fun r' hr' => am_en_A rfl rfl rfl rfl (am_u2_ne hr') rfl rfl) hP1 hD1 hS1) hl hf (fun w hw => by simp [hw]) ⟨rfl, rfl⟩ rfl hr hE)
        · cases hs
      · cases hs
    · cases hs
  · cases hs
theorem am_sum_e {ad : am_R → Nat} : ∀ r : List am_V, ((r.map (am_e ad)).map fun v => v.category).sum = am_sum r
  | [] => rfl
  | v :: r => by
    rw [List.map_cons, List.map_cons, List.sum_cons, am_sum_e r, am_cat_e]
    rfl
theorem am_new_go {t q k1 k2 : Nat} {h2 : am_H} {pc2 : Nat} {st2 : List am_V} {p : Program} {e : Env} {R : Room} {s : State} {m : MethodId} {args : Array Value} {below : List Frame} {meth : Method} {c : Code} {A : Nat → Prop} {ad : am_R → Nat} {L2 : List am_R} {H1 : Heap} {locs1 : List Loc} {kc ks : Int} {lsM : Array Slot} {Q : State → Prop}
    (K : am_P G l d y o h' pc2 ls (aR t (hCN h t) :: st2) h2) (C : am_Cx G p l s m args meth c y A)
    (S2 : am_Si G A s.heap h2 (fun x => if x = (t, hCN h t) then q else ad x) L2 H1 locs1 ∧ (∀ r, am_ok h r → (if r = (t, hCN h t) then q else ad r) = ad r) ∧ (∀ r, am_ok h r → am_ok h2 r) ∧ am_ok h2 (t, hCN h t)) (hl : am_lr ad lsM (am_ml y) ls) (hf : am_fo h y ls st) (hst : ∀ v ∈ st2, v ∈ st) (hce : hCE h2 = hCE h + k1 ∧ hSL h2 = hSL h + k2) (hr : am_rm R kc ks d h h') (hE : am_En G p l e R s m args below meth c y A h h' o ad kc ks Q) :
    W p l e R s m args below meth c H1 locs1 ((kc + (hCE h : Int)).toNat + k1) ((ks + (hSL h : Int)).toNat + k2) Q (F0 m pc2 lsM (.ref q :: st2.map (am_e ad))) := by
  obtain ⟨S2, hx, hok, hnew⟩ := S2
  have hl2 : am_lr (fun x => if x = (t, hCN h t) then q else ad x) lsM (am_ml y) ls := by
    obtain ⟨lv, g1, g2⟩ := hl
    refine ⟨lv, g1, fun i v hi => ?_⟩
    rw [am_e_eq (h := h) hx ((hf.2.1 v (List.mem_of_getElem? hi)).1)]
    exact g2 i v hi
  have := K p e R s m args below meth c A _ L2 H1 locs1 kc ks lsM Q C S2 hl2 ⟨hf.1, fun v hv => ⟨fun x hx => hok x ((hf.2.1 v hv).1 x hx), (hf.2.1 v hv).2⟩, fun v hv => by
      rcases List.mem_cons.mp hv with rfl | hv
      · intro r hr; cases hr; exact hnew
      · exact fun x hx => hok x (hf.2.2 v (hst v hv) x hx)⟩ (am_rm_add hce hr).1 (fun ad2 L2 H2 locs2 a b b2 => hE ad2 L2 H2 locs2 a (fun x hx' => (b x (hok x hx')).trans (hx x hx')) (fun x hx' => b2 x (hok x hx')))
  have e1 : (aR t (hCN h t) :: st2).map (am_e (fun x => if x = (t, hCN h t) then q else ad x)) = .ref q :: st2.map (am_e ad) := by
    rw [List.map_cons]
    congr 1
    · show va_rf (some _) = _
      simp [va_rf]
    · exact List.map_congr_left (fun v hv => am_e_eq (h := h) hx (hf.2.2 v (hst v hv)))
  rw [e1, (am_rm_add hce hr).2.1, (am_rm_add hce hr).2.2] at this
  exact this
theorem am_nw_nf : am_all am_nw (fun _ v => am_nf v.1 = v.2) := am_nd_ok (am_nd_ok (am_nd_ok (am_lf_ok rfl) (am_nd_ok (am_lf_ok rfl) (am_lf_ok rfl))) (am_nd_ok (am_nd_ok (am_lf_ok rfl) (am_lf_ok rfl)) (am_nd_ok (am_lf_ok rfl) (am_lf_ok rfl)))) (am_nd_ok (am_nd_ok (am_nd_ok (am_lf_ok rfl) (am_lf_ok rfl)) (am_nd_ok (am_lf_ok rfl) (am_lf_ok rfl))) (am_nd_ok (am_nd_ok (am_lf_ok rfl) (am_lf_ok rfl)) (am_nd_ok (am_lf_ok rfl) (am_lf_ok rfl))))
theorem v_new {i : Nat} (hc : am_cd y pc = some (.new i, n)) (hs : am_do y pc n ls st h (.new i) = some (.inl (pc1, ls1, st1, h1))) (hm : hCE h1 ≤ hCE h' ∧ hSL h1 ≤ hSL h') (K : am_P G l d y o h' pc1 ls1 st1 h1) : am_P G l d y o h' pc ls st h := by
  obtain ⟨hn, hi⟩ := am_two (am_len hc)
  simp only [am_do] at hs
  split at hs
  · rename_i ci nf hf
    split at hs
    · rename_i hk
      obtain ⟨hk, hci⟩ := hk
      simp only [am_nx, Option.some.injEq, Sum.inl.injEq, Prod.mk.injEq] at hs
      obtain ⟨rfl, rfl, rfl, rfl⟩ := hs
      subst hn
      obtain ⟨C0, T, N, hcl, w1, w2, w3⟩ := am_nw_ok _ _ hf
      dsimp only at hcl w1 w2 w3
      rw [(am_K_div hi).1, (am_K_div hi).2] at w1
      have hnf : N = nf := by rw [← am_nf_of hcl]; exact am_nw_nf _ _ hf
      subst hnf
      intro p e R s m args below meth c A ad L H locs kc ks lsM Q C S hl hf hr hE
      generalize ht : am_nk y pc ci = t at hk hm K ⊢
      have hts := C.2.2.2.2.2.2.1
      obtain ⟨f1, f2, f3, f4, f5⟩ := am_clf hcl
      have hc1 : hCE h + 1 ≤ hCE h' := hm.1
      have hc2 : hSL h + N ≤ hSL h' := hm.2
      have ht2 : (t < 13 ∨ 15 < t) ∧ t ≠ 31 ∧ t ≠ 32 := by
        rcases am_kc_lt t ci hk with z | z
        · omega
        · exact ⟨z.1, z.2.2⟩
      refine va_new (fs := (List.range N).map (fun j => if am_fr (100 * ci + j) = true then .null else .int 0)) C.1 C.2.1 (Ts := am_WS) hts f1 (am_tyc ci) f2 C.2.2.2.2.2.1 (hts _ w1) (hts _ w2) (hts _ w3) C.2.2.2.2.2.2.2.2.2.1 S.2.1 S.2.2.1 S.2.2.2 C.2.2.2.2.2.2.2.2.2.2.2.1 (am_cl14_of hcl) (fun j hj => ?_) (by have := hr.1; have := hr.2.2.2.2; omega) (by have := hr.2.1; have := hr.2.2.2.2; omega) (am_dec hc) (fun q H1 hP1 hD1 hS1 => ?_)
      · have e1 : vp_V ((List.range N).map (fun j => if am_fr (100 * ci + j) = true then (.null : Value) else .int 0)) j = if am_fr (100 * ci + j) = true then .null else .int 0 := by
          unfold vp_V
          simp [hj]
        rw [e1]
        rcases (am_fck_s f4 hj).1 with ⟨g1, ⟨g2, -⟩ | ⟨g2, -⟩⟩ | ⟨g1, ⟨nm, g2⟩ | ⟨ty, g2⟩⟩
        · rw [g1, g2]; rfl
        · rw [g1, g2]; rfl
        · rw [g1, g2]; rfl
        · rw [g1, g2]; rfl
      · refine am_new_go K C (am_Si_new S (Or.inr (Or.inl (by rw [hk]; rfl))) ht2.1 rfl (fun f r x hx => ?_) S.1.2.2.1 ?_ (fun r' hr' => ?_) ht2.2.1 ht2.2.2 (fun _ _ => ⟨rfl, rfl⟩) hP1 hD1 hS1) hl hf (fun v hv => hv) ⟨rfl, rfl⟩ hr hE
        · have hx' : (if r = hNX h t then none else hFR h f r) = some x := hx
          split at hx'
          · cases hx'
          · exact S.1.2.1 f r x hx'
        · unfold am_en
          dsimp only
          rw [hk]
          dsimp only
          congr 2
          unfold am_ob
          rw [am_nf_of hcl]
          apply List.map_congr_left
          intro j _
          have e2 : hFR (hNO h t N) (100 * ci + j) (t, hCN h t) = none := by show (if (t, hCN h t) = hNX h t then none else _) = none; exact if_pos rfl
          have e3 : hFI (hNO h t N) (100 * ci + j) (t, hCN h t) = 0 := by show (if (t, hCN h t) = hNX h t then (0 : Int32) else _) = 0; exact if_pos rfl
          unfold am_fv
          rw [e2, e3]
          rfl
        · unfold am_en
          cases am_kc r'.1 with
          | none => rfl
          | some c9 =>
            dsimp only
            congr 2
            unfold am_ob
            apply List.map_congr_left
            intro j _
            have e2 : hFR (hNO h t N) (100 * c9 + j) r' = hFR h (100 * c9 + j) r' := by show (if r' = hNX h t then none else _) = _; exact if_neg hr'
            have e3 : hFI (hNO h t N) (100 * c9 + j) r' = hFI h (100 * c9 + j) r' := by show (if r' = hNX h t then (0 : Int32) else _) = _; exact if_neg hr'
            unfold am_fv
            rw [e2, e3]
    · cases hs
  · split at hs
    · split at hs
      · cases hs
      · cases hs
    · cases hs
theorem am_Si_na {ty t m9 : Nat} {A : Nat → Prop} {H0 H H1 : Heap} {ad : am_R → Nat} {L : List am_R} {locs locs1 : List Loc} {q : Nat} (S : am_Si G A H0 h ad L H locs) (hk : am_ka t = some ty) (h31 : t ≠ 31) (h32 : t ≠ 32) {a0 : vp_A} (ha0 : a0 = (m9, match (generalizing := false) ty with | 0 => .inl (fun _ => 0) | 1 => .inl (fun _ => 0) | 2 => .inr (.inl (fun _ => 0)) | 3 => .inr (.inr (.inr (.inl (fun _ => 0)))) | _ => .inr (.inr (.inr (.inr (fun _ => none))))))
    (hP : va_P (gD G) am_cl14 (am_ws G ad h L ++ [(q, .inl (gA G ty, a0))]) H1) (hD : va_D A (am_ws G ad h L ++ [(q, .inl (gA G ty, a0))])) (hS : va_S A H0 H1 locs1) :
    am_Si G A H0 (hNA h t m9) (fun x => if x = (t, hCN h t) then q else ad x) (L ++ [(t, hCN h t)]) H1 locs1 ∧ (∀ r, am_ok h r → (if r = (t, hCN h t) then q else ad r) = ad r) ∧ (∀ r, am_ok h r → am_ok (hNA h t m9) r) ∧ am_ok (hNA h t m9) (t, hCN h t) := by
  have hlt := am_ka_lt t ty hk
  have f1 : hAI (hNA h t m9) (t, hCN h t) = fun _ => 0 := if_pos rfl
  have f2 : hAR (hNA h t m9) (t, hCN h t) = fun _ => none := if_pos rfl
  have f3 : hAJ (hNA h t m9) (t, hCN h t) = fun _ => 0 := if_pos rfl
  have f4 : hAD (hNA h t m9) (t, hCN h t) = fun _ => 0 := if_pos rfl
  have f5 : hAL (hNA h t m9) (t, hCN h t) = m9 := by show am_u1 (hAL h) (hNX h t) m9 (t, hCN h t) = m9; unfold am_u1; exact if_pos rfl
  refine am_Si_new S (Or.inr (Or.inr ⟨by rw [hk]; rfl, h31, h32⟩)) hlt.2.1 rfl S.1.2.1 (fun r j x hx => ?_) ?_ (fun r' hr' => ?_) h31 h32 (fun r' hr' => ⟨?_, ?_⟩) hP hD hS
  · have hx' : (if r = hNX h t then (fun _ => none) else hAR h r) j = some x := hx
    split at hx'
    · cases hx'
    · exact S.1.2.2.1 r j x hx'
  · unfold am_en
    dsimp only
    rw [am_ka_kc t ty hk, hk]
    dsimp only [Option.getD]
    congr 2
    rw [ha0]
    unfold am_aa
    rw [f1, f2, f3, f4, f5]
    rfl
  · exact am_en_A rfl rfl (by show am_u1 (hAL h) (hNX h t) m9 r' = _; unfold am_u1; exact if_neg hr') (if_neg hr') (if_neg hr') (if_neg hr') (if_neg hr')
  · show am_u1 (hAL h) (hNX h t) m9 r' = _
    unfold am_u1
    exact if_neg hr'
  · exact if_neg hr'
theorem v_newarray {a : ArrayType} (hc : am_cd y pc = some (.newarray a, n)) (hs : am_do y pc n ls st h (.newarray a) = some (.inl (pc1, ls1, st1, h1))) (hm : hCE h1 ≤ hCE h' ∧ hSL h1 ≤ hSL h') (K : am_P G l d y o h' pc1 ls1 st1 h1) : am_P G l d y o h' pc ls st h := by
  have hn := am_lt_of_beq (am_len hc)
  simp only [am_do] at hs
  split at hs
  · rename_i ty hty
    simp only [am_i1] at hs
    split at hs
    · rename_i i r
      split at hs
      · rename_i hk
        obtain ⟨hk, h31, h32, hi0, hi1⟩ := hk
        simp only [am_nx, Option.some.injEq, Sum.inl.injEq, Prod.mk.injEq] at hs
        obtain ⟨rfl, rfl, rfl, rfl⟩ := hs
        subst hn
        intro p e R s m args below meth c A ad L H locs kc ks lsM Q C S hl hf hr hE
        generalize ht : am_nk y pc (24 + ty) = t at hk h31 h32 hm K ⊢
        have hts := C.2.2.2.2.2.2.1
        have hK := C.2.2.2.2.2.2.2.2.2.1
        have hc1 : hCE h + 1 ≤ hCE h' := hm.1
        have hc2 : hSL h + i.toInt.toNat ≤ hSL h' := hm.2
        have hn0 : ¬ i < 0 := by rw [Int32.lt_iff_toInt_lt, Int32.toInt_zero]; omega
        have hw : ∀ ty, ty < 7 → ∀ (cA : ClassId) (t9 : FieldType), am_ty ty = t9 → s.vm.findClass ("[" ++ t9.toString) = some cA → (match t9 with | .object _ => False | _ => True) → cA = gA G ty := by
          intro ty hty cA t9 e1 h2 h3
          have := (hK.2 ty _ (am_tys_at hty)).2
          rw [e1] at this
          cases t9 <;> first | exact Option.some.inj (h2.symm.trans this) | exact h3.elim
        cases a <;> simp only [am_at] at hty <;> cases hty
        case int.refl =>
          refine va_newa (atype := .int) (ty := .int) (N' := i.toInt.toNat) (a0 := (i.toInt.toNat, .inl (fun _ => 0))) C.1 C.2.1 (hts (.arrayClass .int) (am_w1 (i := 66) rfl rfl)) rfl hK S.2.1 S.2.2.1 S.2.2.2 C.2.2.2.2.2.2.2.2.2.2.2.1 (fun cA => rfl) hn0 rfl (by show i.toInt.toNat * _ ≤ _; have e8 : componentBytes (.int) ≤ 8 := (by decide); have e9 := Nat.mul_le_mul (show i.toInt.toNat ≤ 1000 by omega) e8; omega) (by have := hr.1; have := hr.2.2.2.2; omega) (by have := hr.2.1; have := hr.2.2.2.2; omega) (am_dec hc) (fun q cA H1 hK1 hP1 hD1 hS1 => ?_)
          have ec : cA = gA G 0 := hw 0 (by decide) cA _ rfl (hK1.2 7 (cA, .int) (by unfold am_tys; rfl)).2 trivial
          rw [ec] at hP1 hD1
          exact am_new_go K C (am_Si_na S hk h31 h32 rfl hP1 hD1 hS1) hl hf (fun v hv => by simp [hv]) ⟨rfl, rfl⟩ hr hE
      · cases hs
    · cases hs
  · cases hs
theorem v_anewarray {k9 : Nat} (hc : am_cd y pc = some (.anewarray k9, n)) (hs : am_do y pc n ls st h (.anewarray k9) = some (.inl (pc1, ls1, st1, h1))) (hm : hCE h1 ≤ hCE h' ∧ hSL h1 ≤ hSL h') (K : am_P G l d y o h' pc1 ls1 st1 h1) : am_P G l d y o h' pc ls st h := by
  obtain ⟨hn, hi9⟩ := am_two (am_len hc)
  simp only [am_do] at hs
  split at hs
  · rename_i ty hty
    simp only [am_i1] at hs
    split at hs
    · rename_i i r
      split at hs
      · rename_i hk
        obtain ⟨hk, h31, h32, hi0, hi1⟩ := hk
        simp only [am_nx, Option.some.injEq, Sum.inl.injEq, Prod.mk.injEq] at hs
        obtain ⟨rfl, rfl, rfl, rfl⟩ := hs
        subst hn
        intro p e R s m args below meth c A ad L H locs kc ks lsM Q C S hl hf hr hE
        generalize ht : am_nk y pc (26 + ty) = t at hk h31 h32 hm K ⊢
        have hts := C.2.2.2.2.2.2.1
        have hK := C.2.2.2.2.2.2.2.2.2.1
        have hWf := C.2.2.2.2.2.2.2.2.2.2.1
        have hc1 : hCE h + 1 ≤ hCE h' := hm.1
        have hc2 : hSL h + i.toInt.toNat ≤ hSL h' := hm.2
        have hn0 : ¬ i < 0 := by rw [Int32.lt_iff_toInt_lt, Int32.toInt_zero]; omega
        obtain ⟨C0, g1, g2⟩ := am_an_ok _ _ hty
        rw [(am_K_div hi9).1, (am_K_div hi9).2] at g2
        have hao : va_AO C0 s := by
          have h7 := (am_ka_lt t ty hk).1
          obtain ⟨a1, a2, a3⟩ := hWf.2.2.2.2.2.1
          match ty, h7, g1 with
          | 4, _, g1 => cases g1; exact a1
          | 5, _, g1 => cases g1; exact a2
          | 6, _, g1 => cases g1; exact a3
        refine va_newq C.1 C.2.1 C.2.2.2.2.2.1 (hts _ g2) hao hK S.2.1 S.2.2.1 S.2.2.2 C.2.2.2.2.2.2.2.2.2.2.2.1 hn0 rfl (by have e9 : i.toNatClampNeg ≤ 1000 := (show i.toInt.toNat ≤ 1000 by omega); omega) (by have := hr.1; have := hr.2.2.2.2; omega) (by have := hr.2.1; have := hr.2.2.2.2; have e9 : i.toNatClampNeg = i.toInt.toNat := rfl; omega) (am_dec hc) (fun q cA H1 hK1 hP1 hD1 hS1 => ?_)
        have ec : cA = gA G ty := by
          have b1 := (hK1.2 7 (cA, .object C0) (by unfold am_tys; rfl)).2
          have b2 := (hK.2 ty _ (am_tys_at (am_ka_lt t ty hk).1)).2
          rw [g1] at b2
          obtain ⟨-, -, -, -, -, b1⟩ := b1
          obtain ⟨-, -, -, -, -, b2⟩ := b2
          exact Option.some.inj (b1.symm.trans b2)
        rw [ec] at hP1 hD1
        refine am_new_go (k2 := i.toNatClampNeg) K C (am_Si_na (m9 := i.toInt.toNat) S hk h31 h32 ?_ hP1 hD1 hS1) hl hf (fun v hv => by simp [hv]) ⟨rfl, rfl⟩ hr hE
        match ty, g1 with
        | 4, _ => rfl
        | 5, _ => rfl
        | n + 6, _ => rfl
      · cases hs
    · cases hs
  · cases hs
theorem v_checkcast {i : Nat} (hc : am_cd y pc = some (.checkcast i, n)) (hs : am_do y pc n ls st h (.checkcast i) = some (.inl (pc1, ls1, st1, h1))) (K : am_P G l d y o h' pc1 ls1 st1 h1) : am_P G l d y o h' pc ls st h := by
  obtain ⟨hn, hi⟩ := am_two (am_len hc)
  simp only [am_do] at hs
  split at hs
  · rename_i ci hf
    split at hs
    · simp only [am_nx, Option.some.injEq, Sum.inl.injEq, Prod.mk.injEq] at hs
      obtain ⟨rfl, rfl, rfl, rfl⟩ := hs
      subst hn
      exact v_pure K (fun h1 _ _ _ => h1) (fun p e R s m args below meth c A ad L H locs cells slots lsM Q C S hl hov hrm k => lv_castN C.1 C.2.1 (am_dec hc) k)
    · rename_i t q r
      split at hs
      · rename_i hk
        simp only [am_nx, Option.some.injEq, Sum.inl.injEq, Prod.mk.injEq] at hs
        obtain ⟨rfl, rfl, rfl, rfl⟩ := hs
        subst hn
        obtain ⟨C0, T, N, hcl, w1⟩ := am_cc_ok _ _ hf
        rw [(am_K_div hi).1, (am_K_div hi).2] at w1
        have hci : ci < 11 := (List.getElem?_eq_some_iff.mp hcl).1
        refine v_pure K (fun h1 _ _ _ => h1) (fun p e R s m args below meth c A ad L H locs cells slots lsM Q C S hl hov hrm k => ?_)
        obtain ⟨q0, hq0⟩ := am_live_o S (am_okr (am_okc hov)) hk hci
        have hK := C.2.2.2.2.2.2.2.2.2.1
        exact va_castS C.1 C.2.1 C.2.2.2.2.2.1 (C.2.2.2.2.2.2.1 _ w1) (hK.1 ci _ (am_cl14_of hcl)).2 (va_recv hK S.2.1 (am_cl14_of hcl) (am_ws_o hq0 hk)) (am_dec hc) k
      · cases hs
    · cases hs
  · cases hs
theorem v_objinit {i : Nat} (hc : am_cd y pc = some (.invokespecial i, n)) (hs : am_do y pc n ls st h (.invokespecial i) = some (.inl (pc1, ls1, st1, h1))) (K : am_P G l d y o h' pc1 ls1 st1 h1) : am_P G l d y o h' pc ls st h := by
  obtain ⟨hn, hi⟩ := am_two (am_len hc)
  simp only [am_do] at hs
  split at hs
  · split at hs
    · exfalso
      unfold am_cs at hs
      split at hs
      · dsimp only at hs
        split at hs
        · split at hs <;> cases hs
        · cases hs
      · cases hs
    · cases hs
  · split at hs
    · rename_i u hf
      simp only [am_r1] at hs
      split at hs
      · rename_i t q r
        split at hs
        · rename_i hk
          simp only [am_nx, Option.some.injEq, Sum.inl.injEq, Prod.mk.injEq] at hs
          obtain ⟨rfl, rfl, rfl, rfl⟩ := hs
          subst hn
          have w1 := am_oi_ok _ _ hf
          dsimp only at w1
          rw [(am_K_div hi).1, (am_K_div hi).2] at w1
          refine v_pure K (fun h1 _ _ _ w hw => h1 w (List.mem_cons_of_mem _ hw)) (fun p e R s m args below meth c A ad L H locs cells slots lsM Q C S hl hov hrm k => ?_)
          have hts := C.2.2.2.2.2.2.1
          obtain ⟨lv, hl1, -⟩ := hl
          exact W.objInit C.1 C.2.1 C.2.2.2.2.2.1 (hts _ w1) (hts _ (am_w1 (i := 38) rfl rfl)) (hts _ (am_w1 (i := 39) rfl rfl)) rfl (by show lsM.size = c.maxLocals; rw [hl1.1]; exact C.2.2.2.2.1.symm) rfl (am_dec hc) hrm.1 (by show 2 * 0 + ((r.map (am_e ad)).map fun v => v.category).sum + 12 ≤ R.locals; rw [am_sum_e]; have := hk.2; have := hrm.2; omega) k
        · cases hs
      · cases hs
    · cases hs
theorem am_cpy_row {i q q' : Nat} {c0 dp sp : Int32} {r : List am_V} (hc : am_cd y pc = some (.invokestatic i, 3)) (hK9 : am_K y i = 100112) (hi : i < 10000) (g3 : 0 ≤ c0.toInt) (g4 : 0 ≤ sp.toInt) (g5 : 0 ≤ dp.toInt) (g6 : sp.toInt + c0.toInt ≤ (hAL h (30, q) : Int)) (g7 : dp.toInt + c0.toInt ≤ (hAL h (30, q') : Int)) (g8 : am_sum r ≤ 8)
    (K : am_P G l d y o h' (pc + 3) ls r (hCP h (30, q) (30, q') sp.toInt.toNat dp.toInt.toNat c0.toInt.toNat)) : am_P G l d y o h' pc ls (.inl c0 :: .inl dp :: .inr (.inl (some (30, q'))) :: .inl sp :: .inr (.inl (some (30, q))) :: r) h := by
  have how : am_ow y = 10 := by have := (am_K_div (y := y) hi).1; omega
  have hi9 : i = 112 := by have := (am_K_div (y := y) hi).2; omega
  subst hi9
  intro p e R s m args below meth c A ad L H locs kc ks lsM Q C S hl hf hr hE
  have hts := C.2.2.2.2.2.2.1
  have hown := C.2.2.2.2.2.1
  rw [how] at hown
  have hk30 : am_ka 30 = some 4 := rfl
  obtain ⟨q0, hq0⟩ := am_live_a (t := 30) (q := q) S (am_okr (hf.2.2 _ (by simp))) (by decide) (by decide)
  obtain ⟨q1, hq1⟩ := am_live_a (t := 30) (q := q') S (am_okr (hf.2.2 _ (by simp))) (by decide) (by decide)
  have nz : ∀ z : Int32, 0 ≤ z.toInt → ¬ z < 0 := fun z hz => by rw [Int32.lt_iff_toInt_lt, Int32.toInt_zero]; omega
  have hml : c.maxLocals = lsM.size := by obtain ⟨lv, hl1, -⟩ := hl; rw [hl1.1]; exact C.2.2.2.2.1
  refine va_copyM C.1 C.2.1 hml hown (hts (.methodLink "java/util/ArrayList" 112 arraycopyName) (am_w4 (i := 55) rfl rfl)) (hts (.native arraycopyName) (am_w2 (i := 201) rfl rfl)) (hts (.static arraycopyName) (am_w2 (i := 200) rfl rfl)) (hts (.initialized "java/lang/System") (am_w1 (i := 17) rfl rfl)) C.2.2.2.2.2.2.2.2.2.1 S.2.1 S.2.2.1 S.2.2.2 q0 q1 4 4 (am_ws_a hq0 hk30) (am_ws_a hq1 hk30) (am_tys_at (by decide)) (am_tys_at (by decide)) (nz sp g4) (nz dp g5) (nz c0 g3)
    (show sp.toInt.toNat + c0.toInt.toNat ≤ hAL h (30, q) by omega) (show dp.toInt.toNat + c0.toInt.toNat ≤ hAL h (30, q') by omega) (fun i9 _ y9 hy => ?_) (by have := hr.2.2.1; omega) ?_ (am_dec hc) (fun H1 locs1 hP1 hD1 hS1 => am_st_go K C (am_Si_A S hq1 (am_ka_kc _ 4 hk30) hk30 ⟨S.1.1, S.1.2.1, fun r' j x hx => ?_, S.1.2.2.2⟩ ?_ (fun r' hr' => am_en_A rfl rfl rfl rfl (if_neg hr') rfl rfl) hP1 hD1 hS1) hl hf (fun w hw => by simp [hw]) ⟨rfl, rfl⟩ rfl hr hE)
  · have hy' : (hAR h (30, q) (sp.toNatClampNeg + i9)).map ad = some y9 := hy
    cases hx : hAR h (30, q) (sp.toNatClampNeg + i9) with
    | none => rw [hx] at hy'; cases hy'
    | some x =>
      rw [hx] at hy'
      cases hy'
      obtain ⟨a1, a2⟩ := S.1.2.2.1 _ _ _ hx
      obtain ⟨ci, hci⟩ := am_kc_some x.1 a2
      exact am_any C S a1 hci a2
  · rw [am_sum_e]
    have e9 : nativeFrameWords "java/lang/System" "arraycopy" 5 ≤ 100 := by decide
    have := hr.2.2.2
    omega
  · have hx' : (if r' = (30, q') then (fun j => if dp.toInt.toNat ≤ j ∧ j < dp.toInt.toNat + c0.toInt.toNat then hAR h (30, q) (sp.toInt.toNat + (j - dp.toInt.toNat)) else hAR h (30, q') j) else hAR h r') j = some x := hx
    split at hx'
    · dsimp only at hx'
      split at hx'
      · exact S.1.2.2.1 _ _ _ hx'
      · exact S.1.2.2.1 _ _ _ hx'
    · exact S.1.2.2.1 _ _ _ hx'
  · have e0 : va_cpy (fun j => (hAR h (30, q) j).map ad) (fun j => (hAR h (30, q') j).map ad) sp.toInt.toNat dp.toInt.toNat c0.toInt.toNat = fun j => (hAR (hCP h (30, q) (30, q') sp.toInt.toNat dp.toInt.toNat c0.toInt.toNat) (30, q') j).map ad := by
      funext j
      have e1 : hAR (hCP h (30, q) (30, q') sp.toInt.toNat dp.toInt.toNat c0.toInt.toNat) (30, q') j = if dp.toInt.toNat ≤ j ∧ j < dp.toInt.toNat + c0.toInt.toNat then hAR h (30, q) (sp.toInt.toNat + (j - dp.toInt.toNat)) else hAR h (30, q') j := by
        show (if (30, q') = (30, q') then (fun j => _) else _) j = _
        rw [if_pos rfl]
      rw [e1]
      unfold va_cpy
      split <;> rfl
    exact congrArg (fun f => (hAL h (30, q'), (.inr (.inr (.inr (.inr f))) : (Nat → Int32) ⊕ (Nat → Int64) ⊕ (Nat → UInt32) ⊕ (Nat → UInt64) ⊕ (Nat → Option Nat)))) e0
end NEW
end

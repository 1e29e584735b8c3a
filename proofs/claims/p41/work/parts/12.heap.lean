noncomputable section
/-- what is an array is no object -/
theorem am_ka_kc : am_all am_ka (fun t _ => am_kc t = none) := am_nd_ok (am_nd_ok (am_nd_ok (am_lf_ok rfl) (am_nd_ok (am_lf_ok rfl) (am_lf_ok rfl))) (am_nd_ok (am_nd_ok (am_lf_ok rfl) (am_lf_ok rfl)) (am_nd_ok (am_lf_ok rfl) (am_lf_ok rfl)))) (am_nd_ok (am_nd_ok (am_nd_ok (am_lf_ok rfl) (am_lf_ok rfl)) (am_nd_ok (am_lf_ok rfl) (am_lf_ok rfl))) (am_nd_ok (am_nd_ok (am_lf_ok rfl) (am_lf_ok rfl)) (am_nd_ok (am_lf_ok rfl) (am_lf_ok rfl))))
theorem am_ka_lt : am_all am_ka (fun t a => a < 7 ∧ (t < 13 ∨ 15 < t) ∧ 15 < t) := am_nd_ok (am_nd_ok (am_nd_ok (am_lf_ok ⟨by decide, by decide, by decide⟩) (am_nd_ok (am_lf_ok ⟨by decide, by decide, by decide⟩) (am_lf_ok ⟨by decide, by decide, by decide⟩))) (am_nd_ok (am_nd_ok (am_lf_ok ⟨by decide, by decide, by decide⟩) (am_lf_ok ⟨by decide, by decide, by decide⟩)) (am_nd_ok (am_lf_ok ⟨by decide, by decide, by decide⟩) (am_lf_ok ⟨by decide, by decide, by decide⟩)))) (am_nd_ok (am_nd_ok (am_nd_ok (am_lf_ok ⟨by decide, by decide, by decide⟩) (am_lf_ok ⟨by decide, by decide, by decide⟩)) (am_nd_ok (am_lf_ok ⟨by decide, by decide, by decide⟩) (am_lf_ok ⟨by decide, by decide, by decide⟩))) (am_nd_ok (am_nd_ok (am_lf_ok ⟨by decide, by decide, by decide⟩) (am_lf_ok ⟨by decide, by decide, by decide⟩)) (am_nd_ok (am_lf_ok ⟨by decide, by decide, by decide⟩) (am_lf_ok ⟨by decide, by decide, by decide⟩))))
theorem am_ka_p : am_all am_ka (fun _ a => a = 0 ∨ 4 ≤ a) := am_nd_ok (am_nd_ok (am_nd_ok (am_lf_ok (by decide)) (am_nd_ok (am_lf_ok (by decide)) (am_lf_ok (by decide)))) (am_nd_ok (am_nd_ok (am_lf_ok (by decide)) (am_lf_ok (by decide))) (am_nd_ok (am_lf_ok (by decide)) (am_lf_ok (by decide))))) (am_nd_ok (am_nd_ok (am_nd_ok (am_lf_ok (by decide)) (am_lf_ok (by decide))) (am_nd_ok (am_lf_ok (by decide)) (am_lf_ok (by decide)))) (am_nd_ok (am_nd_ok (am_lf_ok (by decide)) (am_lf_ok (by decide))) (am_nd_ok (am_lf_ok (by decide)) (am_lf_ok (by decide)))))
theorem am_kc_lt : am_all am_kc (fun t ci => (13 ≤ t ∧ t ≤ 15 ∧ 11 ≤ ci ∧ ci < 14) ∨ ((t < 13 ∨ 15 < t) ∧ ci < 11 ∧ t ≠ 31 ∧ t ≠ 32)) := am_nd_ok (am_nd_ok (am_nd_ok (am_nd_ok (am_lf_ok (Or.inr (by decide))) (am_nd_ok (am_lf_ok (Or.inr (by decide))) (am_lf_ok (Or.inr (by decide))))) (am_nd_ok (am_lf_ok (Or.inr (by decide))) (am_nd_ok (am_lf_ok (Or.inr (by decide))) (am_lf_ok (Or.inr (by decide)))))) (am_nd_ok (am_nd_ok (am_lf_ok (Or.inr (by decide))) (am_nd_ok (am_lf_ok (Or.inr (by decide))) (am_lf_ok (Or.inr (by decide))))) (am_nd_ok (am_nd_ok (am_lf_ok (Or.inr (by decide))) (am_lf_ok (Or.inl (by decide)))) (am_nd_ok (am_lf_ok (Or.inl (by decide))) (am_lf_ok (Or.inl (by decide))))))) (am_nd_ok (am_nd_ok (am_nd_ok (am_lf_ok (Or.inr (by decide))) (am_nd_ok (am_lf_ok (Or.inr (by decide))) (am_lf_ok (Or.inr (by decide))))) (am_nd_ok (am_lf_ok (Or.inr (by decide))) (am_nd_ok (am_lf_ok (Or.inr (by decide))) (am_lf_ok (Or.inr (by decide)))))) (am_nd_ok (am_nd_ok (am_lf_ok (Or.inr (by decide))) (am_nd_ok (am_lf_ok (Or.inr (by decide))) (am_lf_ok (Or.inr (by decide))))) (am_nd_ok (am_nd_ok (am_lf_ok (Or.inr (by decide))) (am_lf_ok (Or.inr (by decide)))) (am_nd_ok (am_lf_ok (Or.inr (by decide))) (am_lf_ok (Or.inr (by decide)))))))
theorem am_tys_at {G : am_G} {a : Nat} (ha : a < 7) : (am_tys G)[a]? = some (gA G a, am_ty a) := by
  unfold am_tys
  rw [List.getElem?_map, List.getElem?_range ha]
  rfl
section HEAP
variable {G : am_G} {l : Launch} {d y : Nat} {o : am_O} {h' h h1 : am_H} {pc pc1 n : Nat} {ls ls1 : List (Option am_V)} {st st1 : List am_V} {A : Nat → Prop} {H0 H : Heap} {ad : am_R → Nat} {L : List am_R} {locs : List Loc}
theorem am_live_o {t q ci : Nat} (S : am_Si G A H0 h ad L H locs) (hok : am_ok h (t, q)) (hk : am_kc t = some ci) (hc : ci < 11) : ∃ q0 : Nat, L[q0]? = some (t, q) := by
  rcases am_kc_lt t ci hk with ⟨-, -, h9, -⟩ | ⟨-, -, h31, h32⟩
  · omega
  · rcases hok with hl | e | e
    · exact List.getElem?_of_mem ((S.1.1 _).mp hl)
    · exact absurd (congrArg Prod.fst e) h31
    · exact absurd (congrArg Prod.fst e) h32
theorem am_live_a {t q : Nat} (S : am_Si G A H0 h ad L H locs) (hok : am_ok h (t, q)) (h31 : t ≠ 31) (h32 : t ≠ 32) : ∃ q0 : Nat, L[q0]? = some (t, q) := by
  rcases hok with hl | e | e
  · exact List.getElem?_of_mem ((S.1.1 _).mp hl)
  · exact absurd (congrArg Prod.fst e) h31
  · exact absurd (congrArg Prod.fst e) h32
theorem am_31 {q : Nat} (S : am_Si G A H0 h ad L H locs) (hok : am_ok h (31, q)) : q = 0 := by
  rcases hok with ⟨hl, -⟩ | e | e
  · have := S.1.2.2.2.1 31 (by intro z; rw [z] at hl; exact absurd hl (Nat.not_lt_zero _))
    rcases this with ⟨-, z⟩ | z | ⟨-, z, -⟩
    · omega
    · exact absurd z (by decide)
    · exact absurd rfl z
  · exact congrArg Prod.snd e
  · exact congrArg Prod.snd e
theorem am_32 {q : Nat} (S : am_Si G A H0 h ad L H locs) (hok : am_ok h (32, q)) : q = 0 := by
  rcases hok with ⟨hl, -⟩ | e | e
  · have := S.1.2.2.2.1 32 (by intro z; rw [z] at hl; exact absurd hl (Nat.not_lt_zero _))
    rcases this with ⟨-, z⟩ | z | ⟨-, -, z⟩
    · omega
    · exact absurd z (by decide)
    · exact absurd rfl z
  · exact congrArg Prod.snd e
  · exact congrArg Prod.snd e
theorem am_ws_o {q0 t q ci : Nat} (hq : L[q0]? = some (t, q)) (hk : am_kc t = some ci) : (am_ws G ad h L)[q0]? = some (ad (t, q), .inr (ci, am_ob ad h (t, q) ci)) := by
  rw [am_ws_at hq]
  unfold am_en
  dsimp only
  rw [hk]
theorem am_ws_a {q0 t q a : Nat} (hq : L[q0]? = some (t, q)) (ha : am_ka t = some a) : (am_ws G ad h L)[q0]? = some (ad (t, q), .inl (gA G a, am_aa ad h (t, q) a)) := by
  rw [am_ws_at hq]
  unfold am_en
  dsimp only
  rw [am_ka_kc t a ha, ha]
  rfl
theorem am_ix_s {i : Int32} {N k : Nat} (hx : am_ix i N = some k) : vp_in i N ∧ i.toNatClampNeg = k := by
  unfold am_ix at hx
  split at hx
  · rename_i hc
    cases hx
    exact ⟨vp_in_iff.mpr hc, rfl⟩
  · cases hx
theorem am_okc {v : am_V} {r : List am_V} (hov : ∀ w ∈ v :: r, am_okv h w) : am_okv h v := hov v List.mem_cons_self
theorem am_okr {t q : Nat} (hov : am_okv h (.inr (.inl (some (t, q))))) : am_ok h (t, q) := hov (t, q) rfl
theorem v_if_acmp {cd : ClassFile.ACond} {off : Int} (hc : am_cd y pc = some (.if_acmp cd off, n)) (hs : am_do y pc n ls st h (.if_acmp cd off) = some (.inl (pc1, ls1, st1, h1))) (K : am_P G l d y o h' pc1 ls1 st1 h1) : am_P G l d y o h' pc ls st h := by
  have hn := am_lt_of_beq (am_len hc)
  simp only [am_do] at hs
  split at hs
  · rename_i b a r
    have hok : ∀ w ∈ r, w ∈ (.inr (.inl b) :: .inr (.inl a) :: r : List am_V) := fun w hw => by simp [hw]
    cases cd
    case eq =>
      obtain ⟨rfl, rfl, rfl, t, ht, hbb⟩ := am_br_s hs
      have hn9 := hn
      subst hn9
      refine v_pure K (fun h1 _ _ _ w hw => h1 w (hok w hw)) (fun p e R s m args below meth c A ad L H locs cells slots lsM Q C S hl hov hrm k => ?_)
      have hinj : a.map ad = b.map ad ↔ a = b := by
        constructor
        · intro e1
          have oka : ∀ z, a = some z → am_ok h z := fun z hz => hov (.inr (.inl a)) (by simp) z (by rw [hz])
          have okb : ∀ z, b = some z → am_ok h z := fun z hz => hov (.inr (.inl b)) (by simp) z (by rw [hz])
          cases a with
          | none => cases b with
            | none => rfl
            | some z => cases e1
          | some z => cases b with
            | none => cases e1
            | some z' => rw [am_ad_inj S C.2.2.2.2.2.2.2.2.2.2.1.2.2.2.2.1.2.2 C.2.2.2.2.2.2.2.2.2.2.1.ne C.2.2.2.2.2.2.2.2.2.2.1.e0 (oka z rfl) (okb z' rfl) (Option.some.inj e1)]
        · intro e1; rw [e1]
      rcases hbb with ⟨hb, rfl⟩ | ⟨hb, rfl⟩
      · exact lv_acmp_eq C.1 C.2.1 (am_dec hc) ht (fun _ => k) (fun q => absurd (hinj.mpr hb) q)
      · exact lv_acmp_eq C.1 C.2.1 (am_dec hc) ht (fun q => absurd (hinj.mp q) hb) (fun _ => k)
    case ne =>
      obtain ⟨rfl, rfl, rfl, t, ht, hbb⟩ := am_br_s hs
      have hn9 := hn
      subst hn9
      refine v_pure K (fun h1 _ _ _ w hw => h1 w (hok w hw)) (fun p e R s m args below meth c A ad L H locs cells slots lsM Q C S hl hov hrm k => ?_)
      have hinj : a.map ad = b.map ad ↔ a = b := by
        constructor
        · intro e1
          have oka : ∀ z, a = some z → am_ok h z := fun z hz => hov (.inr (.inl a)) (by simp) z (by rw [hz])
          have okb : ∀ z, b = some z → am_ok h z := fun z hz => hov (.inr (.inl b)) (by simp) z (by rw [hz])
          cases a with
          | none => cases b with
            | none => rfl
            | some z => cases e1
          | some z => cases b with
            | none => cases e1
            | some z' => rw [am_ad_inj S C.2.2.2.2.2.2.2.2.2.2.1.2.2.2.2.1.2.2 C.2.2.2.2.2.2.2.2.2.2.1.ne C.2.2.2.2.2.2.2.2.2.2.1.e0 (oka z rfl) (okb z' rfl) (Option.some.inj e1)]
        · intro e1; rw [e1]
      rcases hbb with ⟨hb, rfl⟩ | ⟨hb, rfl⟩
      · exact lv_acmp_ne C.1 C.2.1 (am_dec hc) ht (fun _ => k) (fun q => absurd (hinj.mp q) hb)
      · exact lv_acmp_ne C.1 C.2.1 (am_dec hc) ht (fun q => absurd (fun z => q (hinj.mpr z)) hb) (fun _ => k)
  · cases hs
theorem v_ifnull {off : Int} (hc : am_cd y pc = some (.ifnull off, n)) (hs : am_do y pc n ls st h (.ifnull off) = some (.inl (pc1, ls1, st1, h1))) (K : am_P G l d y o h' pc1 ls1 st1 h1) : am_P G l d y o h' pc ls st h := by
  have hn := am_lt_of_beq (am_len hc)
  simp only [am_do] at hs
  split at hs
  · rename_i r
    have hok : ∀ w ∈ r, w ∈ (.inr (.inl none) :: r : List am_V) := fun w hw => by simp [hw]
    obtain ⟨ht, rfl, rfl, rfl⟩ := am_jp_s hs
    subst hn
    exact v_pure K (fun h1 _ _ _ w hw => h1 w (hok w hw)) (fun p e R s m args below meth c A ad L H locs cells slots lsM Q C S hl hov hrm k => lv_ifnullN C.1 C.2.1 (am_dec hc) ht k)
  · rename_i z r
    have hok : ∀ w ∈ r, w ∈ (.inr (.inl (some z)) :: r : List am_V) := fun w hw => by simp [hw]
    simp only [am_nx, Option.some.injEq, Sum.inl.injEq, Prod.mk.injEq] at hs
    obtain ⟨rfl, rfl, rfl, rfl⟩ := hs
    subst hn
    exact v_pure K (fun h1 _ _ _ w hw => h1 w (hok w hw)) (fun p e R s m args below meth c A ad L H locs cells slots lsM Q C S hl hov hrm k => lv_ifnull C.1 C.2.1 (am_dec hc) k)
  · cases hs
theorem v_ifnonnull {off : Int} (hc : am_cd y pc = some (.ifnonnull off, n)) (hs : am_do y pc n ls st h (.ifnonnull off) = some (.inl (pc1, ls1, st1, h1))) (K : am_P G l d y o h' pc1 ls1 st1 h1) : am_P G l d y o h' pc ls st h := by
  have hn := am_lt_of_beq (am_len hc)
  simp only [am_do] at hs
  split at hs
  · rename_i r
    have hok : ∀ w ∈ r, w ∈ (.inr (.inl none) :: r : List am_V) := fun w hw => by simp [hw]
    simp only [am_nx, Option.some.injEq, Sum.inl.injEq, Prod.mk.injEq] at hs
    obtain ⟨rfl, rfl, rfl, rfl⟩ := hs
    subst hn
    exact v_pure K (fun h1 _ _ _ w hw => h1 w (hok w hw)) (fun p e R s m args below meth c A ad L H locs cells slots lsM Q C S hl hov hrm k => lv_ifnonnullN C.1 C.2.1 (am_dec hc) k)
  · rename_i z r
    have hok : ∀ w ∈ r, w ∈ (.inr (.inl (some z)) :: r : List am_V) := fun w hw => by simp [hw]
    obtain ⟨ht, rfl, rfl, rfl⟩ := am_jp_s hs
    subst hn
    exact v_pure K (fun h1 _ _ _ w hw => h1 w (hok w hw)) (fun p e R s m args below meth c A ad L H locs cells slots lsM Q C S hl hov hrm k => lv_ifnonnull C.1 C.2.1 (am_dec hc) ht k)
  · cases hs
theorem v_tableswitch {df lo hi : Int} {offs : Array Int} (hc : am_cd y pc = some (.tableswitch df lo hi offs, n)) (hs : am_do y pc n ls st h (.tableswitch df lo hi offs) = some (.inl (pc1, ls1, st1, h1))) (K : am_P G l d y o h' pc1 ls1 st1 h1) : am_P G l d y o h' pc ls st h := by
  simp only [am_do, am_i1] at hs
  split at hs
  · rename_i a r
    have hok : ∀ w ∈ r, w ∈ (.inl a :: r : List am_V) := fun w hw => by simp [hw]
    unfold am_sw at hs
    split at hs
    · rename_i hr
      obtain ⟨ht, rfl, rfl, rfl⟩ := am_jp_s hs
      exact v_pure K (fun h1 _ _ _ w hw => h1 w (hok w hw)) (fun p e R s m args below meth c A ad L H locs cells slots lsM Q C S hl hov hrm k => lv_tableOut C.1 C.2.1 (am_dec hc) hr ht k)
    · rename_i hr
      split at hs
      · rename_i off ho
        obtain ⟨ht, rfl, rfl, rfl⟩ := am_jp_s hs
        exact v_pure K (fun h1 _ _ _ w hw => h1 w (hok w hw)) (fun p e R s m args below meth c A ad L H locs cells slots lsM Q C S hl hov hrm k => lv_tableIn C.1 C.2.1 (am_dec hc) (fun q => hr (Or.inl q)) (fun q => hr (Or.inr q)) ho ht k)
      · cases hs
  · cases hs
theorem v_ldc {i : Nat} (hc : am_cd y pc = some (.ldc i, n)) (hs : am_do y pc n ls st h (.ldc i) = some (.inl (pc1, ls1, st1, h1))) (K : am_P G l d y o h' pc1 ls1 st1 h1) : am_P G l d y o h' pc ls st h := by
  obtain ⟨hn, hi⟩ := am_two (am_len hc)
  simp only [am_do] at hs
  split at hs
  · rename_i v hv
    simp only [am_nx, Option.some.injEq, Sum.inl.injEq, Prod.mk.injEq] at hs
    obtain ⟨rfl, rfl, rfl, rfl⟩ := hs
    subst hn
    have hw := am_kt_ok _ _ hv
    dsimp only at hw
    rw [(am_K_div hi).1, (am_K_div hi).2] at hw
    exact v_pure K (v_pureI (a := []) (fun v hv => by simp at hv ⊢; grind)) (fun p e R s m args below meth c A ad L H locs cells slots lsM Q C S hl hov hrm k => lv_ldc C.1 C.2.1 C.2.2.2.2.2.1 (C.2.2.2.2.2.2.1 _ hw) (am_dec hc) k)
  · cases hs
theorem v_ldc_w {i : Nat} (hc : am_cd y pc = some (.ldc_w i, n)) (hs : am_do y pc n ls st h (.ldc_w i) = some (.inl (pc1, ls1, st1, h1))) (K : am_P G l d y o h' pc1 ls1 st1 h1) : am_P G l d y o h' pc ls st h := by
  obtain ⟨hn, hi⟩ := am_two (am_len hc)
  simp only [am_do] at hs
  split at hs
  · rename_i v hv
    simp only [am_nx, Option.some.injEq, Sum.inl.injEq, Prod.mk.injEq] at hs
    obtain ⟨rfl, rfl, rfl, rfl⟩ := hs
    subst hn
    have hw := am_kt_ok _ _ hv
    dsimp only at hw
    rw [(am_K_div hi).1, (am_K_div hi).2] at hw
    exact v_pure K (v_pureI (a := []) (fun v hv => by simp at hv ⊢; grind)) (fun p e R s m args below meth c A ad L H locs cells slots lsM Q C S hl hov hrm k => lv_ldcw C.1 C.2.1 C.2.2.2.2.2.1 (C.2.2.2.2.2.2.1 _ hw) (am_dec hc) k)
  · cases hs
theorem v_getstatic {i : Nat} (hc : am_cd y pc = some (.getstatic i, n)) (hs : am_do y pc n ls st h (.getstatic i) = some (.inl (pc1, ls1, st1, h1))) (K : am_P G l d y o h' pc1 ls1 st1 h1) : am_P G l d y o h' pc ls st h := by
  obtain ⟨hn, hi⟩ := am_two (am_len hc)
  simp only [am_do] at hs
  split at hs
  · rename_i hv
    simp only [am_nx, Option.some.injEq, Sum.inl.injEq, Prod.mk.injEq] at hs
    obtain ⟨rfl, rfl, rfl, rfl⟩ := hs
    subst hn
    have how : am_ow y = 10 := by have := (am_K_div (y := y) hi).1; omega
    have hi9 : i = 39 := by have := (am_K_div (y := y) hi).2; omega
    subst hi9
    refine v_pure K (fun h1 _ _ _ w hw => ?_) (fun p e R s m args below meth c A ad L H locs cells slots lsM Q C S hl hov hrm k => ?_)
    · rcases List.mem_cons.mp hw with rfl | hw
      · intro r hr
        cases hr
        exact Or.inr (Or.inr rfl)
      · exact h1 w hw
    · have hw : Jvm.Cond.fieldLink "java/util/ArrayList" 39 "java/util/ArrayList" "DEFAULTCAPACITY_EMPTY_ELEMENTDATA" "[Ljava/lang/Object;" ∈ am_WS := am_w1 (i := 52) rfl rfl
      have hown := C.2.2.2.2.2.1
      rw [how] at hown
      refine va_gets C.1 C.2.1 C.2.2.2.2.2.2.2.2.2.2.1.1 S.2.2.2 hown (C.2.2.2.2.2.2.1 _ hw) (fun x hx => hx) (am_dec hc) ?_
      have e9 : (am_e ad (aR 32 0)) = .ref (ge G) := by show va_rf (some (ad (32, 0))) = _; rw [S.1.2.2.2.2.2.2.2.2]; rfl
      rw [← e9]
      exact k
  · cases hs
theorem v_getfield {i : Nat} (hc : am_cd y pc = some (.getfield i, n)) (hs : am_do y pc n ls st h (.getfield i) = some (.inl (pc1, ls1, st1, h1))) (K : am_P G l d y o h' pc1 ls1 st1 h1) : am_P G l d y o h' pc ls st h := by
  obtain ⟨hn, hi⟩ := am_two (am_len hc)
  simp only [am_do] at hs
  split at hs
  · rename_i ci j hf
    simp only [am_r1] at hs
    split at hs
    · rename_i t q r
      split at hs
      · rename_i hk
        simp only [am_nx, Option.some.injEq, Sum.inl.injEq, Prod.mk.injEq] at hs
        obtain ⟨rfl, rfl, rfl, rfl⟩ := hs
        subst hn
        obtain ⟨ref, C0, T, N, hcl, hj, hlink, hsame⟩ := am_fl_ok _ _ hf
        dsimp only at hcl hj hlink hsame
        rw [(am_K_div hi).1, (am_K_div hi).2] at hlink
        have hci : ci < 11 := (List.getElem?_eq_some_iff.mp hcl).1
        refine v_pure K (fun h1 _ h2 _ w hw => ?_) (fun p e R s m args below meth c A ad L H locs cells slots lsM Q C S hl hov hrm k => ?_)
        · rcases List.mem_cons.mp hw with rfl | hw
          · intro x hx
            split at hx
            · exact h2 _ _ x (by simpa using hx)
            · cases hx
          · exact h1 w (List.mem_cons_of_mem _ hw)
        · obtain ⟨q0, hq0⟩ := am_live_o S (am_okr (am_okc hov)) hk hci
          have hts := C.2.2.2.2.2.2.1
          have e9 : am_fv ad h (t, q) (100 * ci + j) = am_e ad (if am_fr (100 * ci + j) = true then aO (hFR h (100 * ci + j) (t, q)) else aI (hFI h (100 * ci + j) (t, q))) := by
            unfold am_fv
            split <;> rfl
          exact va_get C.1 C.2.1 (Ts := am_WS) hts (am_clf hcl).1 C.2.2.2.2.2.1 C.2.2.2.2.2.2.2.2.2.1 S.2.1 q0 (am_ws_o hq0 hk) (am_cl14_of hcl) j hj (hts _ hlink) (fun x hx => by
            rcases hsame with rfl | hsame
            · exact hx
            · exact u_same (hts _ hsame) x hx) (am_ob_at (by rw [am_nf_of hcl]; exact hj)) (am_dec hc) (by rw [e9]; exact k)
      · cases hs
    · cases hs
  · cases hs
theorem am_pf_row {ci j t q i : Nat} {w : am_V} {r : List am_V} {h2 : am_H} {C0 : String} {T : u_T} {N : Nat} {ref : String}
    (hc : am_cd y pc = some (.putfield i, 3)) (hcl : am_cls[ci]? = some (C0, T, N)) (hj : j < N) (hlink : Cond.fieldLink (am_cn (am_ow y)) i ref (T j).2.1 (T j).2.2.1 ∈ am_WS) (hsame : ref = (T j).1 ∨ Cond.sameField ref (T j).1 (T j).2.1 (T j).2.2.1 ∈ am_WS)
    (hk : am_kc t = some ci) (hw : am_ff (100 * ci + j) = false ∨ (am_ii y = true ∧ am_ow y = ci)) (hwv : ∀ ad : am_R → Nat, am_e ad w = (match w with | .inl x => .int x | .inr (.inl o) => va_rf (o.map ad) | _ => .null))
    (hnar : ∀ ad : am_R → Nat, narrow (am_tyc ci j) (am_e ad w) = am_e ad w ∧ fits (am_tyc ci j) (am_e ad w) = true) (hce : hCE h2 = hCE h ∧ hSL h2 = hSL h) (hokm : ∀ x, am_ok h x ↔ am_ok h2 x)
    (hsi : ∀ (A : Nat → Prop) (H0 H H1 : Heap) (ad : am_R → Nat) (L : List am_R) (locs locs1 : List Loc) (q0 : Nat), am_Si G A H0 h ad L H locs → am_okv h w → L[q0]? = some (t, q) → va_P (gD G) am_cl14 ((am_ws G ad h L).set q0 (ad (t, q), .inr (ci, (am_ob ad h (t, q) ci).set j (am_e ad w)))) H1 → va_D A ((am_ws G ad h L).set q0 (ad (t, q), .inr (ci, (am_ob ad h (t, q) ci).set j (am_e ad w)))) → va_S A H0 H1 locs1 → am_Si G A H0 h2 ad L H1 locs1)
    (K : am_P G l d y o h' (pc + 3) ls r h2) : am_P G l d y o h' pc ls (w :: .inr (.inl (some (t, q))) :: r) h := by
  intro p e R s m args below meth c A ad L H locs kc ks lsM Q C S hl hf hr hE
  have hci : ci < 11 := (List.getElem?_eq_some_iff.mp hcl).1
  obtain ⟨q0, hq0⟩ := am_live_o S (am_okr (hf.2.2 _ (List.mem_cons_of_mem _ List.mem_cons_self))) hk hci
  obtain ⟨f1, f2, f3, f4, f5⟩ := am_clf hcl
  obtain ⟨-, g2, g3⟩ := am_fck_s f4 hj
  have hts := C.2.2.2.2.2.2.1
  have hsm : ∀ x, s.fieldFound? (T j).1 (T j).2.1 (T j).2.2.1 = some x → s.fieldFound? ref (T j).2.1 (T j).2.2.1 = some x := fun x hx => by
    rcases hsame with rfl | hsame
    · exact hx
    · exact u_same (hts _ hsame) x hx
  have hlen : j < (am_ob ad h (t, q) ci).length := by unfold am_ob; rw [List.length_map, List.length_range, am_nf_of hcl]; exact hj
  have kk : ∀ (H1 : Heap) (locs1 : List Loc), va_P (gD G) am_cl14 ((am_ws G ad h L).set q0 (ad (t, q), .inr (ci, (am_ob ad h (t, q) ci).set j (am_e ad w)))) H1 → va_D A ((am_ws G ad h L).set q0 (ad (t, q), .inr (ci, (am_ob ad h (t, q) ci).set j (am_e ad w)))) → va_S A s.heap H1 locs1 → W p l e R s m args below meth c H1 locs1 (kc + (hCE h : Int)).toNat (ks + (hSL h : Int)).toNat Q (F0 m (pc + 3) lsM (r.map (am_e ad))) := by
    intro H1 locs1 hP1 hD1 hS1
    have S2 := hsi A s.heap H H1 ad L locs locs1 q0 S (hf.2.2 _ List.mem_cons_self) hq0 hP1 hD1 hS1
    have := K p e R s m args below meth c A ad L H1 locs1 kc ks lsM Q C S2 hl ⟨hf.1, fun v hv => ⟨fun x hx => (hokm x).mp ((hf.2.1 v hv).1 x hx), (hf.2.1 v hv).2⟩, fun v hv x hx => (hokm x).mp (hf.2.2 v (List.mem_cons_of_mem _ (List.mem_cons_of_mem _ hv)) x hx)⟩ (am_rm_eq hce hr) (fun ad2 L2 H2 locs2 a b b2 => hE ad2 L2 H2 locs2 a (fun x hx => b x ((hokm x).mp hx)) (fun x hx => b2 x ((hokm x).mp hx)))
    rw [hce.1, hce.2] at this
    exact this
  cases hfin : (T j).2.2.2 with
  | false => exact va_put C.1 C.2.1 (Ts := am_WS) hts f1 (am_tyc ci) f2 f3 C.2.2.2.2.2.1 C.2.2.2.2.2.2.2.2.2.1 S.2.1 S.2.2.1 S.2.2.2 q0 (am_ws_o hq0 hk) (am_cl14_of hcl) j hj (hts _ hlink) hsm hfin (f2 j hj) (hnar ad).1 (hnar ad).2 hlen (am_dec hc) kk
  | true =>
    rcases hw with hw | ⟨hii, how⟩
    · rw [← g2, hfin] at hw; cases hw
    · exact va_putF C.1 C.2.1 (Ts := am_WS) hts f1 (am_tyc ci) f2 f3 C.2.2.2.2.2.1 C.2.2.2.2.2.2.2.2.2.1 S.2.1 S.2.2.1 S.2.2.2 q0 (am_ws_o hq0 hk) (am_cl14_of hcl) j hj (hts _ hlink) hsm hfin (C.2.2.2.2.2.2.2.1 hii) (by rw [g3 hfin, f5, how]) (f2 j hj) (hnar ad).1 (hnar ad).2 hlen (am_dec hc) kk
theorem v_putfield {i : Nat} (hc : am_cd y pc = some (.putfield i, n)) (hs : am_do y pc n ls st h (.putfield i) = some (.inl (pc1, ls1, st1, h1))) (K : am_P G l d y o h' pc1 ls1 st1 h1) : am_P G l d y o h' pc ls st h := by
  obtain ⟨hn, hi⟩ := am_two (am_len hc)
  simp only [am_do] at hs
  split at hs
  · rename_i ci j hf
    obtain ⟨ref, C0, T, N, hcl, hj, hlink, hsame⟩ := am_fl_ok _ _ hf
    dsimp only at hcl hj hlink hsame
    rw [(am_K_div hi).1, (am_K_div hi).2] at hlink
    obtain ⟨g1, -, -⟩ := am_fck_s (am_clf hcl).2.2.2.1 hj
    split at hs
    · rename_i v t q r
      split at hs
      · rename_i hk
        obtain ⟨hk, hfr, hw, hb⟩ := hk
        simp only [am_nx, Option.some.injEq, Sum.inl.injEq, Prod.mk.injEq] at hs
        obtain ⟨rfl, rfl, rfl, rfl⟩ := hs
        subst hn
        refine am_pf_row (h2 := sFI h (100 * ci + j) (t, q) v) hc hcl hj hlink hsame hk hw (fun _ => rfl) (fun ad => ?_) ⟨rfl, rfl⟩ (fun x => Iff.rfl) (fun A H0 H H1 ad L locs locs1 q0 S hv hq hP hD hS => am_Si_FI S hq hk hfr hP hD hS) K
        rcases g1 with ⟨-, ⟨ht, hfb⟩ | ⟨ht, hfb⟩⟩ | ⟨g1, -⟩
        · rw [ht]; exact ⟨rfl, rfl⟩
        · rcases hb with hb | rfl | rfl
          · rw [hfb] at hb; cases hb
          · rw [ht]; exact ⟨rfl, rfl⟩
          · rw [ht]; exact ⟨rfl, rfl⟩
        · rw [hfr] at g1; cases g1
      · cases hs
    · rename_i v t q r
      split at hs
      · rename_i hk
        obtain ⟨hk, hfr, hw⟩ := hk
        simp only [am_nx, Option.some.injEq, Sum.inl.injEq, Prod.mk.injEq] at hs
        obtain ⟨rfl, rfl, rfl, rfl⟩ := hs
        subst hn
        refine am_pf_row (h2 := sFR h (100 * ci + j) (t, q) v) hc hcl hj hlink hsame hk hw (fun _ => rfl) (fun ad => ?_) ⟨rfl, rfl⟩ (fun x => Iff.rfl) (fun A H0 H H1 ad L locs locs1 q0 S hv hq hP hD hS => am_Si_FR S hq hk hfr (fun x hx => hv x (by rw [hx])) hP hD hS) K
        rcases g1 with ⟨g1, -⟩ | ⟨-, ⟨nm, ht⟩ | ⟨ty, ht⟩⟩
        · rw [hfr] at g1; cases g1
        · rw [ht]; cases v <;> exact ⟨rfl, rfl⟩
        · rw [ht]; cases v <;> exact ⟨rfl, rfl⟩
      · cases hs
    · cases hs
  · cases hs
end HEAP
end

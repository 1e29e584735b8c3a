noncomputable section
/-! The clean machine's heap in the machine's: what stays over the whole run (classes' numbers, arrays' classes, the script's cell, the empty array's cell, the script). -/
abbrev am_G : Type := va_G × (Nat → ClassId) × Nat × Nat × Nat × (Nat → Int32)
abbrev gD (G : am_G) : va_G := G.1
abbrev gA (G : am_G) : Nat → ClassId := G.2.1
abbrev gb (G : am_G) : Nat := G.2.2.1
abbrev ge (G : am_G) : Nat := G.2.2.2.1
abbrev gL (G : am_G) : Nat := G.2.2.2.2.1
abbrev gx (G : am_G) : Nat → Int32 := G.2.2.2.2.2
def am_tys (G : am_G) : List (ClassId × FieldType) := (List.range 7).map (fun a => (gA G a, am_ty a))
/-- a value, by the addresses of the cells -/
def am_e (ad : am_R → Nat) (v : am_V) : Value := match v with
  | .inl x => .int x
  | .inr (.inl o) => va_rf (o.map ad)
  | .inr (.inr (.inl x)) => .long x
  | .inr (.inr (.inr (.inl x))) => .float x
  | .inr (.inr (.inr (.inr x))) => .double x
/-- how many fields a class has -/
def am_nf (ci : Nat) : Nat := match am_cl14[ci]? with | some r => r.2.2 | none => 0
def am_fv (ad : am_R → Nat) (h : am_H) (r : am_R) (f : Nat) : Value := if am_fr f = true then va_rf ((hFR h f r).map ad) else .int (hFI h f r)
def am_ob (ad : am_R → Nat) (h : am_H) (r : am_R) (ci : Nat) : List Value := (List.range (am_nf ci)).map (fun j => am_fv ad h r (100 * ci + j))
def am_aa (ad : am_R → Nat) (h : am_H) (r : am_R) (a : Nat) : vp_A := (hAL h r, match a with
  | 0 => .inl (hAI h r)
  | 1 => .inl (hAI h r)
  | 2 => .inr (.inl (hAJ h r))
  | 3 => .inr (.inr (.inr (.inl (hAD h r))))
  | _ => .inr (.inr (.inr (.inr (fun j => (hAR h r j).map ad)))))
def am_en (G : am_G) (ad : am_R → Nat) (h : am_H) (r : am_R) : va_E := match am_kc r.1 with
  | some ci => .inr (ci, am_ob ad h r ci)
  | none => .inl (gA G ((am_ka r.1).getD 0), am_aa ad h r ((am_ka r.1).getD 0))
def am_lv (h : am_H) (r : am_R) : Prop := r.2 < hCN h r.1 ∧ (r.1 < 13 ∨ 15 < r.1)
def am_ok (h : am_H) (r : am_R) : Prop := am_lv h r ∨ r = (31, 0) ∨ r = (32, 0)
def am_okv (h : am_H) (v : am_V) : Prop := ∀ r, v = .inr (.inl (some r)) → am_ok h r
def am_gk (t : Nat) : Prop := (13 ≤ t ∧ t ≤ 15) ∨ (am_kc t).isSome = true ∨ ((am_ka t).isSome = true ∧ t ≠ 31 ∧ t ≠ 32)
def am_Sm (G : am_G) (h : am_H) (ad : am_R → Nat) (L : List am_R) : Prop :=
  (∀ r, am_lv h r ↔ r ∈ L) ∧ (∀ f r q, hFR h f r = some q → am_ok h q) ∧ (∀ r j q, hAR h r j = some q → am_ok h q ∧ q.1 < 10) ∧ (∀ t, hCN h t ≠ 0 → am_gk t) ∧
  hAL h (32, 0) = 0 ∧ hAL h (31, 0) = gL G ∧ hAI h (31, 0) = gx G ∧ ad (31, 0) = gb G ∧ ad (32, 0) = ge G
def am_ws (G : am_G) (ad : am_R → Nat) (h : am_H) (L : List am_R) : va_W := L.map (fun r => (ad r, am_en G ad h r))
def am_Si (G : am_G) (A : Nat → Prop) (H0 : Heap) (h : am_H) (ad : am_R → Nat) (L : List am_R) (H : Heap) (locs : List Loc) : Prop :=
  am_Sm G h ad L ∧ va_P (gD G) am_cl14 (am_ws G ad h L) H ∧ va_D A (am_ws G ad h L) ∧ va_S A H0 H locs
theorem am_ws_at {G : am_G} {ad : am_R → Nat} {h : am_H} {L : List am_R} {q0 : Nat} {r : am_R} (hq : L[q0]? = some r) : (am_ws G ad h L)[q0]? = some (ad r, am_en G ad h r) := by
  unfold am_ws
  rw [List.getElem?_map, hq]
  rfl
/-- one cell is written -/
theorem am_ws_set {G : am_G} {A : Nat → Prop} {ad : am_R → Nat} {h h' : am_H} {L : List am_R} {q0 : Nat} {r : am_R} (hD : va_D A (am_ws G ad h L)) (hq : L[q0]? = some r) (he : ∀ r', r' ≠ r → am_en G ad h' r' = am_en G ad h r') : (am_ws G ad h L).set q0 (ad r, am_en G ad h' r) = am_ws G ad h' L := by
  have hl : q0 < (am_ws G ad h L).length := by
    have := (List.getElem?_eq_some_iff.mp hq).1
    unfold am_ws; rw [List.length_map]; exact this
  apply List.ext_getElem?
  intro k
  by_cases hk : k = q0
  · subst hk
    rw [List.getElem?_set_self hl, am_ws_at hq]
  · rw [List.getElem?_set_ne (Ne.symm hk)]
    cases hr : L[k]? with
    | none => unfold am_ws; rw [List.getElem?_map, List.getElem?_map, hr]; rfl
    | some r' =>
      rw [am_ws_at hr, am_ws_at hr]
      by_cases e : r' = r
      · subst e
        exact absurd (hD.1 k q0 _ _ (am_ws_at hr) (am_ws_at hq) rfl) hk
      · rw [he r' e]
/-- refs of the clean heap apart: addresses apart -/
theorem am_ad_inj {G : am_G} {A : Nat → Prop} {H0 H : Heap} {h : am_H} {ad : am_R → Nat} {L : List am_R} {locs : List Loc} (S : am_Si G A H0 h ad L H locs) (hb : ¬ A (gb G)) (hbe : gb G ≠ ge G) (he : ¬ A (ge G)) {r r' : am_R} (h1 : am_ok h r) (h2 : am_ok h r') (e : ad r = ad r') : r = r' := by
  obtain ⟨⟨hL, -, -, -, -, -, -, hab, hae⟩, -, hD, -⟩ := S
  have inA : ∀ {q : am_R}, am_lv h q → A (ad q) := by
    intro q hq
    obtain ⟨i, hi⟩ := List.getElem?_of_mem ((hL q).mp hq)
    exact hD.2 i _ (am_ws_at hi)
  rcases h1 with h1 | rfl | rfl <;> rcases h2 with h2 | rfl | rfl
  · obtain ⟨i, hi⟩ := List.getElem?_of_mem ((hL r).mp h1)
    obtain ⟨j, hj⟩ := List.getElem?_of_mem ((hL r').mp h2)
    have hij := hD.1 i j _ _ (am_ws_at hi) (am_ws_at hj) e
    subst hij
    exact Option.some.inj (hi.symm.trans hj)
  · exact absurd (by rw [← hab, ← e]; exact inA h1) hb
  · exact absurd (by rw [← hae, ← e]; exact inA h1) he
  · exact absurd (by rw [← hab, e]; exact inA h2) hb
  · rfl
  · exact absurd (hab.symm.trans (e.trans hae)) hbe
  · exact absurd (by rw [← hae, e]; exact inA h2) he
  · exact absurd (hab.symm.trans (e.symm.trans hae)) hbe
  · rfl
/-- the world outside the clean heap -/
def am_NW : List Cond := [.castable "FareLattice$Booking" "java/lang/Object", .castable "FareLattice$Coupon" "java/lang/Object", .castable "FareLattice$Detour" "java/lang/Object", .castable "FareLattice$Fare" "java/lang/Object", .castable "FareLattice$Flight" "java/lang/Object", .castable "FareLattice$Leg" "java/lang/Object", .castable "FareLattice$Pricing" "java/lang/Object", .castable "FareLattice$Wish" "java/lang/Object", .castable "FareLattice" "java/lang/Object", .castable "FareLattice" "java/lang/Object"]
def am_NN : List (String × Nat × MethodName × String) := [("FareLattice", 31, ⟨"FareLattice$Pricing", "<init>", "()V"⟩, "FareLattice"), ("FareLattice", 50, ⟨"FareLattice$Detour", "<init>", "()V"⟩, "FareLattice"), ("FareLattice$Pricing", 137, ⟨"FareLattice", "hoursAhead", "(Ljava/util/List;I)I"⟩, "FareLattice")]
def am_NF : List (MethodName × MethodName) := [(⟨"java/util/List", "size", "()I"⟩, ⟨"java/util/ArrayList", "size", "()I"⟩), (⟨"java/util/List", "get", "(I)Ljava/lang/Object;"⟩, ⟨"java/util/ArrayList", "get", "(I)Ljava/lang/Object;"⟩), (⟨"java/util/List", "isEmpty", "()Z"⟩, ⟨"java/util/ArrayList", "isEmpty", "()Z"⟩)]
def am_NC : List (String × String) := [("java/lang/IllegalArgumentException", "java/lang/IndexOutOfBoundsException"), ("java/lang/IllegalStateException", "java/lang/IndexOutOfBoundsException"), ("java/lang/IllegalStateException", "java/lang/IllegalArgumentException")]
def am_Wf (G : am_G) (A : Nat → Prop) (U : State) (H : Heap) : Prop :=
  va_Z "java/util/ArrayList" "DEFAULTCAPACITY_EMPTY_ELEMENTDATA" "[Ljava/lang/Object;" (.ref (ge G)) A U H ∧
  va_T (.object "java/lang/Object") (ge G) 0 (fun _ => .null) A U H ∧
  vx_Zq Bundle.tN "UNASSIGNED_STACK" Bundle.steD A U H ∧ vx_Zq Bundle.tN "SUPPRESSED_SENTINEL" Bundle.listD A U H ∧
  (va_X (gb G) (gL G) (gx G) U H ∧ gb G < H.size ∧ ¬ A (gb G)) ∧
  (va_AO "java/lang/Object" U ∧ va_AO "FareLattice$Leg" U ∧ va_AO "FareLattice$Leg" U) ∧
  (∀ q ∈ am_NW, ∃ C : String, q = .castable C "java/lang/Object" ∧ va_Nw q U) ∧ (∀ q ∈ am_NN, va_Nw (.methodLinkNest q.1 q.2.1 q.2.2.1 q.2.2.2) U) ∧ (∀ q ∈ am_NF, va_Fw "java/util/ArrayList" q.1 q.2 U) ∧ (∀ q ∈ am_NC, va_Nc q.1 q.2 U) ∧ (∃ mi : Nat, va_Mi "[Ljava/lang/Object;" mi U) ∧ va_Dc U
theorem am_NF_cls : ∀ q ∈ am_NF, q.1.cls ≠ "java/lang/invoke/MethodHandle" ∧ q.1.cls ≠ "java/lang/invoke/VarHandle" := by decide +kernel
theorem am_Wf.warm {G : am_G} {A : Nat → Prop} {s U : State} {H : Heap} (hW : s.WarmedH U.vm) (h : am_Wf G A s H) : am_Wf G A U H := by
  obtain ⟨h1, h2, h3, h4, ⟨h5, h6, h7⟩, ⟨h8, h9, h10⟩, h11, h12, h13, h14, ⟨mi, h15⟩, h16⟩ := h
  refine ⟨va_Z.moved hW.alike h1, va_T.moved hW.alike h2, vx_Zq.moved hW.alike h3, vx_Zq.moved hW.alike h4, ⟨va_X.moved hW.alike h5, h6, h7⟩, ⟨va_AO.moved hW.alike h8, va_AO.moved hW.alike h9, va_AO.moved hW.alike h10⟩, fun q hq => ?_, fun q hq => va_Nw.warmM hW (h12 q hq), fun q hq => va_Fw.moved (am_NF_cls q hq) hW.alike (h13 q hq), fun q hq => va_Nc.moved hW.alike (h14 q hq), ⟨mi, va_Mi.moved hW.alike h15⟩, va_Dc.moved hW.alike h16⟩
  obtain ⟨C, rfl, h⟩ := h11 q hq
  exact ⟨C, rfl, va_Nw.warmC hW h⟩
theorem am_Wf.kept {G : am_G} {A : Nat → Prop} {U : State} {H H1 : Heap} (h : am_Wf G A U H) (hs : H.size ≤ H1.size) (hq : ∀ a : Nat, a < H.size → ¬ A a → H1[a]? = H[a]?) : am_Wf G A U H1 := by
  obtain ⟨h1, h2, h3, h4, ⟨h5, h6, h7⟩, h8⟩ := h
  exact ⟨h1.kept hq, h2.kept hq, h3.kept hq, h4.kept hq, ⟨h5.kept (hq _ h6 h7), Nat.lt_of_lt_of_le h6 hs, h7⟩, h8⟩
theorem am_Wf.narrow {G : am_G} {A B : Nat → Prop} {U : State} {H : Heap} (h : am_Wf G A U H) (hAB : ∀ q, B q → A q) : am_Wf G B U H := by
  obtain ⟨h1, h2, h3, h4, ⟨h5, h6, h7⟩, h8⟩ := h
  exact ⟨h1.narrow hAB, h2.narrow hAB, h3.narrow hAB, h4.narrow hAB, ⟨h5, h6, fun z => h7 (hAB _ z)⟩, h8⟩
/-- the empty array lies outside -/
theorem am_Wf.e0 {G : am_G} {A : Nat → Prop} {U : State} {H : Heap} (h : am_Wf G A U H) : ¬ A (ge G) := by
  obtain ⟨-, ⟨cell, -, -, -, -, -, -, h7⟩, -⟩ := h
  exact h7
/-- .. and is no int array -/
theorem am_Wf.ne {G : am_G} {A : Nat → Prop} {U : State} {H : Heap} (h : am_Wf G A U H) : gb G ≠ ge G := by
  obtain ⟨-, ⟨cell, h1, ⟨-, k1, q1, cm1, p1⟩, -⟩, -, -, ⟨⟨scr, h2, ⟨-, k2, q2, cm2, p2⟩, -⟩, -, -⟩, -⟩ := h
  intro e
  rw [e] at h2
  cases h1.symm.trans h2
  cases q1.symm.trans q2
  rw [p1] at p2
  cases p2
/-- a value's address stays when the heap grows -/
theorem am_e_eq {h : am_H} {ad ad' : am_R → Nat} (hx : ∀ r, am_ok h r → ad' r = ad r) {v : am_V} (hv : am_okv h v) : am_e ad' v = am_e ad v := by
  rcases v with x | o | x | x | x
  · rfl
  · cases o with
    | none => rfl
    | some r => show va_rf (some (ad' r)) = va_rf (some (ad r)); rw [hx r (hv r rfl)]
  · rfl
  · rfl
  · rfl
end

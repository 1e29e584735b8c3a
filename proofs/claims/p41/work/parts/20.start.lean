section
def R_law : String := "FareLatticeLaw"
def lw_P (b : Addr) (xs : List Int32) (args : Array Value) (s : State) : Prop := args = #[.ref b] ∧ s.IntsAt b xs ∧ xs.length ≤ 260 ∧ (Jvm.Cond.and given_1 narrow_1).before args s = true
/-- what a walk over the start with the record d0 says of its end, said of the start itself -/
theorem lw_closed {s t : State} {o : Outcome} {d0 : Drawn} {L : List Loc} {k n : Nat} (hd0 : s.drawn.sameBut d0 lw_cs) (hv : ∃ v, o = .returned v) (hW : (s.setDrawn d0).WarmedH t.vm) (hs : (s.setDrawn d0).sameButNew ({ t with vm := s.vm } : State) L k n) : State.butDraws s t lw_cs (fun t1 => Framed s o t1 L k n) := by
  have h2 : t.drawn = d0 := congrArg State.drawn hs.1
  refine ⟨⟨hv, hW, State.sameButNew.setDrawn hs s.drawn⟩, ?_, by decide⟩
  rw [h2]
  exact hd0
def lw_Q (_ : Array Value) (s : State) (o : Outcome) (t : State) : Prop := o = .returned (some (.int 1)) ∧ State.butDraws s t lw_cs (fun t1 => Framed s o t1 [] room_1.cells room_1.slots)
def lw_Z (below : List Frame) (a : Array Value) (s : State) : State → Prop := fun t => ∃ o, t.status = .running ∧ Ended t below o ∧ lw_Q a s o t
/-- the law's own end, with 1 on the stack, nothing written that was there before, its room as the claim has it; d0: the record of draws at this point (at the entry s.drawn: begin with 'refine W.base ?_' and 'have hd0 := Drawn.sameBut.refl s.drawn lw_cs') -/
theorem lw_ret {p : Program} {l : Launch} {e : Env} {s : State} {m : MethodId} {below : List Frame} {meth : Method} {c : Code} {b : Nat} {d0 : Drawn} (hd0 : s.drawn.sameBut d0 lw_cs) (hx : p.tables.exec = Jvm.exec) (hb : c.code = code) (hr : meth.sig.returnType = ret) (hlocks : meth.locks = false) {pc : Nat} {H : Heap} {ls : Array Slot} (hdg : decode code pc = .ok (.ireturn, 1)) : W p l e room_1 (s.setDrawn d0) m #[Value.ref b] below meth c H [] room_1.cells room_1.slots (lw_Z below #[Value.ref b] s) (F0 m pc ls [.int 1]) := by
  intro T hT X
  obtain ⟨fs, hret, hrun, hended, hW, hframe⟩ := X.leave (v := some (.int 1)) (hlocks := hlocks) (fun h => by rw [hr] at h; cases h)
  have hmeth' : T.vm.method? m = some meth := X.method'
  refine ⟨T.setFrames fs, ?_, .returned (some (.int 1)), hrun, hended, rfl, lw_closed hd0 ⟨_, rfl⟩ hW hframe⟩
  jvm_step X.here [X.here.top, hx, hb, hdg, hmeth', hr, ret, narrow_b1]
  (try refine ⟨rfl, ?_⟩); (try refine ⟨rfl, ?_⟩)
  first | (intro acts; rw [hret _ acts rfl rfl rfl]) | rw [hret _ _ rfl rfl rfl]
  exact Steps.refl _
/-- what holds at the law's entry: the machine, the code, the tables' words (any of lw_tbl by 'hts w (by decide +kernel)'), the script of L ints xs at the cell b, what the Statement gives of the start (any of its parts by flat_of_before) -/
def lw_At (p : Program) (s : State) (m : MethodId) (meth : Method) (c : Code) (b L : Nat) (xs : Nat → Int32) : Prop :=
  p.tables.exec = Jvm.exec ∧ c.code = code ∧ meth.sig.returnType = ret ∧ c.maxLocals = 20 ∧ s.vm.findClass R_law = some m.cls ∧ (∀ w ∈ lw_tbl, w.before #[Value.ref b] s = true) ∧ va_X b L xs s s.heap ∧ b < s.heap.size ∧ meth.locks = false ∧ (Jvm.Cond.and given_1 narrow_1).before #[Value.ref b] s = true
end
noncomputable section
/-! The start. -/
theorem am_t1 {i : Nat} {w : Cond} (h : tables_1_1[i]? = some w) : w ∈ lw_tbl := List.mem_append_right _ (List.mem_append_left _ (List.mem_of_getElem? h))
theorem am_t2 {i : Nat} {w : Cond} (h : tables_1_2[i]? = some w) : w ∈ lw_tbl := List.mem_append_right _ (List.mem_append_right _ (List.mem_append_left _ (List.mem_of_getElem? h)))
theorem am_t3 {i : Nat} {w : Cond} (h : tables_1_3[i]? = some w) : w ∈ lw_tbl := List.mem_append_right _ (List.mem_append_right _ (List.mem_append_right _ (List.mem_append_left _ (List.mem_of_getElem? h))))
theorem am_t4 {i : Nat} {w : Cond} (h : tables_1_4[i]? = some w) : w ∈ lw_tbl := List.mem_append_right _ (List.mem_append_right _ (List.mem_append_right _ (List.mem_append_right _ (List.mem_append_left _ (List.mem_of_getElem? h)))))
theorem am_t5 {i : Nat} {w : Cond} (h : tables_1_5[i]? = some w) : w ∈ lw_tbl := List.mem_append_right _ (List.mem_append_right _ (List.mem_append_right _ (List.mem_append_right _ (List.mem_append_right _ (List.mem_append_left _ (List.mem_of_getElem? h))))))
theorem am_t6 {i : Nat} {w : Cond} (h : tables_1_6[i]? = some w) : w ∈ lw_tbl := List.mem_append_right _ (List.mem_append_right _ (List.mem_append_right _ (List.mem_append_right _ (List.mem_append_right _ (List.mem_append_right _ (List.mem_append_left _ (List.mem_of_getElem? h)))))))
theorem am_t7 {i : Nat} {w : Cond} (h : tables_1_7[i]? = some w) : w ∈ lw_tbl := List.mem_append_right _ (List.mem_append_right _ (List.mem_append_right _ (List.mem_append_right _ (List.mem_append_right _ (List.mem_append_right _ (List.mem_append_right _ (List.mem_of_getElem? h)))))))
def am_h0 (L : Nat) (xs : Nat → Int32) : am_H := (fun _ _ => 0, fun _ _ => none, fun r => if r = (31, 0) then xs else fun _ => 0, fun _ _ => none, fun _ _ => 0, fun _ _ => 0, fun r => if r = (31, 0) then L else 0, fun _ => 0, 0, 0)
/-- what the run of the clean machine owes -/
def am_goal : Prop := ∀ (L : Nat) (xs : Nat → Int32), L ≤ 260 → am_C 1600 m_L_law [aR 31 0] (am_h0 L xs) (fun o h' => o = .inl (some (aI 1)) ∧ hCE h' ≤ 60000 ∧ hSL h' ≤ 3300000)
section WORLD
variable {s : State} {args : Array Value}
theorem am_classes (hgood : ∀ w ∈ am_WS, w.before args s = true) : ∀ c : Nat, ∃ z : ClassId × (Nat → Nat), ∀ q : vw_C, am_cl14[c]? = some q → u_Kn s q.1 q.2.1 q.2.2 z.1 z.2 := by
  intro c
  by_cases hc : c < 14
  · match c, hc with
    | 0, _ =>
      obtain ⟨C0, T, N, hcl⟩ := am_cls_at (ci := 0) (by omega)
      have e2 : C0 = am_cn 0 := (am_clf hcl).2.2.2.2
      obtain ⟨cC, iS, h⟩ := u_known hgood (am_clf hcl).1 (hgood _ (by rw [e2]; exact am_w4 (i := 85) rfl rfl : Cond.instantiable C0 9 ∈ am_WS))
      exact ⟨(cC, iS), fun q hq => by cases (am_cl14_of hcl).symm.trans hq; exact h⟩
    | 1, _ =>
      obtain ⟨C0, T, N, hcl⟩ := am_cls_at (ci := 1) (by omega)
      have e2 : C0 = am_cn 1 := (am_clf hcl).2.2.2.2
      obtain ⟨cC, iS, h⟩ := u_known hgood (am_clf hcl).1 (hgood _ (by rw [e2]; exact am_w4 (i := 133) rfl rfl : Cond.instantiable C0 7 ∈ am_WS))
      exact ⟨(cC, iS), fun q hq => by cases (am_cl14_of hcl).symm.trans hq; exact h⟩
    | 2, _ =>
      obtain ⟨C0, T, N, hcl⟩ := am_cls_at (ci := 2) (by omega)
      have e2 : C0 = am_cn 2 := (am_clf hcl).2.2.2.2
      obtain ⟨cC, iS, h⟩ := u_known hgood (am_clf hcl).1 (hgood _ (by rw [e2]; exact am_w1 (i := 111) rfl rfl : Cond.instantiable C0 3 ∈ am_WS))
      exact ⟨(cC, iS), fun q hq => by cases (am_cl14_of hcl).symm.trans hq; exact h⟩
    | 3, _ =>
      obtain ⟨C0, T, N, hcl⟩ := am_cls_at (ci := 3) (by omega)
      have e2 : C0 = am_cn 3 := (am_clf hcl).2.2.2.2
      obtain ⟨cC, iS, h⟩ := u_known hgood (am_clf hcl).1 (hgood _ (by rw [e2]; exact am_w3 (i := 45) rfl rfl : Cond.instantiable C0 13 ∈ am_WS))
      exact ⟨(cC, iS), fun q hq => by cases (am_cl14_of hcl).symm.trans hq; exact h⟩
    | 4, _ =>
      obtain ⟨C0, T, N, hcl⟩ := am_cls_at (ci := 4) (by omega)
      have e2 : C0 = am_cn 4 := (am_clf hcl).2.2.2.2
      obtain ⟨cC, iS, h⟩ := u_known hgood (am_clf hcl).1 (hgood _ (by rw [e2]; exact am_w2 (i := 76) rfl rfl : Cond.instantiable C0 13 ∈ am_WS))
      exact ⟨(cC, iS), fun q hq => by cases (am_cl14_of hcl).symm.trans hq; exact h⟩
    | 5, _ =>
      obtain ⟨C0, T, N, hcl⟩ := am_cls_at (ci := 5) (by omega)
      have e2 : C0 = am_cn 5 := (am_clf hcl).2.2.2.2
      obtain ⟨cC, iS, h⟩ := u_known hgood (am_clf hcl).1 (hgood _ (by rw [e2]; exact am_w2 (i := 227) rfl rfl : Cond.instantiable C0 7 ∈ am_WS))
      exact ⟨(cC, iS), fun q hq => by cases (am_cl14_of hcl).symm.trans hq; exact h⟩
    | 6, _ =>
      obtain ⟨C0, T, N, hcl⟩ := am_cls_at (ci := 6) (by omega)
      have e2 : C0 = am_cn 6 := (am_clf hcl).2.2.2.2
      obtain ⟨cC, iS, h⟩ := u_known hgood (am_clf hcl).1 (hgood _ (by rw [e2]; exact am_w1 (i := 68) rfl rfl : Cond.instantiable C0 10 ∈ am_WS))
      exact ⟨(cC, iS), fun q hq => by cases (am_cl14_of hcl).symm.trans hq; exact h⟩
    | 7, _ =>
      obtain ⟨C0, T, N, hcl⟩ := am_cls_at (ci := 7) (by omega)
      have e2 : C0 = am_cn 7 := (am_clf hcl).2.2.2.2
      obtain ⟨cC, iS, h⟩ := u_known hgood (am_clf hcl).1 (hgood _ (by rw [e2]; exact am_w4 (i := 180) rfl rfl : Cond.instantiable C0 4 ∈ am_WS))
      exact ⟨(cC, iS), fun q hq => by cases (am_cl14_of hcl).symm.trans hq; exact h⟩
    | 8, _ =>
      obtain ⟨C0, T, N, hcl⟩ := am_cls_at (ci := 8) (by omega)
      have e2 : C0 = am_cn 8 := (am_clf hcl).2.2.2.2
      obtain ⟨cC, iS, h⟩ := u_known hgood (am_clf hcl).1 (hgood _ (by rw [e2]; exact am_w1 (i := 33) rfl rfl : Cond.instantiable C0 15 ∈ am_WS))
      exact ⟨(cC, iS), fun q hq => by cases (am_cl14_of hcl).symm.trans hq; exact h⟩
    | 9, _ =>
      obtain ⟨C0, T, N, hcl⟩ := am_cls_at (ci := 9) (by omega)
      have e2 : C0 = am_cn 9 := (am_clf hcl).2.2.2.2
      obtain ⟨cC, iS, h⟩ := u_known hgood (am_clf hcl).1 (hgood _ (by rw [e2]; exact am_w1 (i := 33) rfl rfl : Cond.instantiable C0 15 ∈ am_WS))
      exact ⟨(cC, iS), fun q hq => by cases (am_cl14_of hcl).symm.trans hq; exact h⟩
    | 10, _ =>
      obtain ⟨C0, T, N, hcl⟩ := am_cls_at (ci := 10) (by omega)
      have e2 : C0 = am_cn 10 := (am_clf hcl).2.2.2.2
      obtain ⟨cC, iS, h⟩ := u_known hgood (am_clf hcl).1 (hgood _ (by rw [e2]; exact am_w1 (i := 41) rfl rfl : Cond.instantiable C0 3 ∈ am_WS))
      exact ⟨(cC, iS), fun q hq => by cases (am_cl14_of hcl).symm.trans hq; exact h⟩
    | 11, _ =>
      obtain ⟨cC, iS, h⟩ := u_known (C := "java/lang/IndexOutOfBoundsException") (T := TX0) (N := 0) (n := 6) hgood (fun w hw => nomatch hw) (hgood _ (am_w1 (i := 197) rfl rfl))
      exact ⟨(cC, iS), fun q hq => by cases (show some ("java/lang/IndexOutOfBoundsException", TX0, 0) = some q from hq); exact h⟩
    | 12, _ =>
      obtain ⟨cC, iS, h⟩ := u_known (C := "java/lang/IllegalArgumentException") (T := TX0) (N := 0) (n := 6) hgood (fun w hw => nomatch hw) (hgood _ (am_w2 (i := 27) rfl rfl))
      exact ⟨(cC, iS), fun q hq => by cases (show some ("java/lang/IllegalArgumentException", TX0, 0) = some q from hq); exact h⟩
    | 13, _ =>
      obtain ⟨cC, iS, h⟩ := u_known (C := "java/lang/IllegalStateException") (T := TX0) (N := 0) (n := 6) hgood (fun w hw => nomatch hw) (hgood _ (am_w2 (i := 49) rfl rfl))
      exact ⟨(cC, iS), fun q hq => by cases (show some ("java/lang/IllegalStateException", TX0, 0) = some q from hq); exact h⟩
    | n + 14, h => omega
  · refine ⟨(0, fun _ => 0), fun q hq => ?_⟩
    rw [List.getElem?_eq_none (by show 14 ≤ c; omega)] at hq
    cases hq
theorem am_arrs (hgood : ∀ w ∈ am_WS, w.before args s = true) (h4 : (Cond.arrayOver (.object "java/lang/Object")).before args s = true) (h5 : (Cond.arrayOver (.object "FareLattice$Leg")).before args s = true) (h6 : (Cond.arrayOver (.object "FareLattice$Leg")).before args s = true) : ∀ a : Nat, ∃ z : ClassId, a < 7 → ArrOfT s z (am_ty a) ∧ va_RA s z (am_ty a) := by
  intro a
  match a with
  | 0 =>
    obtain ⟨c, k, comp, h1, h2, h3⟩ := Cond.arrayClass_spec (hgood (.arrayClass .int) (am_w1 (i := 66) rfl rfl))
    exact ⟨c, fun _ => ⟨fun n z => ⟨fun k h => (by cases h), k, h2, comp, h3⟩, h1⟩⟩
  | 1 =>
    obtain ⟨c, k, comp, h1, h2, h3⟩ := Cond.arrayClass_spec (hgood (.arrayClass .int) (am_w1 (i := 66) rfl rfl))
    exact ⟨c, fun _ => ⟨fun n z => ⟨fun k h => (by cases h), k, h2, comp, h3⟩, h1⟩⟩
  | 2 =>
    obtain ⟨c, k, comp, h1, h2, h3⟩ := Cond.arrayClass_spec (hgood (.arrayClass .int) (am_w1 (i := 66) rfl rfl))
    exact ⟨c, fun _ => ⟨fun n z => ⟨fun k h => (by cases h), k, h2, comp, h3⟩, h1⟩⟩
  | 3 =>
    obtain ⟨c, k, comp, h1, h2, h3⟩ := Cond.arrayClass_spec (hgood (.arrayClass .int) (am_w1 (i := 66) rfl rfl))
    exact ⟨c, fun _ => ⟨fun n z => ⟨fun k h => (by cases h), k, h2, comp, h3⟩, h1⟩⟩
  | 4 =>
    obtain ⟨comp, c, k, h1, -, h2, h3, h9⟩ := Cond.arrayOver_spec h4
    exact ⟨c, fun _ => ⟨fun n z => ⟨fun k h => (by cases h), k, h2, comp, h3⟩, k, comp, h2, h3, h1, h9⟩⟩
  | 5 =>
    obtain ⟨comp, c, k, h1, -, h2, h3, h9⟩ := Cond.arrayOver_spec h5
    exact ⟨c, fun _ => ⟨fun n z => ⟨fun k h => (by cases h), k, h2, comp, h3⟩, k, comp, h2, h3, h1, h9⟩⟩
  | 6 =>
    obtain ⟨comp, c, k, h1, -, h2, h3, h9⟩ := Cond.arrayOver_spec h6
    exact ⟨c, fun _ => ⟨fun n z => ⟨fun k h => (by cases h), k, h2, comp, h3⟩, k, comp, h2, h3, h1, h9⟩⟩
  | n + 7 => exact ⟨0, fun h => by omega⟩
theorem am_world {b L : Nat} {xs : Nat → Int32} (hts : ∀ w ∈ lw_tbl, w.before #[Value.ref b] s = true) (hX : va_X b L xs s s.heap) (hb : b < s.heap.size) (hgv : (Jvm.Cond.and given_1 narrow_1).before #[Value.ref b] s = true) :
    ∃ G : am_G, gb G = b ∧ gL G = L ∧ gx G = xs ∧ va_K (gD G) am_cl14 (am_tys G) s ∧ am_Wf G (fun q => s.heap.size ≤ q) s s.heap := by
  have hgood : ∀ w ∈ am_WS, w.before #[Value.ref b] s = true := fun w hw => hts w (List.mem_filter.mp hw).1
  have hs := flat_of_before _ hgv
  have hA : ∀ a : Nat, a < s.heap.size → ¬ s.heap.size ≤ a := fun a h => Nat.not_le.mpr h
  have o4 := hts _ (am_t2 (i := 194) rfl : Cond.arrayOver (.object "java/lang/Object") ∈ lw_tbl)
  have o5 := hts _ (am_t2 (i := 82) rfl : Cond.arrayOver (.object "FareLattice$Leg") ∈ lw_tbl)
  have o6 := hts _ (am_t2 (i := 82) rfl : Cond.arrayOver (.object "FareLattice$Leg") ∈ lw_tbl)
  obtain ⟨f, hf⟩ := Classical.axiomOfChoice (am_classes hgood)
  obtain ⟨g, hg⟩ := Classical.axiomOfChoice (am_arrs hgood o4 o5 o6)
  have hde := hs (.arrayOf (.static "java/util/ArrayList" "DEFAULTCAPACITY_EMPTY_ELEMENTDATA" "[Ljava/lang/Object;") (.object "java/lang/Object")) (by decide +kernel)
  have hle := va_eqt (hs (.eq (.length (.static "java/util/ArrayList" "DEFAULTCAPACITY_EMPTY_ELEMENTDATA" "[Ljava/lang/Object;")) (.int 0)) (by decide +kernel))
  obtain ⟨e0, he0, hT⟩ := va_Tof (N := 0) (f := fun _ => .null) (A := fun q => s.heap.size ≤ q) (by decide) hde hle (fun j hj => absurd hj (Nat.not_lt_zero j)) hA
  have hZ := va_Zof (A := fun q => s.heap.size ≤ q) (hts (.laysStatic "java/util/ArrayList" "DEFAULTCAPACITY_EMPTY_ELEMENTDATA" "[Ljava/lang/Object;") (am_t1 (i := 53) rfl)) (hts (.initialized "java/util/ArrayList") (am_t1 (i := 4) rfl)) he0 hA
  have hU := vx_Zqof (A := fun q => s.heap.size ≤ q) (hts (.laysStatic "java/lang/Throwable" "UNASSIGNED_STACK" "[Ljava/lang/StackTraceElement;") (am_t1 (i := 223) rfl)) (hts (.initialized "java/lang/Throwable") (am_t1 (i := 7) rfl)) (hs (.isRef (.static "java/lang/Throwable" "UNASSIGNED_STACK" "[Ljava/lang/StackTraceElement;")) (by decide +kernel)) hA
  have hN := vx_Zqof (A := fun q => s.heap.size ≤ q) (hts (.laysStatic "java/lang/Throwable" "SUPPRESSED_SENTINEL" "Ljava/util/List;") (am_t1 (i := 225) rfl)) (hts (.initialized "java/lang/Throwable") (am_t1 (i := 7) rfl)) (hs (.isRef (.static "java/lang/Throwable" "SUPPRESSED_SENTINEL" "Ljava/util/List;")) (by decide +kernel)) hA
  have hmi := va_Mi.of (hs (.isRef (.mirror "[Ljava/lang/Object;")) (by decide +kernel))
  have hdc := va_Dc.of (hts (.declares ⟨"java/lang/Object", "getClass", "()Ljava/lang/Class;"⟩) (am_t7 (i := 46) rfl))
  have n0 := va_Nc.of (hs (.not (.castable "java/lang/IllegalArgumentException" "java/lang/IndexOutOfBoundsException")) (by decide +kernel))
  have n1 := va_Nc.of (hs (.not (.castable "java/lang/IllegalStateException" "java/lang/IndexOutOfBoundsException")) (by decide +kernel))
  have n2 := va_Nc.of (hs (.not (.castable "java/lang/IllegalStateException" "java/lang/IllegalArgumentException")) (by decide +kernel))
  refine ⟨((fun c => (f c).1, fun c => (f c).2), g, b, e0, L, xs), rfl, rfl, rfl, ⟨fun c q hq => hf c q hq, fun k q hq => ?_⟩, hZ, hT, hU, hN, ⟨hX, hb, hA b hb⟩, ⟨va_AO.of o4, va_AO.of o5, va_AO.of o6⟩, fun q hq => ?_, fun q hq => ?_, fun q hq => ?_, fun q hq => ?_, hmi, hdc⟩
  · unfold am_tys at hq
    rw [List.getElem?_map] at hq
    by_cases hk : k < 7
    · rw [List.getElem?_range hk] at hq
      cases hq
      exact hg k hk
    · rw [List.getElem?_eq_none (by rw [List.length_range]; omega)] at hq
      cases hq
  · unfold am_NW at hq
    simp only [List.mem_cons, List.not_mem_nil, or_false] at hq
    rcases hq with rfl | rfl | rfl | rfl | rfl | rfl | rfl | rfl | rfl | rfl
    · exact ⟨_, rfl, va_Nw.of rfl (hts _ (am_t7 (i := 38) rfl))⟩
    · exact ⟨_, rfl, va_Nw.of rfl (hts _ (am_t7 (i := 39) rfl))⟩
    · exact ⟨_, rfl, va_Nw.of rfl (hts _ (am_t7 (i := 32) rfl))⟩
    · exact ⟨_, rfl, va_Nw.of rfl (hts _ (am_t7 (i := 37) rfl))⟩
    · exact ⟨_, rfl, va_Nw.of rfl (hts _ (am_t7 (i := 36) rfl))⟩
    · exact ⟨_, rfl, va_Nw.of rfl (hts _ (am_t7 (i := 28) rfl))⟩
    · exact ⟨_, rfl, va_Nw.of rfl (hts _ (am_t7 (i := 31) rfl))⟩
    · exact ⟨_, rfl, va_Nw.of rfl (hts _ (am_t7 (i := 40) rfl))⟩
    · exact ⟨_, rfl, va_Nw.of rfl (hts _ (am_t7 (i := 29) rfl))⟩
    · exact ⟨_, rfl, va_Nw.of rfl (hts _ (am_t7 (i := 29) rfl))⟩
  · unfold am_NN at hq
    simp only [List.mem_cons, List.not_mem_nil, or_false] at hq
    rcases hq with rfl | rfl | rfl
    · exact va_Nw.of rfl (hts _ (am_t1 (i := 69) rfl))
    · exact va_Nw.of rfl (hts _ (am_t1 (i := 112) rfl))
    · exact va_Nw.of rfl (hts _ (am_t4 (i := 14) rfl))
  · unfold am_NF at hq
    simp only [List.mem_cons, List.not_mem_nil, or_false] at hq
    rcases hq with rfl | rfl | rfl
    · exact va_Fw.of (hts _ (am_t3 (i := 192) rfl)) (hts _ (am_t3 (i := 191) rfl)) (hts _ (am_t3 (i := 196) rfl)) (hts _ (am_t3 (i := 195) rfl)) (hts _ (am_t3 (i := 193) rfl))
    · exact va_Fw.of (hts _ (am_t3 (i := 200) rfl)) (hts _ (am_t3 (i := 199) rfl)) (hts _ (am_t3 (i := 203) rfl)) (hts _ (am_t3 (i := 202) rfl)) (hts _ (am_t3 (i := 193) rfl))
    · exact va_Fw.of (hts _ (am_t3 (i := 222) rfl)) (hts _ (am_t3 (i := 221) rfl)) (hts _ (am_t3 (i := 225) rfl)) (hts _ (am_t3 (i := 224) rfl)) (hts _ (am_t3 (i := 193) rfl))
  · unfold am_NC at hq
    simp only [List.mem_cons, List.not_mem_nil, or_false] at hq
    rcases hq with rfl | rfl | rfl
    · exact n0
    · exact n1
    · exact n2
end WORLD
theorem am_start {p : Program} {e : Env} {s : State} {m : MethodId} {below : List Frame} {meth : Method} {c : Code} (goal : am_goal) (l : Launch) (hflags : l.flags = flags0) {b L : Nat} {xs : Nat → Int32} (hL : L ≤ 260) (C0 : lw_At p s m meth c b L xs) (htab : c.exceptionTable.toList = []) : W p l e room_1 s m #[Value.ref b] below meth c s.heap [] 0 0 (lw_Z below #[Value.ref b] s) (entryFrame m ([Value.ref b] : List Value).toArray 20) := by
  obtain ⟨c1, c2, c3, c4, c5, c6, c7, c8, c9, c10⟩ := C0
  obtain ⟨G, g1, g2, g3, hK, hWf⟩ := am_world c6 c7 c8 c10
  obtain ⟨n, o, h', er, rfl, hc, hsl⟩ := goal L xs hL
  have hst : l.stackTraces = false := by
    unfold Launch.stackTraces
    rw [hflags]
    decide +kernel
  have C : am_Cx G p l s m #[Value.ref b] meth c m_L_law (fun q => s.heap.size ≤ q) := ⟨c1, c2, c3, c9, c4, c5, fun w hw => c6 w (List.mem_filter.mp hw).1, fun h => Bool.noConfusion (show false = true from h), htab, hK, hWf, fun q h => h, hst⟩
  have P := am_sound9 (G := G) (l := l) er
  have hlr := am_lo_lr (ad := fun r => if r = (31, 0) then b else ge G) (as := [aR 31 0]) (nL := 20) (by intro v hv; simp at hv; subst hv; rfl) (by decide)
  have hok : am_ok (am_h0 L xs) (31, 0) := Or.inr (Or.inl rfl)
  have hlv : ∀ r, ¬ am_lv (am_h0 L xs) r := fun r hr => Nat.not_lt_zero _ hr.1
  have he : entryFrame m ([Value.ref b] : List Value).toArray 20 = F0 m 0 ((([aR 31 0].map (am_e (fun r => if r = (31, 0) then b else ge G))).map Slot.val ++ List.replicate (20 - ([aR 31 0].map (am_e (fun r => if r = (31, 0) then b else ge G))).length) Slot.unset).toArray) [] := entry_eq m [Value.ref b] (by intro v hv; simp at hv; subst hv; rfl) 20
  rw [he]
  refine P p e room_1 s m #[Value.ref b] below meth c (fun q => s.heap.size ≤ q) _ [] s.heap [] 0 0 _ (lw_Z below #[Value.ref b] s) C ⟨⟨fun r => ⟨fun h => (hlv r h).elim, fun h => (by cases h)⟩, fun f r q h => (by cases (show (none : Option am_R) = some q from h)), fun r j q h => (by cases (show (none : Option am_R) = some q from h)), fun t h => absurd rfl h, rfl, ?_, ?_, ?_, rfl⟩, ?_, ?_, Nat.le_refl _, fun _ _ _ => rfl, fun z hz => (by cases hz)⟩ hlr (am_lo_fo (by intro v hv; simp at hv; subst hv; rfl) (by intro v hv; simp at hv; subst hv; intro r hr; cases hr; exact hok) (by decide) rfl) ⟨?_, ?_, ?_, ?_, ?_, ?_⟩ ?_
  · exact g2.symm
  · exact g3.symm
  · exact g1.symm
  · intro k q hq
    cases hq
  · exact ⟨fun i j p q hi => (by cases hi), fun k q hq => (by cases hq)⟩
  · show (0 + (hCE h' : Int)).toNat ≤ room_1.cells
    exact Nat.le_trans (show (0 + (hCE h' : Int)).toNat ≤ 60000 by omega) (by decide)
  · show (0 + (hSL h' : Int)).toNat ≤ room_1.slots
    exact Nat.le_trans (show (0 + (hSL h' : Int)).toNat ≤ 3300000 by omega) (by decide)
  · show 1600 + 8 ≤ 2048
    omega
  · show 50 * (1600 + 8) ≤ 84000
    omega
  · show (0 : Int) ≤ 0 + ((0 : Nat) : Int)
    omega
  · show (0 : Int) ≤ 0 + ((0 : Nat) : Int)
    omega
  · intro ad2 L2 H2 locs2 S2 b1 b2 hov pc2 ls2 i hci hi
    obtain ⟨rfl, -⟩ := hi
    refine va_forget (fun q hq => S2.2.2.2.2.2 q hq) ?_
    intro T hT X
    have hdg : decode code pc2 = .ok (.ireturn, 1) := by
      rw [← c2, C.2.1]
      exact am_dec hci
    exact W.base (lw_ret (below := below) (Drawn.sameBut.refl s.drawn lw_cs) c1 c2 c3 c9 hdg) T hT (stand_widen X (Nat.le_trans (show _ ≤ 60000 by omega) (by decide)) (Nat.le_trans (show _ ≤ 3300000 by omega) (by decide)))
end

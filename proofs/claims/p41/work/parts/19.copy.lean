noncomputable section
/-! Arrays.copyOf of references. -/
section COPY
variable {G : am_G} {l : Launch} {h : am_H} {ad : am_R → Nat} {L : List am_R} {A : Nat → Prop} {H : Heap} {q : Nat} {n : Int32}
def am_Pc3 (G : am_G) (A : Nat → Prop) (ad : am_R → Nat) (H : Heap) (q : Nat) (n : Int32) (mi : Nat) : Array Value → State → Prop := fun a U => a = #[.ref (ad (30, q)), .int n, .ref mi] ∧ U.heap = H ∧ va_K (gD G) am_cl14 (am_tys G) U ∧ am_Wf G A U H ∧ (∀ q, H.size ≤ q → A q) ∧ va_Mi "[Ljava/lang/Object;" mi U
theorem am_blind3 {mi : Nat} : FrameBlind (am_Pc3 G A ad H q n mi) := by
  intro a U g mk hp
  obtain ⟨h1, h2, h3, h4, h5, h6⟩ := hp
  exact ⟨h1, h2, va_K.moved (u := U) (U := U.calling g mk a) (Vm.Alike.refl U.vm) h3, am_Wf.warm (s := U) (U := U.calling g mk a) (State.WarmedH.refl U) h4, h5, va_Mi.moved (u := U) (U := U.calling g mk a) (Vm.Alike.refl U.vm) h6⟩
theorem am_nn {z : Int32} (hz : 0 ≤ z.toInt) : ¬ z < 0 := by rw [Int32.lt_iff_toInt_lt, Int32.toInt_zero]; omega
theorem am_mn32 {len : Nat} (h0 : 0 ≤ n.toInt) (h1 : n.toInt ≤ 1000) (hl : len ≤ 1000) : (if n < Int32.ofNat len then n else Int32.ofNat len).toInt = ((min len n.toInt.toNat : Nat) : Int) := by
  have e : (Int32.ofNat len).toInt = (len : Int) := Int32.toInt_ofNat_of_lt (by omega)
  by_cases hc : n < Int32.ofNat len
  · rw [if_pos hc]
    rw [Int32.lt_iff_toInt_lt, e] at hc
    omega
  · rw [if_neg hc, e]
    rw [Int32.lt_iff_toInt_lt, e] at hc
    omega
/-- the five-argument copy of references, as a step of the heap -/
theorem am_cpW {p : Program} {e : Env} {R : Room} {s : State} {m : MethodId} {args : Array Value} {below : List Frame} {meth : Method} {c : Code} {cc : ByteArray} {h : am_H} {ad : am_R → Nat} {L : List am_R} {H : Heap} {locs : List Loc} {cells slots pc i q q' : Nat} {ls : Array Slot} {Q : State → Prop} {c0 : Int32} {rest : List Value} {k : Nat} {own : String}
    (hexec : p.tables.exec = Jvm.exec) (hb : c.code = cc) (hml : c.maxLocals = ls.size) (hown : s.vm.findClass own = some m.cls) (hts : ∀ w ∈ am_WS, w.before args s = true) (hlink : Cond.methodLink own i arraycopyName ∈ am_WS) (hK : va_K (gD G) am_cl14 (am_tys G) s) (hWf : am_Wf G A s s.heap) (S : am_Si G A s.heap h ad L H locs)
    (hok : am_ok h (30, q)) (hok' : am_ok h (30, q')) (hk : c0.toInt = (k : Int)) (g6 : k ≤ hAL h (30, q)) (g7 : k ≤ hAL h (30, q')) (hfr : 1 ≤ R.frames) (hlo : (rest.map fun v => v.category).sum + 111 ≤ R.locals) (hdg : decode cc pc = .ok (.invokestatic i, 3))
    (kk : ∀ (H1 : Heap) (locs1 : List Loc), am_Si G A s.heap (hCP h (30, q) (30, q') 0 0 k) ad L H1 locs1 → W p l e R s m args below meth c H1 locs1 cells slots Q (F0 m (pc + 3) ls rest)) : W p l e R s m args below meth c H locs cells slots Q (F0 m pc ls (.int c0 :: .int 0 :: .ref (ad (30, q')) :: .int 0 :: .ref (ad (30, q)) :: rest)) := by
  have hk30 : am_ka 30 = some 4 := rfl
  obtain ⟨q0, hq0⟩ := am_live_a (t := 30) (q := q) S hok (by decide) (by decide)
  obtain ⟨q1, hq1⟩ := am_live_a (t := 30) (q := q') S hok' (by decide) (by decide)
  have hkn : c0.toNatClampNeg = k := by show c0.toInt.toNat = k; omega
  have hz : (0 : Int32).toNatClampNeg = 0 := rfl
  refine va_copyM hexec hb hml hown (hts _ hlink) (hts (.native arraycopyName) (am_w2 (i := 201) rfl rfl)) (hts (.static arraycopyName) (am_w2 (i := 200) rfl rfl)) (hts (.initialized "java/lang/System") (am_w1 (i := 17) rfl rfl)) hK S.2.1 S.2.2.1 S.2.2.2 q0 q1 4 4 (am_ws_a hq0 hk30) (am_ws_a hq1 hk30) (am_tys_at (by decide)) (am_tys_at (by decide)) (by decide) (by decide) (am_nn (by omega))
    (by rw [hz, hkn]; omega) (by rw [hz, hkn]; omega) (fun i9 _ y9 hy => ?_) hfr ?_ hdg (fun H1 locs1 hP1 hD1 hS1 => kk H1 locs1 (am_Si_A S hq1 (am_ka_kc _ 4 hk30) hk30 ⟨S.1.1, S.1.2.1, fun r' j x hx => ?_, S.1.2.2.2⟩ ?_ (fun r' hr' => am_en_A rfl rfl rfl rfl (if_neg hr') rfl rfl) hP1 hD1 hS1))
  · have hy' : (hAR h (30, q) ((0 : Int32).toNatClampNeg + i9)).map ad = some y9 := hy
    cases hx : hAR h (30, q) ((0 : Int32).toNatClampNeg + i9) with
    | none => rw [hx] at hy'; cases hy'
    | some x =>
      rw [hx] at hy'
      cases hy'
      obtain ⟨a1, a2⟩ := S.1.2.2.1 _ _ _ hx
      obtain ⟨ci, hci⟩ := am_kc_some x.1 a2
      have eci := am_kc_same _ _ hci a2
      obtain ⟨C0, T, N, hcl⟩ := am_cls_at (ci := ci) (by omega)
      obtain ⟨q9, hq9⟩ := am_live_o (t := x.1) (q := x.2) S a1 hci (by omega)
      obtain ⟨C1, e1, hca⟩ := hWf.2.2.2.2.2.2.1 _ (am_NW_at ci (by omega))
      have e2 : C0 = am_cn ci := (am_clf hcl).2.2.2.2
      exact va_rAny hK S.2.1 (am_ws_o hq9 hci) (am_cl14_of hcl) (vb_asgC (by rw [e2]; exact hca))
  · have e9 : nativeFrameWords "java/lang/System" "arraycopy" 5 ≤ 100 := by decide
    omega
  · have hx' : (if r' = (30, q') then (fun j => if 0 ≤ j ∧ j < 0 + k then hAR h (30, q) (0 + (j - 0)) else hAR h (30, q') j) else hAR h r') j = some x := hx
    split at hx'
    · dsimp only at hx'
      split at hx'
      · exact S.1.2.2.1 _ _ _ hx'
      · exact S.1.2.2.1 _ _ _ hx'
    · exact S.1.2.2.1 _ _ _ hx'
  · have e0 : va_cpy (fun j => (hAR h (30, q) j).map ad) (fun j => (hAR h (30, q') j).map ad) (0 : Int32).toNatClampNeg (0 : Int32).toNatClampNeg c0.toNatClampNeg = fun j => (hAR (hCP h (30, q) (30, q') 0 0 k) (30, q') j).map ad := by
      rw [hkn, hz]
      funext j
      have e1 : hAR (hCP h (30, q) (30, q') 0 0 k) (30, q') j = if 0 ≤ j ∧ j < 0 + k then hAR h (30, q) (0 + (j - 0)) else hAR h (30, q') j := by
        show (if (30, q') = (30, q') then (fun j => _) else _) j = _
        rw [if_pos rfl]
      rw [e1]
      unfold va_cpy
      split <;> rfl
    exact congrArg (fun f => (hAL h (30, q'), (.inr (.inr (.inr (.inr f))) : (Nat → Int32) ⊕ (Nat → Int64) ⊕ (Nat → UInt32) ⊕ (Nat → UInt64) ⊕ (Nat → Option Nat)))) e0
theorem am_met3 {mi : Nat} (S : am_Sm G h ad L ∧ va_P (gD G) am_cl14 (am_ws G ad h L) H ∧ va_D A (am_ws G ad h L)) (hq : am_ok h (30, q)) (h0 : 0 ≤ n.toInt) (h1 : n.toInt ≤ 1000) (hal : hAL h (30, q) ≤ 1000) :
    vx_Met l ⟨"java/util/Arrays", "copyOf", "([Ljava/lang/Object;ILjava/lang/Class;)[Ljava/lang/Object;"⟩ (Cond.code ⟨"java/util/Arrays", "copyOf", "([Ljava/lang/Object;ILjava/lang/Class;)[Ljava/lang/Object;"⟩ prog_38_method_120_code 4 (some (.array (.object "java/lang/Object"))) :: am_WS) { frames := 3, locals := 150, cells := 1, slots := n.toInt.toNat } (am_Pc3 G A ad H q n mi) (am_Qc G A ad h (hCO h (30, q) n.toInt.toNat) H (.inl (some (aR 30 (hCN h 30))))) (am_XC G A ad h (hCO h (30, q) n.toInt.toNat) H (.inl (some (aR 30 (hCN h 30))))) 1 n.toInt.toNat A := by
  refine vx_ofW (by decide) rfl fun p e s m args below meth c s₁ B hml htab hPc => ?_
  obtain ⟨p1, p2, p3, p4, p5, p6⟩ := hPc
  subst p2
  have hts : ∀ w ∈ am_WS, w.before args s = true := fun w hw => atoms_spec B.pre w (List.mem_cons_of_mem _ hw)
  have hown : s.vm.findClass "java/util/Arrays" = some m.cls := findClass_of_methodNamed B.named
  have hx := B.exec
  have hb := B.bytes
  have S0 : am_Si G A s.heap h ad L s.heap [] := ⟨S.1, S.2.1, S.2.2, Nat.le_refl _, fun _ _ _ => rfl, fun z hz => nomatch hz⟩
  have he : entryFrame m args 4 = F0 m 0 #[.val (.ref (ad (30, q))), .val (.int n), .val (.ref mi), .unset] [] := by
    rw [p1]
    exact entry_eq m [.ref (ad (30, q)), .int n, .ref mi] (by intro v hv; simp at hv; rcases hv with rfl | rfl | rfl <;> rfl) 4
  rw [he]
  have hlv : lv_has #[Slot.val (.ref (ad (30, q))), .val (.int n), .val (.ref mi), .unset] 4 [(0, .ref (ad (30, q))), (1, .int n), (2, .ref mi)] := lv_entry [.ref (ad (30, q)), .int n, .ref mi] (n := 4) (by show 3 ≤ 4; omega)
  refine lv_aload_n (i := 2) hx hb (by decide +kernel : decode prog_38_method_120_code 0 = .ok (.aload_n 2, 1)) rfl rfl ?_
  refine va_ldcM hx hb hown (hts _ (am_w2 (i := 193) rfl rfl)) p6 (by decide +kernel : decode prog_38_method_120_code 1 = .ok (.ldc 110, 2)) ?_
  refine lv_acmp_ne (rx := some mi) (ry := some mi) (tgt := 13) hx hb (by decide +kernel : decode prog_38_method_120_code 3 = .ok (.if_acmp .ne 10, 3)) rfl (fun hh => absurd rfl hh) (fun _ => ?_)
  refine lv_iload_n (i := 1) hx hb (by decide +kernel : decode prog_38_method_120_code 6 = .ok (.iload_n 1, 1)) rfl rfl ?_
  refine va_newq hx hb hown (hts _ (am_w2 (i := 195) rfl rfl)) p4.2.2.2.2.2.1.1 p3 S0.2.1 S0.2.2.1 S0.2.2.2 p5 (am_nn h0) rfl (by have e9 : n.toNatClampNeg ≤ 1000 := (show n.toInt.toNat ≤ 1000 by omega); omega) (Nat.le_refl 1) (by show 0 + n.toInt.toNat ≤ n.toInt.toNat; omega) (by decide +kernel : decode prog_38_method_120_code 7 = .ok (.anewarray 2, 3)) (fun q2 cA H1 hK1 hP1 hD1 hS1 => ?_)
  have ec : cA = gA G 4 := by
    have b1 := (hK1.2 7 (cA, .object "java/lang/Object") (by unfold am_tys; rfl)).2
    have b2 := (p3.2 4 _ (am_tys_at (by decide))).2
    obtain ⟨-, -, -, -, -, b1⟩ := b1
    obtain ⟨-, -, -, -, -, b2⟩ := b2
    exact Option.some.inj (b1.symm.trans b2)
  rw [ec] at hP1 hD1
  obtain ⟨S2, hx2, hok2, hnew⟩ := am_Si_na (m9 := n.toInt.toNat) S0 (rfl : am_ka 30 = some 4) (by decide) (by decide) rfl hP1 hD1 hS1
  obtain ⟨ad2, had2⟩ : ∃ a : am_R → Nat, a = (fun x => if x = (30, hCN h 30) then q2 else ad x) := ⟨_, rfl⟩
  rw [← had2] at S2
  have hx3 : ∀ r, am_ok h r → ad2 r = ad r := by rw [had2]; exact hx2
  have e7 : ad2 (30, hCN h 30) = q2 := by rw [had2]; exact if_pos rfl
  have e8 : ad2 (30, q) = ad (30, q) := hx3 _ hq
  refine lv_goto (tgt := 24) hx hb (by decide +kernel : decode prog_38_method_120_code 10 = .ok (.goto 14, 3)) rfl ?_
  refine lv_astore_n (i := 3) hx hb (by decide +kernel : decode prog_38_method_120_code 24 = .ok (.astore_n 3, 1)) rfl hlv (by decide) rfl (fun ls' hls => ?_)
  have g0 : ls'[0]? = some (.val (.ref (ad (30, q)))) := hls.2.2 (0, _) (by simp)
  have g1 : ls'[1]? = some (.val (.int n)) := hls.2.2 (1, _) (by simp)
  have g3 : ls'[3]? = some (.val (.ref q2)) := hls.2.2 (3, _) (by simp)
  have hml2 : c.maxLocals = ls'.size := by rw [hls.1]; exact hml
  refine lv_aload_n (i := 0) hx hb (by decide +kernel : decode prog_38_method_120_code 25 = .ok (.aload_n 0, 1)) rfl g0 ?_
  refine lv_iconst (v := 0) hx hb (by decide +kernel : decode prog_38_method_120_code 26 = .ok (.iconst 0, 1)) rfl ?_
  refine lv_aload_n (i := 3) hx hb (by decide +kernel : decode prog_38_method_120_code 27 = .ok (.aload_n 3, 1)) rfl g3 ?_
  refine lv_iconst (v := 0) hx hb (by decide +kernel : decode prog_38_method_120_code 28 = .ok (.iconst 0, 1)) rfl ?_
  refine lv_aload_n (i := 0) hx hb (by decide +kernel : decode prog_38_method_120_code 29 = .ok (.aload_n 0, 1)) rfl g0 ?_
  obtain ⟨q0, hq0⟩ := am_live_a (t := 30) (q := q) S2 (hok2 _ hq) (by decide) (by decide)
  have hw0 := am_ws_a (G := G) (ad := ad2) (h := hNA h 30 n.toInt.toNat) hq0 (rfl : am_ka 30 = some 4)
  rw [e8] at hw0
  have eal : hAL (hNA h 30 n.toInt.toNat) (30, q) = hAL h (30, q) := by
    show am_u1 (hAL h) (hNX h 30) n.toInt.toNat (30, q) = _
    unfold am_u1
    refine if_neg (fun e => ?_)
    rcases hq with hq | hq | hq
    · have h9 := hq.1
      have h8 : q = hCN h 30 := congrArg Prod.snd e
      rw [h8] at h9
      exact Nat.lt_irrefl _ h9
    · have h8 : (30 : Nat) = 31 := congrArg Prod.fst hq
      omega
    · have h8 : (30 : Nat) = 32 := congrArg Prod.fst hq
      omega
  refine va_alen hx hb p3 S2.2.1 q0 4 hw0 (am_tys_at (by decide)) (show Int32.ofNat (hAL (hNA h 30 n.toInt.toNat) (30, q)) = Int32.ofNat (hAL h (30, q)) from by rw [eal]) (by decide +kernel : decode prog_38_method_120_code 30 = .ok (.arraylength, 1)) ?_
  refine lv_iload_n (i := 1) hx hb (by decide +kernel : decode prog_38_method_120_code 31 = .ok (.iload_n 1, 1)) rfl g1 ?_
  refine va_mmin hx hb hml2 hown (hts _ (am_w2 (i := 196) rfl rfl)) (hts _ (am_w2 (i := 197) rfl rfl)) (hts _ (am_w1 (i := 15) rfl rfl)) (hts _ (am_w2 (i := 198) rfl rfl)) (by show 1 ≤ 3; omega) (by show 4 + 13 ≤ 150; omega) (Nat.le_refl _) (by show 0 + n.toInt.toNat ≤ n.toInt.toNat; omega) (by decide +kernel : decode prog_38_method_120_code 32 = .ok (.invokestatic 304, 3)) ?_
  have hmn := am_mn32 (len := hAL h (30, q)) h0 h1 hal
  have key : ∀ (H2 : Heap) (locs2 : List Loc), am_Si G A s.heap (hCP (hNA h 30 n.toInt.toNat) (30, q) (30, hCN h 30) 0 0 (min (hAL h (30, q)) n.toInt.toNat)) ad2 (L ++ [(30, hCN h 30)]) H2 locs2 → W p l e { frames := 3, locals := 150, cells := 1, slots := n.toInt.toNat } s m args below meth c H2 locs2 (0 + 1) (0 + n.toNatClampNeg) (vx_MQ below (am_Qc G A ad h (hCO h (30, q) n.toInt.toNat) s.heap (.inl (some (aR 30 (hCN h 30))))) (am_XC G A ad h (hCO h (30, q) n.toInt.toNat) s.heap (.inl (some (aR 30 (hCN h 30))))) args s 1 n.toInt.toNat A) (F0 m 38 ls' []) := by
    intro H2 locs2 S3
    refine lv_aload_n (i := 3) hx hb (by decide +kernel : decode prog_38_method_120_code 38 = .ok (.aload_n 3, 1)) rfl g3 ?_
    have e6 : 0 + n.toNatClampNeg = n.toInt.toNat := by show 0 + n.toInt.toNat = n.toInt.toNat; omega
    rw [e6]
    refine vx_ret (W.aret hx hb B.returns (Or.inr ⟨_, rfl⟩) (Or.inr ⟨_, rfl⟩) (fun t ht _ => ⟨some (aR 30 (hCN h 30)), ad2, L ++ [(30, hCN h 30)], rfl, ?_, fun v0 e v hv => ?_, ?_⟩) S3.2.2.2.2.2 (by decide +kernel : decode prog_38_method_120_code 39 = .ok (.areturn, 1)) B.notSynchronized)
    · show Outcome.returned (some (.ref q2)) = .returned (some (.ref (ad2 (30, hCN h 30))))
      rw [e7]
    · cases e
      cases hv
      exact hnew
    · rw [ht]
      exact ⟨S3.1, S3.2.1, S3.2.2.1, hx3, hok2, S3.2.2.2.1, S3.2.2.2.2.1⟩
  have hcp := am_cpW (l := l) (p := p) (e := e) (R := { frames := 3, locals := 150, cells := 1, slots := n.toInt.toNat }) (below := below) (meth := meth) (pc := 35) (cells := 0 + 1) (slots := 0 + n.toNatClampNeg) (Q := vx_MQ below (am_Qc G A ad h (hCO h (30, q) n.toInt.toNat) s.heap (.inl (some (aR 30 (hCN h 30))))) (am_XC G A ad h (hCO h (30, q) n.toInt.toNat) s.heap (.inl (some (aR 30 (hCN h 30))))) args s 1 n.toInt.toNat A) (rest := []) hx hb hml2 hown hts (am_w2 (i := 199) rfl rfl) p3 p4 S2 (hok2 _ hq) hnew hmn (by rw [eal]; omega) (by
      have e5 : hAL (hNA h 30 n.toInt.toNat) (30, hCN h 30) = n.toInt.toNat := by show am_u1 (hAL h) (hNX h 30) n.toInt.toNat (30, hCN h 30) = _; unfold am_u1; exact if_pos rfl
      rw [e5]; omega) (by show 1 ≤ 3; omega) (by show 0 + 111 ≤ 150; omega) (by decide +kernel : decode prog_38_method_120_code 35 = .ok (.invokestatic 150, 3)) key
  rw [e7, e8] at hcp
  exact hcp
theorem am_par3 {as : List Value} (hl : as.length = 3 := by rfl) : ∀ sig, parseMethodDescriptor "([Ljava/lang/Object;ILjava/lang/Class;)[Ljava/lang/Object;" = some sig → as.length = sig.parameters.length := by
  intro sig hsig
  have h2 : (parseMethodDescriptor "([Ljava/lang/Object;ILjava/lang/Class;)[Ljava/lang/Object;").map (fun d => d.parameters.length) = some 3 := by decide +kernel
  rw [hsig] at h2
  rw [hl]
  exact (Option.some.inj h2).symm
theorem am_par2 {as : List Value} (hl : as.length = 2 := by rfl) : ∀ sig, parseMethodDescriptor "([Ljava/lang/Object;I)[Ljava/lang/Object;" = some sig → as.length = sig.parameters.length := by
  intro sig hsig
  have h2 : (parseMethodDescriptor "([Ljava/lang/Object;I)[Ljava/lang/Object;").map (fun d => d.parameters.length) = some 2 := by decide +kernel
  rw [hsig] at h2
  rw [hl]
  exact (Option.some.inj h2).symm
theorem am_pay3 {s : State} {args : Array Value} (hts : ∀ w ∈ am_WS, w.before args s = true) {x : Cond} (hx : x ∈ am_WS) : ∀ w ∈ x :: am_WS, ∀ (a' : Array Value) (U : State), s.WarmedH U.vm → w.before a' U = true := by
  intro w hw
  rcases List.mem_cons.mp hw with rfl | hw
  · exact pay_in hts am_goodIn _ hx
  · exact pay_in hts am_goodIn _ hw
theorem am_met2 (S : am_Sm G h ad L ∧ va_P (gD G) am_cl14 (am_ws G ad h L) H ∧ va_D A (am_ws G ad h L)) (hq : am_ok h (30, q)) (h0 : 0 ≤ n.toInt) (h1 : n.toInt ≤ 1000) (hal : hAL h (30, q) ≤ 1000) :
    vx_Met l ⟨"java/util/Arrays", "copyOf", "([Ljava/lang/Object;I)[Ljava/lang/Object;"⟩ (Cond.code ⟨"java/util/Arrays", "copyOf", "([Ljava/lang/Object;I)[Ljava/lang/Object;"⟩ prog_38_method_119_code 2 (some (.array (.object "java/lang/Object"))) :: am_WS) { frames := 5, locals := 250, cells := 1, slots := n.toInt.toNat } (am_Pc G A ad H [aR 30 q, aI n]) (am_Qc G A ad h (hCO h (30, q) n.toInt.toNat) H (.inl (some (aR 30 (hCN h 30))))) (am_XC G A ad h (hCO h (30, q) n.toInt.toNat) H (.inl (some (aR 30 (hCN h 30))))) 1 n.toInt.toNat A := by
  refine vx_ofW (by decide) rfl fun p e s m args below meth c s₁ B hml htab hPc => ?_
  obtain ⟨p1, p2, p3, p4, p5⟩ := hPc
  subst p2
  have hts : ∀ w ∈ am_WS, w.before args s = true := fun w hw => atoms_spec B.pre w (List.mem_cons_of_mem _ hw)
  have hown : s.vm.findClass "java/util/Arrays" = some m.cls := findClass_of_methodNamed B.named
  have hx := B.exec
  have hb := B.bytes
  obtain ⟨mi, hmi⟩ := p4.2.2.2.2.2.2.2.2.2.2.1
  have hdc := p4.2.2.2.2.2.2.2.2.2.2.2
  have he : entryFrame m args 2 = F0 m 0 #[.val (.ref (ad (30, q))), .val (.int n)] [] := by
    rw [p1]
    exact entry_eq m [.ref (ad (30, q)), .int n] (by intro v hv; simp at hv; rcases hv with rfl | rfl <;> rfl) 2
  rw [he]
  refine lv_aload_n (i := 0) hx hb (by decide +kernel : decode prog_38_method_119_code 0 = .ok (.aload_n 0, 1)) rfl rfl ?_
  refine lv_iload_n (i := 1) hx hb (by decide +kernel : decode prog_38_method_119_code 1 = .ok (.iload_n 1, 1)) rfl rfl ?_
  refine lv_aload_n (i := 0) hx hb (by decide +kernel : decode prog_38_method_119_code 2 = .ok (.aload_n 0, 1)) rfl rfl ?_
  have S0 : am_Si G A s.heap h ad L s.heap [] := ⟨S.1, S.2.1, S.2.2, Nat.le_refl _, fun _ _ _ => rfl, fun z hz => nomatch hz⟩
  obtain ⟨q0, hq0⟩ := am_live_a (t := 30) (q := q) S0 hq (by decide) (by decide)
  have hcell : s.heap[ad (30, q)]? = some (vp_cell (gA G 4) (am_aa ad h (30, q) 4)) := S.2.1 q0 _ (am_ws_a hq0 (rfl : am_ka 30 = some 4))
  have hcl : s.vm.findClass "[Ljava/lang/Object;" = some (gA G 4) := va_nmO (p3.2 4 _ (am_tys_at (by decide))).2 rfl
  refine va_getC hx hb hml hown (hts _ (am_w2 (i := 171) rfl rfl)) (va_Dc.use hdc) (hts _ (am_w7 (i := 45) rfl rfl)) (hts _ (am_w2 (i := 172) rfl rfl)) (hts _ (am_w2 (i := 189) rfl rfl)) hmi ⟨_, hcell, rfl, hcl⟩ (by show 1 ≤ 5; omega) (by show 2 + 14 ≤ 250; omega) (by decide +kernel : decode prog_38_method_119_code 3 = .ok (.invokevirtual 86, 3)) ?_
  intro T hT X
  have hK := vx_back (R := { frames := 5, locals := 250, cells := 1, slots := n.toInt.toNat }) (p := p) (e := e) (below := below) (sargs := args) (len := 3) (W9 := 8) (am_met3 (l := l) (mi := mi) S hq h0 h1 hal) am_blind3 rfl rfl (by show 3 + 1 ≤ 5; omega) (by show 8 + (4 + 11) + 150 ≤ 250; omega) (am_pay3 hts (am_w2 (i := 192) rfl rfl)) List.mem_cons_self (fun a' U hW => pay_in hts am_goodIn _ (am_w1 (i := 16) rfl rfl) a' U hW)
  have hD := vx_callS X hx (own := "java/util/Arrays") (index := 300) hown (hts _ (am_w2 (i := 190) rfl rfl)) (hts _ (am_w2 (i := 191) rfl rfl)) (hts _ (am_w1 (i := 16) rfl rfl)) (hts _ (am_w2 (i := 192) rfl rfl)) (by decide) hK (g := F0 m 6 #[.val (.ref (ad (30, q))), .val (.int n)] [.ref mi, .int n, .ref (ad (30, q))]) rfl hml.symm (argsL := [.ref (ad (30, q)), .int n, .ref mi]) (rest := []) (am_par3) rfl (by show 0 ≤ 8; omega) (by rw [hb]; exact (by decide +kernel : decode prog_38_method_119_code 6 = .ok (.invokestatic 300, 3))) (fun vm₁ hW => ⟨by show 0 + 1 ≤ 1; omega, by show 0 + n.toInt.toNat ≤ n.toInt.toNat; omega, rfl, hT, va_K.moved (u := s) (U := T.setVm vm₁) hW.alike p3, am_Wf.warm (s := s) (U := T.setVm vm₁) hW p4, p5, va_Mi.moved (u := s) (U := T.setVm vm₁) hW.alike hmi⟩)
  rcases hD with ⟨v, vm₁, ⟨U', l2, c2, s2⟩, hW₁, X', ⟨g', mk, t, L', e1, e2, ⟨v0, ad2, L2, ho, hv, hov, hAf⟩, q1, q2, q3, q4⟩, stp⟩ | ⟨q9, vm₁, ⟨U', l2, c2, s2⟩, hW₁, X', ⟨g', mk, t, L', E, ce, e1, e2, ⟨k, ad2, L2, ho, -⟩, -⟩, -⟩
  · dsimp only [Pt.U, Pt.locs, Pt.cells, Pt.slots] at X' e1 e2 q1 q3 q4 stp
    subst q1; subst q3; subst q4
    cases ho
    obtain rfl : v = (some (aR 30 (hCN h 30))).map (am_e ad2) := by injection hv
    have hA := hAf
    rw [Nat.zero_add] at X'
    rw [Nat.zero_add] at X'
    obtain ⟨t2, a8, b8⟩ := vx_ret (XC := (am_XC G A ad h (hCO h (30, q) n.toInt.toNat) s.heap (.inl (some (aR 30 (hCN h 30)))))) (W.aret (p := p) (l := l) (e := e) (R := { frames := 5, locals := 250, cells := 1, slots := n.toInt.toNat }) (s := s) (args := args) (below := below) (meth := meth) (c := c) (H := t.heap) (locs := l2) (cells := 1) (slots := n.toInt.toNat) (Qc := (am_Qc G A ad h (hCO h (30, q) n.toInt.toNat) s.heap (.inl (some (aR 30 (hCN h 30)))))) (free := A) (pc := 9) (ls := #[.val (.ref (ad (30, q))), .val (.int n)]) hx hb B.returns (Or.inr ⟨_, rfl⟩) (Or.inr ⟨ad2 (30, hCN h 30), rfl⟩) (fun t9 ht9 _ => ⟨some (aR 30 (hCN h 30)), ad2, L2, rfl, rfl, hov, by rw [ht9]; exact hA⟩) q2 (by decide +kernel : decode prog_38_method_119_code 9 = .ok (.areturn, 1)) B.notSynchronized) U' e1 X'
    exact ⟨t2, stp t2 a8, b8⟩
  · cases ho
theorem am_co : am_CO G l := by
  intro d y o h h' pc i ls c0 q r hc hK9 hi g3 g4 g9 g8 hm K
  have how : am_ow y = 10 := by have := (am_K_div (y := y) hi).1; omega
  have hi9 : i = 66 := by have := (am_K_div (y := y) hi).2; omega
  subst hi9
  intro p e R s m args below meth c A ad L H locs kc ks lsM Q C S hl hf hr hE T hT X
  have hts := C.2.2.2.2.2.2.1
  have hown := C.2.2.2.2.2.1
  rw [how] at hown
  have hown : s.vm.findClass "java/util/ArrayList" = some m.cls := hown
  have hWf := C.2.2.2.2.2.2.2.2.2.2.1
  have hok : am_ok h (30, q) := hf.2.2 _ (by simp) _ rfl
  have hml : lsM.size = c.maxLocals := by obtain ⟨lv, hl1, -⟩ := hl; rw [hl1.1]; exact C.2.2.2.2.1.symm
  have h8' : 2 * 0 + ((r.map (am_e ad)).map fun v => v.category).sum ≤ 8 := by rw [am_sum_e]; omega
  have hm1 : hCE h + 1 ≤ hCE h' := hm.1
  have hm2 : hSL h + c0.toInt.toNat ≤ hSL h' := hm.2
  refine am_call_go (len := 3) (rest := r) (h1 := hCO h (30, q) c0.toInt.toNat) (o1 := .inl (some (aR 30 (hCN h 30)))) (a := #[.ref (ad (30, q)), .int c0]) (mc := 1) (ms := c0.toInt.toNat) C S hl hf (fun v hv => by simp [hv]) hr hE ⟨Nat.le_succ _, Nat.le_add_right _ _⟩ (by show 1 = hCE h + 1 - hCE h; omega) (by show c0.toInt.toNat = hSL h + c0.toInt.toNat - hSL h; omega) K ?_
  have hK := vx_back (R := R) (p := p) (e := e) (below := below) (sargs := args) (len := 3) (W9 := 8) (am_met2 (l := l) (A := A) (H := H) ⟨S.1, S.2.1, S.2.2.1⟩ hok g3 g4 g9) am_blind rfl rfl (by show 5 + 1 ≤ R.frames; have := hr.2.2.1; omega) (by show 8 + (2 + 11) + 250 ≤ R.locals; have := hr.2.2.2.1; omega) (am_pay3 hts (am_w2 (i := 170) rfl rfl)) List.mem_cons_self (fun a' U hW => pay_in hts am_goodIn _ (am_w1 (i := 16) rfl rfl) a' U hW)
  exact vx_callS X C.1 (own := "java/util/ArrayList") (index := 66) hown (hts _ (am_w2 (i := 168) rfl rfl)) (hts _ (am_w2 (i := 169) rfl rfl)) (hts _ (am_w1 (i := 16) rfl rfl)) (hts _ (am_w2 (i := 170) rfl rfl)) (by decide) hK (g := F0 m pc lsM _) rfl hml (argsL := [.ref (ad (30, q)), .int c0]) (rest := r.map (am_e ad)) am_par2 rfl h8' (by rw [C.2.1]; exact am_dec hc) (fun vm₁ hW => ⟨by show (kc + (hCE h : Int)).toNat + 1 ≤ R.cells; have := hr.1; have := hr.2.2.2.2; omega, by show (ks + (hSL h : Int)).toNat + c0.toInt.toNat ≤ R.slots; have := hr.2.1; have := hr.2.2.2.2; omega, rfl, hT, va_K.moved (u := s) (U := T.setVm vm₁) hW.alike C.2.2.2.2.2.2.2.2.2.1, am_Wf.warm (s := s) (U := T.setVm vm₁) hW (hWf.kept S.2.2.2.1 S.2.2.2.2.1), fun q hq => C.2.2.2.2.2.2.2.2.2.2.2.1 q (Nat.le_trans S.2.2.2.1 hq)⟩)
/-- a run of the clean machine is one of the machine -/
theorem am_sound9 {d y n pc : Nat} {ls : List (Option am_V)} {st : List am_V} {h h' : am_H} {o : am_O} (e : am_run d n y pc ls st h = some (o, h')) : am_P G l d y o h' pc ls st h := am_sound am_co n d y pc ls st h o h' e
end COPY
end

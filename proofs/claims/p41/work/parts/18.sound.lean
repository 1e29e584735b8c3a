noncomputable section
/-! A run of the clean machine is one of the machine. -/
section SOUND
variable {G : am_G} {l : Launch}
/-- Arrays.copyOf as one step -/
def am_CO (G : am_G) (l : Launch) : Prop := ∀ (d y : Nat) (o : am_O) (h h' : am_H) (pc i : Nat) (ls : List (Option am_V)) (c0 : Int32) (q : Nat) (r : List am_V), am_cd y pc = some (.invokestatic i, 3) → am_K y i = 100066 → i < 10000 → 0 ≤ c0.toInt → c0.toInt ≤ 1000 → hAL h (30, q) ≤ 1000 → am_sum r ≤ 8 →
  hCE (hCO h (30, q) c0.toInt.toNat) ≤ hCE h' ∧ hSL (hCO h (30, q) c0.toInt.toNat) ≤ hSL h' → am_P G l d y o h' (pc + 3) ls (aR 30 (hCN h 30) :: r) (hCO h (30, q) c0.toInt.toNat) → am_P G l d y o h' pc ls (.inl c0 :: .inr (.inl (some (30, q))) :: r) h
variable {d y : Nat} {o : am_O} {h h' h1 : am_H} {pc pc1 n : Nat} {ls ls1 : List (Option am_V)} {st st1 : List am_V}
theorem am_cs_in {y' na : Nat} {b : Bool} {z : Nat × List (Option am_V) × List am_V × am_H} (hs : am_cs y' na pc b st = some (.inl z)) : False := by
  obtain ⟨_, _, e, -⟩ := am_cs_al hs
  cases e
theorem am_cs_fin {y' na : Nat} {b : Bool} {z : am_O × am_H} (hs : am_cs y' na pc b st = some (.inr (.inr z))) : False := by
  obtain ⟨_, _, e, -⟩ := am_cs_al hs
  injection e with e
  cases e
theorem v_static {i : Nat} (hco : am_CO G l) (hc : am_cd y pc = some (.invokestatic i, n)) (hs : am_do y pc n ls st h (.invokestatic i) = some (.inl (pc1, ls1, st1, h1))) (K : am_P G l d y o h' pc1 ls1 st1 h1) (hm : hCE h1 ≤ hCE h' ∧ hSL h1 ≤ hSL h') : am_P G l d y o h' pc ls st h := by
  obtain ⟨hn, hi⟩ := am_two (am_len hc)
  subst hn
  simp only [am_do] at hs
  split at hs
  · split at hs
    · exact (am_cs_in hs).elim
    · cases hs
  · split at hs
    · rename_i hK
      split at hs
      · rename_i c0 dp t' q' sp t q r
        split at hs
        · rename_i hg
          obtain ⟨rfl, rfl, g3, g4, g5, g6, g7, g8⟩ := hg
          simp only [am_nx, Option.some.injEq, Sum.inl.injEq, Prod.mk.injEq] at hs
          obtain ⟨rfl, rfl, rfl, rfl⟩ := hs
          exact am_cpy_row hc hK hi g3 g4 g5 g6 g7 g8 K
        · cases hs
      · cases hs
    · split at hs
      · rename_i hK
        split at hs
        · rename_i c0 t q r
          split at hs
          · rename_i hg
            obtain ⟨rfl, g3, g4, g9, g5⟩ := hg
            simp only [am_nx, Option.some.injEq, Sum.inl.injEq, Prod.mk.injEq] at hs
            obtain ⟨rfl, rfl, rfl, rfl⟩ := hs
            exact hco d y o h h' pc i ls c0 q r hc hK hi g3 g4 g9 g5 hm K
          · cases hs
        · cases hs
      · cases hs
set_option maxHeartbeats 4000000 in
theorem v_step {i : Instr} (hco : am_CO G l) (hc : am_cd y pc = some (i, n)) (hs : am_do y pc n ls st h i = some (.inl (pc1, ls1, st1, h1))) (K : am_P G l d y o h' pc1 ls1 st1 h1) (hm : hCE h1 ≤ hCE h' ∧ hSL h1 ≤ hSL h') : am_P G l d y o h' pc ls st h := by
  cases i
  case iconst => exact v_iconst hc hs K
  case bipush => exact v_bipush hc hs K
  case sipush => exact v_sipush hc hs K
  case lconst => exact v_lconst hc hs K
  case fconst => exact v_fconst hc hs K
  case iload => exact v_iload hc hs K
  case aload => exact v_aload hc hs K
  case fload => exact v_fload hc hs K
  case iload_n => exact v_iload_n hc hs K
  case aload_n => exact v_aload_n hc hs K
  case istore => exact v_istore hc hs K
  case astore => exact v_astore hc hs K
  case fstore => exact v_fstore hc hs K
  case istore_n => exact v_istore_n hc hs K
  case astore_n => exact v_astore_n hc hs K
  case iinc => exact v_iinc hc hs K
  case iadd => exact v_iadd hc hs K
  case isub => exact v_isub hc hs K
  case imul => exact v_imul hc hs K
  case iand => exact v_iand hc hs K
  case ixor => exact v_ixor hc hs K
  case ishr => exact v_ishr hc hs K
  case idiv => exact v_idiv hc hs K
  case irem => exact v_irem hc hs K
  case i2l => exact v_i2l hc hs K
  case i2f => exact v_i2f hc hs K
  case lcmp => exact v_lcmp hc hs K
  case fdiv => exact v_fdiv hc hs K
  case f2d => exact v_f2d hc hs K
  case dup => exact v_dup hc hs K
  case pop => exact v_pop hc hs K
  case dup_x1 => exact v_dup_x1 hc hs K
  case dup2 => exact v_dup2 hc hs K
  case dcmp => exact v_dcmp hc hs K
  case fcmp => exact v_fcmp hc hs K
  case goto => exact v_goto hc hs K
  case ifCond => exact v_ifCond hc hs K
  case if_icmp => exact v_if_icmp hc hs K
  case if_acmp => exact v_if_acmp hc hs K
  case ifnull => exact v_ifnull hc hs K
  case ifnonnull => exact v_ifnonnull hc hs K
  case tableswitch => exact v_tableswitch hc hs K
  case ldc => exact v_ldc hc hs K
  case ldc_w => exact v_ldc_w hc hs K
  case getstatic => exact v_getstatic hc hs K
  case getfield => exact v_getfield hc hs K
  case putfield => exact v_putfield hc hs K
  case arraylength => exact v_arraylength hc hs K
  case iaload => exact v_iaload hc hs K
  case baload => exact v_baload hc hs K
  case laload => exact v_laload hc hs K
  case daload => exact v_daload hc hs K
  case aaload => exact v_aaload hc hs K
  case iastore => exact v_iastore hc hs K
  case bastore => exact v_bastore hc hs K
  case lastore => exact v_lastore hc hs K
  case dastore => exact v_dastore hc hs K
  case aastore => exact v_aastore hc hs K
  case checkcast => exact v_checkcast hc hs K
  case aconst_null => exact v_null hc hs K
  case new => exact v_new hc hs hm K
  case newarray => exact v_newarray hc hs hm K
  case anewarray => exact v_anewarray hc hs hm K
  case invokespecial => exact v_objinit hc hs K
  case invokestatic => exact v_static hco hc hs K hm
  case invokevirtual =>
    simp only [am_do] at hs
    split at hs
    · split at hs
      · exact (am_cs_in hs).elim
      · cases hs
    · cases hs
  case invokeinterface =>
    simp only [am_do] at hs
    split at hs
    · split at hs
      · exact (am_cs_in hs).elim
      · cases hs
    · cases hs
  case return_ => simp only [am_do] at hs; split at hs <;> cases hs
  case ireturn =>
    simp only [am_do] at hs
    split at hs
    · split at hs <;> cases hs
    · cases hs
  case freturn =>
    simp only [am_do] at hs
    split at hs
    · split at hs <;> cases hs
    · cases hs
  case areturn =>
    simp only [am_do] at hs
    split at hs
    · split at hs <;> cases hs
    · cases hs
  all_goals cases hs
/-- an answer -/
theorem v_ans {i : Instr} {v : Option am_V} (hc : am_cd y pc = some (i, 1)) (hst : st = v.toList) (hi : am_isr y i v) : am_P G l d y (.inl v) h pc ls st h := by
  intro p e R s m args below meth c A ad L H locs kc ks lsM Q C S hl hf hr hE
  subst hst
  exact hE ad L H locs S (fun _ _ => rfl) (fun _ h => h) (fun v0 e => by subst e; exact hf.2.2 _ List.mem_cons_self) pc lsM i hc hi
theorem v_end {i : Instr} (hc : am_cd y pc = some (i, n)) (hs : am_do y pc n ls st h i = some (.inr (.inr (o, h')))) : am_P G l d y o h' pc ls st h := by
  cases hsp : am_sp i with
  | false => exact absurd hs (am_go_do hsp _)
  | true =>
    cases i <;> first | exact Bool.noConfusion (show false = true from hsp) | skip
    case new k => exact v_throw hc hs
    case invokestatic k =>
      simp only [am_do] at hs
      split at hs
      · split at hs
        · exact (am_cs_fin hs).elim
        · cases hs
      · split at hs
        · split at hs
          · split at hs <;> cases hs
          · cases hs
        · split at hs
          · split at hs
            · split at hs <;> cases hs
            · cases hs
          · cases hs
    case invokevirtual k =>
      simp only [am_do] at hs
      split at hs
      · split at hs
        · exact (am_cs_fin hs).elim
        · cases hs
      · cases hs
    case invokespecial k =>
      simp only [am_do] at hs
      split at hs
      · split at hs
        · exact (am_cs_fin hs).elim
        · cases hs
      · split at hs
        · exact absurd hs (am_go_r1 (fun _ _ _ => by
            split
            · exact am_go_nx
            · exact am_go_0) _)
        · cases hs
    case invokeinterface k c9 =>
      simp only [am_do] at hs
      split at hs
      · split at hs
        · exact (am_cs_fin hs).elim
        · cases hs
      · cases hs
    case return_ =>
      have hn := am_lt_of_beq (am_len hc)
      subst hn
      simp only [am_do] at hs
      split at hs
      · rename_i hg
        cases hs
        exact v_ans hc hg.2 ⟨rfl, hg.1⟩
      · cases hs
    case ireturn =>
      have hn := am_lt_of_beq (am_len hc)
      subst hn
      simp only [am_do] at hs
      split at hs
      · split at hs
        · rename_i hg
          cases hs
          exact v_ans hc rfl ⟨rfl, hg⟩
        · cases hs
      · cases hs
    case freturn =>
      have hn := am_lt_of_beq (am_len hc)
      subst hn
      simp only [am_do] at hs
      split at hs
      · split at hs
        · rename_i hg
          cases hs
          exact v_ans hc rfl ⟨rfl, hg⟩
        · cases hs
      · cases hs
    case areturn =>
      have hn := am_lt_of_beq (am_len hc)
      subst hn
      simp only [am_do] at hs
      split at hs
      · split at hs
        · rename_i hg
          cases hs
          exact v_ans hc rfl ⟨rfl, Or.inl ⟨_, hg⟩⟩
        · rename_i hg
          cases hs
          exact v_ans hc rfl ⟨rfl, Or.inr ⟨_, hg⟩⟩
        · cases hs
      · cases hs
theorem am_sound (hco : am_CO G l) : ∀ (n d y pc : Nat) (ls : List (Option am_V)) (st : List am_V) (h : am_H) (o : am_O) (h' : am_H), am_run d n y pc ls st h = some (o, h') → am_P G l d y o h' pc ls st h := by
  intro n
  induction n with
  | zero => intro d y pc ls st h o h' e; cases e
  | succ n ih =>
    intro d y pc ls st h o h' e
    rw [am_run_s] at e
    cases hs : am_step y pc ls st h with
    | none => rw [hs] at e; cases e
    | some x =>
      rw [hs] at e
      unfold am_step at hs
      split at hs
      · rename_i i nn hc
        rcases x with ⟨pc', ls', st', h2⟩ | ⟨y', as, pc', rest⟩ | ⟨o', h2⟩
        · exact v_step hco hc hs (ih _ _ _ _ _ _ _ _ e) (am_mo_run _ _ _ _ _ _ _ _ _ e)
        · cases d with
          | zero => cases e
          | succ d' =>
            dsimp only at e
            cases hr : am_run d' n y' 0 (am_lo (am_ml y') as) [] h with
            | none => rw [hr] at e; cases e
            | some z =>
              rw [hr] at e
              obtain ⟨o1, h1⟩ := z
              have hmo := am_mo_run _ _ _ _ _ _ _ _ _ hr
              rcases o1 with (_ | v) | q
              · exact v_call hc hs (ih _ _ _ _ _ _ _ _ hr) hmo (am_mo_run _ _ _ _ _ _ _ _ _ e) (ih _ _ _ _ _ _ _ _ e)
              · exact v_call hc hs (ih _ _ _ _ _ _ _ _ hr) hmo (am_mo_run _ _ _ _ _ _ _ _ _ e) (ih _ _ _ _ _ _ _ _ e)
              · dsimp only at e
                split at e
                · rename_i hp hh
                  split at e
                  · rename_i k p' hk
                    split at e
                    · rename_i hl
                      exact v_call hc hs (ih _ _ _ _ _ _ _ _ hr) hmo (am_mo_run _ _ _ _ _ _ _ _ _ e) (Or.inl ⟨hp, k, p', hh, hk, hl, ih _ _ _ _ _ _ _ _ e⟩)
                    · cases e
                  · cases e
                · split at e
                  · rename_i hz
                    cases e
                    exact v_call hc hs (ih _ _ _ _ _ _ _ _ hr) hmo ⟨Nat.le_refl _, Nat.le_refl _⟩ (Or.inr ⟨hz, rfl, rfl⟩)
                  · cases e
        · cases e
          exact v_end hc hs
      · cases hs
end SOUND
end

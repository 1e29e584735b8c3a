/-! What a run of the clean machine comes to; a row an instruction. -/
theorem am_run_s (d n y pc : Nat) (ls : List (Option am_V)) (st : List am_V) (h : am_H) : am_run d (n + 1) y pc ls st h = match am_step y pc ls st h with
    | none => none
    | some (.inl (pc', ls', st', h')) => am_run d n y pc' ls' st' h'
    | some (.inr (.inr r)) => some r
    | some (.inr (.inl (y', as, pc', rest))) => match d with
      | 0 => none
      | d' + 1 => match am_run d' n y' 0 (am_lo (am_ml y') as) [] h with
        | none => none
        | some (.inl none, h') => am_run (d' + 1) n y pc' ls rest h'
        | some (.inl (some v), h') => am_run (d' + 1) n y pc' ls (v :: rest) h'
        | some (.inr q, h') => match am_hnd (am_hh y) pc q with
          | some hp => match am_hs y hp with
            | some (k, p') => if k < ls.length then am_run (d' + 1) n y p' (ls.set k none) [] h' else none
            | none => none
          | none => match am_hh y with
            | [] => some (.inr q, h')
            | _ :: _ => none := rfl
theorem am_mono1 : ∀ (n d y pc : Nat) (ls : List (Option am_V)) (st : List am_V) (h : am_H) (r : am_O × am_H), am_run d n y pc ls st h = some r → am_run d (n + 1) y pc ls st h = some r := by
  intro n
  induction n with
  | zero => intro d y pc ls st h r e; cases e
  | succ n ih =>
    intro d y pc ls st h r e
    rw [am_run_s] at e ⊢
    cases hs : am_step y pc ls st h with
    | none => rw [hs] at e; cases e
    | some x =>
      rw [hs] at e
      rcases x with ⟨pc', ls', st', h'⟩ | ⟨y', as, pc', rest⟩ | r'
      · exact ih _ _ _ _ _ _ _ e
      · cases d with
        | zero => cases e
        | succ d' =>
          dsimp only at e ⊢
          cases hr : am_run d' n y' 0 (am_lo (am_ml y') as) [] h with
          | none => rw [hr] at e; cases e
          | some z =>
            rw [hr] at e
            rw [ih _ _ _ _ _ _ _ hr]
            rcases z with ⟨(_ | v) | q, h'⟩
            · exact ih _ _ _ _ _ _ _ e
            · exact ih _ _ _ _ _ _ _ e
            · dsimp only at e ⊢
              cases hh : am_hnd (am_hh y) pc q with
              | none => rw [hh] at e; exact e
              | some hp =>
                rw [hh] at e
                dsimp only at e ⊢
                cases hk : am_hs y hp with
                | none => rw [hk] at e; cases e
                | some x =>
                  rw [hk] at e
                  dsimp only at e ⊢
                  by_cases hl : x.1 < ls.length
                  · rw [if_pos hl] at e ⊢
                    exact ih _ _ _ _ _ _ _ e
                  · rw [if_neg hl] at e
                    cases e
      · exact e
theorem am_mono {n m d y pc : Nat} {ls : List (Option am_V)} {st : List am_V} {h : am_H} {r : am_O × am_H} (hm : n ≤ m) (e : am_run d n y pc ls st h = some r) : am_run d m y pc ls st h = some r := by
  obtain ⟨k, rfl⟩ := Nat.le.dest hm
  clear hm
  induction k with
  | zero => exact e
  | succ k ih => exact am_mono1 _ _ _ _ _ _ _ _ ih
theorem am_deep1 : ∀ (n d y pc : Nat) (ls : List (Option am_V)) (st : List am_V) (h : am_H) (r : am_O × am_H), am_run d n y pc ls st h = some r → am_run (d + 1) n y pc ls st h = some r := by
  intro n
  induction n with
  | zero => intro d y pc ls st h r e; cases e
  | succ n ih =>
    intro d y pc ls st h r e
    rw [am_run_s] at e ⊢
    cases hs : am_step y pc ls st h with
    | none => rw [hs] at e; cases e
    | some x =>
      rw [hs] at e
      rcases x with ⟨pc', ls', st', h'⟩ | ⟨y', as, pc', rest⟩ | r'
      · exact ih _ _ _ _ _ _ _ e
      · cases d with
        | zero => cases e
        | succ d' =>
          dsimp only at e ⊢
          cases hr : am_run d' n y' 0 (am_lo (am_ml y') as) [] h with
          | none => rw [hr] at e; cases e
          | some z =>
            rw [hr] at e
            rw [ih _ _ _ _ _ _ _ hr]
            rcases z with ⟨(_ | v) | q, h'⟩
            · exact ih _ _ _ _ _ _ _ e
            · exact ih _ _ _ _ _ _ _ e
            · dsimp only at e ⊢
              cases hh : am_hnd (am_hh y) pc q with
              | none => rw [hh] at e; exact e
              | some hp =>
                rw [hh] at e
                dsimp only at e ⊢
                cases hk : am_hs y hp with
                | none => rw [hk] at e; cases e
                | some x =>
                  rw [hk] at e
                  dsimp only at e ⊢
                  by_cases hl : x.1 < ls.length
                  · rw [if_pos hl] at e ⊢
                    exact ih _ _ _ _ _ _ _ e
                  · rw [if_neg hl] at e
                    cases e
      · exact e
theorem am_deep {n d d2 y pc : Nat} {ls : List (Option am_V)} {st : List am_V} {h : am_H} {r : am_O × am_H} (hm : d ≤ d2) (e : am_run d n y pc ls st h = some r) : am_run d2 n y pc ls st h = some r := by
  obtain ⟨k, rfl⟩ := Nat.le.dest hm
  clear hm
  induction k with
  | zero => exact e
  | succ k ih => exact am_deep1 _ _ _ _ _ _ _ _ ih
/-- from this frame the run ends, with Q -/
def am_W (d y pc : Nat) (ls : List (Option am_V)) (st : List am_V) (h : am_H) (Q : am_O → am_H → Prop) : Prop := ∃ (n : Nat) (o : am_O) (h' : am_H), am_run d n y pc ls st h = some (o, h') ∧ Q o h'
/-- the call of a method ends, with Q -/
def am_C (d y : Nat) (as : List am_V) (h : am_H) (Q : am_O → am_H → Prop) : Prop := am_W d y 0 (am_lo (am_ml y) as) [] h Q
theorem am_C_i {d y : Nat} {as : List am_V} {h : am_H} {Q : am_O → am_H → Prop} {ls : List (Option am_V)} (hl : am_lo (am_ml y) as = ls) (k : am_W d y 0 ls [] h Q) : am_C d y as h Q := by subst hl; exact k
theorem am_W_imp {d y pc : Nat} {ls : List (Option am_V)} {st : List am_V} {h : am_H} {Q Q' : am_O → am_H → Prop} (k : am_W d y pc ls st h Q) (hq : ∀ o h', Q o h' → Q' o h') : am_W d y pc ls st h Q' := by
  obtain ⟨n, o, h', e, q⟩ := k
  exact ⟨n, o, h', e, hq _ _ q⟩
theorem am_C_imp {d y : Nat} {as : List am_V} {h : am_H} {Q Q' : am_O → am_H → Prop} (k : am_C d y as h Q) (hq : ∀ o h', Q o h' → Q' o h') : am_C d y as h Q' := am_W_imp k hq
theorem am_C_deep {d d2 y : Nat} {as : List am_V} {h : am_H} {Q : am_O → am_H → Prop} (k : am_C d y as h Q) (hd : d ≤ d2) : am_C d2 y as h Q := by
  obtain ⟨n, o, h', e, q⟩ := k
  exact ⟨n, o, h', am_deep hd e, q⟩
noncomputable section ROWS
variable {d y pc p t : Nat} {ls : List (Option am_V)} {st : List am_V} {h : am_H} {Q : am_O → am_H → Prop}
theorem am_nxt {ls' : List (Option am_V)} {st' : List am_V} {h' : am_H} (hs : am_step y pc ls st h = some (.inl (p, ls', st', h'))) (k : am_W d y p ls' st' h' Q) : am_W d y pc ls st h Q := by
  obtain ⟨n, o, h2, e, q⟩ := k
  exact ⟨n + 1, o, h2, by rw [am_run_s, hs]; exact e, q⟩
theorem am_end {o : am_O} {h' : am_H} (hs : am_step y pc ls st h = some (.inr (.inr (o, h')))) (k : Q o h') : am_W d y pc ls st h Q := ⟨1, o, h', by rw [am_run_s, hs], k⟩
theorem am_call {y' d0 : Nat} {as r : List am_V} {Q1 : am_O → am_H → Prop} (hs : am_step y pc ls st h = some (.inr (.inl (y', as, p, r)))) (hC : am_C d0 y' as h Q1) (hd : d0 ≤ d)
    (kk : ∀ o h', Q1 o h' → match o with
      | .inl none => am_W (d + 1) y p ls r h' Q
      | .inl (some v) => am_W (d + 1) y p ls (v :: r) h' Q
      | .inr q => match am_hnd (am_hh y) pc q with | some hp => (match am_hs y hp with | some (k, p') => k < ls.length ∧ am_W (d + 1) y p' (ls.set k none) [] h' Q | none => False) | none => am_hh y = [] ∧ Q (.inr q) h') : am_W (d + 1) y pc ls st h Q := by
  obtain ⟨n1, o1, h1, e1, q1⟩ := am_C_deep hC hd
  have k := kk o1 h1 q1
  rcases o1 with (_ | v) | q
  · obtain ⟨n2, o, h2, e2, q2⟩ := k
    exact ⟨n1 + n2 + 1, o, h2, by rw [am_run_s, hs]; dsimp only; rw [am_mono (Nat.le_add_right n1 n2) e1]; exact am_mono (Nat.le_add_left n2 n1) e2, q2⟩
  · obtain ⟨n2, o, h2, e2, q2⟩ := k
    exact ⟨n1 + n2 + 1, o, h2, by rw [am_run_s, hs]; dsimp only; rw [am_mono (Nat.le_add_right n1 n2) e1]; exact am_mono (Nat.le_add_left n2 n1) e2, q2⟩
  · dsimp only at k
    cases hh : am_hnd (am_hh y) pc q with
    | none =>
      rw [hh] at k
      exact ⟨n1 + 1, .inr q, h1, by rw [am_run_s, hs]; dsimp only; rw [e1]; dsimp only; rw [hh]; dsimp only; rw [k.1], k.2⟩
    | some hp =>
      rw [hh] at k
      dsimp only at k
      cases hk : am_hs y hp with
      | none => rw [hk] at k; exact k.elim
      | some x =>
        rw [hk] at k
        obtain ⟨hl, n2, o, h2, e2, q2⟩ := k
        exact ⟨n1 + n2 + 1, o, h2, by rw [am_run_s, hs]; dsimp only; rw [am_mono (Nat.le_add_right n1 n2) e1]; dsimp only; rw [hh]; dsimp only; rw [hk]; dsimp only; rw [if_pos hl]; exact am_mono (Nat.le_add_left n2 n1) e2, q2⟩
/-- the instruction at a place, and the next place -/
def am_c (y pc : Nat) : Option (Instr × Nat) := match am_cd y pc with | some (i, n) => some (i, pc + n) | none => none
theorem am_c_s {i : Instr} (hc : am_c y pc = some (i, p)) : ∃ n, am_cd y pc = some (i, n) ∧ p = pc + n := by
  unfold am_c at hc
  cases hd : am_cd y pc with
  | none => rw [hd] at hc; cases hc
  | some x => obtain ⟨i', n⟩ := x; rw [hd] at hc; cases hc; exact ⟨n, rfl, rfl⟩
theorem s_iconst {i : Int} {x : Int32} (hc : am_c y pc = some (.iconst i, p)) (hx : Int32.ofInt i = x) (k : am_W d y p ls (aI x :: st) h Q) : am_W d y pc ls (st) h Q := by
  obtain ⟨n, e, rfl⟩ := am_c_s hc
  exact am_nxt (by simp [am_step, e, am_do, am_nx, hx]) k
theorem s_bipush {i : Int} {x : Int32} (hc : am_c y pc = some (.bipush i, p)) (hx : (Int8.ofInt i).toInt32 = x) (k : am_W d y p ls (aI x :: st) h Q) : am_W d y pc ls (st) h Q := by
  obtain ⟨n, e, rfl⟩ := am_c_s hc
  exact am_nxt (by simp [am_step, e, am_do, am_nx, hx]) k
theorem s_sipush {i : Int} {x : Int32} (hc : am_c y pc = some (.sipush i, p)) (hx : (Int16.ofInt i).toInt32 = x) (k : am_W d y p ls (aI x :: st) h Q) : am_W d y pc ls (st) h Q := by
  obtain ⟨n, e, rfl⟩ := am_c_s hc
  exact am_nxt (by simp [am_step, e, am_do, am_nx, hx]) k
theorem s_lconst {i : Fin 2} {x : Int64} (hc : am_c y pc = some (.lconst i, p)) (hx : Int64.ofNat (i : Nat) = x) (k : am_W d y p ls (aJ x :: st) h Q) : am_W d y pc ls (st) h Q := by
  obtain ⟨n, e, rfl⟩ := am_c_s hc
  exact am_nxt (by simp [am_step, e, am_do, am_nx, hx]) k
theorem s_fconst  (hc : am_c y pc = some (.fconst 0, p)) (k : am_W d y p ls (aF FP.fconst0 :: st) h Q) : am_W d y pc ls (st) h Q := by
  obtain ⟨n, e, rfl⟩ := am_c_s hc
  exact am_nxt (by simp [am_step, e, am_do, am_nx]) k
theorem s_null  (hc : am_c y pc = some (.aconst_null, p)) (k : am_W d y p ls (aN :: st) h Q) : am_W d y pc ls (st) h Q := by
  obtain ⟨n, e, rfl⟩ := am_c_s hc
  exact am_nxt (by simp [am_step, e, am_do, am_nx]) k
theorem s_iload {i : Nat} {x : Int32} (hc : am_c y pc = some (.iload i, p)) (hl : ls[i]? = some (some (aI x))) (k : am_W d y p ls (aI x :: st) h Q) : am_W d y pc ls (st) h Q := by
  obtain ⟨n, e, rfl⟩ := am_c_s hc
  exact am_nxt (by simp [am_step, e, am_do, am_nx, am_ld, hl, am_isI]) k
theorem s_iload_n {i : Fin 4} {x : Int32} (hc : am_c y pc = some (.iload_n i, p)) (hl : ls[(i : Nat)]? = some (some (aI x))) (k : am_W d y p ls (aI x :: st) h Q) : am_W d y pc ls (st) h Q := by
  obtain ⟨n, e, rfl⟩ := am_c_s hc
  exact am_nxt (by simp [am_step, e, am_do, am_nx, am_ld, hl, am_isI]) k
theorem s_aload {i : Nat} {x : Option am_R} (hc : am_c y pc = some (.aload i, p)) (hl : ls[i]? = some (some (aO x))) (k : am_W d y p ls (aO x :: st) h Q) : am_W d y pc ls (st) h Q := by
  obtain ⟨n, e, rfl⟩ := am_c_s hc
  exact am_nxt (by simp [am_step, e, am_do, am_nx, am_ld, hl, am_isO]) k
theorem s_aload_n {i : Fin 4} {x : Option am_R} (hc : am_c y pc = some (.aload_n i, p)) (hl : ls[(i : Nat)]? = some (some (aO x))) (k : am_W d y p ls (aO x :: st) h Q) : am_W d y pc ls (st) h Q := by
  obtain ⟨n, e, rfl⟩ := am_c_s hc
  exact am_nxt (by simp [am_step, e, am_do, am_nx, am_ld, hl, am_isO]) k
theorem s_fload {i : Nat} {x : UInt32} (hc : am_c y pc = some (.fload i, p)) (hl : ls[i]? = some (some (aF x))) (k : am_W d y p ls (aF x :: st) h Q) : am_W d y pc ls (st) h Q := by
  obtain ⟨n, e, rfl⟩ := am_c_s hc
  exact am_nxt (by simp [am_step, e, am_do, am_nx, am_ld, hl, am_isF]) k
theorem s_iadd {a b : Int32} (hc : am_c y pc = some (.iadd, p)) (k : am_W d y p ls (aI (a + b) :: st) h Q) : am_W d y pc ls (aI b :: aI a :: st) h Q := by
  obtain ⟨n, e, rfl⟩ := am_c_s hc
  exact am_nxt (by simp [am_step, e, am_do, am_nx, am_i2]) k
theorem s_isub {a b : Int32} (hc : am_c y pc = some (.isub, p)) (k : am_W d y p ls (aI (a - b) :: st) h Q) : am_W d y pc ls (aI b :: aI a :: st) h Q := by
  obtain ⟨n, e, rfl⟩ := am_c_s hc
  exact am_nxt (by simp [am_step, e, am_do, am_nx, am_i2]) k
theorem s_imul {a b : Int32} (hc : am_c y pc = some (.imul, p)) (k : am_W d y p ls (aI (a * b) :: st) h Q) : am_W d y pc ls (aI b :: aI a :: st) h Q := by
  obtain ⟨n, e, rfl⟩ := am_c_s hc
  exact am_nxt (by simp [am_step, e, am_do, am_nx, am_i2]) k
theorem s_iand {a b : Int32} (hc : am_c y pc = some (.iand, p)) (k : am_W d y p ls (aI (a &&& b) :: st) h Q) : am_W d y pc ls (aI b :: aI a :: st) h Q := by
  obtain ⟨n, e, rfl⟩ := am_c_s hc
  exact am_nxt (by simp [am_step, e, am_do, am_nx, am_i2]) k
theorem s_ixor {a b : Int32} (hc : am_c y pc = some (.ixor, p)) (k : am_W d y p ls (aI (a ^^^ b) :: st) h Q) : am_W d y pc ls (aI b :: aI a :: st) h Q := by
  obtain ⟨n, e, rfl⟩ := am_c_s hc
  exact am_nxt (by simp [am_step, e, am_do, am_nx, am_i2]) k
theorem s_ishr {a b : Int32} (hc : am_c y pc = some (.ishr, p)) (k : am_W d y p ls (aI (a >>> (b &&& 31)) :: st) h Q) : am_W d y pc ls (aI b :: aI a :: st) h Q := by
  obtain ⟨n, e, rfl⟩ := am_c_s hc
  exact am_nxt (by simp [am_step, e, am_do, am_nx, am_i2]) k
theorem s_idiv {a b : Int32} (hc : am_c y pc = some (.idiv, p)) (hb : ¬ b = 0) (k : am_W d y p ls (aI (a / b) :: st) h Q) : am_W d y pc ls (aI b :: aI a :: st) h Q := by
  obtain ⟨n, e, rfl⟩ := am_c_s hc
  exact am_nxt (by simp [am_step, e, am_do, am_nx, am_i2, hb]) k
theorem s_irem {a b : Int32} (hc : am_c y pc = some (.irem, p)) (hb : ¬ b = 0) (k : am_W d y p ls (aI (a - a / b * b) :: st) h Q) : am_W d y pc ls (aI b :: aI a :: st) h Q := by
  obtain ⟨n, e, rfl⟩ := am_c_s hc
  exact am_nxt (by simp [am_step, e, am_do, am_nx, am_i2, hb]) k
theorem s_i2l {a : Int32} (hc : am_c y pc = some (.i2l, p)) (k : am_W d y p ls (aJ a.toInt64 :: st) h Q) : am_W d y pc ls (aI a :: st) h Q := by
  obtain ⟨n, e, rfl⟩ := am_c_s hc
  exact am_nxt (by simp [am_step, e, am_do, am_nx, am_i1]) k
theorem s_i2f {a : Int32} (hc : am_c y pc = some (.i2f, p)) (k : am_W d y p ls (aF (FP.i2f a) :: st) h Q) : am_W d y pc ls (aI a :: st) h Q := by
  obtain ⟨n, e, rfl⟩ := am_c_s hc
  exact am_nxt (by simp [am_step, e, am_do, am_nx, am_i1]) k
theorem s_lcmp {a b : Int64} (hc : am_c y pc = some (.lcmp, p)) (k : am_W d y p ls (aI (lg_cmp a b) :: st) h Q) : am_W d y pc ls (aJ b :: aJ a :: st) h Q := by
  obtain ⟨n, e, rfl⟩ := am_c_s hc
  exact am_nxt (by simp [am_step, e, am_do, am_nx]) k
theorem s_fdiv {a b : UInt32} (hc : am_c y pc = some (.fdiv, p)) (hn : FP.fdiv a b &&& 0x7fffffff ≤ 0x7f800000) (k : am_W d y p ls (aF (FP.fdiv a b) :: st) h Q) : am_W d y pc ls (aF b :: aF a :: st) h Q := by
  obtain ⟨n, e, rfl⟩ := am_c_s hc
  exact am_nxt (by simp [am_step, e, am_do, am_nx, hn]) k
theorem s_f2d {a : UInt32} (hc : am_c y pc = some (.f2d, p)) (hn : FP.f2d a &&& 0x7fffffffffffffff ≤ 0x7ff0000000000000) (k : am_W d y p ls (aD (FP.f2d a) :: st) h Q) : am_W d y pc ls (aF a :: st) h Q := by
  obtain ⟨n, e, rfl⟩ := am_c_s hc
  exact am_nxt (by simp [am_step, e, am_do, am_nx, hn]) k
theorem s_dcmp {a b : UInt64} {op : CmpOp} (hc : am_c y pc = some (.dcmp op, p)) (k : am_W d y p ls (aI (Op.cmpValue (FP.dcmp a b) op) :: st) h Q) : am_W d y pc ls (aD b :: aD a :: st) h Q := by
  obtain ⟨n, e, rfl⟩ := am_c_s hc
  exact am_nxt (by simp [am_step, e, am_do, am_nx]) k
theorem s_fcmp {a b : UInt32} {op : CmpOp} (hc : am_c y pc = some (.fcmp op, p)) (k : am_W d y p ls (aI (Op.cmpValue (FP.fcmp a b) op) :: st) h Q) : am_W d y pc ls (aF b :: aF a :: st) h Q := by
  obtain ⟨n, e, rfl⟩ := am_c_s hc
  exact am_nxt (by simp [am_step, e, am_do, am_nx]) k
theorem s_dup {v : am_V} (hc : am_c y pc = some (.dup, p)) (hv : am_cat v = 1) (k : am_W d y p ls (v :: v :: st) h Q) : am_W d y pc ls (v :: st) h Q := by
  obtain ⟨n, e, rfl⟩ := am_c_s hc
  exact am_nxt (by simp [am_step, e, am_do, am_nx, hv]) k
theorem s_pop {v : am_V} (hc : am_c y pc = some (.pop, p)) (hv : am_cat v = 1) (k : am_W d y p ls (st) h Q) : am_W d y pc ls (v :: st) h Q := by
  obtain ⟨n, e, rfl⟩ := am_c_s hc
  exact am_nxt (by simp [am_step, e, am_do, am_nx, hv]) k
theorem s_dup_x1 {v w : am_V} (hc : am_c y pc = some (.dup_x1, p)) (hv : am_cat v = 1) (hw : am_cat w = 1) (k : am_W d y p ls (v :: w :: v :: st) h Q) : am_W d y pc ls (v :: w :: st) h Q := by
  obtain ⟨n, e, rfl⟩ := am_c_s hc
  exact am_nxt (by simp [am_step, e, am_do, am_nx, hv, hw]) k
theorem s_dup2 {v w : am_V} (hc : am_c y pc = some (.dup2, p)) (hv : am_cat v = 1) (hw : am_cat w = 1) (k : am_W d y p ls (v :: w :: v :: w :: st) h Q) : am_W d y pc ls (v :: w :: st) h Q := by
  obtain ⟨n, e, rfl⟩ := am_c_s hc
  exact am_nxt (by simp [am_step, e, am_do, am_nx, hv, hw]) k
theorem s_goto {off : Int} (hc : am_c y pc = some (.goto off, p)) (ht : am_tg pc off = some t) (k : am_W d y t ls st h Q) : am_W d y pc ls st h Q := by
  obtain ⟨n, e, rfl⟩ := am_c_s hc
  exact am_nxt (by simp [am_step, e, am_do, am_jp, ht, am_nx]) k
theorem am_brk {b : Prop} [Decidable b] {n : Nat} {off : Int} {st' : List am_V} (hs : am_step y pc ls st h = am_br b pc n off ls st' h) (ht : am_tg pc off = some t) (kt : b → am_W d y t ls st' h Q) (kf : ¬ b → am_W d y (pc + n) ls st' h Q) : am_W d y pc ls st h Q := by
  by_cases hb : b
  · exact am_nxt (by rw [hs]; simp [am_br, hb, ht, am_nx]) (kt hb)
  · exact am_nxt (by rw [hs]; simp [am_br, hb, ht, am_nx]) (kf hb)
theorem s_if_eq {a : Int32} {off : Int} (hc : am_c y pc = some (.ifCond .eq off, p)) (ht : am_tg pc off = some t) (kt : a = 0 → am_W d y t ls st h Q) (kf : ¬ (a = 0) → am_W d y p ls st h Q) : am_W d y pc ls (aI a :: st) h Q := by
  obtain ⟨n, e, rfl⟩ := am_c_s hc
  exact am_brk (by simp only [am_step, e, am_do, am_i1]) ht kt kf
theorem s_if_ne {a : Int32} {off : Int} (hc : am_c y pc = some (.ifCond .ne off, p)) (ht : am_tg pc off = some t) (kt : ¬ a = 0 → am_W d y t ls st h Q) (kf : ¬ (¬ a = 0) → am_W d y p ls st h Q) : am_W d y pc ls (aI a :: st) h Q := by
  obtain ⟨n, e, rfl⟩ := am_c_s hc
  exact am_brk (by simp only [am_step, e, am_do, am_i1]) ht kt kf
theorem s_if_lt {a : Int32} {off : Int} (hc : am_c y pc = some (.ifCond .lt off, p)) (ht : am_tg pc off = some t) (kt : a < 0 → am_W d y t ls st h Q) (kf : ¬ (a < 0) → am_W d y p ls st h Q) : am_W d y pc ls (aI a :: st) h Q := by
  obtain ⟨n, e, rfl⟩ := am_c_s hc
  exact am_brk (by simp only [am_step, e, am_do, am_i1]) ht kt kf
theorem s_if_ge {a : Int32} {off : Int} (hc : am_c y pc = some (.ifCond .ge off, p)) (ht : am_tg pc off = some t) (kt : 0 ≤ a → am_W d y t ls st h Q) (kf : ¬ (0 ≤ a) → am_W d y p ls st h Q) : am_W d y pc ls (aI a :: st) h Q := by
  obtain ⟨n, e, rfl⟩ := am_c_s hc
  exact am_brk (by simp only [am_step, e, am_do, am_i1]) ht kt kf
theorem s_if_gt {a : Int32} {off : Int} (hc : am_c y pc = some (.ifCond .gt off, p)) (ht : am_tg pc off = some t) (kt : 0 < a → am_W d y t ls st h Q) (kf : ¬ (0 < a) → am_W d y p ls st h Q) : am_W d y pc ls (aI a :: st) h Q := by
  obtain ⟨n, e, rfl⟩ := am_c_s hc
  exact am_brk (by simp only [am_step, e, am_do, am_i1]) ht kt kf
theorem s_if_le {a : Int32} {off : Int} (hc : am_c y pc = some (.ifCond .le off, p)) (ht : am_tg pc off = some t) (kt : a ≤ 0 → am_W d y t ls st h Q) (kf : ¬ (a ≤ 0) → am_W d y p ls st h Q) : am_W d y pc ls (aI a :: st) h Q := by
  obtain ⟨n, e, rfl⟩ := am_c_s hc
  exact am_brk (by simp only [am_step, e, am_do, am_i1]) ht kt kf
theorem s_icmp_eq {a b : Int32} {off : Int} (hc : am_c y pc = some (.if_icmp .eq off, p)) (ht : am_tg pc off = some t) (kt : a = b → am_W d y t ls st h Q) (kf : ¬ (a = b) → am_W d y p ls st h Q) : am_W d y pc ls (aI b :: aI a :: st) h Q := by
  obtain ⟨n, e, rfl⟩ := am_c_s hc
  exact am_brk (by simp only [am_step, e, am_do, am_i2]) ht kt kf
theorem s_icmp_ne {a b : Int32} {off : Int} (hc : am_c y pc = some (.if_icmp .ne off, p)) (ht : am_tg pc off = some t) (kt : ¬ a = b → am_W d y t ls st h Q) (kf : ¬ (¬ a = b) → am_W d y p ls st h Q) : am_W d y pc ls (aI b :: aI a :: st) h Q := by
  obtain ⟨n, e, rfl⟩ := am_c_s hc
  exact am_brk (by simp only [am_step, e, am_do, am_i2]) ht kt kf
theorem s_icmp_lt {a b : Int32} {off : Int} (hc : am_c y pc = some (.if_icmp .lt off, p)) (ht : am_tg pc off = some t) (kt : a < b → am_W d y t ls st h Q) (kf : ¬ (a < b) → am_W d y p ls st h Q) : am_W d y pc ls (aI b :: aI a :: st) h Q := by
  obtain ⟨n, e, rfl⟩ := am_c_s hc
  exact am_brk (by simp only [am_step, e, am_do, am_i2]) ht kt kf
theorem s_icmp_ge {a b : Int32} {off : Int} (hc : am_c y pc = some (.if_icmp .ge off, p)) (ht : am_tg pc off = some t) (kt : b ≤ a → am_W d y t ls st h Q) (kf : ¬ (b ≤ a) → am_W d y p ls st h Q) : am_W d y pc ls (aI b :: aI a :: st) h Q := by
  obtain ⟨n, e, rfl⟩ := am_c_s hc
  exact am_brk (by simp only [am_step, e, am_do, am_i2]) ht kt kf
theorem s_icmp_gt {a b : Int32} {off : Int} (hc : am_c y pc = some (.if_icmp .gt off, p)) (ht : am_tg pc off = some t) (kt : b < a → am_W d y t ls st h Q) (kf : ¬ (b < a) → am_W d y p ls st h Q) : am_W d y pc ls (aI b :: aI a :: st) h Q := by
  obtain ⟨n, e, rfl⟩ := am_c_s hc
  exact am_brk (by simp only [am_step, e, am_do, am_i2]) ht kt kf
theorem s_icmp_le {a b : Int32} {off : Int} (hc : am_c y pc = some (.if_icmp .le off, p)) (ht : am_tg pc off = some t) (kt : a ≤ b → am_W d y t ls st h Q) (kf : ¬ (a ≤ b) → am_W d y p ls st h Q) : am_W d y pc ls (aI b :: aI a :: st) h Q := by
  obtain ⟨n, e, rfl⟩ := am_c_s hc
  exact am_brk (by simp only [am_step, e, am_do, am_i2]) ht kt kf
theorem s_acmp_eq {a b : Option am_R} {off : Int} (hc : am_c y pc = some (.if_acmp .eq off, p)) (ht : am_tg pc off = some t) (kt : a = b → am_W d y t ls st h Q) (kf : ¬ (a = b) → am_W d y p ls st h Q) : am_W d y pc ls (aO b :: aO a :: st) h Q := by
  obtain ⟨n, e, rfl⟩ := am_c_s hc
  exact am_brk (by simp only [am_step, e, am_do]) ht kt kf
theorem s_acmp_ne {a b : Option am_R} {off : Int} (hc : am_c y pc = some (.if_acmp .ne off, p)) (ht : am_tg pc off = some t) (kt : ¬ a = b → am_W d y t ls st h Q) (kf : ¬ (¬ a = b) → am_W d y p ls st h Q) : am_W d y pc ls (aO b :: aO a :: st) h Q := by
  obtain ⟨n, e, rfl⟩ := am_c_s hc
  exact am_brk (by simp only [am_step, e, am_do]) ht kt kf
theorem s_ifnull {a : Option am_R} {off : Int} (hc : am_c y pc = some (.ifnull off, p)) (ht : am_tg pc off = some t) (kn : a = none → am_W d y t ls st h Q) (ks : ∀ r, a = some r → am_W d y p ls st h Q) : am_W d y pc ls (aO a :: st) h Q := by
  obtain ⟨n, e, rfl⟩ := am_c_s hc
  cases a with
  | none => exact am_nxt (by simp [am_step, e, am_do, am_jp, ht, am_nx]) (kn rfl)
  | some r => exact am_nxt (by simp [am_step, e, am_do, am_jp, ht, am_nx]) (ks r rfl)
theorem s_ifnonnull {a : Option am_R} {off : Int} (hc : am_c y pc = some (.ifnonnull off, p)) (ht : am_tg pc off = some t) (kn : a = none → am_W d y p ls st h Q) (ks : ∀ r, a = some r → am_W d y t ls st h Q) : am_W d y pc ls (aO a :: st) h Q := by
  obtain ⟨n, e, rfl⟩ := am_c_s hc
  cases a with
  | none => exact am_nxt (by simp [am_step, e, am_do, am_jp, ht, am_nx]) (kn rfl)
  | some r => exact am_nxt (by simp [am_step, e, am_do, am_jp, ht, am_nx]) (ks r rfl)
theorem s_sw {a : Int32} {df lo hi off : Int} {offs : Array Int} {j : Nat} (hc : am_c y pc = some (.tableswitch df lo hi offs, p)) (h1 : ¬ (a.toInt < lo ∨ hi < a.toInt)) (hj : (a.toInt - lo).toNat = j) (ho : offs[j]? = some off) (ht : am_tg pc off = some t) (k : am_W d y t ls st h Q) : am_W d y pc ls (aI a :: st) h Q := by
  obtain ⟨n, e, rfl⟩ := am_c_s hc
  subst hj
  exact am_nxt (by simp only [am_step, e, am_do, am_i1, am_sw, if_neg h1, ho, am_jp, ht, am_nx]) k
theorem s_swd {a : Int32} {df lo hi : Int} {offs : Array Int} (hc : am_c y pc = some (.tableswitch df lo hi offs, p)) (h1 : a.toInt < lo ∨ hi < a.toInt) (ht : am_tg pc df = some t) (k : am_W d y t ls st h Q) : am_W d y pc ls (aI a :: st) h Q := by
  obtain ⟨n, e, rfl⟩ := am_c_s hc
  exact am_nxt (by simp only [am_step, e, am_do, am_i1, am_sw, if_pos h1, am_jp, ht, am_nx]) k
theorem s_ldc {i : Nat} {x : Int32} (hc : am_c y pc = some (.ldc i, p)) (hx : am_kt (am_K y i) = some x) (k : am_W d y p ls (aI x :: st) h Q) : am_W d y pc ls st h Q := by
  obtain ⟨n, e, rfl⟩ := am_c_s hc
  exact am_nxt (by simp only [am_step, e, am_do, hx, am_nx]) k
theorem s_ldc_w {i : Nat} {x : Int32} (hc : am_c y pc = some (.ldc_w i, p)) (hx : am_kt (am_K y i) = some x) (k : am_W d y p ls (aI x :: st) h Q) : am_W d y pc ls st h Q := by
  obtain ⟨n, e, rfl⟩ := am_c_s hc
  exact am_nxt (by simp only [am_step, e, am_do, hx, am_nx]) k
theorem s_gets {i : Nat} (hc : am_c y pc = some (.getstatic i, p)) (hx : am_K y i = 100039) (k : am_W d y p ls (aR 32 0 :: st) h Q) : am_W d y pc ls st h Q := by
  obtain ⟨n, e, rfl⟩ := am_c_s hc
  exact am_nxt (by simp only [am_step, e, am_do, hx, if_true, am_nx]) k
/-- a field's instruction: the field, its class, the next place -/
def am_gf (y pc : Nat) : Option (Nat × Nat × Nat) := match am_c y pc with | some (.getfield i, p) => (match am_fl (am_K y i) with | some (ci, j) => some (100 * ci + j, ci, p) | none => none) | _ => none
def am_pf (y pc : Nat) : Option (Nat × Nat × Nat) := match am_c y pc with | some (.putfield i, p) => (match am_fl (am_K y i) with | some (ci, j) => some (100 * ci + j, ci, p) | none => none) | _ => none
theorem am_gf_s {f ci : Nat} (hc : am_gf y pc = some (f, ci, p)) : ∃ (i n j : Nat), am_cd y pc = some (.getfield i, n) ∧ p = pc + n ∧ am_fl (am_K y i) = some (ci, j) ∧ f = 100 * ci + j := by
  unfold am_gf at hc
  split at hc
  · rename_i i p' hc'
    obtain ⟨n, e, rfl⟩ := am_c_s hc'
    split at hc
    · rename_i ci' j hf
      cases hc
      exact ⟨i, n, j, e, rfl, hf, rfl⟩
    · cases hc
  · cases hc
theorem am_pf_s {f ci : Nat} (hc : am_pf y pc = some (f, ci, p)) : ∃ (i n j : Nat), am_cd y pc = some (.putfield i, n) ∧ p = pc + n ∧ am_fl (am_K y i) = some (ci, j) ∧ f = 100 * ci + j := by
  unfold am_pf at hc
  split at hc
  · rename_i i p' hc'
    obtain ⟨n, e, rfl⟩ := am_c_s hc'
    split at hc
    · rename_i ci' j hf
      cases hc
      exact ⟨i, n, j, e, rfl, hf, rfl⟩
    · cases hc
  · cases hc
theorem s_gfI {f ci kt q : Nat} (hc : am_gf y pc = some (f, ci, p)) (hk : am_kc kt = some ci) (hr : am_fr f = false) (k : am_W d y p ls (aI (hFI h f (kt, q)) :: st) h Q) : am_W d y pc ls (aR kt q :: st) h Q := by
  obtain ⟨i, n, j, e, rfl, hf, rfl⟩ := am_gf_s hc
  exact am_nxt (by simp only [am_step, e, am_do, hf, am_r1, hk, if_true, hr, am_nx, Bool.false_eq_true, if_false]) k
theorem s_gfR {f ci kt q : Nat} {v : Option am_R} (hc : am_gf y pc = some (f, ci, p)) (hk : am_kc kt = some ci) (hr : am_fr f = true) (hv : hFR h f (kt, q) = v) (k : am_W d y p ls (aO v :: st) h Q) : am_W d y pc ls (aR kt q :: st) h Q := by
  obtain ⟨i, n, j, e, rfl, hf, rfl⟩ := am_gf_s hc
  subst hv
  exact am_nxt (by simp only [am_step, e, am_do, hf, am_r1, hk, if_true, hr, am_nx]) k
/-- may be written: not final, or in a constructor of its class -/
def am_wr (y f ci : Nat) : Bool := !(am_ff f) || (am_ii y && Nat.beq (am_ow y) ci)
theorem am_wr_s {f ci : Nat} (hw : am_wr y f ci = true) : am_ff f = false ∨ (am_ii y = true ∧ am_ow y = ci) := by
  unfold am_wr at hw
  cases hf : am_ff f with
  | false => exact Or.inl rfl
  | true =>
    rw [hf] at hw
    simp at hw
    exact Or.inr ⟨hw.1, by have := hw.2; simpa using this⟩
theorem s_pfI {f ci kt q : Nat} {v : Int32} (hc : am_pf y pc = some (f, ci, p)) (hk : am_kc kt = some ci) (hr : am_fr f = false) (hw : am_wr y f ci = true) (hb : am_fb f = false ∨ v = 0 ∨ v = 1) (k : am_W d y p ls st (sFI h f (kt, q) v) Q) : am_W d y pc ls (aI v :: aR kt q :: st) h Q := by
  obtain ⟨i, n, j, e, rfl, hf, rfl⟩ := am_pf_s hc
  exact am_nxt (by simp only [am_step, e, am_do, hf]; rw [if_pos ⟨hk, hr, am_wr_s hw, hb⟩]; rfl) k
theorem s_pfR {f ci kt q : Nat} {v : Option am_R} (hc : am_pf y pc = some (f, ci, p)) (hk : am_kc kt = some ci) (hr : am_fr f = true) (hw : am_wr y f ci = true) (k : am_W d y p ls st (sFR h f (kt, q) v) Q) : am_W d y pc ls (aO v :: aR kt q :: st) h Q := by
  obtain ⟨i, n, j, e, rfl, hf, rfl⟩ := am_pf_s hc
  exact am_nxt (by simp only [am_step, e, am_do, hf]; rw [if_pos ⟨hk, hr, am_wr_s hw⟩]; rfl) k
theorem s_alen {kt q : Nat} (hc : am_c y pc = some (.arraylength, p)) (hk : (am_ka kt).isSome = true) (k : am_W d y p ls (aI (Int32.ofNat (hAL h (kt, q))) :: st) h Q) : am_W d y pc ls (aR kt q :: st) h Q := by
  obtain ⟨n, e, rfl⟩ := am_c_s hc
  exact am_nxt (by simp only [am_step, e, am_do, am_r1, hk, if_true, am_nx]) k
theorem am_ix_i {i : Int32} {n j : Nat} (hi : i.toInt = (j : Int)) (hj : j < n) : am_ix i n = some j := by
  unfold am_ix
  rw [if_pos ⟨by omega, by omega⟩, hi]
  rfl
theorem s_iaload {kt q j : Nat} {i : Int32} (hc : am_c y pc = some (.iaload, p)) (hk : am_ka kt = some 0) (hi : i.toInt = (j : Int)) (hj : j < hAL h (kt, q)) (k : am_W d y p ls (aI (hAI h (kt, q) j) :: st) h Q) : am_W d y pc ls (aI i :: aR kt q :: st) h Q := by
  obtain ⟨n, e, rfl⟩ := am_c_s hc
  exact am_nxt (by simp only [am_step, e, am_do, am_ir, hk, if_true, am_ix_i hi hj, am_nx]) k
theorem s_baload {kt q j : Nat} {i : Int32} (hc : am_c y pc = some (.baload, p)) (hk : am_ka kt = some 1) (hi : i.toInt = (j : Int)) (hj : j < hAL h (kt, q)) (k : am_W d y p ls (aI (hAI h (kt, q) j) :: st) h Q) : am_W d y pc ls (aI i :: aR kt q :: st) h Q := by
  obtain ⟨n, e, rfl⟩ := am_c_s hc
  exact am_nxt (by simp only [am_step, e, am_do, am_ir, hk, if_true, am_ix_i hi hj, am_nx]) k
theorem s_laload {kt q j : Nat} {i : Int32} (hc : am_c y pc = some (.laload, p)) (hk : am_ka kt = some 2) (hi : i.toInt = (j : Int)) (hj : j < hAL h (kt, q)) (k : am_W d y p ls (aJ (hAJ h (kt, q) j) :: st) h Q) : am_W d y pc ls (aI i :: aR kt q :: st) h Q := by
  obtain ⟨n, e, rfl⟩ := am_c_s hc
  exact am_nxt (by simp only [am_step, e, am_do, am_ir, hk, if_true, am_ix_i hi hj, am_nx]) k
theorem s_daload {kt q j : Nat} {i : Int32} (hc : am_c y pc = some (.daload, p)) (hk : am_ka kt = some 3) (hi : i.toInt = (j : Int)) (hj : j < hAL h (kt, q)) (k : am_W d y p ls (aD (hAD h (kt, q) j) :: st) h Q) : am_W d y pc ls (aI i :: aR kt q :: st) h Q := by
  obtain ⟨n, e, rfl⟩ := am_c_s hc
  exact am_nxt (by simp only [am_step, e, am_do, am_ir, hk, if_true, am_ix_i hi hj, am_nx]) k
theorem s_aaload {kt q j : Nat} {i : Int32} {v : Option am_R} (hc : am_c y pc = some (.aaload, p)) (hk : am_ka kt = some 4 ∨ am_ka kt = some 5 ∨ am_ka kt = some 6) (hi : i.toInt = (j : Int)) (hj : j < hAL h (kt, q)) (hv : hAR h (kt, q) j = v) (k : am_W d y p ls (aO v :: st) h Q) : am_W d y pc ls (aI i :: aR kt q :: st) h Q := by
  obtain ⟨n, e, rfl⟩ := am_c_s hc
  subst hv
  exact am_nxt (by simp only [am_step, e, am_do, am_ir, if_pos hk, am_ix_i hi hj, am_nx]) k
theorem s_iastore {kt q j : Nat} {i v : Int32} (hc : am_c y pc = some (.iastore, p)) (hk : am_ka kt = some 0 ∧ ¬ kt = 31) (hi : i.toInt = (j : Int)) (hj : j < hAL h (kt, q)) (k : am_W d y p ls st (sAI h (kt, q) j v) Q) : am_W d y pc ls (aI v :: aI i :: aR kt q :: st) h Q := by
  obtain ⟨n, e, rfl⟩ := am_c_s hc
  exact am_nxt (by simp only [am_step, e, am_do, am_i1, am_j1, am_d1, am_ir]; rw [if_pos hk, am_ix_i hi hj]; rfl) k
theorem s_bastore {kt q j : Nat} {i v : Int32} (hc : am_c y pc = some (.bastore, p)) (hk : am_ka kt = some 1) (hv : v = 0 ∨ v = 1) (hi : i.toInt = (j : Int)) (hj : j < hAL h (kt, q)) (k : am_W d y p ls st (sAI h (kt, q) j v) Q) : am_W d y pc ls (aI v :: aI i :: aR kt q :: st) h Q := by
  obtain ⟨n, e, rfl⟩ := am_c_s hc
  exact am_nxt (by simp only [am_step, e, am_do, am_i1, am_j1, am_d1, am_ir]; rw [if_pos ⟨hk, hv⟩, am_ix_i hi hj]; rfl) k
theorem s_lastore {kt q j : Nat} {i : Int32} {v : Int64} (hc : am_c y pc = some (.lastore, p)) (hk : am_ka kt = some 2) (hi : i.toInt = (j : Int)) (hj : j < hAL h (kt, q)) (k : am_W d y p ls st (sAJ h (kt, q) j v) Q) : am_W d y pc ls (aJ v :: aI i :: aR kt q :: st) h Q := by
  obtain ⟨n, e, rfl⟩ := am_c_s hc
  exact am_nxt (by simp only [am_step, e, am_do, am_i1, am_j1, am_d1, am_ir]; rw [if_pos hk, am_ix_i hi hj]; rfl) k
theorem s_dastore {kt q j : Nat} {i : Int32} {v : UInt64} (hc : am_c y pc = some (.dastore, p)) (hk : am_ka kt = some 3) (hi : i.toInt = (j : Int)) (hj : j < hAL h (kt, q)) (k : am_W d y p ls st (sAD h (kt, q) j v) Q) : am_W d y pc ls (aD v :: aI i :: aR kt q :: st) h Q := by
  obtain ⟨n, e, rfl⟩ := am_c_s hc
  exact am_nxt (by simp only [am_step, e, am_do, am_i1, am_j1, am_d1, am_ir]; rw [if_pos hk, am_ix_i hi hj]; rfl) k
theorem s_aastoreN {kt q j : Nat} {i : Int32} (hc : am_c y pc = some (.aastore, p)) (hk : kt = 1408 ∨ kt = 30) (hi : i.toInt = (j : Int)) (hj : j < hAL h (kt, q)) (k : am_W d y p ls st (sAR h (kt, q) j none) Q) : am_W d y pc ls (aN :: aI i :: aR kt q :: st) h Q := by
  obtain ⟨n, e, rfl⟩ := am_c_s hc
  exact am_nxt (by simp only [am_step, e, am_do, am_i1, am_j1, am_d1, am_ir]; rw [if_pos hk, am_ix_i hi hj]; rfl) k
theorem s_aastore {kt q j kt' q' : Nat} {i : Int32} (hc : am_c y pc = some (.aastore, p)) (hk : (kt = 1408 ∧ kt' = 5) ∨ (kt = 30 ∧ (am_kc kt').isSome = true ∧ kt' < 10)) (hi : i.toInt = (j : Int)) (hj : j < hAL h (kt, q)) (k : am_W d y p ls st (sAR h (kt, q) j (some (kt', q'))) Q) : am_W d y pc ls (aR kt' q' :: aI i :: aR kt q :: st) h Q := by
  obtain ⟨n, e, rfl⟩ := am_c_s hc
  exact am_nxt (by simp only [am_step, e, am_do, am_i1, am_j1, am_d1, am_ir]; rw [if_pos hk, am_ix_i hi hj]; rfl) k
/-- what is made at a place: the kind, its slots, the next place -/
def am_ne (y pc : Nat) : Option (Nat × Nat × Nat) := match am_c y pc with | some (.new i, p) => (match am_nw (am_K y i) with | some (ci, nf) => if am_kc (am_nk y pc ci) = some ci ∧ ci < 11 then some (am_nk y pc ci, nf, p) else none | none => none) | _ => none
theorem s_new {kt nf : Nat} (hc : am_ne y pc = some (kt, nf, p)) (k : am_W d y p ls (aR kt (hCN h kt) :: st) (hNO h kt nf) Q) : am_W d y pc ls st h Q := by
  unfold am_ne at hc
  split at hc
  · rename_i i p' hc'
    obtain ⟨n, e, rfl⟩ := am_c_s hc'
    split at hc
    · rename_i ci' j hf
      split at hc
      · rename_i hk
        cases hc
        exact am_nxt (by simp only [am_step, e, am_do, hf]; rw [if_pos hk]; rfl) k
      · cases hc
    · cases hc
  · cases hc
theorem s_throw {i kt ic : Nat} (hc : am_c y pc = some (.new i, p)) (h1 : am_nw (am_K y i) = none) (h2 : am_xn (am_K y i) = some (kt, ic)) (h3 : am_cd y (pc + 3) = some (.dup, 1)) (h4 : am_cd y (pc + 4) = some (.invokespecial ic, 3)) (h7 : am_cd y (pc + 7) = some (.athrow, 1)) (hh : am_hh y = []) (hs : am_sum st ≤ 8) (k : Q (.inr kt) (hNO h kt 6)) : am_W d y pc ls st h Q := by
  obtain ⟨n, e, rfl⟩ := am_c_s hc
  exact am_end (by simp only [am_step, e, am_do, h1, h2]; rw [if_pos ⟨h3, h4, h7, hh, hs⟩]; rfl) k
def am_na (y pc : Nat) : Option (Nat × Nat) := match am_c y pc with
  | some (.newarray a, p) => (match am_at a with | some ty => if am_ka (am_nk y pc (24 + ty)) = some ty ∧ ¬ am_nk y pc (24 + ty) = 31 ∧ ¬ am_nk y pc (24 + ty) = 32 then some (am_nk y pc (24 + ty), p) else none | none => none)
  | some (.anewarray i, p) => (match am_an (am_K y i) with | some ty => if am_ka (am_nk y pc (26 + ty)) = some ty ∧ ¬ am_nk y pc (26 + ty) = 31 ∧ ¬ am_nk y pc (26 + ty) = 32 then some (am_nk y pc (26 + ty), p) else none | none => none)
  | _ => none
theorem s_newa {kt m : Nat} {i : Int32} (hc : am_na y pc = some (kt, p)) (hi : i.toInt = (m : Int)) (hm : m ≤ 1000) (k : am_W d y p ls (aR kt (hCN h kt) :: st) (hNA h kt m) Q) : am_W d y pc ls (aI i :: st) h Q := by
  have hh : 0 ≤ i.toInt ∧ i.toInt ≤ 1000 := by omega
  have hm' : i.toInt.toNat = m := by omega
  unfold am_na at hc
  split at hc
  · rename_i a p' hc'
    obtain ⟨n, e, rfl⟩ := am_c_s hc'
    split at hc
    · rename_i ty hf
      split at hc
      · rename_i hk
        cases hc
        exact am_nxt (by simp only [am_step, e, am_do, hf, am_i1]; rw [if_pos ⟨hk.1, hk.2.1, hk.2.2, hh⟩, hm']; rfl) k
      · cases hc
    · cases hc
  · rename_i a p' hc'
    obtain ⟨n, e, rfl⟩ := am_c_s hc'
    split at hc
    · rename_i ty hf
      split at hc
      · rename_i hk
        cases hc
        exact am_nxt (by simp only [am_step, e, am_do, hf, am_i1]; rw [if_pos ⟨hk.1, hk.2.1, hk.2.2, hh⟩, hm']; rfl) k
      · cases hc
    · cases hc
  · cases hc
theorem s_castN {i ci : Nat} (hc : am_c y pc = some (.checkcast i, p)) (hx : am_cc (am_K y i) = some ci) (k : am_W d y p ls (aN :: st) h Q) : am_W d y pc ls (aN :: st) h Q := by
  obtain ⟨n, e, rfl⟩ := am_c_s hc
  exact am_nxt (by simp only [am_step, e, am_do, hx, am_nx]) k
theorem s_cast {i ci kt q : Nat} (hc : am_c y pc = some (.checkcast i, p)) (hx : am_cc (am_K y i) = some ci) (hk : am_kc kt = some ci) (k : am_W d y p ls (aR kt q :: st) h Q) : am_W d y pc ls (aR kt q :: st) h Q := by
  obtain ⟨n, e, rfl⟩ := am_c_s hc
  exact am_nxt (by simp only [am_step, e, am_do, hx, hk, if_true, am_nx]) k
theorem s_objinit {i kt q : Nat} (hc : am_c y pc = some (.invokespecial i, p)) (h1 : am_cl (am_K y i) = none) (h2 : am_oi (am_K y i) = some ()) (hk : (am_kc kt).isSome = true) (hs : am_sum st ≤ 8) (k : am_W d y p ls st h Q) : am_W d y pc ls (aR kt q :: st) h Q := by
  obtain ⟨n, e, rfl⟩ := am_c_s hc
  exact am_nxt (by simp only [am_step, e, am_do, h1, h2, am_r1]; rw [if_pos ⟨hk, hs⟩]; rfl) k
theorem s_copy {i q q' : Nat} {c dp sp : Int32} {c' dp' sp' : Nat} (hc : am_c y pc = some (.invokestatic i, p)) (h1 : am_cl (am_K y i) = none) (h2 : am_K y i = 100112) (hc' : c.toInt = (c' : Int)) (hd' : dp.toInt = (dp' : Int)) (hs' : sp.toInt = (sp' : Int)) (l1 : sp' + c' ≤ hAL h (30, q)) (l2 : dp' + c' ≤ hAL h (30, q')) (hs : am_sum st ≤ 8) (k : am_W d y p ls st (hCP h (30, q) (30, q') sp' dp' c') Q) : am_W d y pc ls (aI c :: aI dp :: aR 30 q' :: aI sp :: aR 30 q :: st) h Q := by
  obtain ⟨n, e, rfl⟩ := am_c_s hc
  exact am_nxt (by
    simp only [am_step, e, am_do, h1, h2, if_true]
    rw [if_pos ⟨trivial, trivial, by omega, by omega, by omega, by omega, by omega, hs⟩, hc', hd', hs']
    rfl) k
theorem s_copyOf {i q : Nat} {c : Int32} {c' : Nat} (hc : am_c y pc = some (.invokestatic i, p)) (h1 : am_cl (am_K y i) = none) (h2 : am_K y i = 100066) (hc' : c.toInt = (c' : Int)) (hl : c' ≤ 1000) (hal : hAL h (30, q) ≤ 1000) (hs : am_sum st ≤ 8) (k : am_W d y p ls (aR 30 (hCN h 30) :: st) (hCO h (30, q) c') Q) : am_W d y pc ls (aI c :: aR 30 q :: st) h Q := by
  obtain ⟨n, e, rfl⟩ := am_c_s hc
  exact am_nxt (by
    simp only [am_step, e, am_do, h1, h2]
    rw [if_neg (by decide), if_pos trivial, if_pos ⟨trivial, by omega, by omega, hal, hs⟩, hc']
    rfl) k
theorem s_ret (hc : am_c y pc = some (.return_, p)) (hr : am_rt y = none) (k : Q (.inl none) h) : am_W d y pc ls [] h Q := by
  obtain ⟨n, e, rfl⟩ := am_c_s hc
  exact am_end (by simp only [am_step, e, am_do]; rw [if_pos ⟨hr, trivial⟩]; rfl) k
theorem s_iret {v : Int32} (hc : am_c y pc = some (.ireturn, p)) (hr : am_rt y = some .int ∨ (am_rt y = some .boolean ∧ (v = 0 ∨ v = 1))) (k : Q (.inl (some (aI v))) h) : am_W d y pc ls [aI v] h Q := by
  obtain ⟨n, e, rfl⟩ := am_c_s hc
  exact am_end (by simp only [am_step, e, am_do]; rw [if_pos hr]; rfl) k
theorem s_fret {v : UInt32} (hc : am_c y pc = some (.freturn, p)) (hr : am_rt y = some .float) (k : Q (.inl (some (aF v))) h) : am_W d y pc ls [aF v] h Q := by
  obtain ⟨n, e, rfl⟩ := am_c_s hc
  exact am_end (by simp only [am_step, e, am_do, hr, if_true, am_fin]) k
theorem s_aret {v : Option am_R} (hc : am_c y pc = some (.areturn, p)) {c : String} (hr : am_rt y = some (.object c)) (k : Q (.inl (some (aO v))) h) : am_W d y pc ls [aO v] h Q := by
  obtain ⟨n, e, rfl⟩ := am_c_s hc
  exact am_end (by simp only [am_step, e, am_do, hr, am_fin]) k
theorem s_aretA {v : Option am_R} (hc : am_c y pc = some (.areturn, p)) {c : FieldType} (hr : am_rt y = some (.array c)) (k : Q (.inl (some (aO v))) h) : am_W d y pc ls [aO v] h Q := by
  obtain ⟨n, e, rfl⟩ := am_c_s hc
  exact am_end (by simp only [am_step, e, am_do, hr, am_fin]) k
/-- stores: the local, what it takes (0 an int, 1 a reference), the next place -/
def am_so (y pc : Nat) : Option (Nat × Nat × Nat) := match am_c y pc with
  | some (.istore i, p) => some (i, 0, p) | some (.istore_n i, p) => some ((i : Nat), 0, p) | some (.astore i, p) => some (i, 1, p) | some (.astore_n i, p) => some ((i : Nat), 1, p) | some (.fstore i, p) => some (i, 2, p) | _ => none
theorem am_so_s {i w : Nat} {v : am_V} (hc : am_so y pc = some (i, w, p)) (hv : (w = 0 → am_isI v = true) ∧ (w = 1 → am_isO v = true) ∧ (w = 2 → am_isF v = true)) (hi : i < ls.length) : am_step y pc ls (v :: st) h = some (.inl (p, ls.set i (some v), st, h)) := by
  unfold am_so at hc
  split at hc
  · rename_i j p' hc'
    obtain ⟨n, e, rfl⟩ := am_c_s hc'
    cases hc
    simp only [am_step, e, am_do, am_sv]; rw [if_pos ⟨hv.1 rfl, hi⟩]; rfl
  · rename_i j p' hc'
    obtain ⟨n, e, rfl⟩ := am_c_s hc'
    cases hc
    simp only [am_step, e, am_do, am_sv]; rw [if_pos ⟨hv.1 rfl, hi⟩]; rfl
  · rename_i j p' hc'
    obtain ⟨n, e, rfl⟩ := am_c_s hc'
    cases hc
    simp only [am_step, e, am_do, am_sv]; rw [if_pos ⟨hv.2.1 rfl, hi⟩]; rfl
  · rename_i j p' hc'
    obtain ⟨n, e, rfl⟩ := am_c_s hc'
    cases hc
    simp only [am_step, e, am_do, am_sv]; rw [if_pos ⟨hv.2.1 rfl, hi⟩]; rfl
  · rename_i j p' hc'
    obtain ⟨n, e, rfl⟩ := am_c_s hc'
    cases hc
    simp only [am_step, e, am_do, am_sv]; rw [if_pos ⟨hv.2.2 rfl, hi⟩]; rfl
  · cases hc
theorem s_stI0 {x0 : Option am_V} {r : List (Option am_V)} {v : Int32} (hc : am_so y pc = some (0, 0, p)) (k : am_W d y p (some (aI v) :: r) st h Q) : am_W d y pc (x0 :: r) (aI v :: st) h Q := am_nxt (am_so_s hc ⟨fun _ => by first | rfl | contradiction, fun _ => by first | rfl | contradiction, fun _ => by first | rfl | contradiction⟩ (by simp)) k
theorem s_stA0 {x0 : Option am_V} {r : List (Option am_V)} {v : Option am_R} (hc : am_so y pc = some (0, 1, p)) (k : am_W d y p (some (aO v) :: r) st h Q) : am_W d y pc (x0 :: r) (aO v :: st) h Q := am_nxt (am_so_s hc ⟨fun _ => by first | rfl | contradiction, fun _ => by first | rfl | contradiction, fun _ => by first | rfl | contradiction⟩ (by simp)) k
theorem s_inc0 {r : List (Option am_V)} {v : Int32} {n0 : Int} (hc : am_c y pc = some (.iinc 0 n0, p)) (k : am_W d y p (some (aI (v + Int32.ofInt n0)) :: r) st h Q) : am_W d y pc (some (aI v) :: r) st h Q := by
  obtain ⟨n, e, rfl⟩ := am_c_s hc
  exact am_nxt (by simp [am_step, e, am_do, am_nx]) k
theorem s_stI1 {x0 x1 : Option am_V} {r : List (Option am_V)} {v : Int32} (hc : am_so y pc = some (1, 0, p)) (k : am_W d y p (x0 :: some (aI v) :: r) st h Q) : am_W d y pc (x0 :: x1 :: r) (aI v :: st) h Q := am_nxt (am_so_s hc ⟨fun _ => by first | rfl | contradiction, fun _ => by first | rfl | contradiction, fun _ => by first | rfl | contradiction⟩ (by simp)) k
theorem s_stA1 {x0 x1 : Option am_V} {r : List (Option am_V)} {v : Option am_R} (hc : am_so y pc = some (1, 1, p)) (k : am_W d y p (x0 :: some (aO v) :: r) st h Q) : am_W d y pc (x0 :: x1 :: r) (aO v :: st) h Q := am_nxt (am_so_s hc ⟨fun _ => by first | rfl | contradiction, fun _ => by first | rfl | contradiction, fun _ => by first | rfl | contradiction⟩ (by simp)) k
theorem s_inc1 {x0 : Option am_V} {r : List (Option am_V)} {v : Int32} {n0 : Int} (hc : am_c y pc = some (.iinc 1 n0, p)) (k : am_W d y p (x0 :: some (aI (v + Int32.ofInt n0)) :: r) st h Q) : am_W d y pc (x0 :: some (aI v) :: r) st h Q := by
  obtain ⟨n, e, rfl⟩ := am_c_s hc
  exact am_nxt (by simp [am_step, e, am_do, am_nx]) k
theorem s_stI2 {x0 x1 x2 : Option am_V} {r : List (Option am_V)} {v : Int32} (hc : am_so y pc = some (2, 0, p)) (k : am_W d y p (x0 :: x1 :: some (aI v) :: r) st h Q) : am_W d y pc (x0 :: x1 :: x2 :: r) (aI v :: st) h Q := am_nxt (am_so_s hc ⟨fun _ => by first | rfl | contradiction, fun _ => by first | rfl | contradiction, fun _ => by first | rfl | contradiction⟩ (by simp)) k
theorem s_stA2 {x0 x1 x2 : Option am_V} {r : List (Option am_V)} {v : Option am_R} (hc : am_so y pc = some (2, 1, p)) (k : am_W d y p (x0 :: x1 :: some (aO v) :: r) st h Q) : am_W d y pc (x0 :: x1 :: x2 :: r) (aO v :: st) h Q := am_nxt (am_so_s hc ⟨fun _ => by first | rfl | contradiction, fun _ => by first | rfl | contradiction, fun _ => by first | rfl | contradiction⟩ (by simp)) k
theorem s_inc2 {x0 x1 : Option am_V} {r : List (Option am_V)} {v : Int32} {n0 : Int} (hc : am_c y pc = some (.iinc 2 n0, p)) (k : am_W d y p (x0 :: x1 :: some (aI (v + Int32.ofInt n0)) :: r) st h Q) : am_W d y pc (x0 :: x1 :: some (aI v) :: r) st h Q := by
  obtain ⟨n, e, rfl⟩ := am_c_s hc
  exact am_nxt (by simp [am_step, e, am_do, am_nx]) k
theorem s_stI3 {x0 x1 x2 x3 : Option am_V} {r : List (Option am_V)} {v : Int32} (hc : am_so y pc = some (3, 0, p)) (k : am_W d y p (x0 :: x1 :: x2 :: some (aI v) :: r) st h Q) : am_W d y pc (x0 :: x1 :: x2 :: x3 :: r) (aI v :: st) h Q := am_nxt (am_so_s hc ⟨fun _ => by first | rfl | contradiction, fun _ => by first | rfl | contradiction, fun _ => by first | rfl | contradiction⟩ (by simp)) k
theorem s_stA3 {x0 x1 x2 x3 : Option am_V} {r : List (Option am_V)} {v : Option am_R} (hc : am_so y pc = some (3, 1, p)) (k : am_W d y p (x0 :: x1 :: x2 :: some (aO v) :: r) st h Q) : am_W d y pc (x0 :: x1 :: x2 :: x3 :: r) (aO v :: st) h Q := am_nxt (am_so_s hc ⟨fun _ => by first | rfl | contradiction, fun _ => by first | rfl | contradiction, fun _ => by first | rfl | contradiction⟩ (by simp)) k
theorem s_inc3 {x0 x1 x2 : Option am_V} {r : List (Option am_V)} {v : Int32} {n0 : Int} (hc : am_c y pc = some (.iinc 3 n0, p)) (k : am_W d y p (x0 :: x1 :: x2 :: some (aI (v + Int32.ofInt n0)) :: r) st h Q) : am_W d y pc (x0 :: x1 :: x2 :: some (aI v) :: r) st h Q := by
  obtain ⟨n, e, rfl⟩ := am_c_s hc
  exact am_nxt (by simp [am_step, e, am_do, am_nx]) k
theorem s_stI4 {x0 x1 x2 x3 x4 : Option am_V} {r : List (Option am_V)} {v : Int32} (hc : am_so y pc = some (4, 0, p)) (k : am_W d y p (x0 :: x1 :: x2 :: x3 :: some (aI v) :: r) st h Q) : am_W d y pc (x0 :: x1 :: x2 :: x3 :: x4 :: r) (aI v :: st) h Q := am_nxt (am_so_s hc ⟨fun _ => by first | rfl | contradiction, fun _ => by first | rfl | contradiction, fun _ => by first | rfl | contradiction⟩ (by simp)) k
theorem s_stA4 {x0 x1 x2 x3 x4 : Option am_V} {r : List (Option am_V)} {v : Option am_R} (hc : am_so y pc = some (4, 1, p)) (k : am_W d y p (x0 :: x1 :: x2 :: x3 :: some (aO v) :: r) st h Q) : am_W d y pc (x0 :: x1 :: x2 :: x3 :: x4 :: r) (aO v :: st) h Q := am_nxt (am_so_s hc ⟨fun _ => by first | rfl | contradiction, fun _ => by first | rfl | contradiction, fun _ => by first | rfl | contradiction⟩ (by simp)) k
theorem s_inc4 {x0 x1 x2 x3 : Option am_V} {r : List (Option am_V)} {v : Int32} {n0 : Int} (hc : am_c y pc = some (.iinc 4 n0, p)) (k : am_W d y p (x0 :: x1 :: x2 :: x3 :: some (aI (v + Int32.ofInt n0)) :: r) st h Q) : am_W d y pc (x0 :: x1 :: x2 :: x3 :: some (aI v) :: r) st h Q := by
  obtain ⟨n, e, rfl⟩ := am_c_s hc
  exact am_nxt (by simp [am_step, e, am_do, am_nx]) k
theorem s_stI5 {x0 x1 x2 x3 x4 x5 : Option am_V} {r : List (Option am_V)} {v : Int32} (hc : am_so y pc = some (5, 0, p)) (k : am_W d y p (x0 :: x1 :: x2 :: x3 :: x4 :: some (aI v) :: r) st h Q) : am_W d y pc (x0 :: x1 :: x2 :: x3 :: x4 :: x5 :: r) (aI v :: st) h Q := am_nxt (am_so_s hc ⟨fun _ => by first | rfl | contradiction, fun _ => by first | rfl | contradiction, fun _ => by first | rfl | contradiction⟩ (by simp)) k
theorem s_stA5 {x0 x1 x2 x3 x4 x5 : Option am_V} {r : List (Option am_V)} {v : Option am_R} (hc : am_so y pc = some (5, 1, p)) (k : am_W d y p (x0 :: x1 :: x2 :: x3 :: x4 :: some (aO v) :: r) st h Q) : am_W d y pc (x0 :: x1 :: x2 :: x3 :: x4 :: x5 :: r) (aO v :: st) h Q := am_nxt (am_so_s hc ⟨fun _ => by first | rfl | contradiction, fun _ => by first | rfl | contradiction, fun _ => by first | rfl | contradiction⟩ (by simp)) k
theorem s_inc5 {x0 x1 x2 x3 x4 : Option am_V} {r : List (Option am_V)} {v : Int32} {n0 : Int} (hc : am_c y pc = some (.iinc 5 n0, p)) (k : am_W d y p (x0 :: x1 :: x2 :: x3 :: x4 :: some (aI (v + Int32.ofInt n0)) :: r) st h Q) : am_W d y pc (x0 :: x1 :: x2 :: x3 :: x4 :: some (aI v) :: r) st h Q := by
  obtain ⟨n, e, rfl⟩ := am_c_s hc
  exact am_nxt (by simp [am_step, e, am_do, am_nx]) k
theorem s_stI6 {x0 x1 x2 x3 x4 x5 x6 : Option am_V} {r : List (Option am_V)} {v : Int32} (hc : am_so y pc = some (6, 0, p)) (k : am_W d y p (x0 :: x1 :: x2 :: x3 :: x4 :: x5 :: some (aI v) :: r) st h Q) : am_W d y pc (x0 :: x1 :: x2 :: x3 :: x4 :: x5 :: x6 :: r) (aI v :: st) h Q := am_nxt (am_so_s hc ⟨fun _ => by first | rfl | contradiction, fun _ => by first | rfl | contradiction, fun _ => by first | rfl | contradiction⟩ (by simp)) k
theorem s_stA6 {x0 x1 x2 x3 x4 x5 x6 : Option am_V} {r : List (Option am_V)} {v : Option am_R} (hc : am_so y pc = some (6, 1, p)) (k : am_W d y p (x0 :: x1 :: x2 :: x3 :: x4 :: x5 :: some (aO v) :: r) st h Q) : am_W d y pc (x0 :: x1 :: x2 :: x3 :: x4 :: x5 :: x6 :: r) (aO v :: st) h Q := am_nxt (am_so_s hc ⟨fun _ => by first | rfl | contradiction, fun _ => by first | rfl | contradiction, fun _ => by first | rfl | contradiction⟩ (by simp)) k
theorem s_inc6 {x0 x1 x2 x3 x4 x5 : Option am_V} {r : List (Option am_V)} {v : Int32} {n0 : Int} (hc : am_c y pc = some (.iinc 6 n0, p)) (k : am_W d y p (x0 :: x1 :: x2 :: x3 :: x4 :: x5 :: some (aI (v + Int32.ofInt n0)) :: r) st h Q) : am_W d y pc (x0 :: x1 :: x2 :: x3 :: x4 :: x5 :: some (aI v) :: r) st h Q := by
  obtain ⟨n, e, rfl⟩ := am_c_s hc
  exact am_nxt (by simp [am_step, e, am_do, am_nx]) k
theorem s_stI7 {x0 x1 x2 x3 x4 x5 x6 x7 : Option am_V} {r : List (Option am_V)} {v : Int32} (hc : am_so y pc = some (7, 0, p)) (k : am_W d y p (x0 :: x1 :: x2 :: x3 :: x4 :: x5 :: x6 :: some (aI v) :: r) st h Q) : am_W d y pc (x0 :: x1 :: x2 :: x3 :: x4 :: x5 :: x6 :: x7 :: r) (aI v :: st) h Q := am_nxt (am_so_s hc ⟨fun _ => by first | rfl | contradiction, fun _ => by first | rfl | contradiction, fun _ => by first | rfl | contradiction⟩ (by simp)) k
theorem s_stA7 {x0 x1 x2 x3 x4 x5 x6 x7 : Option am_V} {r : List (Option am_V)} {v : Option am_R} (hc : am_so y pc = some (7, 1, p)) (k : am_W d y p (x0 :: x1 :: x2 :: x3 :: x4 :: x5 :: x6 :: some (aO v) :: r) st h Q) : am_W d y pc (x0 :: x1 :: x2 :: x3 :: x4 :: x5 :: x6 :: x7 :: r) (aO v :: st) h Q := am_nxt (am_so_s hc ⟨fun _ => by first | rfl | contradiction, fun _ => by first | rfl | contradiction, fun _ => by first | rfl | contradiction⟩ (by simp)) k
theorem s_inc7 {x0 x1 x2 x3 x4 x5 x6 : Option am_V} {r : List (Option am_V)} {v : Int32} {n0 : Int} (hc : am_c y pc = some (.iinc 7 n0, p)) (k : am_W d y p (x0 :: x1 :: x2 :: x3 :: x4 :: x5 :: x6 :: some (aI (v + Int32.ofInt n0)) :: r) st h Q) : am_W d y pc (x0 :: x1 :: x2 :: x3 :: x4 :: x5 :: x6 :: some (aI v) :: r) st h Q := by
  obtain ⟨n, e, rfl⟩ := am_c_s hc
  exact am_nxt (by simp [am_step, e, am_do, am_nx]) k
theorem s_stI8 {x0 x1 x2 x3 x4 x5 x6 x7 x8 : Option am_V} {r : List (Option am_V)} {v : Int32} (hc : am_so y pc = some (8, 0, p)) (k : am_W d y p (x0 :: x1 :: x2 :: x3 :: x4 :: x5 :: x6 :: x7 :: some (aI v) :: r) st h Q) : am_W d y pc (x0 :: x1 :: x2 :: x3 :: x4 :: x5 :: x6 :: x7 :: x8 :: r) (aI v :: st) h Q := am_nxt (am_so_s hc ⟨fun _ => by first | rfl | contradiction, fun _ => by first | rfl | contradiction, fun _ => by first | rfl | contradiction⟩ (by simp)) k
theorem s_stA8 {x0 x1 x2 x3 x4 x5 x6 x7 x8 : Option am_V} {r : List (Option am_V)} {v : Option am_R} (hc : am_so y pc = some (8, 1, p)) (k : am_W d y p (x0 :: x1 :: x2 :: x3 :: x4 :: x5 :: x6 :: x7 :: some (aO v) :: r) st h Q) : am_W d y pc (x0 :: x1 :: x2 :: x3 :: x4 :: x5 :: x6 :: x7 :: x8 :: r) (aO v :: st) h Q := am_nxt (am_so_s hc ⟨fun _ => by first | rfl | contradiction, fun _ => by first | rfl | contradiction, fun _ => by first | rfl | contradiction⟩ (by simp)) k
theorem s_inc8 {x0 x1 x2 x3 x4 x5 x6 x7 : Option am_V} {r : List (Option am_V)} {v : Int32} {n0 : Int} (hc : am_c y pc = some (.iinc 8 n0, p)) (k : am_W d y p (x0 :: x1 :: x2 :: x3 :: x4 :: x5 :: x6 :: x7 :: some (aI (v + Int32.ofInt n0)) :: r) st h Q) : am_W d y pc (x0 :: x1 :: x2 :: x3 :: x4 :: x5 :: x6 :: x7 :: some (aI v) :: r) st h Q := by
  obtain ⟨n, e, rfl⟩ := am_c_s hc
  exact am_nxt (by simp [am_step, e, am_do, am_nx]) k
theorem s_stI9 {x0 x1 x2 x3 x4 x5 x6 x7 x8 x9 : Option am_V} {r : List (Option am_V)} {v : Int32} (hc : am_so y pc = some (9, 0, p)) (k : am_W d y p (x0 :: x1 :: x2 :: x3 :: x4 :: x5 :: x6 :: x7 :: x8 :: some (aI v) :: r) st h Q) : am_W d y pc (x0 :: x1 :: x2 :: x3 :: x4 :: x5 :: x6 :: x7 :: x8 :: x9 :: r) (aI v :: st) h Q := am_nxt (am_so_s hc ⟨fun _ => by first | rfl | contradiction, fun _ => by first | rfl | contradiction, fun _ => by first | rfl | contradiction⟩ (by simp)) k
theorem s_stA9 {x0 x1 x2 x3 x4 x5 x6 x7 x8 x9 : Option am_V} {r : List (Option am_V)} {v : Option am_R} (hc : am_so y pc = some (9, 1, p)) (k : am_W d y p (x0 :: x1 :: x2 :: x3 :: x4 :: x5 :: x6 :: x7 :: x8 :: some (aO v) :: r) st h Q) : am_W d y pc (x0 :: x1 :: x2 :: x3 :: x4 :: x5 :: x6 :: x7 :: x8 :: x9 :: r) (aO v :: st) h Q := am_nxt (am_so_s hc ⟨fun _ => by first | rfl | contradiction, fun _ => by first | rfl | contradiction, fun _ => by first | rfl | contradiction⟩ (by simp)) k
theorem s_inc9 {x0 x1 x2 x3 x4 x5 x6 x7 x8 : Option am_V} {r : List (Option am_V)} {v : Int32} {n0 : Int} (hc : am_c y pc = some (.iinc 9 n0, p)) (k : am_W d y p (x0 :: x1 :: x2 :: x3 :: x4 :: x5 :: x6 :: x7 :: x8 :: some (aI (v + Int32.ofInt n0)) :: r) st h Q) : am_W d y pc (x0 :: x1 :: x2 :: x3 :: x4 :: x5 :: x6 :: x7 :: x8 :: some (aI v) :: r) st h Q := by
  obtain ⟨n, e, rfl⟩ := am_c_s hc
  exact am_nxt (by simp [am_step, e, am_do, am_nx]) k
theorem s_stI10 {x0 x1 x2 x3 x4 x5 x6 x7 x8 x9 x10 : Option am_V} {r : List (Option am_V)} {v : Int32} (hc : am_so y pc = some (10, 0, p)) (k : am_W d y p (x0 :: x1 :: x2 :: x3 :: x4 :: x5 :: x6 :: x7 :: x8 :: x9 :: some (aI v) :: r) st h Q) : am_W d y pc (x0 :: x1 :: x2 :: x3 :: x4 :: x5 :: x6 :: x7 :: x8 :: x9 :: x10 :: r) (aI v :: st) h Q := am_nxt (am_so_s hc ⟨fun _ => by first | rfl | contradiction, fun _ => by first | rfl | contradiction, fun _ => by first | rfl | contradiction⟩ (by simp)) k
theorem s_stA10 {x0 x1 x2 x3 x4 x5 x6 x7 x8 x9 x10 : Option am_V} {r : List (Option am_V)} {v : Option am_R} (hc : am_so y pc = some (10, 1, p)) (k : am_W d y p (x0 :: x1 :: x2 :: x3 :: x4 :: x5 :: x6 :: x7 :: x8 :: x9 :: some (aO v) :: r) st h Q) : am_W d y pc (x0 :: x1 :: x2 :: x3 :: x4 :: x5 :: x6 :: x7 :: x8 :: x9 :: x10 :: r) (aO v :: st) h Q := am_nxt (am_so_s hc ⟨fun _ => by first | rfl | contradiction, fun _ => by first | rfl | contradiction, fun _ => by first | rfl | contradiction⟩ (by simp)) k
theorem s_inc10 {x0 x1 x2 x3 x4 x5 x6 x7 x8 x9 : Option am_V} {r : List (Option am_V)} {v : Int32} {n0 : Int} (hc : am_c y pc = some (.iinc 10 n0, p)) (k : am_W d y p (x0 :: x1 :: x2 :: x3 :: x4 :: x5 :: x6 :: x7 :: x8 :: x9 :: some (aI (v + Int32.ofInt n0)) :: r) st h Q) : am_W d y pc (x0 :: x1 :: x2 :: x3 :: x4 :: x5 :: x6 :: x7 :: x8 :: x9 :: some (aI v) :: r) st h Q := by
  obtain ⟨n, e, rfl⟩ := am_c_s hc
  exact am_nxt (by simp [am_step, e, am_do, am_nx]) k
theorem s_stI11 {x0 x1 x2 x3 x4 x5 x6 x7 x8 x9 x10 x11 : Option am_V} {r : List (Option am_V)} {v : Int32} (hc : am_so y pc = some (11, 0, p)) (k : am_W d y p (x0 :: x1 :: x2 :: x3 :: x4 :: x5 :: x6 :: x7 :: x8 :: x9 :: x10 :: some (aI v) :: r) st h Q) : am_W d y pc (x0 :: x1 :: x2 :: x3 :: x4 :: x5 :: x6 :: x7 :: x8 :: x9 :: x10 :: x11 :: r) (aI v :: st) h Q := am_nxt (am_so_s hc ⟨fun _ => by first | rfl | contradiction, fun _ => by first | rfl | contradiction, fun _ => by first | rfl | contradiction⟩ (by simp)) k
theorem s_stA11 {x0 x1 x2 x3 x4 x5 x6 x7 x8 x9 x10 x11 : Option am_V} {r : List (Option am_V)} {v : Option am_R} (hc : am_so y pc = some (11, 1, p)) (k : am_W d y p (x0 :: x1 :: x2 :: x3 :: x4 :: x5 :: x6 :: x7 :: x8 :: x9 :: x10 :: some (aO v) :: r) st h Q) : am_W d y pc (x0 :: x1 :: x2 :: x3 :: x4 :: x5 :: x6 :: x7 :: x8 :: x9 :: x10 :: x11 :: r) (aO v :: st) h Q := am_nxt (am_so_s hc ⟨fun _ => by first | rfl | contradiction, fun _ => by first | rfl | contradiction, fun _ => by first | rfl | contradiction⟩ (by simp)) k
theorem s_inc11 {x0 x1 x2 x3 x4 x5 x6 x7 x8 x9 x10 : Option am_V} {r : List (Option am_V)} {v : Int32} {n0 : Int} (hc : am_c y pc = some (.iinc 11 n0, p)) (k : am_W d y p (x0 :: x1 :: x2 :: x3 :: x4 :: x5 :: x6 :: x7 :: x8 :: x9 :: x10 :: some (aI (v + Int32.ofInt n0)) :: r) st h Q) : am_W d y pc (x0 :: x1 :: x2 :: x3 :: x4 :: x5 :: x6 :: x7 :: x8 :: x9 :: x10 :: some (aI v) :: r) st h Q := by
  obtain ⟨n, e, rfl⟩ := am_c_s hc
  exact am_nxt (by simp [am_step, e, am_do, am_nx]) k
theorem s_stI12 {x0 x1 x2 x3 x4 x5 x6 x7 x8 x9 x10 x11 x12 : Option am_V} {r : List (Option am_V)} {v : Int32} (hc : am_so y pc = some (12, 0, p)) (k : am_W d y p (x0 :: x1 :: x2 :: x3 :: x4 :: x5 :: x6 :: x7 :: x8 :: x9 :: x10 :: x11 :: some (aI v) :: r) st h Q) : am_W d y pc (x0 :: x1 :: x2 :: x3 :: x4 :: x5 :: x6 :: x7 :: x8 :: x9 :: x10 :: x11 :: x12 :: r) (aI v :: st) h Q := am_nxt (am_so_s hc ⟨fun _ => by first | rfl | contradiction, fun _ => by first | rfl | contradiction, fun _ => by first | rfl | contradiction⟩ (by simp)) k
theorem s_stA12 {x0 x1 x2 x3 x4 x5 x6 x7 x8 x9 x10 x11 x12 : Option am_V} {r : List (Option am_V)} {v : Option am_R} (hc : am_so y pc = some (12, 1, p)) (k : am_W d y p (x0 :: x1 :: x2 :: x3 :: x4 :: x5 :: x6 :: x7 :: x8 :: x9 :: x10 :: x11 :: some (aO v) :: r) st h Q) : am_W d y pc (x0 :: x1 :: x2 :: x3 :: x4 :: x5 :: x6 :: x7 :: x8 :: x9 :: x10 :: x11 :: x12 :: r) (aO v :: st) h Q := am_nxt (am_so_s hc ⟨fun _ => by first | rfl | contradiction, fun _ => by first | rfl | contradiction, fun _ => by first | rfl | contradiction⟩ (by simp)) k
theorem s_inc12 {x0 x1 x2 x3 x4 x5 x6 x7 x8 x9 x10 x11 : Option am_V} {r : List (Option am_V)} {v : Int32} {n0 : Int} (hc : am_c y pc = some (.iinc 12 n0, p)) (k : am_W d y p (x0 :: x1 :: x2 :: x3 :: x4 :: x5 :: x6 :: x7 :: x8 :: x9 :: x10 :: x11 :: some (aI (v + Int32.ofInt n0)) :: r) st h Q) : am_W d y pc (x0 :: x1 :: x2 :: x3 :: x4 :: x5 :: x6 :: x7 :: x8 :: x9 :: x10 :: x11 :: some (aI v) :: r) st h Q := by
  obtain ⟨n, e, rfl⟩ := am_c_s hc
  exact am_nxt (by simp [am_step, e, am_do, am_nx]) k
theorem s_stI13 {x0 x1 x2 x3 x4 x5 x6 x7 x8 x9 x10 x11 x12 x13 : Option am_V} {r : List (Option am_V)} {v : Int32} (hc : am_so y pc = some (13, 0, p)) (k : am_W d y p (x0 :: x1 :: x2 :: x3 :: x4 :: x5 :: x6 :: x7 :: x8 :: x9 :: x10 :: x11 :: x12 :: some (aI v) :: r) st h Q) : am_W d y pc (x0 :: x1 :: x2 :: x3 :: x4 :: x5 :: x6 :: x7 :: x8 :: x9 :: x10 :: x11 :: x12 :: x13 :: r) (aI v :: st) h Q := am_nxt (am_so_s hc ⟨fun _ => by first | rfl | contradiction, fun _ => by first | rfl | contradiction, fun _ => by first | rfl | contradiction⟩ (by simp)) k
theorem s_stA13 {x0 x1 x2 x3 x4 x5 x6 x7 x8 x9 x10 x11 x12 x13 : Option am_V} {r : List (Option am_V)} {v : Option am_R} (hc : am_so y pc = some (13, 1, p)) (k : am_W d y p (x0 :: x1 :: x2 :: x3 :: x4 :: x5 :: x6 :: x7 :: x8 :: x9 :: x10 :: x11 :: x12 :: some (aO v) :: r) st h Q) : am_W d y pc (x0 :: x1 :: x2 :: x3 :: x4 :: x5 :: x6 :: x7 :: x8 :: x9 :: x10 :: x11 :: x12 :: x13 :: r) (aO v :: st) h Q := am_nxt (am_so_s hc ⟨fun _ => by first | rfl | contradiction, fun _ => by first | rfl | contradiction, fun _ => by first | rfl | contradiction⟩ (by simp)) k
theorem s_inc13 {x0 x1 x2 x3 x4 x5 x6 x7 x8 x9 x10 x11 x12 : Option am_V} {r : List (Option am_V)} {v : Int32} {n0 : Int} (hc : am_c y pc = some (.iinc 13 n0, p)) (k : am_W d y p (x0 :: x1 :: x2 :: x3 :: x4 :: x5 :: x6 :: x7 :: x8 :: x9 :: x10 :: x11 :: x12 :: some (aI (v + Int32.ofInt n0)) :: r) st h Q) : am_W d y pc (x0 :: x1 :: x2 :: x3 :: x4 :: x5 :: x6 :: x7 :: x8 :: x9 :: x10 :: x11 :: x12 :: some (aI v) :: r) st h Q := by
  obtain ⟨n, e, rfl⟩ := am_c_s hc
  exact am_nxt (by simp [am_step, e, am_do, am_nx]) k
theorem s_stI14 {x0 x1 x2 x3 x4 x5 x6 x7 x8 x9 x10 x11 x12 x13 x14 : Option am_V} {r : List (Option am_V)} {v : Int32} (hc : am_so y pc = some (14, 0, p)) (k : am_W d y p (x0 :: x1 :: x2 :: x3 :: x4 :: x5 :: x6 :: x7 :: x8 :: x9 :: x10 :: x11 :: x12 :: x13 :: some (aI v) :: r) st h Q) : am_W d y pc (x0 :: x1 :: x2 :: x3 :: x4 :: x5 :: x6 :: x7 :: x8 :: x9 :: x10 :: x11 :: x12 :: x13 :: x14 :: r) (aI v :: st) h Q := am_nxt (am_so_s hc ⟨fun _ => by first | rfl | contradiction, fun _ => by first | rfl | contradiction, fun _ => by first | rfl | contradiction⟩ (by simp)) k
theorem s_stA14 {x0 x1 x2 x3 x4 x5 x6 x7 x8 x9 x10 x11 x12 x13 x14 : Option am_V} {r : List (Option am_V)} {v : Option am_R} (hc : am_so y pc = some (14, 1, p)) (k : am_W d y p (x0 :: x1 :: x2 :: x3 :: x4 :: x5 :: x6 :: x7 :: x8 :: x9 :: x10 :: x11 :: x12 :: x13 :: some (aO v) :: r) st h Q) : am_W d y pc (x0 :: x1 :: x2 :: x3 :: x4 :: x5 :: x6 :: x7 :: x8 :: x9 :: x10 :: x11 :: x12 :: x13 :: x14 :: r) (aO v :: st) h Q := am_nxt (am_so_s hc ⟨fun _ => by first | rfl | contradiction, fun _ => by first | rfl | contradiction, fun _ => by first | rfl | contradiction⟩ (by simp)) k
theorem s_inc14 {x0 x1 x2 x3 x4 x5 x6 x7 x8 x9 x10 x11 x12 x13 : Option am_V} {r : List (Option am_V)} {v : Int32} {n0 : Int} (hc : am_c y pc = some (.iinc 14 n0, p)) (k : am_W d y p (x0 :: x1 :: x2 :: x3 :: x4 :: x5 :: x6 :: x7 :: x8 :: x9 :: x10 :: x11 :: x12 :: x13 :: some (aI (v + Int32.ofInt n0)) :: r) st h Q) : am_W d y pc (x0 :: x1 :: x2 :: x3 :: x4 :: x5 :: x6 :: x7 :: x8 :: x9 :: x10 :: x11 :: x12 :: x13 :: some (aI v) :: r) st h Q := by
  obtain ⟨n, e, rfl⟩ := am_c_s hc
  exact am_nxt (by simp [am_step, e, am_do, am_nx]) k
theorem s_stI15 {x0 x1 x2 x3 x4 x5 x6 x7 x8 x9 x10 x11 x12 x13 x14 x15 : Option am_V} {r : List (Option am_V)} {v : Int32} (hc : am_so y pc = some (15, 0, p)) (k : am_W d y p (x0 :: x1 :: x2 :: x3 :: x4 :: x5 :: x6 :: x7 :: x8 :: x9 :: x10 :: x11 :: x12 :: x13 :: x14 :: some (aI v) :: r) st h Q) : am_W d y pc (x0 :: x1 :: x2 :: x3 :: x4 :: x5 :: x6 :: x7 :: x8 :: x9 :: x10 :: x11 :: x12 :: x13 :: x14 :: x15 :: r) (aI v :: st) h Q := am_nxt (am_so_s hc ⟨fun _ => by first | rfl | contradiction, fun _ => by first | rfl | contradiction, fun _ => by first | rfl | contradiction⟩ (by simp)) k
theorem s_stA15 {x0 x1 x2 x3 x4 x5 x6 x7 x8 x9 x10 x11 x12 x13 x14 x15 : Option am_V} {r : List (Option am_V)} {v : Option am_R} (hc : am_so y pc = some (15, 1, p)) (k : am_W d y p (x0 :: x1 :: x2 :: x3 :: x4 :: x5 :: x6 :: x7 :: x8 :: x9 :: x10 :: x11 :: x12 :: x13 :: x14 :: some (aO v) :: r) st h Q) : am_W d y pc (x0 :: x1 :: x2 :: x3 :: x4 :: x5 :: x6 :: x7 :: x8 :: x9 :: x10 :: x11 :: x12 :: x13 :: x14 :: x15 :: r) (aO v :: st) h Q := am_nxt (am_so_s hc ⟨fun _ => by first | rfl | contradiction, fun _ => by first | rfl | contradiction, fun _ => by first | rfl | contradiction⟩ (by simp)) k
theorem s_inc15 {x0 x1 x2 x3 x4 x5 x6 x7 x8 x9 x10 x11 x12 x13 x14 : Option am_V} {r : List (Option am_V)} {v : Int32} {n0 : Int} (hc : am_c y pc = some (.iinc 15 n0, p)) (k : am_W d y p (x0 :: x1 :: x2 :: x3 :: x4 :: x5 :: x6 :: x7 :: x8 :: x9 :: x10 :: x11 :: x12 :: x13 :: x14 :: some (aI (v + Int32.ofInt n0)) :: r) st h Q) : am_W d y pc (x0 :: x1 :: x2 :: x3 :: x4 :: x5 :: x6 :: x7 :: x8 :: x9 :: x10 :: x11 :: x12 :: x13 :: x14 :: some (aI v) :: r) st h Q := by
  obtain ⟨n, e, rfl⟩ := am_c_s hc
  exact am_nxt (by simp [am_step, e, am_do, am_nx]) k
theorem s_stI16 {x0 x1 x2 x3 x4 x5 x6 x7 x8 x9 x10 x11 x12 x13 x14 x15 x16 : Option am_V} {r : List (Option am_V)} {v : Int32} (hc : am_so y pc = some (16, 0, p)) (k : am_W d y p (x0 :: x1 :: x2 :: x3 :: x4 :: x5 :: x6 :: x7 :: x8 :: x9 :: x10 :: x11 :: x12 :: x13 :: x14 :: x15 :: some (aI v) :: r) st h Q) : am_W d y pc (x0 :: x1 :: x2 :: x3 :: x4 :: x5 :: x6 :: x7 :: x8 :: x9 :: x10 :: x11 :: x12 :: x13 :: x14 :: x15 :: x16 :: r) (aI v :: st) h Q := am_nxt (am_so_s hc ⟨fun _ => by first | rfl | contradiction, fun _ => by first | rfl | contradiction, fun _ => by first | rfl | contradiction⟩ (by simp)) k
theorem s_stA16 {x0 x1 x2 x3 x4 x5 x6 x7 x8 x9 x10 x11 x12 x13 x14 x15 x16 : Option am_V} {r : List (Option am_V)} {v : Option am_R} (hc : am_so y pc = some (16, 1, p)) (k : am_W d y p (x0 :: x1 :: x2 :: x3 :: x4 :: x5 :: x6 :: x7 :: x8 :: x9 :: x10 :: x11 :: x12 :: x13 :: x14 :: x15 :: some (aO v) :: r) st h Q) : am_W d y pc (x0 :: x1 :: x2 :: x3 :: x4 :: x5 :: x6 :: x7 :: x8 :: x9 :: x10 :: x11 :: x12 :: x13 :: x14 :: x15 :: x16 :: r) (aO v :: st) h Q := am_nxt (am_so_s hc ⟨fun _ => by first | rfl | contradiction, fun _ => by first | rfl | contradiction, fun _ => by first | rfl | contradiction⟩ (by simp)) k
theorem s_inc16 {x0 x1 x2 x3 x4 x5 x6 x7 x8 x9 x10 x11 x12 x13 x14 x15 : Option am_V} {r : List (Option am_V)} {v : Int32} {n0 : Int} (hc : am_c y pc = some (.iinc 16 n0, p)) (k : am_W d y p (x0 :: x1 :: x2 :: x3 :: x4 :: x5 :: x6 :: x7 :: x8 :: x9 :: x10 :: x11 :: x12 :: x13 :: x14 :: x15 :: some (aI (v + Int32.ofInt n0)) :: r) st h Q) : am_W d y pc (x0 :: x1 :: x2 :: x3 :: x4 :: x5 :: x6 :: x7 :: x8 :: x9 :: x10 :: x11 :: x12 :: x13 :: x14 :: x15 :: some (aI v) :: r) st h Q := by
  obtain ⟨n, e, rfl⟩ := am_c_s hc
  exact am_nxt (by simp [am_step, e, am_do, am_nx]) k
theorem s_stI17 {x0 x1 x2 x3 x4 x5 x6 x7 x8 x9 x10 x11 x12 x13 x14 x15 x16 x17 : Option am_V} {r : List (Option am_V)} {v : Int32} (hc : am_so y pc = some (17, 0, p)) (k : am_W d y p (x0 :: x1 :: x2 :: x3 :: x4 :: x5 :: x6 :: x7 :: x8 :: x9 :: x10 :: x11 :: x12 :: x13 :: x14 :: x15 :: x16 :: some (aI v) :: r) st h Q) : am_W d y pc (x0 :: x1 :: x2 :: x3 :: x4 :: x5 :: x6 :: x7 :: x8 :: x9 :: x10 :: x11 :: x12 :: x13 :: x14 :: x15 :: x16 :: x17 :: r) (aI v :: st) h Q := am_nxt (am_so_s hc ⟨fun _ => by first | rfl | contradiction, fun _ => by first | rfl | contradiction, fun _ => by first | rfl | contradiction⟩ (by simp)) k
theorem s_stA17 {x0 x1 x2 x3 x4 x5 x6 x7 x8 x9 x10 x11 x12 x13 x14 x15 x16 x17 : Option am_V} {r : List (Option am_V)} {v : Option am_R} (hc : am_so y pc = some (17, 1, p)) (k : am_W d y p (x0 :: x1 :: x2 :: x3 :: x4 :: x5 :: x6 :: x7 :: x8 :: x9 :: x10 :: x11 :: x12 :: x13 :: x14 :: x15 :: x16 :: some (aO v) :: r) st h Q) : am_W d y pc (x0 :: x1 :: x2 :: x3 :: x4 :: x5 :: x6 :: x7 :: x8 :: x9 :: x10 :: x11 :: x12 :: x13 :: x14 :: x15 :: x16 :: x17 :: r) (aO v :: st) h Q := am_nxt (am_so_s hc ⟨fun _ => by first | rfl | contradiction, fun _ => by first | rfl | contradiction, fun _ => by first | rfl | contradiction⟩ (by simp)) k
theorem s_inc17 {x0 x1 x2 x3 x4 x5 x6 x7 x8 x9 x10 x11 x12 x13 x14 x15 x16 : Option am_V} {r : List (Option am_V)} {v : Int32} {n0 : Int} (hc : am_c y pc = some (.iinc 17 n0, p)) (k : am_W d y p (x0 :: x1 :: x2 :: x3 :: x4 :: x5 :: x6 :: x7 :: x8 :: x9 :: x10 :: x11 :: x12 :: x13 :: x14 :: x15 :: x16 :: some (aI (v + Int32.ofInt n0)) :: r) st h Q) : am_W d y pc (x0 :: x1 :: x2 :: x3 :: x4 :: x5 :: x6 :: x7 :: x8 :: x9 :: x10 :: x11 :: x12 :: x13 :: x14 :: x15 :: x16 :: some (aI v) :: r) st h Q := by
  obtain ⟨n, e, rfl⟩ := am_c_s hc
  exact am_nxt (by simp [am_step, e, am_do, am_nx]) k
theorem s_stI18 {x0 x1 x2 x3 x4 x5 x6 x7 x8 x9 x10 x11 x12 x13 x14 x15 x16 x17 x18 : Option am_V} {r : List (Option am_V)} {v : Int32} (hc : am_so y pc = some (18, 0, p)) (k : am_W d y p (x0 :: x1 :: x2 :: x3 :: x4 :: x5 :: x6 :: x7 :: x8 :: x9 :: x10 :: x11 :: x12 :: x13 :: x14 :: x15 :: x16 :: x17 :: some (aI v) :: r) st h Q) : am_W d y pc (x0 :: x1 :: x2 :: x3 :: x4 :: x5 :: x6 :: x7 :: x8 :: x9 :: x10 :: x11 :: x12 :: x13 :: x14 :: x15 :: x16 :: x17 :: x18 :: r) (aI v :: st) h Q := am_nxt (am_so_s hc ⟨fun _ => by first | rfl | contradiction, fun _ => by first | rfl | contradiction, fun _ => by first | rfl | contradiction⟩ (by simp)) k
theorem s_stA18 {x0 x1 x2 x3 x4 x5 x6 x7 x8 x9 x10 x11 x12 x13 x14 x15 x16 x17 x18 : Option am_V} {r : List (Option am_V)} {v : Option am_R} (hc : am_so y pc = some (18, 1, p)) (k : am_W d y p (x0 :: x1 :: x2 :: x3 :: x4 :: x5 :: x6 :: x7 :: x8 :: x9 :: x10 :: x11 :: x12 :: x13 :: x14 :: x15 :: x16 :: x17 :: some (aO v) :: r) st h Q) : am_W d y pc (x0 :: x1 :: x2 :: x3 :: x4 :: x5 :: x6 :: x7 :: x8 :: x9 :: x10 :: x11 :: x12 :: x13 :: x14 :: x15 :: x16 :: x17 :: x18 :: r) (aO v :: st) h Q := am_nxt (am_so_s hc ⟨fun _ => by first | rfl | contradiction, fun _ => by first | rfl | contradiction, fun _ => by first | rfl | contradiction⟩ (by simp)) k
theorem s_inc18 {x0 x1 x2 x3 x4 x5 x6 x7 x8 x9 x10 x11 x12 x13 x14 x15 x16 x17 : Option am_V} {r : List (Option am_V)} {v : Int32} {n0 : Int} (hc : am_c y pc = some (.iinc 18 n0, p)) (k : am_W d y p (x0 :: x1 :: x2 :: x3 :: x4 :: x5 :: x6 :: x7 :: x8 :: x9 :: x10 :: x11 :: x12 :: x13 :: x14 :: x15 :: x16 :: x17 :: some (aI (v + Int32.ofInt n0)) :: r) st h Q) : am_W d y pc (x0 :: x1 :: x2 :: x3 :: x4 :: x5 :: x6 :: x7 :: x8 :: x9 :: x10 :: x11 :: x12 :: x13 :: x14 :: x15 :: x16 :: x17 :: some (aI v) :: r) st h Q := by
  obtain ⟨n, e, rfl⟩ := am_c_s hc
  exact am_nxt (by simp [am_step, e, am_do, am_nx]) k
theorem s_stI19 {x0 x1 x2 x3 x4 x5 x6 x7 x8 x9 x10 x11 x12 x13 x14 x15 x16 x17 x18 x19 : Option am_V} {r : List (Option am_V)} {v : Int32} (hc : am_so y pc = some (19, 0, p)) (k : am_W d y p (x0 :: x1 :: x2 :: x3 :: x4 :: x5 :: x6 :: x7 :: x8 :: x9 :: x10 :: x11 :: x12 :: x13 :: x14 :: x15 :: x16 :: x17 :: x18 :: some (aI v) :: r) st h Q) : am_W d y pc (x0 :: x1 :: x2 :: x3 :: x4 :: x5 :: x6 :: x7 :: x8 :: x9 :: x10 :: x11 :: x12 :: x13 :: x14 :: x15 :: x16 :: x17 :: x18 :: x19 :: r) (aI v :: st) h Q := am_nxt (am_so_s hc ⟨fun _ => by first | rfl | contradiction, fun _ => by first | rfl | contradiction, fun _ => by first | rfl | contradiction⟩ (by simp)) k
theorem s_stA19 {x0 x1 x2 x3 x4 x5 x6 x7 x8 x9 x10 x11 x12 x13 x14 x15 x16 x17 x18 x19 : Option am_V} {r : List (Option am_V)} {v : Option am_R} (hc : am_so y pc = some (19, 1, p)) (k : am_W d y p (x0 :: x1 :: x2 :: x3 :: x4 :: x5 :: x6 :: x7 :: x8 :: x9 :: x10 :: x11 :: x12 :: x13 :: x14 :: x15 :: x16 :: x17 :: x18 :: some (aO v) :: r) st h Q) : am_W d y pc (x0 :: x1 :: x2 :: x3 :: x4 :: x5 :: x6 :: x7 :: x8 :: x9 :: x10 :: x11 :: x12 :: x13 :: x14 :: x15 :: x16 :: x17 :: x18 :: x19 :: r) (aO v :: st) h Q := am_nxt (am_so_s hc ⟨fun _ => by first | rfl | contradiction, fun _ => by first | rfl | contradiction, fun _ => by first | rfl | contradiction⟩ (by simp)) k
theorem s_inc19 {x0 x1 x2 x3 x4 x5 x6 x7 x8 x9 x10 x11 x12 x13 x14 x15 x16 x17 x18 : Option am_V} {r : List (Option am_V)} {v : Int32} {n0 : Int} (hc : am_c y pc = some (.iinc 19 n0, p)) (k : am_W d y p (x0 :: x1 :: x2 :: x3 :: x4 :: x5 :: x6 :: x7 :: x8 :: x9 :: x10 :: x11 :: x12 :: x13 :: x14 :: x15 :: x16 :: x17 :: x18 :: some (aI (v + Int32.ofInt n0)) :: r) st h Q) : am_W d y pc (x0 :: x1 :: x2 :: x3 :: x4 :: x5 :: x6 :: x7 :: x8 :: x9 :: x10 :: x11 :: x12 :: x13 :: x14 :: x15 :: x16 :: x17 :: x18 :: some (aI v) :: r) st h Q := by
  obtain ⟨n, e, rfl⟩ := am_c_s hc
  exact am_nxt (by simp [am_step, e, am_do, am_nx]) k
theorem s_stI20 {x0 x1 x2 x3 x4 x5 x6 x7 x8 x9 x10 x11 x12 x13 x14 x15 x16 x17 x18 x19 x20 : Option am_V} {r : List (Option am_V)} {v : Int32} (hc : am_so y pc = some (20, 0, p)) (k : am_W d y p (x0 :: x1 :: x2 :: x3 :: x4 :: x5 :: x6 :: x7 :: x8 :: x9 :: x10 :: x11 :: x12 :: x13 :: x14 :: x15 :: x16 :: x17 :: x18 :: x19 :: some (aI v) :: r) st h Q) : am_W d y pc (x0 :: x1 :: x2 :: x3 :: x4 :: x5 :: x6 :: x7 :: x8 :: x9 :: x10 :: x11 :: x12 :: x13 :: x14 :: x15 :: x16 :: x17 :: x18 :: x19 :: x20 :: r) (aI v :: st) h Q := am_nxt (am_so_s hc ⟨fun _ => by first | rfl | contradiction, fun _ => by first | rfl | contradiction, fun _ => by first | rfl | contradiction⟩ (by simp)) k
theorem s_stA20 {x0 x1 x2 x3 x4 x5 x6 x7 x8 x9 x10 x11 x12 x13 x14 x15 x16 x17 x18 x19 x20 : Option am_V} {r : List (Option am_V)} {v : Option am_R} (hc : am_so y pc = some (20, 1, p)) (k : am_W d y p (x0 :: x1 :: x2 :: x3 :: x4 :: x5 :: x6 :: x7 :: x8 :: x9 :: x10 :: x11 :: x12 :: x13 :: x14 :: x15 :: x16 :: x17 :: x18 :: x19 :: some (aO v) :: r) st h Q) : am_W d y pc (x0 :: x1 :: x2 :: x3 :: x4 :: x5 :: x6 :: x7 :: x8 :: x9 :: x10 :: x11 :: x12 :: x13 :: x14 :: x15 :: x16 :: x17 :: x18 :: x19 :: x20 :: r) (aO v :: st) h Q := am_nxt (am_so_s hc ⟨fun _ => by first | rfl | contradiction, fun _ => by first | rfl | contradiction, fun _ => by first | rfl | contradiction⟩ (by simp)) k
theorem s_inc20 {x0 x1 x2 x3 x4 x5 x6 x7 x8 x9 x10 x11 x12 x13 x14 x15 x16 x17 x18 x19 : Option am_V} {r : List (Option am_V)} {v : Int32} {n0 : Int} (hc : am_c y pc = some (.iinc 20 n0, p)) (k : am_W d y p (x0 :: x1 :: x2 :: x3 :: x4 :: x5 :: x6 :: x7 :: x8 :: x9 :: x10 :: x11 :: x12 :: x13 :: x14 :: x15 :: x16 :: x17 :: x18 :: x19 :: some (aI (v + Int32.ofInt n0)) :: r) st h Q) : am_W d y pc (x0 :: x1 :: x2 :: x3 :: x4 :: x5 :: x6 :: x7 :: x8 :: x9 :: x10 :: x11 :: x12 :: x13 :: x14 :: x15 :: x16 :: x17 :: x18 :: x19 :: some (aI v) :: r) st h Q := by
  obtain ⟨n, e, rfl⟩ := am_c_s hc
  exact am_nxt (by simp [am_step, e, am_do, am_nx]) k
theorem s_stF7 {x0 x1 x2 x3 x4 x5 x6 x7 : Option am_V} {r : List (Option am_V)} {v : UInt32} (hc : am_so y pc = some (7, 2, p)) (k : am_W d y p (x0 :: x1 :: x2 :: x3 :: x4 :: x5 :: x6 :: some (aF v) :: r) st h Q) : am_W d y pc (x0 :: x1 :: x2 :: x3 :: x4 :: x5 :: x6 :: x7 :: r) (aF v :: st) h Q := am_nxt (am_so_s hc ⟨fun _ => by first | rfl | contradiction, fun _ => by first | rfl | contradiction, fun _ => by first | rfl | contradiction⟩ (by simp)) k
/-- calls: with a receiver or not, the method, its arguments, the next place -/
def am_ca (y pc : Nat) : Option (Bool × Nat × Nat × Nat) := match am_c y pc with
  | some (.invokestatic i, p) => (match am_cl (am_K y i) with | some (kd, y', na) => if kd = 0 ∨ kd = 10 then some (false, y', na, p) else none | none => none)
  | some (.invokevirtual i, p) => (match am_cl (am_K y i) with | some (kd, y', na) => if kd = 1 then some (true, y', na, p) else none | none => none)
  | some (.invokespecial i, p) => (match am_cl (am_K y i) with | some (kd, y', na) => if kd = 2 ∨ kd = 12 then some (true, y', na, p) else none | none => none)
  | some (.invokeinterface i _, p) => (match am_cl (am_K y i) with | some (kd, y', na) => if kd = 3 then some (true, y', na, p) else none | none => none)
  | _ => none
theorem am_ca_s {b : Bool} {y' na : Nat} (hc : am_ca y pc = some (b, y', na, p)) : am_step y pc ls st h = am_cs y' na p b st := by
  unfold am_ca at hc
  split at hc
  · rename_i i p' hc'
    obtain ⟨n, e, rfl⟩ := am_c_s hc'
    split at hc
    · rename_i kd y0 na0 hf
      split at hc
      · rename_i hk
        cases hc
        simp only [am_step, e, am_do, hf]; rw [if_pos hk]
      · cases hc
    · cases hc
  · rename_i i p' hc'
    obtain ⟨n, e, rfl⟩ := am_c_s hc'
    split at hc
    · rename_i kd y0 na0 hf
      split at hc
      · rename_i hk
        cases hc
        simp only [am_step, e, am_do, hf]; rw [if_pos hk]
      · cases hc
    · cases hc
  · rename_i i p' hc'
    obtain ⟨n, e, rfl⟩ := am_c_s hc'
    split at hc
    · rename_i kd y0 na0 hf
      split at hc
      · rename_i hk
        cases hc
        simp only [am_step, e, am_do, hf]; rw [if_pos hk]
      · cases hc
    · cases hc
  · rename_i i c0 p' hc'
    obtain ⟨n, e, rfl⟩ := am_c_s hc'
    split at hc
    · rename_i kd y0 na0 hf
      split at hc
      · rename_i hk
        cases hc
        simp only [am_step, e, am_do, hf]; rw [if_pos hk]
      · cases hc
    · cases hc
  · cases hc
/-- what comes behind a call -/
def am_B (d y pc p : Nat) (ls : List (Option am_V)) (r : List am_V) (Q : am_O → am_H → Prop) (o : am_O) (h' : am_H) : Prop := match o with
  | .inl none => am_W d y p ls r h' Q
  | .inl (some v) => am_W d y p ls (v :: r) h' Q
  | .inr q => match am_hnd (am_hh y) pc q with | some hp => (match am_hs y hp with | some (k, p') => k < ls.length ∧ am_W d y p' (ls.set k none) [] h' Q | none => False) | none => am_hh y = [] ∧ Q (.inr q) h'
/-- a method that changes nothing and answers v -/
abbrev am_is (v : am_V) (h : am_H) : am_O → am_H → Prop := fun o h' => o = .inl (some v) ∧ h' = h
theorem s_cs0 {y' d0 : Nat} {r : List am_V} {Q1 : am_O → am_H → Prop} (hc : am_ca y pc = some (false, y', 0, p)) (hx : am_sum [] = 0) (hs : am_sum r ≤ 8) (hC : am_C d0 y' [] h Q1) (hd : d0 ≤ d) (kk : ∀ o h', Q1 o h' → am_B (d + 1) y pc p ls r Q o h') : am_W (d + 1) y pc ls (r) h Q := am_call (by rw [am_ca_s hc]; simp [am_cs, hs, hx]) hC hd kk
theorem s_cv0 {y' d0 kt q : Nat} {r : List am_V} {Q1 : am_O → am_H → Prop} (hc : am_ca y pc = some (true, y', 0, p)) (hk : am_kc kt = some (am_ow y')) (hx : am_sum [] = 0) (hs : am_sum r ≤ 8) (hC : am_C d0 y' [aR kt q] h Q1) (hd : d0 ≤ d) (kk : ∀ o h', Q1 o h' → am_B (d + 1) y pc p ls r Q o h') : am_W (d + 1) y pc ls (aR kt q :: r) h Q := am_call (by rw [am_ca_s hc]; simp [am_cs, hs, hk, hx]) hC hd kk
theorem s_cs1 {y' d0 : Nat} {x0 : am_V} {r : List am_V} {Q1 : am_O → am_H → Prop} (hc : am_ca y pc = some (false, y', 1, p)) (hx : am_sum [x0] = 1) (hs : am_sum r ≤ 8) (hC : am_C d0 y' [x0] h Q1) (hd : d0 ≤ d) (kk : ∀ o h', Q1 o h' → am_B (d + 1) y pc p ls r Q o h') : am_W (d + 1) y pc ls (x0 :: r) h Q := am_call (by rw [am_ca_s hc]; simp [am_cs, hs, hx]) hC hd kk
theorem s_cv1 {y' d0 kt q : Nat} {x0 : am_V} {r : List am_V} {Q1 : am_O → am_H → Prop} (hc : am_ca y pc = some (true, y', 1, p)) (hk : am_kc kt = some (am_ow y')) (hx : am_sum [x0] = 1) (hs : am_sum r ≤ 8) (hC : am_C d0 y' [aR kt q, x0] h Q1) (hd : d0 ≤ d) (kk : ∀ o h', Q1 o h' → am_B (d + 1) y pc p ls r Q o h') : am_W (d + 1) y pc ls (x0 :: aR kt q :: r) h Q := am_call (by rw [am_ca_s hc]; simp [am_cs, hs, hk, hx]) hC hd kk
theorem s_cs2 {y' d0 : Nat} {x0 x1 : am_V} {r : List am_V} {Q1 : am_O → am_H → Prop} (hc : am_ca y pc = some (false, y', 2, p)) (hx : am_sum [x1, x0] = 2) (hs : am_sum r ≤ 8) (hC : am_C d0 y' [x0, x1] h Q1) (hd : d0 ≤ d) (kk : ∀ o h', Q1 o h' → am_B (d + 1) y pc p ls r Q o h') : am_W (d + 1) y pc ls (x1 :: x0 :: r) h Q := am_call (by rw [am_ca_s hc]; simp [am_cs, hs, hx]) hC hd kk
theorem s_cv2 {y' d0 kt q : Nat} {x0 x1 : am_V} {r : List am_V} {Q1 : am_O → am_H → Prop} (hc : am_ca y pc = some (true, y', 2, p)) (hk : am_kc kt = some (am_ow y')) (hx : am_sum [x1, x0] = 2) (hs : am_sum r ≤ 8) (hC : am_C d0 y' [aR kt q, x0, x1] h Q1) (hd : d0 ≤ d) (kk : ∀ o h', Q1 o h' → am_B (d + 1) y pc p ls r Q o h') : am_W (d + 1) y pc ls (x1 :: x0 :: aR kt q :: r) h Q := am_call (by rw [am_ca_s hc]; simp [am_cs, hs, hk, hx]) hC hd kk
theorem s_cs3 {y' d0 : Nat} {x0 x1 x2 : am_V} {r : List am_V} {Q1 : am_O → am_H → Prop} (hc : am_ca y pc = some (false, y', 3, p)) (hx : am_sum [x2, x1, x0] = 3) (hs : am_sum r ≤ 8) (hC : am_C d0 y' [x0, x1, x2] h Q1) (hd : d0 ≤ d) (kk : ∀ o h', Q1 o h' → am_B (d + 1) y pc p ls r Q o h') : am_W (d + 1) y pc ls (x2 :: x1 :: x0 :: r) h Q := am_call (by rw [am_ca_s hc]; simp [am_cs, hs, hx]) hC hd kk
theorem s_cv3 {y' d0 kt q : Nat} {x0 x1 x2 : am_V} {r : List am_V} {Q1 : am_O → am_H → Prop} (hc : am_ca y pc = some (true, y', 3, p)) (hk : am_kc kt = some (am_ow y')) (hx : am_sum [x2, x1, x0] = 3) (hs : am_sum r ≤ 8) (hC : am_C d0 y' [aR kt q, x0, x1, x2] h Q1) (hd : d0 ≤ d) (kk : ∀ o h', Q1 o h' → am_B (d + 1) y pc p ls r Q o h') : am_W (d + 1) y pc ls (x2 :: x1 :: x0 :: aR kt q :: r) h Q := am_call (by rw [am_ca_s hc]; simp [am_cs, hs, hk, hx]) hC hd kk
theorem s_cs4 {y' d0 : Nat} {x0 x1 x2 x3 : am_V} {r : List am_V} {Q1 : am_O → am_H → Prop} (hc : am_ca y pc = some (false, y', 4, p)) (hx : am_sum [x3, x2, x1, x0] = 4) (hs : am_sum r ≤ 8) (hC : am_C d0 y' [x0, x1, x2, x3] h Q1) (hd : d0 ≤ d) (kk : ∀ o h', Q1 o h' → am_B (d + 1) y pc p ls r Q o h') : am_W (d + 1) y pc ls (x3 :: x2 :: x1 :: x0 :: r) h Q := am_call (by rw [am_ca_s hc]; simp [am_cs, hs, hx]) hC hd kk
theorem s_cv4 {y' d0 kt q : Nat} {x0 x1 x2 x3 : am_V} {r : List am_V} {Q1 : am_O → am_H → Prop} (hc : am_ca y pc = some (true, y', 4, p)) (hk : am_kc kt = some (am_ow y')) (hx : am_sum [x3, x2, x1, x0] = 4) (hs : am_sum r ≤ 8) (hC : am_C d0 y' [aR kt q, x0, x1, x2, x3] h Q1) (hd : d0 ≤ d) (kk : ∀ o h', Q1 o h' → am_B (d + 1) y pc p ls r Q o h') : am_W (d + 1) y pc ls (x3 :: x2 :: x1 :: x0 :: aR kt q :: r) h Q := am_call (by rw [am_ca_s hc]; simp [am_cs, hs, hk, hx]) hC hd kk
theorem s_cs5 {y' d0 : Nat} {x0 x1 x2 x3 x4 : am_V} {r : List am_V} {Q1 : am_O → am_H → Prop} (hc : am_ca y pc = some (false, y', 5, p)) (hx : am_sum [x4, x3, x2, x1, x0] = 5) (hs : am_sum r ≤ 8) (hC : am_C d0 y' [x0, x1, x2, x3, x4] h Q1) (hd : d0 ≤ d) (kk : ∀ o h', Q1 o h' → am_B (d + 1) y pc p ls r Q o h') : am_W (d + 1) y pc ls (x4 :: x3 :: x2 :: x1 :: x0 :: r) h Q := am_call (by rw [am_ca_s hc]; simp [am_cs, hs, hx]) hC hd kk
theorem s_cv5 {y' d0 kt q : Nat} {x0 x1 x2 x3 x4 : am_V} {r : List am_V} {Q1 : am_O → am_H → Prop} (hc : am_ca y pc = some (true, y', 5, p)) (hk : am_kc kt = some (am_ow y')) (hx : am_sum [x4, x3, x2, x1, x0] = 5) (hs : am_sum r ≤ 8) (hC : am_C d0 y' [aR kt q, x0, x1, x2, x3, x4] h Q1) (hd : d0 ≤ d) (kk : ∀ o h', Q1 o h' → am_B (d + 1) y pc p ls r Q o h') : am_W (d + 1) y pc ls (x4 :: x3 :: x2 :: x1 :: x0 :: aR kt q :: r) h Q := am_call (by rw [am_ca_s hc]; simp [am_cs, hs, hk, hx]) hC hd kk
theorem s_cs6 {y' d0 : Nat} {x0 x1 x2 x3 x4 x5 : am_V} {r : List am_V} {Q1 : am_O → am_H → Prop} (hc : am_ca y pc = some (false, y', 6, p)) (hx : am_sum [x5, x4, x3, x2, x1, x0] = 6) (hs : am_sum r ≤ 8) (hC : am_C d0 y' [x0, x1, x2, x3, x4, x5] h Q1) (hd : d0 ≤ d) (kk : ∀ o h', Q1 o h' → am_B (d + 1) y pc p ls r Q o h') : am_W (d + 1) y pc ls (x5 :: x4 :: x3 :: x2 :: x1 :: x0 :: r) h Q := am_call (by rw [am_ca_s hc]; simp [am_cs, hs, hx]) hC hd kk
theorem s_cv6 {y' d0 kt q : Nat} {x0 x1 x2 x3 x4 x5 : am_V} {r : List am_V} {Q1 : am_O → am_H → Prop} (hc : am_ca y pc = some (true, y', 6, p)) (hk : am_kc kt = some (am_ow y')) (hx : am_sum [x5, x4, x3, x2, x1, x0] = 6) (hs : am_sum r ≤ 8) (hC : am_C d0 y' [aR kt q, x0, x1, x2, x3, x4, x5] h Q1) (hd : d0 ≤ d) (kk : ∀ o h', Q1 o h' → am_B (d + 1) y pc p ls r Q o h') : am_W (d + 1) y pc ls (x5 :: x4 :: x3 :: x2 :: x1 :: x0 :: aR kt q :: r) h Q := am_call (by rw [am_ca_s hc]; simp [am_cs, hs, hk, hx]) hC hd kk
theorem s_cs7 {y' d0 : Nat} {x0 x1 x2 x3 x4 x5 x6 : am_V} {r : List am_V} {Q1 : am_O → am_H → Prop} (hc : am_ca y pc = some (false, y', 7, p)) (hx : am_sum [x6, x5, x4, x3, x2, x1, x0] = 7) (hs : am_sum r ≤ 8) (hC : am_C d0 y' [x0, x1, x2, x3, x4, x5, x6] h Q1) (hd : d0 ≤ d) (kk : ∀ o h', Q1 o h' → am_B (d + 1) y pc p ls r Q o h') : am_W (d + 1) y pc ls (x6 :: x5 :: x4 :: x3 :: x2 :: x1 :: x0 :: r) h Q := am_call (by rw [am_ca_s hc]; simp [am_cs, hs, hx]) hC hd kk
theorem s_cv7 {y' d0 kt q : Nat} {x0 x1 x2 x3 x4 x5 x6 : am_V} {r : List am_V} {Q1 : am_O → am_H → Prop} (hc : am_ca y pc = some (true, y', 7, p)) (hk : am_kc kt = some (am_ow y')) (hx : am_sum [x6, x5, x4, x3, x2, x1, x0] = 7) (hs : am_sum r ≤ 8) (hC : am_C d0 y' [aR kt q, x0, x1, x2, x3, x4, x5, x6] h Q1) (hd : d0 ≤ d) (kk : ∀ o h', Q1 o h' → am_B (d + 1) y pc p ls r Q o h') : am_W (d + 1) y pc ls (x6 :: x5 :: x4 :: x3 :: x2 :: x1 :: x0 :: aR kt q :: r) h Q := am_call (by rw [am_ca_s hc]; simp [am_cs, hs, hk, hx]) hC hd kk
theorem s_cs8 {y' d0 : Nat} {x0 x1 x2 x3 x4 x5 x6 x7 : am_V} {r : List am_V} {Q1 : am_O → am_H → Prop} (hc : am_ca y pc = some (false, y', 8, p)) (hx : am_sum [x7, x6, x5, x4, x3, x2, x1, x0] = 8) (hs : am_sum r ≤ 8) (hC : am_C d0 y' [x0, x1, x2, x3, x4, x5, x6, x7] h Q1) (hd : d0 ≤ d) (kk : ∀ o h', Q1 o h' → am_B (d + 1) y pc p ls r Q o h') : am_W (d + 1) y pc ls (x7 :: x6 :: x5 :: x4 :: x3 :: x2 :: x1 :: x0 :: r) h Q := am_call (by rw [am_ca_s hc]; simp [am_cs, hs, hx]) hC hd kk
theorem s_cv8 {y' d0 kt q : Nat} {x0 x1 x2 x3 x4 x5 x6 x7 : am_V} {r : List am_V} {Q1 : am_O → am_H → Prop} (hc : am_ca y pc = some (true, y', 8, p)) (hk : am_kc kt = some (am_ow y')) (hx : am_sum [x7, x6, x5, x4, x3, x2, x1, x0] = 8) (hs : am_sum r ≤ 8) (hC : am_C d0 y' [aR kt q, x0, x1, x2, x3, x4, x5, x6, x7] h Q1) (hd : d0 ≤ d) (kk : ∀ o h', Q1 o h' → am_B (d + 1) y pc p ls r Q o h') : am_W (d + 1) y pc ls (x7 :: x6 :: x5 :: x4 :: x3 :: x2 :: x1 :: x0 :: aR kt q :: r) h Q := am_call (by rw [am_ca_s hc]; simp [am_cs, hs, hk, hx]) hC hd kk
theorem s_cw0 {y' d0 kt q : Nat} {r : List am_V} {Q1 : am_O → am_H → Prop} (hc : am_ca y pc = some (true, y', 0, p)) (hk : am_kc kt = some 10) (h12 : 11 < am_ow y') (hs : am_sum r ≤ 8) (hC : am_C d0 y' [aR kt q] h Q1) (hd : d0 ≤ d) (kk : ∀ o h', Q1 o h' → am_B (d + 1) y pc p ls r Q o h') : am_W (d + 1) y pc ls (aR kt q :: r) h Q := am_call (by rw [am_ca_s hc]; simp [am_cs, hs, hk, h12, am_sum]) hC hd kk
theorem am_B_is {r : List am_V} {v : am_V} {o : am_O} {h' : am_H} (k : am_W d y p ls (v :: r) h Q) (e : am_is v h o h') : am_B d y pc p ls r Q o h' := by
  obtain ⟨rfl, rfl⟩ := e
  exact k
end ROWS

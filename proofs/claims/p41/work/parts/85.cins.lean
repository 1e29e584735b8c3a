noncomputable section
def insC (s : am_Z) (b p l sh tx st : Int) : am_Z := (fun j x => if (53 ≤ j ∧ j ≤ 58) ∧ 10 * b + p ≤ x ∧ x ≤ 10 * b + rA s 52 b then (if x = 10 * b + p then (if j = 53 then l else if j = 56 then st else if j = 57 then sh else if j = 58 then tx else 0) else rA s j (x - 1)) else if j = 52 ∧ x = b then rA s 52 b + 1 else rA s j x, s.2)
section INS
variable {s : am_Z} {b p l sh tx st : Int}
theorem ins_A (j : Nat) (x : Int) : rA (insC s b p l sh tx st) j x = if (53 ≤ j ∧ j ≤ 58) ∧ 10 * b + p ≤ x ∧ x ≤ 10 * b + rA s 52 b then (if x = 10 * b + p then (if j = 53 then l else if j = 56 then st else if j = 57 then sh else if j = 58 then tx else 0) else rA s j (x - 1)) else if j = 52 ∧ x = b then rA s 52 b + 1 else rA s j x := rfl
theorem ins_o {j : Nat} {x : Int} (h1 : ¬ ((53 ≤ j ∧ j ≤ 58) ∧ 10 * b + p ≤ x ∧ x ≤ 10 * b + rA s 52 b)) (h2 : ¬ (j = 52 ∧ x = b)) : rA (insC s b p l sh tx st) j x = rA s j x := by rw [ins_A, if_neg h1, if_neg h2]
theorem ins_n {j : Nat} (h : 53 ≤ j ∧ j ≤ 58) (hp : p ≤ rA s 52 b) : rA (insC s b p l sh tx st) j (10 * b + p) = if j = 53 then l else if j = 56 then st else if j = 57 then sh else if j = 58 then tx else 0 := by rw [ins_A, if_pos (by omega), if_pos rfl]
theorem ins_u {j : Nat} {k : Int} (h : 53 ≤ j ∧ j ≤ 58) (hk : p < k ∧ k ≤ rA s 52 b) : rA (insC s b p l sh tx st) j (10 * b + k) = rA s j (10 * b + (k - 1)) := by
  rw [ins_A, if_pos (by omega), if_neg (by omega)]
  exact congrArg (rA s j) (by omega)
theorem ins_52 : rA (insC s b p l sh tx st) 52 b = rA s 52 b + 1 := by rw [ins_A, if_neg (by omega), if_pos ⟨rfl, rfl⟩]
theorem ins_I {j : Nat} : rI (insC s b p l sh tx st) j = rI s j := rfl
theorem ins_B (B : in_S s) (h9 : rA s 52 b ≤ 9) (hl : 0 ≤ l ∧ l ≤ 1160 ∧ l % 100 ≤ 60) (hsh : -2147483648 ≤ sh ∧ sh ≤ 2147483647) (htx : 0 ≤ tx ∧ tx ≤ 500) (hst : 0 ≤ st ∧ st ≤ 3) : in_S (insC s b p l sh tx st) := by
  have b52 := B.1 52 b 0 10 rfl
  refine ⟨fun j x lo hi h => ?_, B.2.1, fun j x h => ?_⟩
  · rw [ins_A]
    split
    · rename_i z
      split
      · by_cases e3 : j = 53
        · subst e3; cases h; rw [if_pos rfl]; omega
        · rw [if_neg e3]
          by_cases e6 : j = 56
          · subst e6; cases h; rw [if_pos rfl]; omega
          · rw [if_neg e6]
            by_cases e7 : j = 57
            · subst e7; cases h; rw [if_pos rfl]; omega
            · rw [if_neg e7]
              by_cases e8 : j = 58
              · subst e8; cases h; rw [if_pos rfl]; omega
              · rw [if_neg e8]
                have e : j = 54 ∨ j = 55 := by omega
                rcases e with e | e
                · subst e; cases h; omega
                · subst e; cases h; omega
      · exact B.1 j _ lo hi h
    · split
      · rename_i z
        rw [z.1] at h
        cases h
        omega
      · exact B.1 j x lo hi h
  · rw [ins_A]
    split
    · split
      · by_cases e3 : j = 53
        · rw [if_pos e3]; omega
        · rw [if_neg e3]
          have hl2 : j = 34 ∨ j = 36 ∨ j = 65 := by
            unfold rLg at h
            simp only [Bool.or_eq_true, Nat.beq_eq] at h
            omega
          omega
      · exact B.2.2 j _ h
    · split
      · rename_i z
        rw [z.1] at h
        cases h
      · exact B.2.2 j x h
end INS
def inH (q : am_A) (b p : Nat) (l sh tx st : Int) : am_A := uLS (cpH q (some (5, lId q l)) 0 st sh tx) (1003, b) (insL (qLS q (1003, b)) p (1, qCN q 1))
section INH
variable {e b p : Nat} {q : am_A} {s : am_Z} {l sh tx st : Int}
theorem inH_G : am_GD (fun t i => (t = 1 ∧ i = qCN q 1) ∨ (t = 1003 ∧ i = b)) q (inH q b p l sh tx st) := GD_LS (GD_w cpH_G (fun t i z => Or.inl z)) (Or.inr ⟨rfl, rfl⟩)
theorem inH_cn (t : Nat) : qCN (inH q b p l sh tx st) t = if t = 1 then qCN q 1 + 1 else qCN q t := cpH_cn (l := some (5, lId q l)) (bk := 0) (st := st) (sh := sh) (tx := tx)
theorem inH_ls : qLS (inH q b p l sh tx st) (1003, b) = insL (qLS q (1003, b)) p (1, qCN q 1) := by
  unfold inH
  exact if_pos rfl
theorem inH_cp (r : am_R) : qCP (inH q b p l sh tx st) r = qCP q r := by
  unfold inH
  show qCP (cpH q (some (5, lId q l)) 0 st sh tx) r = qCP q r
  unfold cpH
  rw [uFs_CP]
  rfl
theorem inH_l (x : Int) : lId (inH q b p l sh tx st) x = lId q x := lId_cg (fun i k => (inH_G 1408 i (by omega)).2.2.2.1 k)
theorem inH_c (hp : p ≤ (qLS q (1003, b)).length) (k : Nat) : cId (inH q b p l sh tx st) b k = if k < p then cId q b k else if k = p then qCN q 1 else cId q b (k - 1) := by
  unfold cId
  rw [inH_ls, insL_g hp]
  by_cases h1 : k < p
  · rw [if_pos h1, if_pos h1]
  · rw [if_neg h1, if_neg h1]
    by_cases h2 : k = p
    · rw [if_pos h2, if_pos h2]
    · rw [if_neg h2, if_neg h2]
theorem CI_ins (I : am_CI e q s) (hb : (b : Int) < rI s 44) (hp : 0 < p ∧ (p : Int) ≤ rA s 52 b) (h9 : rA s 52 b ≤ 9) (hl : legP s l) (hsh : -2147483648 ≤ sh ∧ sh ≤ 2147483647) (htx : 0 ≤ tx ∧ tx ≤ 500) (hst : 0 ≤ st ∧ st ≤ 3) : am_CI e (inH q b p l sh tx st) (insC s b p l sh tx st) := by
  have V := I.1
  have b44 := (CV_B V).2.1 44 0 40 rfl
  have b3 := (CV_B V).2.1 3 0 12 rfl
  have G : am_GD (fun t i => (t = 1 ∧ i = qCN q 1) ∨ (t = 1003 ∧ i = b)) q (inH q b p l sh tx st) := inH_G
  have cn := inH_cn (q := q) (b := b) (p := p) (l := l) (sh := sh) (tx := tx) (st := st)
  have cnm : ∀ t, qCN q t ≤ qCN (inH q b p l sh tx st) t := fun t => by
    rw [cn]
    split
    · rename_i z; rw [z]; exact Nat.le_succ _
    · exact Nat.le_refl _
  have cne : ∀ t, t ≠ 1 → qCN (inH q b p l sh tx st) t = qCN q t := fun t h => by rw [cn, if_neg h]
  have mm : ∀ j x, (j < 52 ∨ 58 < j) → rA (insC s b p l sh tx st) j x = rA s j x := fun j x h => ins_o (by omega) (by omega)
  have hm : ∀ x, legP s x → legP (insC s b p l sh tx st) x := fun x h => (legP_cg (fun j y hj => mm j y (by omega)) rfl).mpr h
  have hO : ∀ x, legP s x → legO (inH q b p l sh tx st) x = legO q x := fun x h => legO_G G h.1 h.2.1 (fun i _ => by omega)
  have hl1 := hl.1
  have hl2 := hl.2.1
  have hl3 := hl.2.2.1
  have B' := ins_B (b := b) (p := p) (l := l) (sh := sh) (tx := tx) (st := st) (CV_B V) h9 (by omega) hsh htx hst
  obtain ⟨v1, v2, v3, v4, v5, v6, v7, v8, v9, B⟩ := V
  have hBb := v7.2.2.1 b hb
  have hlen : ((qLS q (1003, b)).length : Int) = rA s 52 b := hBb.2.2.2.2.1
  have cI := inH_c (q := q) (b := b) (l := l) (sh := sh) (tx := tx) (st := st) (p := p) (by omega)
  have cO : ∀ b' k : Nat, b' ≠ b → cId (inH q b p l sh tx st) b' k = cId q b' k := fun b' k h => cId_G G (by omega)
  have s52 : ∀ b' : Nat, b' ≠ b → rA (insC s b p l sh tx st) 52 b' = rA s 52 b' := fun b' h => ins_o (by omega) (by omega)
  refine ⟨⟨CT_G v1 G (by omega) (fun x _ => (G 6 0 (by omega)).2.1 x) (fun k c hk => (G k 0 (by have := cLen_r k c hk; omega)).2.2.2.2.1) cnm, CN_G v2 G (by omega) ⟨by omega, by omega, by omega, by omega⟩ (fun j x h => mm j x (by omega)) rfl rfl, ?_, ?_, ?_, ?_, ?_, ?_, fun k hk => by rw [inH_cp]; exact v9 k hk, B'⟩, ?_, ?_⟩
  · exact CF_G v3 G (by omega) (fun i _ => ⟨by omega, by omega⟩) (fun i _ => (G 1408 i (by omega)).2.2.2.2.1) (fun t h => cne t (by omega)) (fun j x h => mm j x (by omega)) rfl
  · exact CL_G v4 G (fun i _ => by omega) (fun j _ => by omega) (cnm 5) (fun j x h => mm j x (by omega)) rfl
  · exact CA_G v5 G (by omega) (fun i _ => by omega) (cne 3 (by omega)) (fun j x h => mm j x (by omega)) rfl
  · exact LL_G v6 G (by omega) hO hm rfl (fun k _ _ => mm 34 _ (by omega))
  · refine ⟨(G 1806 0 (by omega)).2.2.2.2.2.1.trans v7.1, ⟨Nat.le_trans v7.2.1.1 (cnm 0), Nat.le_trans v7.2.1.2.1 (cnm 1003), Nat.le_trans v7.2.1.2.2.1 (cnm 1004), Nat.le_trans v7.2.1.2.2.2 (cnm 1005)⟩, fun b' hb' => ?_, fun b' k hb' hk => ?_, fun b1 k1 b2 k2 a1 a2 a3 a4 a5 => ?_⟩
    · by_cases eb : b' = b
      · subst eb
        obtain ⟨f1, f2, f3, f4, f5, f6⟩ := hBb
        obtain ⟨g1, g2, -⟩ := G 0 b' (by omega)
        have g4 := G 1004 b' (by omega)
        have g5 := G 1005 b' (by omega)
        refine ⟨fun f j hf => ?_, ⟨(g2 3).trans f2.1, (g2 4).trans f2.2.1, (g2 5).trans f2.2.2⟩, ⟨g4.2.2.2.2.1.trans f3.1, g5.2.2.2.2.1.trans f3.2⟩, fun k z1 z2 => ?_, ?_, by rw [inH_cp]; exact f6⟩
        · have hr := fBk_r2 f j hf
          rw [g1, mm j _ (by omega)]
          exact f1 f j hf
        · rw [g4.2.2.1, g5.2.2.1, mm 59 _ (by omega), mm 60 _ (by omega)]
          exact f4 k z1 z2
        · rw [inH_ls, insL_l (by omega), ins_52]
          omega
      · exact Bk_G (v7.2.2.1 b' hb') G ⟨by omega, by omega, by omega, by omega⟩ (fun j _ _ => ins_o (by omega) (by omega)) (fun j hj k _ _ => mm j _ (by omega))
    · by_cases eb : b' = b
      · subst eb
        rw [ins_52] at hk
        unfold am_Cp
        rw [inH_ls, insL_g (by omega), cI k, cn]
        by_cases h1 : k < p
        · obtain ⟨u1, u2, u3, u4, u5⟩ := v7.2.2.2.1 b' k hb' (by omega)
          obtain ⟨g1, g2, -⟩ := G 1 (cId q b' k) (by omega)
          have e53 : ∀ j, 53 ≤ j ∧ j ≤ 58 → rA (insC s b' p l sh tx st) j (10 * b' + k) = rA s j (10 * b' + k) := fun j h => ins_o (by omega) (by omega)
          rw [if_pos h1, if_pos h1, if_pos rfl, e53 53 (by omega), inH_l, g2]
          refine ⟨u1, by omega, u3, hm _ u4, fun f j hf => ?_⟩
          have hr := fCp_r2 f j hf
          rw [g1, e53 j (by omega)]
          exact u5 f j hf
        · by_cases h2 : k = p
          · have e53 : ∀ j, 53 ≤ j ∧ j ≤ 58 → rA (insC s b' p l sh tx st) j (10 * b' + k) = if j = 53 then l else if j = 56 then st else if j = 57 then sh else if j = 58 then tx else 0 := fun j h => by rw [h2]; exact ins_n h (by omega)
            have fi : ∀ f, qFI (inH q b' p l sh tx st) f (1, qCN q 1) = (lkF f [(105, 0), (101, 0), (102, st), (103, sh), (104, tx)]).getD 0 := fun f => cpH_I (q := q) (l := some (5, lId q l)) (bk := 0) (st := st) (sh := sh) (tx := tx)
            have fr : qFR (inH q b' p l sh tx st) 100 (1, qCN q 1) = some (5, lId q l) := cpH_R (q := q) (l := some (5, lId q l)) (bk := 0) (st := st) (sh := sh) (tx := tx)
            rw [if_neg h1, if_pos h2, if_neg h1, if_pos h2, if_pos rfl, e53 53 (by omega), inH_l, fr]
            refine ⟨rfl, Nat.lt_succ_self _, rfl, hm l hl, ?_⟩
            exact (am_nd_ok (am_nd_ok (am_lf_ok (by rw [fi 101, e53 54 (by omega)]; rfl)) (am_lf_ok (by rw [fi 102, e53 56 (by omega)]; rfl))) (am_nd_ok (am_lf_ok (by rw [fi 103, e53 57 (by omega)]; rfl)) (am_nd_ok (am_lf_ok (by rw [fi 104, e53 58 (by omega)]; rfl)) (am_lf_ok (by rw [fi 105, e53 55 (by omega)]; rfl)))) : am_all fCp (fun f j => qFI (inH q b' p l sh tx st) f (1, qCN q 1) = rA (insC s b' p l sh tx st) j (10 * b' + k)))
          · obtain ⟨u1, u2, u3, u4, u5⟩ := v7.2.2.2.1 b' (k - 1) hb' (by omega)
            obtain ⟨g1, g2, -⟩ := G 1 (cId q b' (k - 1)) (by omega)
            have e53 : ∀ j, 53 ≤ j ∧ j ≤ 58 → rA (insC s b' p l sh tx st) j (10 * b' + k) = rA s j (10 * b' + ((k - 1 : Nat) : Int)) := fun j h => by rw [show (((k - 1 : Nat)) : Int) = (k : Int) - 1 by omega]; exact ins_u h (by omega)
            rw [if_neg h1, if_neg h2, if_neg h1, if_neg h2, if_pos rfl, e53 53 (by omega), inH_l, g2]
            refine ⟨u1, by omega, u3, hm _ u4, fun f j hf => ?_⟩
            have hr := fCp_r2 f j hf
            rw [g1, e53 j (by omega)]
            exact u5 f j hf
      · have h10 := B.1 52 b' 0 10 rfl
        have h10b := B.1 52 b 0 10 rfl
        rw [s52 b' eb] at hk
        exact Cp_G (v7.2.2.2.1 b' k hb' hk) G (by omega) (fun j hj => by omega) (cnm 1) hO hm (fun j _ _ => ins_o (by omega) (by omega))
    · have old : ∀ b' k : Nat, (b' : Int) < rI s 44 → (k : Int) < rA s 52 b' → cId q b' k < qCN q 1 := fun b' k z1 z2 => (v7.2.2.2.1 b' k z1 z2).2.1
      have inj := v7.2.2.2.2
      have s5 : ∀ b' : Nat, rA (insC s b p l sh tx st) 52 b' = if b' = b then rA s 52 b + 1 else rA s 52 b' := fun b' => by
        by_cases h : b' = b
        · rw [if_pos h, h]; exact ins_52
        · rw [if_neg h]; exact s52 b' h
      rw [s5] at a2 a4
      by_cases e1 : b1 = b
      · subst e1
        rw [if_pos rfl] at a2
        rw [cI k1] at a5
        by_cases e2 : b2 = b1
        · subst e2
          rw [if_pos rfl] at a4
          rw [cI k2] at a5
          refine ⟨rfl, ?_⟩
          by_cases c1 : k1 < p
          · rw [if_pos c1] at a5
            have o1 := old b2 k1 hb (by omega)
            by_cases c2 : k2 < p
            · rw [if_pos c2] at a5
              exact (inj b2 k1 b2 k2 hb (by omega) hb (by omega) a5).2
            · rw [if_neg c2] at a5
              by_cases c3 : k2 = p
              · rw [if_pos c3] at a5; omega
              · rw [if_neg c3] at a5
                have := (inj b2 k1 b2 (k2 - 1) hb (by omega) hb (by omega) a5).2
                omega
          · rw [if_neg c1] at a5
            by_cases c4 : k1 = p
            · rw [if_pos c4] at a5
              by_cases c2 : k2 < p
              · rw [if_pos c2] at a5
                have o2 := old b2 k2 hb (by omega)
                omega
              · rw [if_neg c2] at a5
                by_cases c3 : k2 = p
                · omega
                · rw [if_neg c3] at a5
                  have o2 := old b2 (k2 - 1) hb (by omega)
                  omega
            · rw [if_neg c4] at a5
              have o1 := old b2 (k1 - 1) hb (by omega)
              by_cases c2 : k2 < p
              · rw [if_pos c2] at a5
                have := (inj b2 (k1 - 1) b2 k2 hb (by omega) hb (by omega) a5).2
                omega
              · rw [if_neg c2] at a5
                by_cases c3 : k2 = p
                · rw [if_pos c3] at a5; omega
                · rw [if_neg c3] at a5
                  have := (inj b2 (k1 - 1) b2 (k2 - 1) hb (by omega) hb (by omega) a5).2
                  omega
        · rw [if_neg e2] at a4
          rw [cO b2 k2 e2] at a5
          have o2 := old b2 k2 a3 a4
          by_cases c1 : k1 < p
          · rw [if_pos c1] at a5
            exact absurd (inj b1 k1 b2 k2 hb (by omega) a3 a4 a5).1.symm e2
          · rw [if_neg c1] at a5
            by_cases c4 : k1 = p
            · rw [if_pos c4] at a5; omega
            · rw [if_neg c4] at a5
              exact absurd (inj b1 (k1 - 1) b2 k2 hb (by omega) a3 a4 a5).1.symm e2
      · rw [if_neg e1] at a2
        rw [cO b1 k1 e1] at a5
        have o1 := old b1 k1 a1 a2
        by_cases e2 : b2 = b
        · subst e2
          rw [if_pos rfl] at a4
          rw [cI k2] at a5
          by_cases c1 : k2 < p
          · rw [if_pos c1] at a5
            exact absurd (inj b1 k1 b2 k2 a1 a2 hb (by omega) a5).1 e1
          · rw [if_neg c1] at a5
            by_cases c4 : k2 = p
            · rw [if_pos c4] at a5; omega
            · rw [if_neg c4] at a5
              exact absurd (inj b1 k1 b2 (k2 - 1) a1 a2 hb (by omega) a5).1 e1
        · rw [if_neg e2] at a4
          rw [cO b2 k2 e2] at a5
          exact inj b1 k1 b2 k2 a1 a2 a3 a4 a5
  · exact CW_G v8 G (by omega) (fun w _ => ⟨by omega, by omega⟩) cnm hO hm (fun j x h => mm j x (by omega)) rfl
  · obtain ⟨⟨a1, a2, a3, a4⟩, ⟨c7, c17⟩, p1, p5, d1, d2, d3⟩ := I.2.1
    unfold am_CX
    rw [cne 0 (by omega), cne 1003 (by omega), cne 1004 (by omega), cne 1005 (by omega), cne 7 (by omega), cne 1702 (by omega), cne 5 (by omega), cn, if_pos rfl, show rA (insC s b p l sh tx st) 10 = rA s 10 from funext (fun x => mm 10 x (by omega))]
    refine ⟨⟨a1, a2, a3, a4⟩, ⟨c7, c17⟩, ?_, p5, fun b' hb' => by rw [inH_cp]; exact d1 b' hb', fun w hw => by rw [inH_cp]; exact d2 w hw, fun b' => by rw [inH_cp]; exact d3 b'⟩
    have es := sumI_upd (a := 0) (n := (rI s 44).toNat) (f := rA s 52) (g := rA (insC s b p l sh tx st) 52) (i0 := b) (by omega) (fun i hi => (ins_o (by omega) (by omega)).symm)
    show ((qCN q 1 + 1 : Nat) : Int) = sumI 0 (rI s 44).toNat (rA (insC s b p l sh tx st) 52)
    rw [es, ins_52, ← p1]
    omega
  · exact RM_LS (cpH_RM I.2.2)
theorem inH_CG : am_CG q (inH q b p l sh tx st) := CG_LS cpH_CG (by show cK 1003; omega)
end INH
end

noncomputable section
/-- while the reference is made: the arrays that are there, all else as in q0 -/
def am_I9 (q0 q : am_A) (dn : Nat → Bool) (e l : Nat) : Prop :=
  (∀ j c, dn j = true → rLn j = some c → qFR q (900 + j) (9, 0) = some (1900 + j, 0) ∧ qAL q (1900 + j, 0) = c) ∧ (∀ j k, qAI q (1900 + j, 0) k = 0) ∧
  (∀ j, dn j = false → qCN q (1900 + j) = 0) ∧ (∀ f, qFI q f (9, 0) = 0) ∧
  (∀ f r, r ≠ (9, 0) → qFI q f r = qFI q0 f r ∧ qFR q f r = qFR q0 f r) ∧
  (∀ r : am_R, r.1 < 1900 → qAI q r = qAI q0 r ∧ qAR q r = qAR q0 r ∧ qAJ q r = qAJ q0 r ∧ qAD q r = qAD q0 r ∧ qAL q r = qAL q0 r) ∧
  (∀ t, t < 1900 → qCN q t = qCN q0 t) ∧ qLS q = qLS q0 ∧ qCP q = qCP q0 ∧ qCE q = qCE q0 + e ∧ qSL q = qSL q0 + l
theorem am_I9_s {q0 q : am_A} {dn : Nat → Bool} {e l j c : Nat} (H : am_I9 q0 q dn e l) (hd : dn j = false) (hj : rLn j = some c) : am_I9 q0 (uFR (uNA q (1900 + j) c) (900 + j) (9, 0) (some (1900 + j, qCN q (1900 + j)))) (fun x => dn x || Nat.beq x j) (e + 1) (l + c) := by
  obtain ⟨h1, h0, h2, h3, h4, h5, h6, h7, h8, h9, h10⟩ := H
  have hc := h2 j hd
  have nx : ∀ j', ((1900 + j', 0) : am_R) = (1900 + j, qCN q (1900 + j)) ↔ j' = j := fun j' => by
    rw [hc]
    constructor
    · intro z
      have := congrArg Prod.fst z
      simp at this
      exact this
    · intro z; rw [z]
  refine ⟨fun j' c' hd' hj' => ?_, fun j' k => ?_, fun j' hd' => ?_, h3, fun f r hr => ⟨(h4 f r hr).1, ?_⟩, fun r hr => ?_, fun t ht => ?_, h7, h8, by show qCE q + 1 = _; omega, by show qSL q + c = _; omega⟩
  · by_cases hjj : j' = j
    · subst hjj
      cases hj.symm.trans hj'
      refine ⟨?_, ?_⟩
      · show am_u2 (qFR q) (900 + j') (9, 0) (some (1900 + j', qCN q (1900 + j'))) (900 + j') (9, 0) = _
        unfold am_u2
        rw [if_pos ⟨rfl, rfl⟩, hc]
      · show am_u1 (qAL q) (1900 + j', qCN q (1900 + j')) c (1900 + j', 0) = c
        unfold am_u1
        rw [if_pos ((nx j').mpr rfl)]
    · have hd2 : dn j' = true := by
        have : (dn j' || Nat.beq j' j) = true := hd'
        rw [Bool.or_eq_true] at this
        rcases this with z | z
        · exact z
        · exact absurd (Nat.eq_of_beq_eq_true z) hjj
      have h := h1 j' c' hd2 hj'
      refine ⟨?_, ?_⟩
      · show am_u2 (qFR q) (900 + j) (9, 0) (some (1900 + j, qCN q (1900 + j))) (900 + j') (9, 0) = _
        unfold am_u2
        rw [if_neg (fun z => hjj (by have := z.1; omega))]
        exact h.1
      · show am_u1 (qAL q) (1900 + j, qCN q (1900 + j)) c (1900 + j', 0) = c'
        unfold am_u1
        rw [if_neg (fun z => hjj ((nx j').mp z))]
        exact h.2
  · show (if ((1900 + j', 0) : am_R) = (1900 + j, qCN q (1900 + j)) then (fun _ => 0) else qAI q (1900 + j', 0)) k = 0
    split
    · rfl
    · exact h0 j' k
  · have hd2 : dn j' = false ∧ j' ≠ j := by
      have : (dn j' || Nat.beq j' j) = false := hd'
      rw [Bool.or_eq_false_iff] at this
      exact ⟨this.1, fun z => by rw [z, Nat.beq_refl] at this; cases this.2⟩
    show am_u1 (qCN q) (1900 + j) (qCN q (1900 + j) + 1) (1900 + j') = 0
    unfold am_u1
    rw [if_neg (fun z => hd2.2 (by omega))]
    exact h2 j' hd2.1
  · show am_u2 (qFR q) (900 + j) (9, 0) (some (1900 + j, qCN q (1900 + j))) f r = _
    unfold am_u2
    rw [if_neg (fun z => hr z.2)]
    exact (h4 f r hr).2
  · have hn : ¬ r = (1900 + j, qCN q (1900 + j)) := fun z => by rw [z] at hr; simp at hr; omega
    have h := h5 r hr
    refine ⟨(if_neg hn).trans h.1, (if_neg hn).trans h.2.1, (if_neg hn).trans h.2.2.1, (if_neg hn).trans h.2.2.2.1, ?_⟩
    exact (if_neg hn).trans h.2.2.2.2
  · exact (if_neg (by omega)).trans (h6 t ht)
section INI
variable {d y pc p p2 : Nat} {ls : List (Option am_V)} {st : List am_V} {q0 q : am_A} {Q : am_O → am_A → Prop} {dn : Nat → Bool} {e l : Nat}
theorem ar_ini (j c : Nat) (H : am_I9 q0 q dn e l) (hd : dn j = false) (hj : rLn j = some c) (hc1 : c ≤ 1000) (h1 : am_na y pc = some (1900 + j, p)) (h2 : am_kc (1900 + j) ≠ some 10) (hpf : am_pf y p = some (900 + j, 9, p2)) (hr : am_fr (900 + j) = true) (hw : am_wr y (900 + j) 9 = true) (hjj : j < 100) (K : ∀ q', am_I9 q0 q' (fun x => dn x || Nat.beq x j) (e + 1) (l + c) → am_W2 d y p2 ls st q' Q) : am_W2 d y pc ls (aI (zI (c : Int)) :: aR 9 0 :: st) q Q :=
  ar_newa h1 h2 (by omega) (by omega) rfl hc1 (ar_pfR hpf rfl hr hw (by omega) (K _ (am_I9_s H hd hj)))
end INI
/-- a fresh reference -/
def s9z : am_Z := (fun _ _ => 0, fun _ => 0)
def s90 : am_Z := wB s9z 15 0 12 (fun _ => -1)
theorem s9z_in : in_S s9z := by
  have hg : am_all rRg (fun _ v => v.1 ≤ 0 ∧ 0 ≤ v.2) := (am_nd_ok (am_nd_ok (am_nd_ok (am_nd_ok (am_nd_ok (am_lf_ok (by decide)) (am_nd_ok (am_lf_ok (by decide)) (am_lf_ok (by decide)))) (am_nd_ok (am_nd_ok (am_lf_ok (by decide)) (am_lf_ok (by decide))) (am_nd_ok (am_lf_ok (by decide)) (am_lf_ok (by decide))))) (am_nd_ok (am_nd_ok (am_nd_ok (am_lf_ok (by decide)) (am_lf_ok (by decide))) (am_nd_ok (am_lf_ok (by decide)) (am_lf_ok (by decide)))) (am_nd_ok (am_nd_ok (am_lf_ok (by decide)) (am_lf_ok (by decide))) (am_nd_ok (am_lf_ok (by decide)) (am_lf_ok (by decide)))))) (am_nd_ok (am_nd_ok (am_nd_ok (am_lf_ok (by decide)) (am_nd_ok (am_lf_ok (by decide)) (am_lf_ok (by decide)))) (am_nd_ok (am_nd_ok (am_lf_ok (by decide)) (am_lf_ok (by decide))) (am_nd_ok (am_lf_ok (by decide)) (am_lf_ok (by decide))))) (am_nd_ok (am_nd_ok (am_nd_ok (am_lf_ok (by decide)) (am_lf_ok (by decide))) (am_nd_ok (am_lf_ok (by decide)) (am_lf_ok (by decide)))) (am_nd_ok (am_nd_ok (am_lf_ok (by decide)) (am_lf_ok (by decide))) (am_nd_ok (am_lf_ok (by decide)) (am_lf_ok (by decide))))))) (am_nd_ok (am_nd_ok (am_nd_ok (am_nd_ok (am_lf_ok (by decide)) (am_nd_ok (am_lf_ok (by decide)) (am_lf_ok (by decide)))) (am_nd_ok (am_nd_ok (am_lf_ok (by decide)) (am_lf_ok (by decide))) (am_nd_ok (am_lf_ok (by decide)) (am_lf_ok (by decide))))) (am_nd_ok (am_nd_ok (am_nd_ok (am_lf_ok (by decide)) (am_lf_ok (by decide))) (am_nd_ok (am_lf_ok (by decide)) (am_lf_ok (by decide)))) (am_nd_ok (am_nd_ok (am_lf_ok (by decide)) (am_lf_ok (by decide))) (am_nd_ok (am_lf_ok (by decide)) (am_lf_ok (by decide)))))) (am_nd_ok (am_nd_ok (am_nd_ok (am_lf_ok (by decide)) (am_nd_ok (am_lf_ok (by decide)) (am_lf_ok (by decide)))) (am_nd_ok (am_nd_ok (am_lf_ok (by decide)) (am_lf_ok (by decide))) (am_nd_ok (am_lf_ok (by decide)) (am_lf_ok (by decide))))) (am_nd_ok (am_nd_ok (am_nd_ok (am_lf_ok (by decide)) (am_lf_ok (by decide))) (am_nd_ok (am_lf_ok (by decide)) (am_lf_ok (by decide)))) (am_nd_ok (am_nd_ok (am_lf_ok (by decide)) (am_lf_ok (by decide))) (am_nd_ok (am_lf_ok (by decide)) (am_lf_ok (by decide))))))))
  have hi : am_all rRi (fun _ v => v.1 ≤ 0 ∧ 0 ≤ v.2) := (am_nd_ok (am_nd_ok (am_nd_ok (am_lf_ok (by decide)) (am_nd_ok (am_lf_ok (by decide)) (am_lf_ok (by decide)))) (am_nd_ok (am_lf_ok (by decide)) (am_nd_ok (am_lf_ok (by decide)) (am_lf_ok (by decide))))) (am_nd_ok (am_nd_ok (am_lf_ok (by decide)) (am_nd_ok (am_lf_ok (by decide)) (am_lf_ok (by decide)))) (am_nd_ok (am_lf_ok (by decide)) (am_nd_ok (am_lf_ok (by decide)) (am_lf_ok (by decide))))))
  exact ⟨fun j i lo hi' h => hg j (lo, hi') h, fun j lo hi' h => hi j (lo, hi') h, fun j i h => by show (0 : Int) % 100 ≤ 60; omega⟩
theorem lp_ini {d : Nat} {s : am_Z} {q0 : am_A} {Q : Option am_V → am_Z → Prop}  : ∀ (m : Nat) (j : Nat) (k : Int) (s1 : am_Z), 12 - j < m → (k = j ∧ j ≤ 12 ∧ s1 = wB s 15 0 j (fun _ => -1)) → (∀ x1, am_WR d m_M_init 524 [some (aR 9 0), x1] [] q0 (wB s 15 0 12 (fun _ => -1)) Q) → am_WR d m_M_init 505 [some (aR 9 0), some (aI (zI k))] [] q0 (s1) Q := by
  intro m
  induction m with
  | zero => intro j k s1 hm; exact absurd hm (Nat.not_lt_zero _)
  | succ m ih =>
    intro j k s1 hm ⟨hj, hj2, hs1⟩ K
    subst hj
    subst hs1
    refine rr_iload_n rfl rfl ?_
    refine rr_bipush (x := 12) rfl rfl ?_
    refine rr_icmp_ge rfl rfl (by omega) (by omega) (fun h508 => ?_) (fun h508 => ?_)
    · rw [show j = 12 by omega]
      exact K _
    · refine rr_aload_n rfl rfl ?_
      refine rr_gfA 15 rfl rfl (by omega) rfl ?_
      refine rr_iload_n rfl rfl ?_
      refine rr_iconst rfl ?_
      refine rr_ias 15 12 rfl ⟨rfl, by omega⟩ rfl (by omega) (by omega) rfl rfl (by omega) (by omega) ?_
      refine rr_inc1 rfl ?_
      refine rr_goto rfl rfl ?_
      have e := wB_s s 15 0 j (fun _ => -1)
      rw [Int.zero_add] at e
      rw [e]
      exact ih (j + 1) _ _ (by omega) ⟨by omega, by omega, rfl⟩ K
set_option maxRecDepth 100000 in
theorem sr_init {d : Nat} {q0 : am_A} (H0 : am_I9 q0 q0 (fun _ => false) 0 0) : am_C2 d m_M_init [aR 9 0] q0 (fun o q' => o = .inl none ∧ ∃ qb dn, am_I9 q0 qb dn 62 5917 ∧ am_RV qb q' s90) := by
  refine am_C2_i (ls := [some (aR 9 0), none]) rfl ?_
  refine ar_aload_n rfl rfl ?_
  refine ar_objinit rfl rfl rfl rfl (Nat.le_of_ble_eq_true rfl) ?_
  refine ar_aload_n rfl rfl ?_
  refine ar_bipush (x := 6) rfl rfl ?_
  refine ar_ini 1 6 H0 rfl rfl (by omega) rfl (by intro z; cases z) rfl rfl rfl (by omega) (fun q1 H1 => ?_)
  refine ar_aload_n rfl rfl ?_
  refine ar_bipush (x := 6) rfl rfl ?_
  refine ar_ini 2 6 H1 rfl rfl (by omega) rfl (by intro z; cases z) rfl rfl rfl (by omega) (fun q2 H2 => ?_)
  refine ar_aload_n rfl rfl ?_
  refine ar_bipush (x := 12) rfl rfl ?_
  refine ar_ini 4 12 H2 rfl rfl (by omega) rfl (by intro z; cases z) rfl rfl rfl (by omega) (fun q3 H3 => ?_)
  refine ar_aload_n rfl rfl ?_
  refine ar_bipush (x := 12) rfl rfl ?_
  refine ar_ini 5 12 H3 rfl rfl (by omega) rfl (by intro z; cases z) rfl rfl rfl (by omega) (fun q4 H4 => ?_)
  refine ar_aload_n rfl rfl ?_
  refine ar_bipush (x := 12) rfl rfl ?_
  refine ar_ini 6 12 H4 rfl rfl (by omega) rfl (by intro z; cases z) rfl rfl rfl (by omega) (fun q5 H5 => ?_)
  refine ar_aload_n rfl rfl ?_
  refine ar_bipush (x := 12) rfl rfl ?_
  refine ar_ini 7 12 H5 rfl rfl (by omega) rfl (by intro z; cases z) rfl rfl rfl (by omega) (fun q6 H6 => ?_)
  refine ar_aload_n rfl rfl ?_
  refine ar_bipush (x := 12) rfl rfl ?_
  refine ar_ini 8 12 H6 rfl rfl (by omega) rfl (by intro z; cases z) rfl rfl rfl (by omega) (fun q7 H7 => ?_)
  refine ar_aload_n rfl rfl ?_
  refine ar_bipush (x := 12) rfl rfl ?_
  refine ar_ini 9 12 H7 rfl rfl (by omega) rfl (by intro z; cases z) rfl rfl rfl (by omega) (fun q8 H8 => ?_)
  refine ar_aload_n rfl rfl ?_
  refine ar_bipush (x := 12) rfl rfl ?_
  refine ar_ini 10 12 H8 rfl rfl (by omega) rfl (by intro z; cases z) rfl rfl rfl (by omega) (fun q9 H9 => ?_)
  refine ar_aload_n rfl rfl ?_
  refine ar_bipush (x := 12) rfl rfl ?_
  refine ar_ini 11 12 H9 rfl rfl (by omega) rfl (by intro z; cases z) rfl rfl rfl (by omega) (fun q10 H10 => ?_)
  refine ar_aload_n rfl rfl ?_
  refine ar_bipush (x := 12) rfl rfl ?_
  refine ar_ini 12 12 H10 rfl rfl (by omega) rfl (by intro z; cases z) rfl rfl rfl (by omega) (fun q11 H11 => ?_)
  refine ar_aload_n rfl rfl ?_
  refine ar_bipush (x := 12) rfl rfl ?_
  refine ar_ini 13 12 H11 rfl rfl (by omega) rfl (by intro z; cases z) rfl rfl rfl (by omega) (fun q12 H12 => ?_)
  refine ar_aload_n rfl rfl ?_
  refine ar_bipush (x := 48) rfl rfl ?_
  refine ar_ini 14 48 H12 rfl rfl (by omega) rfl (by intro z; cases z) rfl rfl rfl (by omega) (fun q13 H13 => ?_)
  refine ar_aload_n rfl rfl ?_
  refine ar_bipush (x := 12) rfl rfl ?_
  refine ar_ini 15 12 H13 rfl rfl (by omega) rfl (by intro z; cases z) rfl rfl rfl (by omega) (fun q14 H14 => ?_)
  refine ar_aload_n rfl rfl ?_
  refine ar_bipush (x := 12) rfl rfl ?_
  refine ar_ini 16 12 H14 rfl rfl (by omega) rfl (by intro z; cases z) rfl rfl rfl (by omega) (fun q15 H15 => ?_)
  refine ar_aload_n rfl rfl ?_
  refine ar_sipush (x := 732) rfl rfl ?_
  refine ar_ini 17 732 H15 rfl rfl (by omega) rfl (by intro z; cases z) rfl rfl rfl (by omega) (fun q16 H16 => ?_)
  refine ar_aload_n rfl rfl ?_
  refine ar_sipush (x := 732) rfl rfl ?_
  refine ar_ini 18 732 H16 rfl rfl (by omega) rfl (by intro z; cases z) rfl rfl rfl (by omega) (fun q17 H17 => ?_)
  refine ar_aload_n rfl rfl ?_
  refine ar_sipush (x := 732) rfl rfl ?_
  refine ar_ini 19 732 H17 rfl rfl (by omega) rfl (by intro z; cases z) rfl rfl rfl (by omega) (fun q18 H18 => ?_)
  refine ar_aload_n rfl rfl ?_
  refine ar_bipush (x := 16) rfl rfl ?_
  refine ar_ini 21 16 H18 rfl rfl (by omega) rfl (by intro z; cases z) rfl rfl rfl (by omega) (fun q19 H19 => ?_)
  refine ar_aload_n rfl rfl ?_
  refine ar_bipush (x := 16) rfl rfl ?_
  refine ar_ini 22 16 H19 rfl rfl (by omega) rfl (by intro z; cases z) rfl rfl rfl (by omega) (fun q20 H20 => ?_)
  refine ar_aload_n rfl rfl ?_
  refine ar_bipush (x := 16) rfl rfl ?_
  refine ar_ini 23 16 H20 rfl rfl (by omega) rfl (by intro z; cases z) rfl rfl rfl (by omega) (fun q21 H21 => ?_)
  refine ar_aload_n rfl rfl ?_
  refine ar_bipush (x := 16) rfl rfl ?_
  refine ar_ini 24 16 H21 rfl rfl (by omega) rfl (by intro z; cases z) rfl rfl rfl (by omega) (fun q22 H22 => ?_)
  refine ar_aload_n rfl rfl ?_
  refine ar_bipush (x := 16) rfl rfl ?_
  refine ar_ini 25 16 H22 rfl rfl (by omega) rfl (by intro z; cases z) rfl rfl rfl (by omega) (fun q23 H23 => ?_)
  refine ar_aload_n rfl rfl ?_
  refine ar_bipush (x := 16) rfl rfl ?_
  refine ar_ini 26 16 H23 rfl rfl (by omega) rfl (by intro z; cases z) rfl rfl rfl (by omega) (fun q24 H24 => ?_)
  refine ar_aload_n rfl rfl ?_
  refine ar_bipush (x := 16) rfl rfl ?_
  refine ar_ini 27 16 H24 rfl rfl (by omega) rfl (by intro z; cases z) rfl rfl rfl (by omega) (fun q25 H25 => ?_)
  refine ar_aload_n rfl rfl ?_
  refine ar_bipush (x := 16) rfl rfl ?_
  refine ar_ini 28 16 H25 rfl rfl (by omega) rfl (by intro z; cases z) rfl rfl rfl (by omega) (fun q26 H26 => ?_)
  refine ar_aload_n rfl rfl ?_
  refine ar_bipush (x := 16) rfl rfl ?_
  refine ar_ini 29 16 H26 rfl rfl (by omega) rfl (by intro z; cases z) rfl rfl rfl (by omega) (fun q27 H27 => ?_)
  refine ar_aload_n rfl rfl ?_
  refine ar_bipush (x := 16) rfl rfl ?_
  refine ar_ini 30 16 H27 rfl rfl (by omega) rfl (by intro z; cases z) rfl rfl rfl (by omega) (fun q28 H28 => ?_)
  refine ar_aload_n rfl rfl ?_
  refine ar_bipush (x := 16) rfl rfl ?_
  refine ar_ini 31 16 H28 rfl rfl (by omega) rfl (by intro z; cases z) rfl rfl rfl (by omega) (fun q29 H29 => ?_)
  refine ar_aload_n rfl rfl ?_
  refine ar_bipush (x := 16) rfl rfl ?_
  refine ar_ini 32 16 H29 rfl rfl (by omega) rfl (by intro z; cases z) rfl rfl rfl (by omega) (fun q30 H30 => ?_)
  refine ar_aload_n rfl rfl ?_
  refine ar_iconst rfl ?_
  refine ar_ini 34 4 H30 rfl rfl (by omega) rfl (by intro z; cases z) rfl rfl rfl (by omega) (fun q31 H31 => ?_)
  refine ar_aload_n rfl rfl ?_
  refine ar_iconst rfl ?_
  refine ar_ini 36 4 H31 rfl rfl (by omega) rfl (by intro z; cases z) rfl rfl rfl (by omega) (fun q32 H32 => ?_)
  refine ar_aload_n rfl rfl ?_
  refine ar_iconst rfl ?_
  refine ar_ini 39 4 H32 rfl rfl (by omega) rfl (by intro z; cases z) rfl rfl rfl (by omega) (fun q33 H33 => ?_)
  refine ar_aload_n rfl rfl ?_
  refine ar_iconst rfl ?_
  refine ar_ini 40 4 H33 rfl rfl (by omega) rfl (by intro z; cases z) rfl rfl rfl (by omega) (fun q34 H34 => ?_)
  refine ar_aload_n rfl rfl ?_
  refine ar_iconst rfl ?_
  refine ar_ini 41 5 H34 rfl rfl (by omega) rfl (by intro z; cases z) rfl rfl rfl (by omega) (fun q35 H35 => ?_)
  refine ar_aload_n rfl rfl ?_
  refine ar_iconst rfl ?_
  refine ar_ini 42 5 H35 rfl rfl (by omega) rfl (by intro z; cases z) rfl rfl rfl (by omega) (fun q36 H36 => ?_)
  refine ar_aload_n rfl rfl ?_
  refine ar_iconst rfl ?_
  refine ar_ini 43 5 H36 rfl rfl (by omega) rfl (by intro z; cases z) rfl rfl rfl (by omega) (fun q37 H37 => ?_)
  refine ar_aload_n rfl rfl ?_
  refine ar_bipush (x := 40) rfl rfl ?_
  refine ar_ini 45 40 H37 rfl rfl (by omega) rfl (by intro z; cases z) rfl rfl rfl (by omega) (fun q38 H38 => ?_)
  refine ar_aload_n rfl rfl ?_
  refine ar_bipush (x := 40) rfl rfl ?_
  refine ar_ini 46 40 H38 rfl rfl (by omega) rfl (by intro z; cases z) rfl rfl rfl (by omega) (fun q39 H39 => ?_)
  refine ar_aload_n rfl rfl ?_
  refine ar_bipush (x := 40) rfl rfl ?_
  refine ar_ini 47 40 H39 rfl rfl (by omega) rfl (by intro z; cases z) rfl rfl rfl (by omega) (fun q40 H40 => ?_)
  refine ar_aload_n rfl rfl ?_
  refine ar_bipush (x := 40) rfl rfl ?_
  refine ar_ini 48 40 H40 rfl rfl (by omega) rfl (by intro z; cases z) rfl rfl rfl (by omega) (fun q41 H41 => ?_)
  refine ar_aload_n rfl rfl ?_
  refine ar_bipush (x := 40) rfl rfl ?_
  refine ar_ini 49 40 H41 rfl rfl (by omega) rfl (by intro z; cases z) rfl rfl rfl (by omega) (fun q42 H42 => ?_)
  refine ar_aload_n rfl rfl ?_
  refine ar_bipush (x := 40) rfl rfl ?_
  refine ar_ini 50 40 H42 rfl rfl (by omega) rfl (by intro z; cases z) rfl rfl rfl (by omega) (fun q43 H43 => ?_)
  refine ar_aload_n rfl rfl ?_
  refine ar_bipush (x := 40) rfl rfl ?_
  refine ar_ini 51 40 H43 rfl rfl (by omega) rfl (by intro z; cases z) rfl rfl rfl (by omega) (fun q44 H44 => ?_)
  refine ar_aload_n rfl rfl ?_
  refine ar_bipush (x := 40) rfl rfl ?_
  refine ar_ini 52 40 H44 rfl rfl (by omega) rfl (by intro z; cases z) rfl rfl rfl (by omega) (fun q45 H45 => ?_)
  refine ar_aload_n rfl rfl ?_
  refine ar_sipush (x := 400) rfl rfl ?_
  refine ar_ini 53 400 H45 rfl rfl (by omega) rfl (by intro z; cases z) rfl rfl rfl (by omega) (fun q46 H46 => ?_)
  refine ar_aload_n rfl rfl ?_
  refine ar_sipush (x := 400) rfl rfl ?_
  refine ar_ini 54 400 H46 rfl rfl (by omega) rfl (by intro z; cases z) rfl rfl rfl (by omega) (fun q47 H47 => ?_)
  refine ar_aload_n rfl rfl ?_
  refine ar_sipush (x := 400) rfl rfl ?_
  refine ar_ini 55 400 H47 rfl rfl (by omega) rfl (by intro z; cases z) rfl rfl rfl (by omega) (fun q48 H48 => ?_)
  refine ar_aload_n rfl rfl ?_
  refine ar_sipush (x := 400) rfl rfl ?_
  refine ar_ini 56 400 H48 rfl rfl (by omega) rfl (by intro z; cases z) rfl rfl rfl (by omega) (fun q49 H49 => ?_)
  refine ar_aload_n rfl rfl ?_
  refine ar_sipush (x := 400) rfl rfl ?_
  refine ar_ini 57 400 H49 rfl rfl (by omega) rfl (by intro z; cases z) rfl rfl rfl (by omega) (fun q50 H50 => ?_)
  refine ar_aload_n rfl rfl ?_
  refine ar_sipush (x := 400) rfl rfl ?_
  refine ar_ini 58 400 H50 rfl rfl (by omega) rfl (by intro z; cases z) rfl rfl rfl (by omega) (fun q51 H51 => ?_)
  refine ar_aload_n rfl rfl ?_
  refine ar_sipush (x := 160) rfl rfl ?_
  refine ar_ini 59 160 H51 rfl rfl (by omega) rfl (by intro z; cases z) rfl rfl rfl (by omega) (fun q52 H52 => ?_)
  refine ar_aload_n rfl rfl ?_
  refine ar_sipush (x := 160) rfl rfl ?_
  refine ar_ini 60 160 H52 rfl rfl (by omega) rfl (by intro z; cases z) rfl rfl rfl (by omega) (fun q53 H53 => ?_)
  refine ar_aload_n rfl rfl ?_
  refine ar_bipush (x := 20) rfl rfl ?_
  refine ar_ini 62 20 H53 rfl rfl (by omega) rfl (by intro z; cases z) rfl rfl rfl (by omega) (fun q54 H54 => ?_)
  refine ar_aload_n rfl rfl ?_
  refine ar_bipush (x := 20) rfl rfl ?_
  refine ar_ini 63 20 H54 rfl rfl (by omega) rfl (by intro z; cases z) rfl rfl rfl (by omega) (fun q55 H55 => ?_)
  refine ar_aload_n rfl rfl ?_
  refine ar_bipush (x := 20) rfl rfl ?_
  refine ar_ini 64 20 H55 rfl rfl (by omega) rfl (by intro z; cases z) rfl rfl rfl (by omega) (fun q56 H56 => ?_)
  refine ar_aload_n rfl rfl ?_
  refine ar_bipush (x := 80) rfl rfl ?_
  refine ar_ini 65 80 H56 rfl rfl (by omega) rfl (by intro z; cases z) rfl rfl rfl (by omega) (fun q57 H57 => ?_)
  refine ar_aload_n rfl rfl ?_
  refine ar_bipush (x := 20) rfl rfl ?_
  refine ar_ini 66 20 H57 rfl rfl (by omega) rfl (by intro z; cases z) rfl rfl rfl (by omega) (fun q58 H58 => ?_)
  refine ar_aload_n rfl rfl ?_
  refine ar_bipush (x := 40) rfl rfl ?_
  refine ar_ini 67 40 H58 rfl rfl (by omega) rfl (by intro z; cases z) rfl rfl rfl (by omega) (fun q59 H59 => ?_)
  refine ar_aload_n rfl rfl ?_
  refine ar_iconst rfl ?_
  refine ar_ini 69 5 H59 rfl rfl (by omega) rfl (by intro z; cases z) rfl rfl rfl (by omega) (fun q60 H60 => ?_)
  refine ar_aload_n rfl rfl ?_
  refine ar_bipush (x := 9) rfl rfl ?_
  refine ar_ini 70 9 H60 rfl rfl (by omega) rfl (by intro z; cases z) rfl rfl rfl (by omega) (fun q61 H61 => ?_)
  refine ar_aload_n rfl rfl ?_
  refine ar_bipush (x := 40) rfl rfl ?_
  refine ar_ini 71 40 H61 rfl rfl (by omega) rfl (by intro z; cases z) rfl rfl rfl (by omega) (fun q62 H62 => ?_)
  have hall : am_all rLn (fun j _ => (fun x => false || Nat.beq x 1 || Nat.beq x 2 || Nat.beq x 4 || Nat.beq x 5 || Nat.beq x 6 || Nat.beq x 7 || Nat.beq x 8 || Nat.beq x 9 || Nat.beq x 10 || Nat.beq x 11 || Nat.beq x 12 || Nat.beq x 13 || Nat.beq x 14 || Nat.beq x 15 || Nat.beq x 16 || Nat.beq x 17 || Nat.beq x 18 || Nat.beq x 19 || Nat.beq x 21 || Nat.beq x 22 || Nat.beq x 23 || Nat.beq x 24 || Nat.beq x 25 || Nat.beq x 26 || Nat.beq x 27 || Nat.beq x 28 || Nat.beq x 29 || Nat.beq x 30 || Nat.beq x 31 || Nat.beq x 32 || Nat.beq x 34 || Nat.beq x 36 || Nat.beq x 39 || Nat.beq x 40 || Nat.beq x 41 || Nat.beq x 42 || Nat.beq x 43 || Nat.beq x 45 || Nat.beq x 46 || Nat.beq x 47 || Nat.beq x 48 || Nat.beq x 49 || Nat.beq x 50 || Nat.beq x 51 || Nat.beq x 52 || Nat.beq x 53 || Nat.beq x 54 || Nat.beq x 55 || Nat.beq x 56 || Nat.beq x 57 || Nat.beq x 58 || Nat.beq x 59 || Nat.beq x 60 || Nat.beq x 62 || Nat.beq x 63 || Nat.beq x 64 || Nat.beq x 65 || Nat.beq x 66 || Nat.beq x 67 || Nat.beq x 69 || Nat.beq x 70 || Nat.beq x 71) j = true) := (am_nd_ok (am_nd_ok (am_nd_ok (am_nd_ok (am_nd_ok (am_lf_ok rfl) (am_nd_ok (am_lf_ok rfl) (am_lf_ok rfl))) (am_nd_ok (am_nd_ok (am_lf_ok rfl) (am_lf_ok rfl)) (am_nd_ok (am_lf_ok rfl) (am_lf_ok rfl)))) (am_nd_ok (am_nd_ok (am_nd_ok (am_lf_ok rfl) (am_lf_ok rfl)) (am_nd_ok (am_lf_ok rfl) (am_lf_ok rfl))) (am_nd_ok (am_nd_ok (am_lf_ok rfl) (am_lf_ok rfl)) (am_nd_ok (am_lf_ok rfl) (am_lf_ok rfl))))) (am_nd_ok (am_nd_ok (am_nd_ok (am_nd_ok (am_lf_ok rfl) (am_lf_ok rfl)) (am_nd_ok (am_lf_ok rfl) (am_lf_ok rfl))) (am_nd_ok (am_nd_ok (am_lf_ok rfl) (am_lf_ok rfl)) (am_nd_ok (am_lf_ok rfl) (am_lf_ok rfl)))) (am_nd_ok (am_nd_ok (am_nd_ok (am_lf_ok rfl) (am_lf_ok rfl)) (am_nd_ok (am_lf_ok rfl) (am_lf_ok rfl))) (am_nd_ok (am_nd_ok (am_lf_ok rfl) (am_lf_ok rfl)) (am_nd_ok (am_lf_ok rfl) (am_lf_ok rfl)))))) (am_nd_ok (am_nd_ok (am_nd_ok (am_nd_ok (am_lf_ok rfl) (am_nd_ok (am_lf_ok rfl) (am_lf_ok rfl))) (am_nd_ok (am_nd_ok (am_lf_ok rfl) (am_lf_ok rfl)) (am_nd_ok (am_lf_ok rfl) (am_lf_ok rfl)))) (am_nd_ok (am_nd_ok (am_nd_ok (am_lf_ok rfl) (am_lf_ok rfl)) (am_nd_ok (am_lf_ok rfl) (am_lf_ok rfl))) (am_nd_ok (am_nd_ok (am_lf_ok rfl) (am_lf_ok rfl)) (am_nd_ok (am_lf_ok rfl) (am_lf_ok rfl))))) (am_nd_ok (am_nd_ok (am_nd_ok (am_nd_ok (am_lf_ok rfl) (am_lf_ok rfl)) (am_nd_ok (am_lf_ok rfl) (am_lf_ok rfl))) (am_nd_ok (am_nd_ok (am_lf_ok rfl) (am_lf_ok rfl)) (am_nd_ok (am_lf_ok rfl) (am_lf_ok rfl)))) (am_nd_ok (am_nd_ok (am_nd_ok (am_lf_ok rfl) (am_lf_ok rfl)) (am_nd_ok (am_lf_ok rfl) (am_lf_ok rfl))) (am_nd_ok (am_nd_ok (am_lf_ok rfl) (am_lf_ok rfl)) (am_nd_ok (am_lf_ok rfl) (am_lf_ok rfl)))))))
  have R : am_RV q62 q62 s9z := ⟨fun j hj => by
      obtain ⟨c, hc⟩ := Option.isSome_iff_exists.mp hj
      exact (H62.1 j c (hall j c hc) hc).1, fun j c hc => (H62.1 j c (hall j c hc) hc).2, fun j i hi => H62.2.1 j _, fun j _ => H62.2.2.2.1 _, s9z_in, fun _ _ _ => rfl, fun _ _ _ => rfl, rfl, rfl⟩
  have W : am_WR d m_M_init 503 [some (aR 9 0), none] [] q62 s9z (fun v s' => v = none ∧ s' = s90) := by
    refine rr_iconst rfl ?_
    refine rr_stI1 rfl ?_
    refine lp_ini (d := d) (s := s9z) 13 0 0 _ (by omega) ⟨rfl, by omega, (wB_0 ..).symm⟩ (fun x1 => ?_)
    exact rr_ret rfl rfl ⟨rfl, rfl⟩
  exact fun h Rh => am_W_imp (W q62 R h Rh) (fun o h' ⟨a', r, v, s', e1, R', e2, e3⟩ => ⟨a', r, by rw [e1, e2], q62, _, H62, e3 ▸ R'⟩)
end

noncomputable section
/-- while the reference is made: the arrays that are there, all else as in q0 -/
def am_I9 (q0 q : am_A) (dn : Nat → Bool) (e l : Nat) : Prop :=
  (∀ j c, dn j = true → rLn j = some c → qFR q (900 + j) (9, 0) = some (1900 + j, 0) ∧ qAL q (1900 + j, 0) = c) ∧ (∀ j k, qAI q (1900 + j, 0) k = 0) ∧
  (∀ j, dn j = false → qCN q (1900 + j) = 0) ∧ (∀ f, qFI q f (9, 0) = 0) ∧
  (∀ f r, r ≠ (9, 0) → qFI q f r = qFI q0 f r ∧ qFR q f r = qFR q0 f r) ∧
  (∀ r : am_R, r.1 < 1900 → qAI q r = qAI q0 r ∧ qAR q r = qAR q0 r ∧ qAJ q r = qAJ q0 r ∧ qAD q r = qAD q0 r ∧ qAL q r = qAL q0 r) ∧
  (∀ t, t < 1900 → qCN q t = qCN q0 t) ∧ qLS q = qLS q0 ∧ qCP q = qCP q0 ∧ qCE q = qCE q0 + e ∧ qSL q = qSL q0 + l
theorem am_I9_s {q0 q : am_A} {dn : Nat → Bool} {e l j c : Nat} (H : am_I9 q0 q dn e l) (hd : dn j = false) (hj : rLn j = some c) : am_I9 q0 (uFR (uNA q (1900 + j) c) (900 + j) (9, 0) (some (1900 + j, qCN q (1900 + j)))) (fun x => dn x || Nat.beq x j) (e + 1) (l + c) := by
  obtain ⟨h1, h0, h2, h3, h4, h5, h6, h7, h8, h9, h10⟩ := H
  have hc := h2 j hd
  have nx : ∀ j', ((1900 + j', 0) : am_R) = (1900 + j, qCN q (1900 + j)) ↔ j' = j := fun j' => by
    rw [hc]
    constructor
    · intro z
      have := congrArg Prod.fst z
      simp at this
      exact this
    · intro z; rw [z]
  refine ⟨fun j' c' hd' hj' => ?_, fun j' k => ?_, fun j' hd' => ?_, h3, fun f r hr => ⟨(h4 f r hr).1, ?_⟩, fun r hr => ?_, fun t ht => ?_, h7, h8, by show qCE q + 1 = _; omega, by show qSL q + c = _; omega⟩
  · by_cases hjj : j' = j
    · subst hjj
      cases hj.symm.trans hj'
      refine ⟨?_, ?_⟩
      · show am_u2 (qFR q) (900 + j') (9, 0) (some (1900 + j', qCN q (1900 + j'))) (900 + j') (9, 0) = _
        unfold am_u2
        rw [if_pos ⟨rfl, rfl⟩, hc]
      · show am_u1 (qAL q) (1900 + j', qCN q (1900 + j')) c (1900 + j', 0) = c
        unfold am_u1
        rw [if_pos ((nx j').mpr rfl)]
    · have hd2 : dn j' = true := by
        have : (dn j' || Nat.beq j' j) = true := hd'
        rw [Bool.or_eq_true] at this
        rcases this with z | z
        · exact z
        · exact absurd (Nat.eq_of_beq_eq_true z) hjj
      have h := h1 j' c' hd2 hj'
      refine ⟨?_, ?_⟩
      · show am_u2 (qFR q) (900 + j) (9, 0) (some (1900 + j, qCN q (1900 + j))) (900 + j') (9, 0) = _
        unfold am_u2
        rw [if_neg (fun z => hjj (by have := z.1; omega))]
        exact h.1
      · show am_u1 (qAL q) (1900 + j, qCN q (1900 + j)) c (1900 + j', 0) = c'
        unfold am_u1
        rw [if_neg (fun z => hjj ((nx j').mp z))]
        exact h.2
  · show (if ((1900 + j', 0) : am_R) = (1900 + j, qCN q (1900 + j)) then (fun _ => 0) else qAI q (1900 + j', 0)) k = 0
    split
    · rfl
    · exact h0 j' k
  · have hd2 : dn j' = false ∧ j' ≠ j := by
      have : (dn j' || Nat.beq j' j) = false := hd'
      rw [Bool.or_eq_false_iff] at this
      exact ⟨this.1, fun z => by rw [z, Nat.beq_refl] at this; cases this.2⟩
    show am_u1 (qCN q) (1900 + j) (qCN q (1900 + j) + 1) (1900 + j') = 0
    unfold am_u1
    rw [if_neg (fun z => hd2.2 (by omega))]
    exact h2 j' hd2.1
  · show am_u2 (qFR q) (900 + j) (9, 0) (some (1900 + j, qCN q (1900 + j))) f r = _
    unfold am_u2
    rw [if_neg (fun z => hr z.2)]
    exact (h4 f r hr).2
  · have hn : ¬ r = (1900 + j, qCN q (1900 + j)) := fun z => by rw [z] at hr; simp at hr; omega
    have h := h5 r hr
    refine ⟨(if_neg hn).trans h.1, (if_neg hn).trans h.2.1, (if_neg hn).trans h.2.2.1, (if_neg hn).trans h.2.2.2.1, ?_⟩
    exact (if_neg hn).trans h.2.2.2.2
  · exact (if_neg (by omega)).trans (h6 t ht)
section INI
variable {d y pc p p2 : Nat} {ls : List (Option am_V)} {st : List am_V} {q0 q : am_A} {Q : am_O → am_A → Prop} {dn : Nat → Bool} {e l : Nat}
end INI
/-- a fresh reference -/
def s9z : am_Z := (fun _ _ => 0, fun _ => 0)
def s90 : am_Z := wB s9z 15 0 12 (fun _ => -1)
theorem s9z_in : in_S s9z := by
  have hg : am_all rRg (fun _ v => v.1 ≤ 0 ∧ 0 ≤ v.2) := (am_nd_ok (am_nd_ok (am_nd_ok (am_nd_ok (am_nd_ok (am_lf_ok (by decide)) (am_nd_ok (am_lf_ok (by decide)) (am_lf_ok (by decide)))) (am_nd_ok (am_nd_ok (am_lf_ok (by decide)) (am_lf_ok (by decide))) (am_nd_ok (am_lf_ok (by decide)) (am_lf_ok (by decide))))) (am_nd_ok (am_nd_ok (am_nd_ok (am_lf_ok (by decide)) (am_lf_ok (by decide))) (am_nd_ok (am_lf_ok (by decide)) (am_lf_ok (by decide)))) (am_nd_ok (am_nd_ok (am_lf_ok (by decide)) (am_lf_ok (by decide))) (am_nd_ok (am_lf_ok (by decide)) (am_lf_ok (by decide)))))) (am_nd_ok (am_nd_ok (am_nd_ok (am_lf_ok (by decide)) (am_nd_ok (am_lf_ok (by decide)) (am_lf_ok (by decide)))) (am_nd_ok (am_nd_ok (am_lf_ok (by decide)) (am_lf_ok (by decide))) (am_nd_ok (am_lf_ok (by decide)) (am_lf_ok (by decide))))) (am_nd_ok (am_nd_ok (am_nd_ok (am_lf_ok (by decide)) (am_lf_ok (by decide))) (am_nd_ok (am_lf_ok (by decide)) (am_lf_ok (by decide)))) (am_nd_ok (am_nd_ok (am_lf_ok (by decide)) (am_lf_ok (by decide))) (am_nd_ok (am_lf_ok (by decide)) (am_lf_ok (by decide))))))) (am_nd_ok (am_nd_ok (am_nd_ok (am_nd_ok (am_lf_ok (by decide)) (am_nd_ok (am_lf_ok (by decide)) (am_lf_ok (by decide)))) (am_nd_ok (am_nd_ok (am_lf_ok (by decide)) (am_lf_ok (by decide))) (am_nd_ok (am_lf_ok (by decide)) (am_lf_ok (by decide))))) (am_nd_ok (am_nd_ok (am_nd_ok (am_lf_ok (by decide)) (am_lf_ok (by decide))) (am_nd_ok (am_lf_ok (by decide)) (am_lf_ok (by decide)))) (am_nd_ok (am_nd_ok (am_lf_ok (by decide)) (am_lf_ok (by decide))) (am_nd_ok (am_lf_ok (by decide)) (am_lf_ok (by decide)))))) (am_nd_ok (am_nd_ok (am_nd_ok (am_lf_ok (by decide)) (am_nd_ok (am_lf_ok (by decide)) (am_lf_ok (by decide)))) (am_nd_ok (am_nd_ok (am_lf_ok (by decide)) (am_lf_ok (by decide))) (am_nd_ok (am_lf_ok (by decide)) (am_lf_ok (by decide))))) (am_nd_ok (am_nd_ok (am_nd_ok (am_lf_ok (by decide)) (am_lf_ok (by decide))) (am_nd_ok (am_lf_ok (by decide)) (am_lf_ok (by decide)))) (am_nd_ok (am_nd_ok (am_lf_ok (by decide)) (am_lf_ok (by decide))) (am_nd_ok (am_lf_ok (by decide)) (am_lf_ok (by decide))))))))
  have hi : am_all rRi (fun _ v => v.1 ≤ 0 ∧ 0 ≤ v.2) := (am_nd_ok (am_nd_ok (am_nd_ok (am_lf_ok (by decide)) (am_nd_ok (am_lf_ok (by decide)) (am_lf_ok (by decide)))) (am_nd_ok (am_lf_ok (by decide)) (am_nd_ok (am_lf_ok (by decide)) (am_lf_ok (by decide))))) (am_nd_ok (am_nd_ok (am_lf_ok (by decide)) (am_nd_ok (am_lf_ok (by decide)) (am_lf_ok (by decide)))) (am_nd_ok (am_lf_ok (by decide)) (am_nd_ok (am_lf_ok (by decide)) (am_lf_ok (by decide))))))
  exact ⟨fun j i lo hi' h => hg j (lo, hi') h, fun j lo hi' h => hi j (lo, hi') h, fun j i h => by show (0 : Int) % 100 ≤ 60; omega⟩
end


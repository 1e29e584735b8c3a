noncomputable section
theorem mv_any {t : am_Z} {b c x : Int} {j : Nat} (h : j < 52 ∨ 58 < j) : rA (moveS t b c) j x = rA t j x := by
  unfold moveS
  split
  · rw [wA_A, if_neg (fun z => by omega), wA_A, if_neg (fun z => by omega), wA_A, if_neg (fun z => by omega)]
    rw [itS_An (fun i t' hi => mvF_A (by omega)), wA_A, if_neg (fun z => by omega)]
    rw [itS_An (f := shF (10 * b + rA t 52 b - 1) (nWay t b c)) (fun i t' hi => cpyS_A (by omega))]
    rfl
  · rw [wA_A, if_neg (fun z => by omega)]
    rfl
/-- what departing leaves alone -/
theorem goS_A {s : am_Z} (B : in_S s) (l : Int) {j : Nat} (h : j < 52 ∨ (58 < j ∧ j ≠ 67 ∧ j ≠ 69 ∧ j ≠ 70 ∧ j ≠ 71)) (x : Int) : rA (goS s l) j x = rA s j x := by
  have hg := (gdS_u (l := l) ((rI s 44).toNat + 1) (gl0 s) (nTc (gl0 s) l) 0).1
  have hc : ∀ b, rA (glX s l).1 52 b ≤ 10 := fun b => by
    show rA (gdS l ((rI s 44).toNat + 1) (gl0 s) (nTc (gl0 s) l) 0).1 52 b ≤ 10
    rw [hg 52 b (by omega) (by omega), (gl0_S s).1 52 b (by omega)]
    exact (B.1 52 b 0 10 rfl).2
  unfold goS
  rw [itS_An (f := gmF l) (fun i t _ => mv_any (by omega)), (glN_u (l := l) hc (rI s 44).toNat).1 j x (by omega) (by omega) (by omega)]
  exact (hg j x (by omega) (by omega)).trans ((gl0_S s).1 j x (by omega))
theorem dep_c {s s' : am_Z} (h : ∀ j x, j < 52 → rA s' j x = rA s j x) (l : Int) : dep s' l = dep s l := by
  have e : ∀ j, j < 52 → rA s' j = rA s j := fun j hj => funext (fun x => h j x hj)
  unfold dep
  rw [e 7 (by omega), e 1 (by omega), e 5 (by omega), e 17 (by omega)]
/-- a leg of a flight that departs now -/
def trgP (t : am_Z) (f T d : Int) : Prop := d < 61 ∧ legP t (100 * f + d) ∧ rA t 18 (61 * f + d) = 0 ∧ dep t (100 * f + d) = T
theorem trg_d {t : am_Z} (B : in_S t) {f T d : Int} (hd : 0 ≤ d) (h : trgP t f T d) : d = dpD t f T := by
  have h1 := h.1
  have e := dep_fd (s := t) f d (by omega)
  have b := B.1 17 (61 * f + d) 0 8 rfl
  have h2 := h.2.2.2
  unfold dpD
  omega
theorem lg_1 {f d : Nat} {t : am_Z} {T : Int} (hT : rI t 0 = T) (h : trgP t f T d) : lgF (100 * f + d) t = goS t (100 * (f : Int) + d) := by
  have h1 := h.1
  have e : ((100 * f + d : Nat) : Int) = 100 * (f : Int) + d := by omega
  have e1 : (100 * (f : Int) + d) / 100 = f := by omega
  have e2 : (100 * (f : Int) + d) % 100 = d := by omega
  unfold lgF
  rw [e, if_pos ⟨h.2.1, by rw [e1, e2]; exact h.2.2.1, by rw [hT]; exact h.2.2.2⟩]
theorem lg_0 {f d : Nat} {t : am_Z} {T : Int} (hd : d < 100) (hT : rI t 0 = T) (h : ¬ trgP t f T d) : lgF (100 * f + d) t = t := by
  have e : ((100 * f + d : Nat) : Int) = 100 * (f : Int) + d := by omega
  have e1 : (100 * (f : Int) + d) / 100 = f := by omega
  have e2 : (100 * (f : Int) + d) % 100 = d := by omega
  unfold lgF
  rw [e, if_neg]
  rintro ⟨z1, z2, z3⟩
  rw [e1, e2] at z2
  refine h ⟨?_, z1, z2, by rw [← hT]; exact z3⟩
  have := z1.2.2.1
  omega
theorem trg_go {t : am_Z} (B : in_S t) {f T d l : Int} : trgP (goS t l) f T d ↔ trgP t f T d := by
  have h : ∀ j x, j < 52 → rA (goS t l) j x = rA t j x := fun j x hj => goS_A B l (Or.inl hj) x
  unfold trgP
  rw [legP_cg (s := t) (s' := goS t l) (fun j x hj => h j x (by omega)) (goS_I t l (by omega) (by omega) (by omega)), dep_c h, h 18 _ (by omega)]
theorem seg_n {s t : am_Z} {f : Nat} {T : Int} (B : in_S t) (ht : t = itS lgF (100 * f) s) (hT : rI t 0 = T) : ∀ n : Nat, n ≤ 100 → itS lgF (100 * f + n) s = if dpS t f T ≠ -1 ∧ dpD t f T < n then goS t (dpS t f T) else t := by
  intro n
  have hD : 0 ≤ dpD t f T := by unfold dpD; omega
  induction n with
  | zero =>
    intro _
    rw [if_neg (fun z => by have := z.2; omega)]
    exact ht.symm
  | succ n ih =>
    intro hn
    show lgF (100 * f + n) (itS lgF (100 * f + n) s) = _
    rw [ih (by omega)]
    by_cases a : dpS t f T ≠ -1 ∧ dpD t f T < n
    · have a2 := a.2
      rw [if_pos a, if_pos ⟨a.1, by omega⟩]
      refine lg_0 (T := T) (by omega) ((goS_I t _ (by omega) (by omega) (by omega)).trans hT) (fun z => ?_)
      have := trg_d B (by omega) ((trg_go B).mp z)
      omega
    · rw [if_neg a]
      by_cases z : trgP t f T n
      · have e := trg_d B (by omega) z
        have z2 : trgP t f T (dpD t f T) := by rw [← e]; exact z
        have e2 : dpS t f T = 100 * (f : Int) + n := by rw [dp_e z2, ← e]
        rw [lg_1 hT z, if_pos ⟨by omega, by omega⟩, e2]
      · rw [lg_0 (by omega) hT z, if_neg]
        rintro ⟨c1, c2⟩
        have c3 : trgP t f T (dpD t f T) := Classical.byContradiction (fun y => c1 (dp_n y))
        by_cases c4 : dpD t f T < n
        · exact a ⟨c1, c4⟩
        · exact z (by rw [show (n : Int) = dpD t f T by omega]; exact c3)
theorem seg_f {s t : am_Z} {f : Nat} {T : Int} (B : in_S t) (ht : t = itS lgF (100 * f) s) (hT : rI t 0 = T) : itS lgF (100 * (f + 1)) s = if dpS t f T = -1 then t else goS t (dpS t f T) := by
  have h := seg_n B ht hT 100 (Nat.le_refl _)
  rw [show 100 * (f + 1) = 100 * f + 100 by omega, h]
  by_cases a : dpS t f T = -1
  · rw [if_pos a, if_neg (fun z => z.1 a)]
  · have c3 : trgP t f T (dpD t f T) := Classical.byContradiction (fun y => a (dp_n y))
    have := c3.1
    rw [if_neg a, if_pos ⟨a, by omega⟩]
theorem dp_l {t : am_Z} {f T : Int} (h : dpS t f T ≠ -1) : legP t (dpS t f T) := by
  have c3 : trgP t f T (dpD t f T) := Classical.byContradiction (fun y => h (dp_n y))
  rw [dp_e c3]
  exact c3.2.1
end

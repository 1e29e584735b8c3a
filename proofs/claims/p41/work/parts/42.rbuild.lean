noncomputable section
/-- ways: fare and number of legs of each stretch -/
abbrev am_wP : Type := List (Int × Int)
def pF (w : am_wP) (i : Nat) : Int := (w.getD i (0, 0)).1
def pC (w : am_wP) (i : Nat) : Int := (w.getD i (0, 0)).2
def pLen : am_wP → Int
  | [] => 0
  | x :: w => x.2 + pLen w
def pSum (s : am_Z) (w : am_wP) : Int := sumI 0 w.length (fun i => rA s 25 (pF w i.toNat))
def pPut (s : am_Z) (w : am_wP) : am_Z := (fun j i => if j = 42 then pF w i.toNat else if j = 41 then pC w i.toNat else s.1 j i, s.2)
def gtV (s : am_Z) (w : am_wP) : Int := gtN (pPut s w) w.length w.length
abbrev am_wQ : Type := Int × am_wP
def tk (s : am_Z) (W : am_wQ) (w : am_wP) : am_wQ := if (W.1 = -1 ∨ pSum s w < W.1) ∧ gtV s w ≠ 0 then (pSum s w, w) else W
def wNode (s : am_Z) (n : Int) (sub : Int → am_wP → List am_wP) (p : Int) (w : am_wP) (c f : Int) : List am_wP := if canH s p c f n ≠ 0 then (if p + c = rI s 35 then [w ++ [(f, c)]] else sub (p + c) (w ++ [(f, c)])) else []
def nxC (s : am_Z) (c f : Int) : Int := if f + 1 = rI s 20 then c + 1 else c
def nxF (s : am_Z) (f : Int) : Int := if f + 1 = rI s 20 then 0 else f + 1
def wRem (s : am_Z) (n : Int) (sub : Int → am_wP → List am_wP) : Nat → Int → am_wP → Int → Int → List am_wP
  | 0, _, _, _, _ => []
  | k + 1, p, w, c, f => if rI s 35 < p + nxC s c f ∨ rI s 20 = 0 then [] else wNode s n sub p w (nxC s c f) (nxF s f) ++ wRem s n sub k p w (nxC s c f) (nxF s f)
def wSub (s : am_Z) (n : Int) : Nat → Int → am_wP → List am_wP
  | 0, _, _ => []
  | D + 1, p, w => wRem s n (wSub s n D) 100 p w 1 (-1)
/-- what is tried on the way -/
def scr (j : Nat) : Bool := Nat.ble 39 j && Nat.ble j 43
def am_BR (s s1 : am_Z) : Prop := (∀ j i, scr j = false → rA s1 j i = rA s j i) ∧ ∀ j, j ≠ 37 → j ≠ 38 → rI s1 j = rI s j
def am_WQ (s1 : am_Z) (W : am_wQ) : Prop := rI s1 37 = W.1 ∧ rI s1 38 = W.2.length ∧ W.2.length ≤ 4 ∧ ∀ i : Nat, i < W.2.length → rA s1 40 i = pF W.2 i ∧ rA s1 39 i = pC W.2 i
def am_PQ (s1 : am_Z) (w : am_wP) : Prop := ∀ i : Nat, i < w.length → rA s1 42 i = pF w i ∧ rA s1 41 i = pC w i
def okP (w : am_wP) : Prop := ∀ x ∈ w, (0 ≤ x.1 ∧ x.1 < 16) ∧ 1 ≤ x.2
theorem pLen_app (w : am_wP) (x : Int × Int) : pLen (w ++ [x]) = pLen w + x.2 := by
  induction w with
  | nil => simp [pLen]
  | cons y w ih => simp only [List.cons_append, pLen, ih]; omega
theorem pLen_b {w : am_wP} (h : okP w) : (w.length : Int) ≤ pLen w := by
  induction w with
  | nil => simp [pLen]
  | cons y w ih =>
    have h1 := ih (fun x hx => h x (List.mem_cons_of_mem _ hx))
    have h2 := (h y (List.mem_cons_self)).2
    simp only [pLen, List.length_cons, Int.natCast_add]
    omega
theorem pF_app {w : am_wP} {x : Int × Int} {i : Nat} (hi : i < w.length) : pF (w ++ [x]) i = pF w i ∧ pC (w ++ [x]) i = pC w i := by
  unfold pF pC
  rw [List.getD_eq_getElem?_getD, List.getD_eq_getElem?_getD, List.getElem?_append_left hi]
  exact ⟨rfl, rfl⟩
theorem pF_end (w : am_wP) (x : Int × Int) : pF (w ++ [x]) w.length = x.1 ∧ pC (w ++ [x]) w.length = x.2 := by
  unfold pF pC
  rw [List.getD_eq_getElem?_getD, List.getElem?_append_right (Nat.le_refl _), Nat.sub_self]
  exact ⟨rfl, rfl⟩
theorem okP_app {w : am_wP} {x : Int × Int} (h : okP w) (hx : (0 ≤ x.1 ∧ x.1 < 16) ∧ 1 ≤ x.2) : okP (w ++ [x]) := by
  intro y hy
  rcases List.mem_append.mp hy with h1 | h1
  · exact h y h1
  · rw [List.mem_singleton.mp h1]; exact hx
theorem okP_F {w : am_wP} (h : okP w) {i : Nat} (hi : i < w.length) : (0 ≤ pF w i ∧ pF w i < 16) ∧ 1 ≤ pC w i := by
  unfold pF pC
  rw [List.getD_eq_getElem?_getD, List.getElem?_eq_getElem hi]
  exact h _ (List.getElem_mem hi)
theorem canH_cg {s s' : am_Z} (h : ∀ j i, scr j = false → rA s' j i = rA s j i) (h0 : rI s' 0 = rI s 0) (h4 : rI s' 44 = rI s 44) (p c f n : Int) : canH s' p c f n = canH s p c f n := by
  have hS : ∀ j i, uSeat j = true → rA s' j i = rA s j i := fun j i hj => h j i (by
    unfold uSeat at hj
    simp only [Bool.or_eq_true, Nat.beq_eq] at hj
    unfold scr
    rcases hj with ((((((((((e | e) | e) | e) | e) | e) | e) | e) | e) | e) | e) | e <;> rw [e] <;> rfl)
  have hd := dep_cg hS
  have ho := openS_cg hS h4 h0
  have ha : ∀ l, arv s' l = arv s l := fun l => by unfold arv; rw [hd, h 8 _ rfl]
  unfold canH
  have e : fCh s' p f n = fCh s p f n := by
    funext k
    unfold fCh
    simp only [canK, h 21 _ rfl, h 4 _ rfl, h 36 _ rfl, h 24 _ rfl, hd, ha, ho]
  rw [e]
  have e0 : (if canH0 s' p c f then (1 : Int) else 0) = if canH0 s p c f then 1 else 0 := by
    simp only [canH0, h 22 _ rfl, h 5 _ rfl, h 36 _ rfl, h 23 _ rfl, h 6 _ rfl, h 26 _ rfl, h 27 _ rfl, h 1 _ rfl, h 28 _ rfl, hd, h0]
  rw [e0]
theorem gtN_cg {s s' : am_Z} {n : Nat} (h : ∀ j i, scr j = false → rA s' j i = rA s j i) (h42 : ∀ i : Nat, i < n → rA s' 42 i = rA s 42 i) (h41 : n = 2 → rA s' 41 0 = rA s 41 0) (h5 : rI s' 35 = rI s 35) (k : Nat) (hk : k ≤ n) : gtN s' n k = gtN s n k := by
  have hd : ∀ l, dep s' l = dep s l := fun l => by unfold dep; rw [h 7 _ rfl, h 1 _ rfl, h 5 _ rfl, h 17 _ rfl]
  have ha : ∀ l, arv s' l = arv s l := fun l => by unfold arv; rw [hd, h 8 _ rfl]
  induction k with
  | zero => rfl
  | succ k ih =>
    have e : ∀ g m, m ≤ n → andN g (fGt s' (rA s 42 k)) m = andN g (fGt s (rA s 42 k)) m := by
      intro g m hm
      induction m with
      | zero => rfl
      | succ m ihm =>
        have ef : fGt s' (rA s 42 k) m = fGt s (rA s 42 k) m := by
          unfold fGt
          simp only [h42 m (by omega), h 31 _ rfl, h 21 _ rfl, h 29 _ rfl]
        simp only [andN, ihm (by omega), ef]
    simp only [gtN]
    rw [ih (by omega), h42 k (by omega), h 29 _ rfl, h 30 _ rfl, Int.toNat_natCast, e _ n (Nat.le_refl n)]
    by_cases h2 : n = 2
    · simp only [rndP, rest, h 5 _ rfl, h 36 _ rfl, h 6 _ rfl, hd, ha, h41 h2, h5]
    · have hn : ¬ ((n : Int) = 2) := by omega
      simp only [rndP, hn, false_and, and_false]
end


noncomputable section
def cTk (s : am_Z) (l b k : Int) : Int := if rA s 53 k = l ∧ rA s 55 k ≤ 1 then rA s 45 b else 0
def bTk (s : am_Z) (l b : Int) : Int := if rA s 47 b = 1 then sumI (10 * b) (rA s 52 b).toNat (cTk s l b) else 0
def nTk (s : am_Z) (l : Int) : Int := sumI 0 (rI s 44).toNat (bTk s l)
theorem bTk_b {s : am_Z} (B : in_S s) (l b : Int) : 0 ≤ bTk s l b ∧ bTk s l b ≤ 90 := by
  unfold bTk
  split
  · have h1 := B.1 45 b 0 9 rfl
    have h2 := B.1 52 b 0 10 rfl
    have := sumI_b (a := 10 * b) (n := (rA s 52 b).toNat) (f := cTk s l b) (M := 9) (fun i => by unfold cTk; split <;> omega)
    omega
  · omega
theorem nTk_b {s : am_Z} (B : in_S s) (l : Int) : 0 ≤ nTk s l ∧ nTk s l ≤ 3600 := by
  have h2 := B.2.1 44 0 40 rfl
  have := sumI_b (a := 0) (n := (rI s 44).toNat) (f := bTk s l) (M := 90) (bTk_b B l)
  unfold nTk
  omega
def kCancelLeg (s : am_Z) (l : Int) : Int := if ¬ legP s l then 1 else if freeP s l then 0 else 2
def cTc (s : am_Z) (l b k : Int) : Int := if rA s 53 k = l ∧ rA s 55 k = 1 then rA s 45 b else 0
def bTc (s : am_Z) (l b : Int) : Int := if rA s 47 b = 1 then sumI (10 * b) (rA s 52 b).toNat (cTc s l b) else 0
def nTc (s : am_Z) (l : Int) : Int := sumI 0 (rI s 44).toNat (bTc s l)
theorem bTc_b {s : am_Z} (B : in_S s) (l b : Int) : 0 ≤ bTc s l b ∧ bTc s l b ≤ 90 := by
  unfold bTc
  split
  · have h1 := B.1 45 b 0 9 rfl
    have h2 := B.1 52 b 0 10 rfl
    have := sumI_b (a := 10 * b) (n := (rA s 52 b).toNat) (f := cTc s l b) (M := 9) (fun i => by unfold cTc; split <;> omega)
    omega
  · omega
theorem nTc_b {s : am_Z} (B : in_S s) (l : Int) : 0 ≤ nTc s l ∧ nTc s l ≤ 3600 := by
  have h2 := B.2.1 44 0 40 rfl
  have := sumI_b (a := 0) (n := (rI s 44).toNat) (f := bTc s l) (M := 90) (bTc_b B l)
  unfold nTc
  omega
def dlS (s : am_Z) (l h : Int) : am_Z := if rA s 17 (61 * (l / 100) + l % 100) + h ≤ 8 then wA (wA s 19 (61 * (l / 100) + l % 100) 1) 17 (61 * (l / 100) + l % 100) (rA s 17 (61 * (l / 100) + l % 100) + h) else cancS (wA s 19 (61 * (l / 100) + l % 100) 1) l
def othL (s : am_Z) (l : Int) : Int := if rA s 15 (l / 100) = -1 ∨ 61 ≤ l % 100 + rA s 16 (l / 100) ∨ ¬ thereP s (rA s 15 (l / 100)) (l % 100 + rA s 16 (l / 100)) then -1 else 100 * rA s 15 (l / 100) + (l % 100 + rA s 16 (l / 100))
theorem othL_b {s : am_Z} (B : in_S s) {l : Int} (hl : legR l) : othL s l = -1 ∨ legR (othL s l) := by
  have h1 := B.1 15 (l / 100) (-1) 11 rfl
  have h2 := B.1 16 (l / 100) 0 1 rfl
  unfold othL
  omega
abbrev goesP (s : am_Z) (l : Int) : Prop := othL s l ≠ -1 ∧ freeP s (othL s l) ∧ dep s (othL s l) < arv s l + 1
def dlR : Nat → am_Z → Int → Int → am_Z
  | 0, s, _, _ => s
  | n + 1, s, l, h => if rA s 17 (61 * (l / 100) + l % 100) + h ≤ 8 ∧ goesP (dlS s l h) l then dlR n (dlS s l h) (othL (dlS s l h) l) (arv (dlS s l h) l + 1 - dep (dlS s l h) (othL (dlS s l h) l)) else dlS s l h
def dlF (n : Nat) (g l : Int) (s : am_Z) : am_Z := if g = 1 ∧ goesP s l then dlR n s (othL s l) (arv s l + 1 - dep s (othL s l)) else s
theorem dlF_p {n : Nat} {l : Int} {s : am_Z} (h : goesP s l) : dlF n 1 l s = dlR n s (othL s l) (arv s l + 1 - dep s (othL s l)) := if_pos ⟨rfl, h⟩
theorem dlF_n {n : Nat} {g l : Int} {s : am_Z} (h : ¬ (g = 1 ∧ goesP s l)) : dlF n g l s = s := if_neg h
theorem dlF_z {n : Nat} {l : Int} {s : am_Z} : dlF n 0 l s = s := if_neg (fun h => by cases h.1)
theorem dlF_0 {g l : Int} {s : am_Z} : dlF 0 g l s = s := by unfold dlF; split <;> rfl
theorem dlF_c {n : Nat} {o h : Int} {s : am_Z} (h8 : rA s 17 (61 * (o / 100) + o % 100) + h ≤ 8) : dlF n 1 o (dlS s o h) = dlR (n + 1) s o h := by
  unfold dlF
  rw [dlR]
  by_cases hq : goesP (dlS s o h) o
  · rw [if_pos ⟨rfl, hq⟩, if_pos ⟨h8, hq⟩]
  · rw [if_neg (fun z => hq z.2), if_neg (fun z => hq z.2)]
theorem dlF_b {n : Nat} {o h : Int} {s : am_Z} (h8 : ¬ rA s 17 (61 * (o / 100) + o % 100) + h ≤ 8) : dlF n 0 o (dlS s o h) = dlR (n + 1) s o h := by
  rw [dlF_z, dlR, if_neg (fun z => h8 z.1)]
def kDelay (s : am_Z) (l h : Int) : Int := if ¬ legP s l then 1 else if ¬ (1 ≤ h ∧ h ≤ 8) then 2 else if freeP s l then 0 else 3
def nTch (s : am_Z) (i : Int) : Int := if rA s 19 i = 0 then 0 else 1
theorem nTch_b (s : am_Z) : 0 ≤ sumI 0 732 (nTch s) ∧ sumI 0 732 (nTch s) ≤ 732 := by
  have := sumI_b (a := 0) (n := 732) (f := nTch s) (M := 1) (fun i => by unfold nTch; split <;> omega)
  omega
def delayS (s : am_Z) (l h : Int) : am_Z := dlR 7 (wB s 19 0 732 (fun _ => 0)) l h
end


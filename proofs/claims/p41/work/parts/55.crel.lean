noncomputable section
/-! The class's heap against the reference's state. -/
def cRef : Nat → Option am_R := (am_nd 805 (am_nd 802 (am_nd 800 (am_lf 800 ((1800, 0) : am_R)) (am_nd 801 (am_lf 801 ((1801, 0) : am_R)) (am_lf 802 ((1802, 0) : am_R)))) (am_nd 803 (am_lf 803 ((1803, 0) : am_R)) (am_nd 804 (am_lf 804 ((1804, 0) : am_R)) (am_lf 805 ((6, 0) : am_R))))) (am_nd 808 (am_nd 806 (am_lf 806 ((1806, 0) : am_R)) (am_nd 807 (am_lf 807 ((1807, 0) : am_R)) (am_lf 808 ((1808, 0) : am_R)))) (am_nd 810 (am_nd 809 (am_lf 809 ((1809, 0) : am_R)) (am_lf 810 ((2, 0) : am_R))) (am_nd 811 (am_lf 811 ((1811, 0) : am_R)) (am_lf 812 ((1812, 0) : am_R))))))
def pRef : Nat → Option am_R := (am_nd 601 (am_nd 600 (am_lf 600 ((1600, 0) : am_R)) (am_lf 601 ((1601, 0) : am_R))) (am_nd 602 (am_lf 602 ((1602, 0) : am_R)) (am_nd 603 (am_lf 603 ((1603, 0) : am_R)) (am_lf 604 ((1604, 0) : am_R)))))
def cLen : Nat → Option Nat := (am_nd 1604 (am_nd 1600 (am_lf 1600 (16 : Nat)) (am_nd 1602 (am_lf 1602 (4 : Nat)) (am_lf 1604 (4 : Nat)))) (am_nd 1801 (am_nd 1800 (am_lf 1800 (6 : Nat)) (am_lf 1801 (6 : Nat))) (am_nd 1811 (am_lf 1811 (5 : Nat)) (am_lf 1812 (9 : Nat)))))
def cLst : Nat → Option Unit := (am_nd 1803 (am_nd 1603 (am_nd 1601 (am_lf 1601 ()) (am_lf 1603 ())) (am_nd 1802 (am_lf 1802 ()) (am_lf 1803 ()))) (am_nd 1806 (am_nd 1804 (am_lf 1804 ()) (am_lf 1806 ())) (am_nd 1807 (am_lf 1807 ()) (am_nd 1808 (am_lf 1808 ()) (am_lf 1809 ())))))
/-- int fields and the reference's arrays: flights, fares, bookings, wishes, coupons -/
def fFl : Nat → Option Nat := (am_nd 404 (am_nd 402 (am_nd 401 (am_lf 401 (4 : Nat)) (am_lf 402 (5 : Nat))) (am_nd 403 (am_lf 403 (6 : Nat)) (am_lf 404 (7 : Nat)))) (am_nd 406 (am_nd 405 (am_lf 405 (8 : Nat)) (am_lf 406 (9 : Nat))) (am_nd 410 (am_lf 410 (10 : Nat)) (am_lf 412 (16 : Nat)))))
def fFa : Nat → Option Nat := (am_nd 306 (am_nd 303 (am_nd 301 (am_lf 301 (21 : Nat)) (am_nd 302 (am_lf 302 (22 : Nat)) (am_lf 303 (23 : Nat)))) (am_nd 304 (am_lf 304 (24 : Nat)) (am_nd 305 (am_lf 305 (25 : Nat)) (am_lf 306 (26 : Nat))))) (am_nd 309 (am_nd 307 (am_lf 307 (27 : Nat)) (am_nd 308 (am_lf 308 (28 : Nat)) (am_lf 309 (29 : Nat)))) (am_nd 310 (am_lf 310 (30 : Nat)) (am_nd 311 (am_lf 311 (31 : Nat)) (am_lf 312 (32 : Nat))))))
def fBk : Nat → Option Nat := (am_nd 2 (am_nd 0 (am_lf 0 (46 : Nat)) (am_nd 1 (am_lf 1 (50 : Nat)) (am_lf 2 (48 : Nat)))) (am_nd 6 (am_lf 6 (45 : Nat)) (am_nd 7 (am_lf 7 (47 : Nat)) (am_lf 8 (51 : Nat)))))
def fWi : Nat → Option Nat := (am_nd 700 (am_lf 700 (62 : Nat)) (am_nd 701 (am_lf 701 (63 : Nat)) (am_lf 703 (66 : Nat))))
def fCp : Nat → Option Nat := (am_nd 102 (am_nd 101 (am_lf 101 (54 : Nat)) (am_lf 102 (56 : Nat))) (am_nd 103 (am_lf 103 (57 : Nat)) (am_nd 104 (am_lf 104 (58 : Nat)) (am_lf 105 (55 : Nat)))))
def am_CT (q : am_A) : Prop := (∀ f r, cRef f = some r → qFR q f (8, 0) = some r) ∧ (∀ f r, pRef f = some r → qFR q f (6, 0) = some r) ∧ (∀ k c, cLen k = some c → qAL q (k, 0) = c) ∧ (∀ k, cLst k = some () → 0 < qCN q k)
def am_CN (q : am_A) (s : am_Z) : Prop := (∀ i : Int, 0 ≤ i → i < 6 → qAI q (1800, 0) i.toNat = rA s 1 i) ∧ (∀ i : Int, 0 ≤ i → i < 6 → qAI q (1801, 0) i.toNat = rA s 2 i) ∧ (∀ i : Int, 0 ≤ i → i < 5 → qAI q (1811, 0) i.toNat = rA s 69 i) ∧ (∀ i : Int, 0 ≤ i → i < 9 → qAI q (1812, 0) i.toNat = rA s 70 i) ∧ qFI q 813 (8, 0) = rI s 0 ∧ qFI q 814 (8, 0) = rI s 68
/-- the first n objects of a kind -/
def rng (n t : Nat) : List am_R := (List.range n).map (fun i => (t, i))
theorem rng_l (n t : Nat) : (rng n t).length = n := by simp [rng]
theorem rng_g {n t i : Nat} (h : i < n) : (rng n t)[i]? = some (t, i) := by simp [rng, h]
/-- the object of a leg -/
def legO (q : am_A) (l : Int) : Option am_R := qAR q (1408, (l / 100).toNat) (l % 100).toNat
def lId (q : am_A) (l : Int) : Nat := match legO q l with | some r => r.2 | none => 0
def cId (q : am_A) (b k : Nat) : Nat := match (qLS q (1003, b))[k]? with | some r => r.2 | none => 0
def am_Fl (q : am_A) (s : am_Z) (i : Nat) : Prop := (∀ f j, fFl f = some j → qFI q f (4, i) = rA s j i) ∧ qFI q 400 (4, i) = i ∧ qFI q 409 (4, i) = rA s 7 i - rA s 1 (rA s 5 i) ∧ qFR q 407 (4, i) = some (1407, i) ∧ qFR q 408 (4, i) = some (1408, i) ∧ qFR q 411 (4, i) = (if rA s 15 i = -1 then none else some (4, (rA s 15 i).toNat)) ∧ qAL q (1407, i) = 4 ∧ qAL q (1408, i) = 61 ∧ (∀ b : Int, 0 ≤ b → b < 4 → qAI q (1407, i) b.toNat = rA s 14 (4 * i + b))
def am_CF (q : am_A) (s : am_Z) : Prop := qLS q (1802, 0) = rng (rI s 3).toNat 4 ∧ (qCN q 4 = (rI s 3).toNat ∧ qCN q 1407 = (rI s 3).toNat ∧ qCN q 1408 = (rI s 3).toNat) ∧ (∀ i : Nat, (i : Int) < rI s 3 → am_Fl q s i) ∧ (∀ i : Int, 0 ≤ i → i < rI s 3 → -1 ≤ rA s 15 i ∧ rA s 15 i < rI s 3)
def am_Lg (q : am_A) (s : am_Z) (l : Int) : Prop := legO q l = some (5, lId q l) ∧ lId q l < qCN q 5 ∧ qFR q 500 (5, lId q l) = some (4, (l / 100).toNat) ∧ qFI q 501 (5, lId q l) = l % 100 ∧ qFI q 502 (5, lId q l) = l ∧ qFI q 503 (5, lId q l) = dep s l ∧ qFI q 504 (5, lId q l) = arv s l ∧ qFI q 505 (5, lId q l) = rA s 17 (61 * (l / 100) + l % 100) ∧ qFI q 506 (5, lId q l) = rA s 18 (61 * (l / 100) + l % 100)
def am_CL (q : am_A) (s : am_Z) : Prop := (∀ l, legP s l → am_Lg q s l) ∧ (∀ l, 0 ≤ l → l / 100 < rI s 3 → l % 100 < 61 → ¬ thereP s (l / 100) (l % 100) → legO q l = none)
def am_CA (q : am_A) (s : am_Z) : Prop := qLS q (1803, 0) = rng (rI s 20).toNat 3 ∧ qCN q 3 = (rI s 20).toNat ∧ (∀ i : Nat, (i : Int) < rI s 20 → (∀ f j, fFa f = some j → qFI q f (3, i) = rA s j i) ∧ qFI q 300 (3, i) = i)
/-- a list of legs -/
def am_LL (q : am_A) (s : am_Z) (r : am_R) (n : Int) (f : Int → Int) : Prop := ((qLS q r).length : Int) = n ∧ ∀ k : Nat, (k : Int) < n → (qLS q r)[k]? = some (5, lId q (f k)) ∧ legP s (f k)
def am_Bk (q : am_A) (s : am_Z) (b : Nat) : Prop := (∀ f j, fBk f = some j → qFI q f (0, b) = rA s j b) ∧ (qFR q 3 (0, b) = some (1003, b) ∧ qFR q 4 (0, b) = some (1004, b) ∧ qFR q 5 (0, b) = some (1005, b)) ∧ (qAL q (1004, b) = 4 ∧ qAL q (1005, b) = 4) ∧ (∀ k : Int, 0 ≤ k → k < 4 → qAI q (1004, b) k.toNat = rA s 59 (4 * b + k) ∧ qAI q (1004, b) k.toNat * qAI q (1005, b) k.toNat / 100 = rA s 60 (4 * b + k) ∧ (0 ≤ qAI q (1005, b) k.toNat ∧ qAI q (1005, b) k.toNat ≤ 100)) ∧ ((qLS q (1003, b)).length : Int) = rA s 52 b ∧ qCP q (1003, b) ≤ 60
def am_Cp (q : am_A) (s : am_Z) (b k : Nat) : Prop := (qLS q (1003, b))[k]? = some (1, cId q b k) ∧ cId q b k < qCN q 1 ∧ qFR q 100 (1, cId q b k) = some (5, lId q (rA s 53 (10 * b + k))) ∧ legP s (rA s 53 (10 * b + k)) ∧ (∀ f j, fCp f = some j → qFI q f (1, cId q b k) = rA s j (10 * b + k))
def am_CB (q : am_A) (s : am_Z) : Prop := qLS q (1806, 0) = rng (rI s 44).toNat 0 ∧ ((rI s 44).toNat ≤ qCN q 0 ∧ (rI s 44).toNat ≤ qCN q 1003 ∧ (rI s 44).toNat ≤ qCN q 1004 ∧ (rI s 44).toNat ≤ qCN q 1005) ∧ (∀ b : Nat, (b : Int) < rI s 44 → am_Bk q s b) ∧ (∀ b k : Nat, (b : Int) < rI s 44 → (k : Int) < rA s 52 b → am_Cp q s b k) ∧ (∀ b k b' k' : Nat, (b : Int) < rI s 44 → (k : Int) < rA s 52 b → (b' : Int) < rI s 44 → (k' : Int) < rA s 52 b' → cId q b k = cId q b' k' → b = b' ∧ k = k')
def am_CW (q : am_A) (s : am_Z) : Prop := qLS q (1807, 0) = rng (rI s 61).toNat 7 ∧ ((rI s 61).toNat ≤ qCN q 7 ∧ (rI s 61).toNat ≤ qCN q 1702) ∧ (∀ w : Nat, (w : Int) < rI s 61 → (∀ f j, fWi f = some j → qFI q f (7, w) = rA s j w) ∧ qFR q 702 (7, w) = some (1702, w) ∧ am_LL q s (1702, w) (rA s 64 w) (fun k => rA s 65 (4 * w + k)))
def am_CP (q : am_A) : Prop := ∀ k, cLst k = some () → qCP q (k, 0) ≤ 60
def am_CV (q : am_A) (s : am_Z) : Prop := am_CT q ∧ am_CN q s ∧ am_CF q s ∧ am_CL q s ∧ am_CA q s ∧ am_LL q s (1804, 0) (rI s 33) (fun k => rA s 34 k) ∧ am_CB q s ∧ am_CW q s ∧ am_CP q ∧ in_S s
section CVG
variable {d : Nat} {q : am_A} {s : am_Z}
theorem CV_B (V : am_CV q s) : in_S s := V.2.2.2.2.2.2.2.2.2
theorem cl_szF (V : am_CV q s) : am_C2 d m_AL_size [aR 1802 0] q (am_is2 (aI (zI (rI s 3))) q) := by
  have h := sq_size (d := d) (t := 1802) (n := 0) (q := q) rfl (by omega) (V.1.2.2.2 1802 rfl)
  rw [V.2.2.1.1, rng_l] at h
  have b := (CV_B V).2.1 3 0 12 rfl
  rw [show (((rI s 3).toNat : Nat) : Int) = rI s 3 by omega] at h
  exact h
theorem cl_szA (V : am_CV q s) : am_C2 d m_AL_size [aR 1803 0] q (am_is2 (aI (zI (rI s 20))) q) := by
  have h := sq_size (d := d) (t := 1803) (n := 0) (q := q) rfl (by omega) (V.1.2.2.2 1803 rfl)
  rw [V.2.2.2.2.1.1, rng_l] at h
  have b := (CV_B V).2.1 20 0 16 rfl
  rw [show (((rI s 20).toNat : Nat) : Int) = rI s 20 by omega] at h
  exact h
theorem cl_szB (V : am_CV q s) : am_C2 d m_AL_size [aR 1806 0] q (am_is2 (aI (zI (rI s 44))) q) := by
  have h := sq_size (d := d) (t := 1806) (n := 0) (q := q) rfl (by omega) (V.1.2.2.2 1806 rfl)
  rw [V.2.2.2.2.2.2.1.1, rng_l] at h
  have b := (CV_B V).2.1 44 0 40 rfl
  rw [show (((rI s 44).toNat : Nat) : Int) = rI s 44 by omega] at h
  exact h
theorem cl_szW (V : am_CV q s) : am_C2 d m_AL_size [aR 1807 0] q (am_is2 (aI (zI (rI s 61))) q) := by
  have h := sq_size (d := d) (t := 1807) (n := 0) (q := q) rfl (by omega) (V.1.2.2.2 1807 rfl)
  rw [V.2.2.2.2.2.2.2.1.1, rng_l] at h
  have b := (CV_B V).2.1 61 0 20 rfl
  rw [show (((rI s 61).toNat : Nat) : Int) = rI s 61 by omega] at h
  exact h
theorem cl_szD (V : am_CV q s) : am_C2 d m_AL_size [aR 1804 0] q (am_is2 (aI (zI (rI s 33))) q) := by
  have h := sq_size (d := d) (t := 1804) (n := 0) (q := q) rfl (by omega) (V.1.2.2.2 1804 rfl)
  rw [V.2.2.2.2.2.1.1] at h
  exact h
theorem cl_szC (V : am_CV q s) {b : Nat} (hb : (b : Int) < rI s 44) : am_C2 d m_AL_size [aR 1003 b] q (am_is2 (aI (zI (rA s 52 b))) q) := by
  have h := sq_size (d := d) (t := 1003) (n := b) (q := q) rfl (by omega) (Nat.lt_of_lt_of_le (by omega) V.2.2.2.2.2.2.1.2.1.2.1)
  rw [(V.2.2.2.2.2.2.1.2.2.1 b hb).2.2.2.2.1] at h
  exact h
theorem cl_getF (V : am_CV q s) {i : Int} (hi : 0 ≤ i ∧ i < rI s 3) : am_C2 (d + 2) m_AL_get [aR 1802 0, aI (zI i)] q (am_is2 (aR 4 i.toNat) q) := sq_get (j := i.toNat) rfl (by omega) (V.1.2.2.2 1802 rfl) (by omega) (by rw [V.2.2.1.1]; exact rng_g (by omega))
theorem cl_getA (V : am_CV q s) {i : Int} (hi : 0 ≤ i ∧ i < rI s 20) : am_C2 (d + 2) m_AL_get [aR 1803 0, aI (zI i)] q (am_is2 (aR 3 i.toNat) q) := sq_get (j := i.toNat) rfl (by omega) (V.1.2.2.2 1803 rfl) (by omega) (by rw [V.2.2.2.2.1.1]; exact rng_g (by omega))
theorem cl_getB (V : am_CV q s) {i : Int} (hi : 0 ≤ i ∧ i < rI s 44) : am_C2 (d + 2) m_AL_get [aR 1806 0, aI (zI i)] q (am_is2 (aR 0 i.toNat) q) := sq_get (j := i.toNat) rfl (by omega) (V.1.2.2.2 1806 rfl) (by omega) (by rw [V.2.2.2.2.2.2.1.1]; exact rng_g (by omega))
theorem cl_getW (V : am_CV q s) {i : Int} (hi : 0 ≤ i ∧ i < rI s 61) : am_C2 (d + 2) m_AL_get [aR 1807 0, aI (zI i)] q (am_is2 (aR 7 i.toNat) q) := sq_get (j := i.toNat) rfl (by omega) (V.1.2.2.2 1807 rfl) (by omega) (by rw [V.2.2.2.2.2.2.2.1.1]; exact rng_g (by omega))
theorem cl_getD (V : am_CV q s) {i : Int} (hi : 0 ≤ i ∧ i < rI s 33) : am_C2 (d + 2) m_AL_get [aR 1804 0, aI (zI i)] q (am_is2 (aR 5 (lId q (rA s 34 i))) q) := sq_get (j := i.toNat) rfl (by omega) (V.1.2.2.2 1804 rfl) (by omega) (by have h := (V.2.2.2.2.2.1.2 i.toNat (by omega)).1; rw [show ((i.toNat : Nat) : Int) = i by omega] at h; exact h)
theorem cl_getC (V : am_CV q s) {b : Nat} (hb : (b : Int) < rI s 44) {i : Int} (hi : 0 ≤ i ∧ i < rA s 52 b) : am_C2 (d + 2) m_AL_get [aR 1003 b, aI (zI i)] q (am_is2 (aR 1 (cId q b i.toNat)) q) := sq_get (j := i.toNat) rfl (by omega) (Nat.lt_of_lt_of_le (by omega) V.2.2.2.2.2.2.1.2.1.2.1) (by omega) ((V.2.2.2.2.2.2.1.2.2.2.1 b i.toNat hb (by omega)).1)
end CVG

end

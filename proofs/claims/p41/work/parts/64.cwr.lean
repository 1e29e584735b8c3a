noncomputable section
def gBk : Nat → Option Nat := (am_nd 47 (am_nd 45 (am_lf 45 (6 : Nat)) (am_nd 46 (am_lf 46 (0 : Nat)) (am_lf 47 (7 : Nat)))) (am_nd 48 (am_lf 48 (2 : Nat)) (am_nd 50 (am_lf 50 (1 : Nat)) (am_lf 51 (8 : Nat)))))
theorem fBk_i : am_all fBk (fun f j => gBk j = some f) := (am_nd_ok (am_nd_ok (am_lf_ok (by decide)) (am_nd_ok (am_lf_ok (by decide)) (am_lf_ok (by decide)))) (am_nd_ok (am_lf_ok (by decide)) (am_nd_ok (am_lf_ok (by decide)) (am_lf_ok (by decide)))))
theorem fBk_j {f f' j : Nat} (h : fBk f = some j) (h' : fBk f' = some j) : f = f' := Option.some.inj ((fBk_i f j h).symm.trans (fBk_i f' j h'))
def gCp : Nat → Option Nat := (am_nd 55 (am_nd 54 (am_lf 54 (101 : Nat)) (am_lf 55 (105 : Nat))) (am_nd 56 (am_lf 56 (102 : Nat)) (am_nd 57 (am_lf 57 (103 : Nat)) (am_lf 58 (104 : Nat)))))
theorem fCp_i : am_all fCp (fun f j => gCp j = some f) := (am_nd_ok (am_nd_ok (am_lf_ok (by decide)) (am_lf_ok (by decide))) (am_nd_ok (am_lf_ok (by decide)) (am_nd_ok (am_lf_ok (by decide)) (am_lf_ok (by decide)))))
theorem fCp_j {f f' j : Nat} (h : fCp f = some j) (h' : fCp f' = some j) : f = f' := Option.some.inj ((fCp_i f j h).symm.trans (fCp_i f' j h'))
def gFa : Nat → Option Nat := (am_nd 26 (am_nd 23 (am_nd 21 (am_lf 21 (301 : Nat)) (am_nd 22 (am_lf 22 (302 : Nat)) (am_lf 23 (303 : Nat)))) (am_nd 24 (am_lf 24 (304 : Nat)) (am_nd 25 (am_lf 25 (305 : Nat)) (am_lf 26 (306 : Nat))))) (am_nd 29 (am_nd 27 (am_lf 27 (307 : Nat)) (am_nd 28 (am_lf 28 (308 : Nat)) (am_lf 29 (309 : Nat)))) (am_nd 30 (am_lf 30 (310 : Nat)) (am_nd 31 (am_lf 31 (311 : Nat)) (am_lf 32 (312 : Nat))))))
theorem fFa_i : am_all fFa (fun f j => gFa j = some f) := (am_nd_ok (am_nd_ok (am_nd_ok (am_lf_ok (by decide)) (am_nd_ok (am_lf_ok (by decide)) (am_lf_ok (by decide)))) (am_nd_ok (am_lf_ok (by decide)) (am_nd_ok (am_lf_ok (by decide)) (am_lf_ok (by decide))))) (am_nd_ok (am_nd_ok (am_lf_ok (by decide)) (am_nd_ok (am_lf_ok (by decide)) (am_lf_ok (by decide)))) (am_nd_ok (am_lf_ok (by decide)) (am_nd_ok (am_lf_ok (by decide)) (am_lf_ok (by decide))))))
theorem fFa_j {f f' j : Nat} (h : fFa f = some j) (h' : fFa f' = some j) : f = f' := Option.some.inj ((fFa_i f j h).symm.trans (fFa_i f' j h'))
def gWi : Nat → Option Nat := (am_nd 62 (am_lf 62 (700 : Nat)) (am_nd 63 (am_lf 63 (701 : Nat)) (am_lf 66 (703 : Nat))))
theorem fWi_i : am_all fWi (fun f j => gWi j = some f) := (am_nd_ok (am_lf_ok (by decide)) (am_nd_ok (am_lf_ok (by decide)) (am_lf_ok (by decide))))
theorem fWi_j {f f' j : Nat} (h : fWi f = some j) (h' : fWi f' = some j) : f = f' := Option.some.inj ((fWi_i f j h).symm.trans (fWi_i f' j h'))
theorem fBk_r2 : am_all fBk (fun f j => f < 9 ∧ 45 ≤ j ∧ j ≤ 51) := (am_nd_ok (am_nd_ok (am_lf_ok (by decide)) (am_nd_ok (am_lf_ok (by decide)) (am_lf_ok (by decide)))) (am_nd_ok (am_lf_ok (by decide)) (am_nd_ok (am_lf_ok (by decide)) (am_lf_ok (by decide)))))
theorem fCp_r2 : am_all fCp (fun f j => (101 ≤ f ∧ f < 106) ∧ 54 ≤ j ∧ j ≤ 58) := (am_nd_ok (am_nd_ok (am_lf_ok (by decide)) (am_lf_ok (by decide))) (am_nd_ok (am_lf_ok (by decide)) (am_nd_ok (am_lf_ok (by decide)) (am_lf_ok (by decide)))))
theorem fWi_r2 : am_all fWi (fun f j => (700 ≤ f ∧ f < 704) ∧ (j = 62 ∨ j = 63 ∨ j = 66)) := (am_nd_ok (am_lf_ok (by decide)) (am_nd_ok (am_lf_ok (by decide)) (am_lf_ok (by decide))))
theorem fFa_r2 : am_all fFa (fun f j => (301 ≤ f ∧ f < 313) ∧ 21 ≤ j ∧ j ≤ 32) := (am_nd_ok (am_nd_ok (am_nd_ok (am_lf_ok (by decide)) (am_nd_ok (am_lf_ok (by decide)) (am_lf_ok (by decide)))) (am_nd_ok (am_lf_ok (by decide)) (am_nd_ok (am_lf_ok (by decide)) (am_lf_ok (by decide))))) (am_nd_ok (am_nd_ok (am_lf_ok (by decide)) (am_nd_ok (am_lf_ok (by decide)) (am_lf_ok (by decide)))) (am_nd_ok (am_lf_ok (by decide)) (am_nd_ok (am_lf_ok (by decide)) (am_lf_ok (by decide))))))
theorem fBk_g : am_all fBk (fun _ j => rLg j = false) := (am_nd_ok (am_nd_ok (am_lf_ok (by decide)) (am_nd_ok (am_lf_ok (by decide)) (am_lf_ok (by decide)))) (am_nd_ok (am_lf_ok (by decide)) (am_nd_ok (am_lf_ok (by decide)) (am_lf_ok (by decide)))))
theorem fCp_g : am_all fCp (fun _ j => rLg j = false) := (am_nd_ok (am_nd_ok (am_lf_ok (by decide)) (am_lf_ok (by decide))) (am_nd_ok (am_lf_ok (by decide)) (am_nd_ok (am_lf_ok (by decide)) (am_lf_ok (by decide)))))
theorem fFa_g : am_all fFa (fun _ j => rLg j = false) := (am_nd_ok (am_nd_ok (am_nd_ok (am_lf_ok (by decide)) (am_nd_ok (am_lf_ok (by decide)) (am_lf_ok (by decide)))) (am_nd_ok (am_lf_ok (by decide)) (am_nd_ok (am_lf_ok (by decide)) (am_lf_ok (by decide))))) (am_nd_ok (am_nd_ok (am_lf_ok (by decide)) (am_nd_ok (am_lf_ok (by decide)) (am_lf_ok (by decide)))) (am_nd_ok (am_lf_ok (by decide)) (am_nd_ok (am_lf_ok (by decide)) (am_lf_ok (by decide))))))
theorem fWi_g : am_all fWi (fun _ j => rLg j = false) := (am_nd_ok (am_lf_ok (by decide)) (am_nd_ok (am_lf_ok (by decide)) (am_lf_ok (by decide))))
section WR2
variable {q : am_A} {s : am_Z}
theorem ff_ne {q : am_A} {f : Nat} {r : am_R} {v : Int} {f' : Nat} {r' : am_R} (h : f' ≠ f) : qFI (uFI q f r v) f' r' = qFI q f' r' := if_neg (fun z => h z.1)
theorem ff_nr {q : am_A} {f : Nat} {r : am_R} {v : Int} {f' : Nat} {r' : am_R} (h : r' ≠ r) : qFI (uFI q f r v) f' r' = qFI q f' r' := if_neg (fun z => h z.2)
theorem ff_eq {q : am_A} {f : Nat} {r : am_R} {v : Int} : qFI (uFI q f r v) f r = v := if_pos ⟨rfl, rfl⟩
theorem tw_B {f0 j0 f j : Nat} {i0 i : Nat} {v : Int} (h0 : fBk f0 = some j0) (hf : fBk f = some j) (h : qFI q f (0, i) = rA s j i) : qFI (uFI q f0 (0, i0) v) f (0, i) = rA (wA s j0 i0 v) j i := by
  show (if f = f0 ∧ (0, i) = (0, i0) then v else qFI q f (0, i)) = if j = j0 ∧ (i : Int) = i0 then v else rA s j i
  by_cases e : f = f0 ∧ i = i0
  · obtain ⟨rfl, rfl⟩ := e
    rw [if_pos ⟨rfl, rfl⟩, if_pos ⟨Option.some.inj (hf.symm.trans h0), rfl⟩]
  · rw [if_neg (fun z => e ⟨z.1, congrArg Prod.snd z.2⟩), if_neg (fun z => e ⟨fBk_j (by rw [← z.1]; exact hf) h0, by have := z.2; omega⟩)]
    exact h
theorem tw_A {f0 j0 f j : Nat} {i0 i : Nat} {v : Int} (h0 : fFa f0 = some j0) (hf : fFa f = some j) (h : qFI q f (3, i) = rA s j i) : qFI (uFI q f0 (3, i0) v) f (3, i) = rA (wA s j0 i0 v) j i := by
  show (if f = f0 ∧ (3, i) = (3, i0) then v else qFI q f (3, i)) = if j = j0 ∧ (i : Int) = i0 then v else rA s j i
  by_cases e : f = f0 ∧ i = i0
  · obtain ⟨rfl, rfl⟩ := e
    rw [if_pos ⟨rfl, rfl⟩, if_pos ⟨Option.some.inj (hf.symm.trans h0), rfl⟩]
  · rw [if_neg (fun z => e ⟨z.1, congrArg Prod.snd z.2⟩), if_neg (fun z => e ⟨fFa_j (by rw [← z.1]; exact hf) h0, by have := z.2; omega⟩)]
    exact h
theorem tw_W {f0 j0 f j : Nat} {i0 i : Nat} {v : Int} (h0 : fWi f0 = some j0) (hf : fWi f = some j) (h : qFI q f (7, i) = rA s j i) : qFI (uFI q f0 (7, i0) v) f (7, i) = rA (wA s j0 i0 v) j i := by
  show (if f = f0 ∧ (7, i) = (7, i0) then v else qFI q f (7, i)) = if j = j0 ∧ (i : Int) = i0 then v else rA s j i
  by_cases e : f = f0 ∧ i = i0
  · obtain ⟨rfl, rfl⟩ := e
    rw [if_pos ⟨rfl, rfl⟩, if_pos ⟨Option.some.inj (hf.symm.trans h0), rfl⟩]
  · rw [if_neg (fun z => e ⟨z.1, congrArg Prod.snd z.2⟩), if_neg (fun z => e ⟨fWi_j (by rw [← z.1]; exact hf) h0, by have := z.2; omega⟩)]
    exact h
theorem CB_wB (h : am_CB q s) {f0 j0 b0 : Nat} {v : Int} (hf : fBk f0 = some j0) : am_CB (uFI q f0 (0, b0) v) (wA s j0 b0 v) := by
  have hr := fBk_r2 f0 j0 hf
  have mm : ∀ j x, j ≠ j0 → rA (wA s j0 b0 v) j x = rA s j x := fun j x h => if_neg (fun z => h z.1)
  have m13 : ∀ j x, (10 ≤ j ∧ j ≤ 13) → rA (wA s j0 b0 v) j x = rA s j x := fun j x h => mm j x (by omega)
  obtain ⟨h1, h2, h3, h4, h5⟩ := h
  refine ⟨h1, h2, fun b hb => ?_, fun b k hb hk => ?_, fun b k b' k' a1 a2 a3 a4 a5 => h5 b k b' k' a1 (by rw [← mm 52 _ (by omega)]; exact a2) a3 (by rw [← mm 52 _ (by omega)]; exact a4) a5⟩
  · obtain ⟨a1, a2, a3, a4, a5, a6⟩ := h3 b hb
    refine ⟨fun f j hf' => tw_B hf hf' (a1 f j hf'), a2, a3, fun k e1 e2 => ?_, by rw [mm 52 _ (by omega)]; exact a5, a6⟩
    rw [mm 59 _ (by omega), mm 60 _ (by omega)]
    exact a4 k e1 e2
  · obtain ⟨a1, a2, a3, a4, a5⟩ := h4 b k hb (by rw [← mm 52 _ (by omega)]; exact hk)
    refine ⟨a1, a2, by rw [mm 53 _ (by omega)]; exact a3, by rw [mm 53 _ (by omega)]; exact (legP_cg m13 rfl).mpr a4, fun f j hf' => ?_⟩
    have hr' := fCp_r f j hf'
    rw [mm j _ (by omega)]
    exact Eq.trans (b := qFI q f (1, cId q b k)) (uf_ne (by omega)) (a5 f j hf')
theorem CB_wC (h : am_CB q s) (B : in_S s) {f0 j0 b0 k0 : Nat} {v : Int} (hf : fCp f0 = some j0) (hb0 : (b0 : Int) < rI s 44) (hk0 : (k0 : Int) < rA s 52 b0) : am_CB (uFI q f0 (1, cId q b0 k0) v) (wA s j0 (10 * b0 + k0) v) := by
  have hr := fCp_r2 f0 j0 hf
  have mm : ∀ j x, j ≠ j0 → rA (wA s j0 (10 * b0 + k0) v) j x = rA s j x := fun j x h => if_neg (fun z => h z.1)
  have m13 : ∀ j x, (10 ≤ j ∧ j ≤ 13) → rA (wA s j0 (10 * b0 + k0) v) j x = rA s j x := fun j x h => mm j x (by omega)
  obtain ⟨h1, h2, h3, h4, h5⟩ := h
  refine ⟨h1, h2, fun b hb => ?_, fun b k hb hk => ?_, fun b k b' k' a1 a2 a3 a4 a5 => h5 b k b' k' a1 (by rw [← mm 52 _ (by omega)]; exact a2) a3 (by rw [← mm 52 _ (by omega)]; exact a4) a5⟩
  · obtain ⟨a1, a2, a3, a4, a5, a6⟩ := h3 b hb
    refine ⟨fun f j hf' => ?_, a2, a3, fun k e1 e2 => ?_, by rw [mm 52 _ (by omega)]; exact a5, a6⟩
    · have hr' := fBk_r2 f j hf'
      rw [mm j _ (by omega)]
      exact Eq.trans (b := qFI q f (0, b)) (uf_ne (by omega)) (a1 f j hf')
    · rw [mm 59 _ (by omega), mm 60 _ (by omega)]
      exact a4 k e1 e2
  · have hk' : (k : Int) < rA s 52 b := by rw [← mm 52 _ (by omega)]; exact hk
    obtain ⟨a1, a2, a3, a4, a5⟩ := h4 b k hb hk'
    refine ⟨a1, a2, by rw [mm 53 _ (by omega)]; exact a3, by rw [mm 53 _ (by omega)]; exact (legP_cg m13 rfl).mpr a4, fun f j hf' => ?_⟩
    have g1 := B.1 52 b 0 10 rfl
    have g2 := B.1 52 b0 0 10 rfl
    show (if f = f0 ∧ (1, cId q b k) = (1, cId q b0 k0) then v else qFI q f (1, cId q b k)) = if j = j0 ∧ (10 * (b : Int) + (k : Int)) = 10 * (b0 : Int) + (k0 : Int) then v else rA s j (10 * b + k)
    by_cases e : f = f0 ∧ b = b0 ∧ k = k0
    · obtain ⟨rfl, rfl, rfl⟩ := e
      exact (if_pos ⟨rfl, rfl⟩).trans (if_pos ⟨Option.some.inj (hf'.symm.trans hf), rfl⟩).symm
    · exact (if_neg (fun z => e ⟨z.1, h5 b k b0 k0 hb hk' hb0 hk0 (congrArg Prod.snd z.2)⟩)).trans ((a5 f j hf').trans (if_neg (fun z => e ⟨fCp_j (by rw [← z.1]; exact hf') hf, by have := z.2; omega, by have := z.2; omega⟩)).symm)
theorem CA_wA (h : am_CA q s) {f0 j0 i0 : Nat} {v : Int} (hf : fFa f0 = some j0) : am_CA (uFI q f0 (3, i0) v) (wA s j0 i0 v) := by
  have hr := fFa_r2 f0 j0 hf
  exact ⟨h.1, h.2.1, fun i hi => ⟨fun f j hf' => tw_A hf hf' ((h.2.2 i hi).1 f j hf'), Eq.trans (b := qFI q 300 (3, i)) (uf_ne (by omega)) (h.2.2 i hi).2⟩⟩
theorem CW_wW (h : am_CW q s) {f0 j0 i0 : Nat} {v : Int} (hf : fWi f0 = some j0) : am_CW (uFI q f0 (7, i0) v) (wA s j0 i0 v) := by
  have hr := fWi_r2 f0 j0 hf
  have mm : ∀ j x, j ≠ j0 → rA (wA s j0 i0 v) j x = rA s j x := fun j x h => if_neg (fun z => h z.1)
  exact ⟨h.1, h.2.1, fun i hi => ⟨fun f j hf' => tw_W hf hf' ((h.2.2 i hi).1 f j hf'), (h.2.2 i hi).2.1, LL_cg (h.2.2 i hi).2.2 rfl (fun _ _ => rfl) (mm 64 _ (by omega)) (fun k _ _ => mm 65 _ (by omega)) (fun j x h => mm j x (by omega)) rfl⟩⟩
theorem CV_wB (V : am_CV q s) {f0 j0 b0 : Nat} {v : Int} (hf : fBk f0 = some j0) (hv : ∀ lo hi, rRg j0 = some (lo, hi) → lo ≤ v ∧ v ≤ hi) : am_CV (uFI q f0 (0, b0) v) (wA s j0 b0 v) := by
  obtain ⟨v1, v2, v3, v4, v5, v6, v7, v8, v9, B⟩ := V
  have hr := fBk_r2 f0 j0 hf
  have mm : ∀ j x, j ≠ j0 → rA (wA s j0 b0 v) j x = rA s j x := fun j x h => if_neg (fun z => h z.1)
  have nn : ∀ j, 0 ≤ j → rI (wA s j0 b0 v) j = rI s j := fun j h => rfl
  have kf : ∀ f r, f ≠ f0 → qFI (uFI q f0 (0, b0) v) f r = qFI q f r := fun f r h => uf_ne h
  have m13 : ∀ j x, (10 ≤ j ∧ j ≤ 13) → rA (wA s j0 b0 v) j x = rA s j x := fun j x h => mm j x (by omega)
  refine ⟨v1, ⟨fun x a b => (rfl).trans ((v2.1 x a b).trans (mm 1 _ (by omega)).symm), fun x a b => (rfl).trans ((v2.2.1 x a b).trans (mm 2 _ (by omega)).symm), fun x a b => (rfl).trans ((v2.2.2.1 x a b).trans (mm 69 _ (by omega)).symm), fun x a b => (rfl).trans ((v2.2.2.2.1 x a b).trans (mm 70 _ (by omega)).symm), (kf 813 _ (by omega)).trans (v2.2.2.2.2.1.trans (nn 0 (by omega)).symm), (kf 814 _ (by omega)).trans (v2.2.2.2.2.2.trans (nn 68 (by omega)).symm)⟩, ?_, ?_, ?_, ?_, ?_, ?_, v9, in_S_A B hv (fun h => by rw [fBk_g f0 j0 hf] at h; cases h)⟩
  · exact CF_cg v3 rfl (fun _ _ => rfl) (fun f i a b => kf f _ (by omega)) (fun _ _ _ _ => rfl) (fun _ => ⟨rfl, rfl⟩) (fun _ _ => rfl) (fun j x h => mm j x (by omega)) (nn 3 (by omega))
  · exact CL_cg v4 (fun _ _ => rfl) (Nat.le_refl _) (fun f j a b c => ⟨kf f _ (by omega), rfl⟩) (fun j x h => mm j x (by omega)) (nn 3 (by omega))
  · exact CA_cg v5 rfl rfl (fun f i a b => kf f _ (by omega)) (fun j x h => mm j x (by omega)) (nn 20 (by omega))
  · exact LL_cg v6 rfl (fun _ _ => rfl) (nn 33 (by omega)) (fun k _ _ => mm 34 _ (by omega)) m13 (nn 3 (by omega))
  · exact CB_wB v7 hf
  · exact CW_cg v8 rfl (fun _ _ => rfl) (fun _ _ => Nat.le_refl _) (fun f w a b hw => ⟨kf f _ (by omega), rfl⟩) (fun _ _ => rfl) (fun j x h => mm j x (by omega)) m13 (nn 3 (by omega)) (nn 61 (by omega))
theorem CV_wC (V : am_CV q s) {f0 j0 b0 k0 : Nat} {v : Int} (hf : fCp f0 = some j0) (hb0 : (b0 : Int) < rI s 44) (hk0 : (k0 : Int) < rA s 52 b0) (hv : ∀ lo hi, rRg j0 = some (lo, hi) → lo ≤ v ∧ v ≤ hi) : am_CV (uFI q f0 (1, cId q b0 k0) v) (wA s j0 (10 * b0 + k0) v) := by
  obtain ⟨v1, v2, v3, v4, v5, v6, v7, v8, v9, B⟩ := V
  have hr := fCp_r2 f0 j0 hf
  have mm : ∀ j x, j ≠ j0 → rA (wA s j0 (10 * b0 + k0) v) j x = rA s j x := fun j x h => if_neg (fun z => h z.1)
  have nn : ∀ j, 0 ≤ j → rI (wA s j0 (10 * b0 + k0) v) j = rI s j := fun j h => rfl
  have kf : ∀ f r, f ≠ f0 → qFI (uFI q f0 (1, cId q b0 k0) v) f r = qFI q f r := fun f r h => uf_ne h
  have m13 : ∀ j x, (10 ≤ j ∧ j ≤ 13) → rA (wA s j0 (10 * b0 + k0) v) j x = rA s j x := fun j x h => mm j x (by omega)
  refine ⟨v1, ⟨fun x a b => (rfl).trans ((v2.1 x a b).trans (mm 1 _ (by omega)).symm), fun x a b => (rfl).trans ((v2.2.1 x a b).trans (mm 2 _ (by omega)).symm), fun x a b => (rfl).trans ((v2.2.2.1 x a b).trans (mm 69 _ (by omega)).symm), fun x a b => (rfl).trans ((v2.2.2.2.1 x a b).trans (mm 70 _ (by omega)).symm), (kf 813 _ (by omega)).trans (v2.2.2.2.2.1.trans (nn 0 (by omega)).symm), (kf 814 _ (by omega)).trans (v2.2.2.2.2.2.trans (nn 68 (by omega)).symm)⟩, ?_, ?_, ?_, ?_, ?_, ?_, v9, in_S_A B hv (fun h => by rw [fCp_g f0 j0 hf] at h; cases h)⟩
  · exact CF_cg v3 rfl (fun _ _ => rfl) (fun f i a b => kf f _ (by omega)) (fun _ _ _ _ => rfl) (fun _ => ⟨rfl, rfl⟩) (fun _ _ => rfl) (fun j x h => mm j x (by omega)) (nn 3 (by omega))
  · exact CL_cg v4 (fun _ _ => rfl) (Nat.le_refl _) (fun f j a b c => ⟨kf f _ (by omega), rfl⟩) (fun j x h => mm j x (by omega)) (nn 3 (by omega))
  · exact CA_cg v5 rfl rfl (fun f i a b => kf f _ (by omega)) (fun j x h => mm j x (by omega)) (nn 20 (by omega))
  · exact LL_cg v6 rfl (fun _ _ => rfl) (nn 33 (by omega)) (fun k _ _ => mm 34 _ (by omega)) m13 (nn 3 (by omega))
  · exact CB_wC v7 B hf hb0 hk0
  · exact CW_cg v8 rfl (fun _ _ => rfl) (fun _ _ => Nat.le_refl _) (fun f w a b hw => ⟨kf f _ (by omega), rfl⟩) (fun _ _ => rfl) (fun j x h => mm j x (by omega)) m13 (nn 3 (by omega)) (nn 61 (by omega))
theorem CV_wA (V : am_CV q s) {f0 j0 i0 : Nat} {v : Int} (hf : fFa f0 = some j0) (hv : ∀ lo hi, rRg j0 = some (lo, hi) → lo ≤ v ∧ v ≤ hi) : am_CV (uFI q f0 (3, i0) v) (wA s j0 i0 v) := by
  obtain ⟨v1, v2, v3, v4, v5, v6, v7, v8, v9, B⟩ := V
  have hr := fFa_r2 f0 j0 hf
  have mm : ∀ j x, j ≠ j0 → rA (wA s j0 i0 v) j x = rA s j x := fun j x h => if_neg (fun z => h z.1)
  have nn : ∀ j, 0 ≤ j → rI (wA s j0 i0 v) j = rI s j := fun j h => rfl
  have kf : ∀ f r, f ≠ f0 → qFI (uFI q f0 (3, i0) v) f r = qFI q f r := fun f r h => uf_ne h
  have m13 : ∀ j x, (10 ≤ j ∧ j ≤ 13) → rA (wA s j0 i0 v) j x = rA s j x := fun j x h => mm j x (by omega)
  refine ⟨v1, ⟨fun x a b => (rfl).trans ((v2.1 x a b).trans (mm 1 _ (by omega)).symm), fun x a b => (rfl).trans ((v2.2.1 x a b).trans (mm 2 _ (by omega)).symm), fun x a b => (rfl).trans ((v2.2.2.1 x a b).trans (mm 69 _ (by omega)).symm), fun x a b => (rfl).trans ((v2.2.2.2.1 x a b).trans (mm 70 _ (by omega)).symm), (kf 813 _ (by omega)).trans (v2.2.2.2.2.1.trans (nn 0 (by omega)).symm), (kf 814 _ (by omega)).trans (v2.2.2.2.2.2.trans (nn 68 (by omega)).symm)⟩, ?_, ?_, ?_, ?_, ?_, ?_, v9, in_S_A B hv (fun h => by rw [fFa_g f0 j0 hf] at h; cases h)⟩
  · exact CF_cg v3 rfl (fun _ _ => rfl) (fun f i a b => kf f _ (by omega)) (fun _ _ _ _ => rfl) (fun _ => ⟨rfl, rfl⟩) (fun _ _ => rfl) (fun j x h => mm j x (by omega)) (nn 3 (by omega))
  · exact CL_cg v4 (fun _ _ => rfl) (Nat.le_refl _) (fun f j a b c => ⟨kf f _ (by omega), rfl⟩) (fun j x h => mm j x (by omega)) (nn 3 (by omega))
  · exact CA_wA v5 hf
  · exact LL_cg v6 rfl (fun _ _ => rfl) (nn 33 (by omega)) (fun k _ _ => mm 34 _ (by omega)) m13 (nn 3 (by omega))
  · exact CB_cg v7 rfl (fun _ _ => rfl) (fun _ _ => Nat.le_refl _) (Nat.le_refl _) (fun f b a hb => ⟨kf f _ (by omega), rfl⟩) (fun _ _ => ⟨rfl, id⟩) (fun t b ht hb => ⟨rfl, fun _ => rfl⟩) (fun f j a b c => ⟨kf f _ (by omega), rfl⟩) (fun j x h => mm j x (by omega)) m13 (nn 3 (by omega)) (nn 44 (by omega))
  · exact CW_cg v8 rfl (fun _ _ => rfl) (fun _ _ => Nat.le_refl _) (fun f w a b hw => ⟨kf f _ (by omega), rfl⟩) (fun _ _ => rfl) (fun j x h => mm j x (by omega)) m13 (nn 3 (by omega)) (nn 61 (by omega))
theorem CV_wW (V : am_CV q s) {f0 j0 i0 : Nat} {v : Int} (hf : fWi f0 = some j0) (hv : ∀ lo hi, rRg j0 = some (lo, hi) → lo ≤ v ∧ v ≤ hi) : am_CV (uFI q f0 (7, i0) v) (wA s j0 i0 v) := by
  obtain ⟨v1, v2, v3, v4, v5, v6, v7, v8, v9, B⟩ := V
  have hr := fWi_r2 f0 j0 hf
  have mm : ∀ j x, j ≠ j0 → rA (wA s j0 i0 v) j x = rA s j x := fun j x h => if_neg (fun z => h z.1)
  have nn : ∀ j, 0 ≤ j → rI (wA s j0 i0 v) j = rI s j := fun j h => rfl
  have kf : ∀ f r, f ≠ f0 → qFI (uFI q f0 (7, i0) v) f r = qFI q f r := fun f r h => uf_ne h
  have m13 : ∀ j x, (10 ≤ j ∧ j ≤ 13) → rA (wA s j0 i0 v) j x = rA s j x := fun j x h => mm j x (by omega)
  refine ⟨v1, ⟨fun x a b => (rfl).trans ((v2.1 x a b).trans (mm 1 _ (by omega)).symm), fun x a b => (rfl).trans ((v2.2.1 x a b).trans (mm 2 _ (by omega)).symm), fun x a b => (rfl).trans ((v2.2.2.1 x a b).trans (mm 69 _ (by omega)).symm), fun x a b => (rfl).trans ((v2.2.2.2.1 x a b).trans (mm 70 _ (by omega)).symm), (kf 813 _ (by omega)).trans (v2.2.2.2.2.1.trans (nn 0 (by omega)).symm), (kf 814 _ (by omega)).trans (v2.2.2.2.2.2.trans (nn 68 (by omega)).symm)⟩, ?_, ?_, ?_, ?_, ?_, ?_, v9, in_S_A B hv (fun h => by rw [fWi_g f0 j0 hf] at h; cases h)⟩
  · exact CF_cg v3 rfl (fun _ _ => rfl) (fun f i a b => kf f _ (by omega)) (fun _ _ _ _ => rfl) (fun _ => ⟨rfl, rfl⟩) (fun _ _ => rfl) (fun j x h => mm j x (by omega)) (nn 3 (by omega))
  · exact CL_cg v4 (fun _ _ => rfl) (Nat.le_refl _) (fun f j a b c => ⟨kf f _ (by omega), rfl⟩) (fun j x h => mm j x (by omega)) (nn 3 (by omega))
  · exact CA_cg v5 rfl rfl (fun f i a b => kf f _ (by omega)) (fun j x h => mm j x (by omega)) (nn 20 (by omega))
  · exact LL_cg v6 rfl (fun _ _ => rfl) (nn 33 (by omega)) (fun k _ _ => mm 34 _ (by omega)) m13 (nn 3 (by omega))
  · exact CB_cg v7 rfl (fun _ _ => rfl) (fun _ _ => Nat.le_refl _) (Nat.le_refl _) (fun f b a hb => ⟨kf f _ (by omega), rfl⟩) (fun _ _ => ⟨rfl, id⟩) (fun t b ht hb => ⟨rfl, fun _ => rfl⟩) (fun f j a b c => ⟨kf f _ (by omega), rfl⟩) (fun j x h => mm j x (by omega)) m13 (nn 3 (by omega)) (nn 44 (by omega))
  · exact CW_wW v8 hf
theorem CV_tax (V : am_CV q s) {i v : Int} (hi : 0 ≤ i ∧ i < 6) (hv : 0 ≤ v ∧ v ≤ 500) : am_CV (uAI q (1801, 0) i.toNat v) (wA s 2 i v) := by
  obtain ⟨v1, v2, v3, v4, v5, v6, v7, v8, v9, B⟩ := V
  have mm : ∀ j x, j ≠ 2 → rA (wA s 2 i v) j x = rA s j x := fun j x h => if_neg (fun z => h z.1)
  have nn : ∀ j, 0 ≤ j → rI (wA s 2 i v) j = rI s j := fun j h => rfl
  have ka : ∀ (r : am_R) k, r.1 ≠ 1801 → qAI (uAI q (1801, 0) i.toNat v) r k = qAI q r k := fun r k h => u2_ne h
  have m13 : ∀ j x, (10 ≤ j ∧ j ≤ 13) → rA (wA s 2 i v) j x = rA s j x := fun j x h => mm j x (by omega)
  refine ⟨v1, ⟨fun x a b => (ka _ _ (by simp)).trans ((v2.1 x a b).trans (mm 1 _ (by omega)).symm), fun x a b => by { show (if ((1801, 0) : am_R) = (1801, 0) ∧ x.toNat = i.toNat then v else qAI q (1801, 0) x.toNat) = if 2 = 2 ∧ x = i then v else rA s 2 x; by_cases h : x = i; exact (if_pos ⟨rfl, by rw [h]⟩).trans (if_pos ⟨rfl, h⟩).symm; exact (if_neg (fun z => h (by have := z.2; omega))).trans ((v2.2.1 x a b).trans (if_neg (fun z => h z.2)).symm) }, fun x a b => (ka _ _ (by simp)).trans ((v2.2.2.1 x a b).trans (mm 69 _ (by omega)).symm), fun x a b => (ka _ _ (by simp)).trans ((v2.2.2.2.1 x a b).trans (mm 70 _ (by omega)).symm), (rfl).trans (v2.2.2.2.2.1.trans (nn 0 (by omega)).symm), (rfl).trans (v2.2.2.2.2.2.trans (nn 68 (by omega)).symm)⟩, ?_, ?_, ?_, ?_, ?_, ?_, v9, in_S_A B (fun lo hi h => by cases h; omega) (fun h => by cases h)⟩
  · exact CF_cg v3 rfl (fun _ _ => rfl) (fun f i a b => rfl) (fun _ _ _ _ => rfl) (fun _ => ⟨rfl, rfl⟩) (fun _ _ => ka _ _ (by simp)) (fun j x h => mm j x (by omega)) (nn 3 (by omega))
  · exact CL_cg v4 (fun _ _ => rfl) (Nat.le_refl _) (fun f j a b c => ⟨rfl, rfl⟩) (fun j x h => mm j x (by omega)) (nn 3 (by omega))
  · exact CA_cg v5 rfl rfl (fun f i a b => rfl) (fun j x h => mm j x (by omega)) (nn 20 (by omega))
  · exact LL_cg v6 rfl (fun _ _ => rfl) (nn 33 (by omega)) (fun k _ _ => mm 34 _ (by omega)) m13 (nn 3 (by omega))
  · exact CB_cg v7 rfl (fun _ _ => rfl) (fun _ _ => Nat.le_refl _) (Nat.le_refl _) (fun f b a hb => ⟨rfl, rfl⟩) (fun _ _ => ⟨rfl, id⟩) (fun t b ht hb => ⟨rfl, fun _ => ka _ _ (by show _ ≠ _; omega)⟩) (fun f j a b c => ⟨rfl, rfl⟩) (fun j x h => mm j x (by omega)) m13 (nn 3 (by omega)) (nn 44 (by omega))
  · exact CW_cg v8 rfl (fun _ _ => rfl) (fun _ _ => Nat.le_refl _) (fun f w a b hw => ⟨rfl, rfl⟩) (fun _ _ => rfl) (fun j x h => mm j x (by omega)) m13 (nn 3 (by omega)) (nn 61 (by omega))
theorem CV_points (V : am_CV q s) {i v : Int} (hi : 0 ≤ i ∧ i < 5) : am_CV (uAI q (1811, 0) i.toNat v) (wA s 69 i v) := by
  obtain ⟨v1, v2, v3, v4, v5, v6, v7, v8, v9, B⟩ := V
  have mm : ∀ j x, j ≠ 69 → rA (wA s 69 i v) j x = rA s j x := fun j x h => if_neg (fun z => h z.1)
  have nn : ∀ j, 0 ≤ j → rI (wA s 69 i v) j = rI s j := fun j h => rfl
  have ka : ∀ (r : am_R) k, r.1 ≠ 1811 → qAI (uAI q (1811, 0) i.toNat v) r k = qAI q r k := fun r k h => u2_ne h
  have m13 : ∀ j x, (10 ≤ j ∧ j ≤ 13) → rA (wA s 69 i v) j x = rA s j x := fun j x h => mm j x (by omega)
  refine ⟨v1, ⟨fun x a b => (ka _ _ (by simp)).trans ((v2.1 x a b).trans (mm 1 _ (by omega)).symm), fun x a b => (ka _ _ (by simp)).trans ((v2.2.1 x a b).trans (mm 2 _ (by omega)).symm), fun x a b => by { show (if ((1811, 0) : am_R) = (1811, 0) ∧ x.toNat = i.toNat then v else qAI q (1811, 0) x.toNat) = if 69 = 69 ∧ x = i then v else rA s 69 x; by_cases h : x = i; exact (if_pos ⟨rfl, by rw [h]⟩).trans (if_pos ⟨rfl, h⟩).symm; exact (if_neg (fun z => h (by have := z.2; omega))).trans ((v2.2.2.1 x a b).trans (if_neg (fun z => h z.2)).symm) }, fun x a b => (ka _ _ (by simp)).trans ((v2.2.2.2.1 x a b).trans (mm 70 _ (by omega)).symm), (rfl).trans (v2.2.2.2.2.1.trans (nn 0 (by omega)).symm), (rfl).trans (v2.2.2.2.2.2.trans (nn 68 (by omega)).symm)⟩, ?_, ?_, ?_, ?_, ?_, ?_, v9, in_S_A B (fun lo hi h => by cases h) (fun h => by cases h)⟩
  · exact CF_cg v3 rfl (fun _ _ => rfl) (fun f i a b => rfl) (fun _ _ _ _ => rfl) (fun _ => ⟨rfl, rfl⟩) (fun _ _ => ka _ _ (by simp)) (fun j x h => mm j x (by omega)) (nn 3 (by omega))
  · exact CL_cg v4 (fun _ _ => rfl) (Nat.le_refl _) (fun f j a b c => ⟨rfl, rfl⟩) (fun j x h => mm j x (by omega)) (nn 3 (by omega))
  · exact CA_cg v5 rfl rfl (fun f i a b => rfl) (fun j x h => mm j x (by omega)) (nn 20 (by omega))
  · exact LL_cg v6 rfl (fun _ _ => rfl) (nn 33 (by omega)) (fun k _ _ => mm 34 _ (by omega)) m13 (nn 3 (by omega))
  · exact CB_cg v7 rfl (fun _ _ => rfl) (fun _ _ => Nat.le_refl _) (Nat.le_refl _) (fun f b a hb => ⟨rfl, rfl⟩) (fun _ _ => ⟨rfl, id⟩) (fun t b ht hb => ⟨rfl, fun _ => ka _ _ (by show _ ≠ _; omega)⟩) (fun f j a b c => ⟨rfl, rfl⟩) (fun j x h => mm j x (by omega)) m13 (nn 3 (by omega)) (nn 44 (by omega))
  · exact CW_cg v8 rfl (fun _ _ => rfl) (fun _ _ => Nat.le_refl _) (fun f w a b hw => ⟨rfl, rfl⟩) (fun _ _ => rfl) (fun j x h => mm j x (by omega)) m13 (nn 3 (by omega)) (nn 61 (by omega))
theorem CV_owed (V : am_CV q s) {i v : Int} (hi : 0 ≤ i ∧ i < 9) : am_CV (uAI q (1812, 0) i.toNat v) (wA s 70 i v) := by
  obtain ⟨v1, v2, v3, v4, v5, v6, v7, v8, v9, B⟩ := V
  have mm : ∀ j x, j ≠ 70 → rA (wA s 70 i v) j x = rA s j x := fun j x h => if_neg (fun z => h z.1)
  have nn : ∀ j, 0 ≤ j → rI (wA s 70 i v) j = rI s j := fun j h => rfl
  have ka : ∀ (r : am_R) k, r.1 ≠ 1812 → qAI (uAI q (1812, 0) i.toNat v) r k = qAI q r k := fun r k h => u2_ne h
  have m13 : ∀ j x, (10 ≤ j ∧ j ≤ 13) → rA (wA s 70 i v) j x = rA s j x := fun j x h => mm j x (by omega)
  refine ⟨v1, ⟨fun x a b => (ka _ _ (by simp)).trans ((v2.1 x a b).trans (mm 1 _ (by omega)).symm), fun x a b => (ka _ _ (by simp)).trans ((v2.2.1 x a b).trans (mm 2 _ (by omega)).symm), fun x a b => (ka _ _ (by simp)).trans ((v2.2.2.1 x a b).trans (mm 69 _ (by omega)).symm), fun x a b => by { show (if ((1812, 0) : am_R) = (1812, 0) ∧ x.toNat = i.toNat then v else qAI q (1812, 0) x.toNat) = if 70 = 70 ∧ x = i then v else rA s 70 x; by_cases h : x = i; exact (if_pos ⟨rfl, by rw [h]⟩).trans (if_pos ⟨rfl, h⟩).symm; exact (if_neg (fun z => h (by have := z.2; omega))).trans ((v2.2.2.2.1 x a b).trans (if_neg (fun z => h z.2)).symm) }, (rfl).trans (v2.2.2.2.2.1.trans (nn 0 (by omega)).symm), (rfl).trans (v2.2.2.2.2.2.trans (nn 68 (by omega)).symm)⟩, ?_, ?_, ?_, ?_, ?_, ?_, v9, in_S_A B (fun lo hi h => by cases h) (fun h => by cases h)⟩
  · exact CF_cg v3 rfl (fun _ _ => rfl) (fun f i a b => rfl) (fun _ _ _ _ => rfl) (fun _ => ⟨rfl, rfl⟩) (fun _ _ => ka _ _ (by simp)) (fun j x h => mm j x (by omega)) (nn 3 (by omega))
  · exact CL_cg v4 (fun _ _ => rfl) (Nat.le_refl _) (fun f j a b c => ⟨rfl, rfl⟩) (fun j x h => mm j x (by omega)) (nn 3 (by omega))
  · exact CA_cg v5 rfl rfl (fun f i a b => rfl) (fun j x h => mm j x (by omega)) (nn 20 (by omega))
  · exact LL_cg v6 rfl (fun _ _ => rfl) (nn 33 (by omega)) (fun k _ _ => mm 34 _ (by omega)) m13 (nn 3 (by omega))
  · exact CB_cg v7 rfl (fun _ _ => rfl) (fun _ _ => Nat.le_refl _) (Nat.le_refl _) (fun f b a hb => ⟨rfl, rfl⟩) (fun _ _ => ⟨rfl, id⟩) (fun t b ht hb => ⟨rfl, fun _ => ka _ _ (by show _ ≠ _; omega)⟩) (fun f j a b c => ⟨rfl, rfl⟩) (fun j x h => mm j x (by omega)) m13 (nn 3 (by omega)) (nn 44 (by omega))
  · exact CW_cg v8 rfl (fun _ _ => rfl) (fun _ _ => Nat.le_refl _) (fun f w a b hw => ⟨rfl, rfl⟩) (fun _ _ => rfl) (fun j x h => mm j x (by omega)) m13 (nn 3 (by omega)) (nn 61 (by omega))
theorem CV_now (V : am_CV q s) {v : Int} (hv : 0 ≤ v ∧ v ≤ 60000) : am_CV (uFI q 813 (8, 0) v) (wI s 0 v) := by
  obtain ⟨v1, v2, v3, v4, v5, v6, v7, v8, v9, B⟩ := V
  have mm : ∀ j x, 0 ≤ j → rA (wI s 0 v) j x = rA s j x := fun j x h => rfl
  have nn : ∀ j, j ≠ 0 → rI (wI s 0 v) j = rI s j := fun j h => if_neg h
  have kf : ∀ f r, f ≠ 813 → qFI (uFI q 813 (8, 0) v) f r = qFI q f r := fun f r h => uf_ne h
  have m13 : ∀ j x, (10 ≤ j ∧ j ≤ 13) → rA (wI s 0 v) j x = rA s j x := fun j x h => mm j x (by omega)
  refine ⟨v1, ⟨fun x a b => (rfl).trans ((v2.1 x a b).trans (mm 1 _ (by omega)).symm), fun x a b => (rfl).trans ((v2.2.1 x a b).trans (mm 2 _ (by omega)).symm), fun x a b => (rfl).trans ((v2.2.2.1 x a b).trans (mm 69 _ (by omega)).symm), fun x a b => (rfl).trans ((v2.2.2.2.1 x a b).trans (mm 70 _ (by omega)).symm), rfl, (kf 814 _ (by omega)).trans (v2.2.2.2.2.2.trans (nn 68 (by omega)).symm)⟩, ?_, ?_, ?_, ?_, ?_, ?_, v9, in_S_I B (fun lo hi h => by cases h; omega)⟩
  · exact CF_cg v3 rfl (fun _ _ => rfl) (fun f i a b => kf f _ (by omega)) (fun _ _ _ _ => rfl) (fun _ => ⟨rfl, rfl⟩) (fun _ _ => rfl) (fun j x h => mm j x (by omega)) (nn 3 (by omega))
  · exact CL_cg v4 (fun _ _ => rfl) (Nat.le_refl _) (fun f j a b c => ⟨kf f _ (by omega), rfl⟩) (fun j x h => mm j x (by omega)) (nn 3 (by omega))
  · exact CA_cg v5 rfl rfl (fun f i a b => kf f _ (by omega)) (fun j x h => mm j x (by omega)) (nn 20 (by omega))
  · exact LL_cg v6 rfl (fun _ _ => rfl) (nn 33 (by omega)) (fun k _ _ => mm 34 _ (by omega)) m13 (nn 3 (by omega))
  · exact CB_cg v7 rfl (fun _ _ => rfl) (fun _ _ => Nat.le_refl _) (Nat.le_refl _) (fun f b a hb => ⟨kf f _ (by omega), rfl⟩) (fun _ _ => ⟨rfl, id⟩) (fun t b ht hb => ⟨rfl, fun _ => rfl⟩) (fun f j a b c => ⟨kf f _ (by omega), rfl⟩) (fun j x h => mm j x (by omega)) m13 (nn 3 (by omega)) (nn 44 (by omega))
  · exact CW_cg v8 rfl (fun _ _ => rfl) (fun _ _ => Nat.le_refl _) (fun f w a b hw => ⟨kf f _ (by omega), rfl⟩) (fun _ _ => rfl) (fun j x h => mm j x (by omega)) m13 (nn 3 (by omega)) (nn 61 (by omega))
theorem CV_denied (V : am_CV q s) {v : Int} : am_CV (uFI q 814 (8, 0) v) (wI s 68 v) := by
  obtain ⟨v1, v2, v3, v4, v5, v6, v7, v8, v9, B⟩ := V
  have mm : ∀ j x, 0 ≤ j → rA (wI s 68 v) j x = rA s j x := fun j x h => rfl
  have nn : ∀ j, j ≠ 68 → rI (wI s 68 v) j = rI s j := fun j h => if_neg h
  have kf : ∀ f r, f ≠ 814 → qFI (uFI q 814 (8, 0) v) f r = qFI q f r := fun f r h => uf_ne h
  have m13 : ∀ j x, (10 ≤ j ∧ j ≤ 13) → rA (wI s 68 v) j x = rA s j x := fun j x h => mm j x (by omega)
  refine ⟨v1, ⟨fun x a b => (rfl).trans ((v2.1 x a b).trans (mm 1 _ (by omega)).symm), fun x a b => (rfl).trans ((v2.2.1 x a b).trans (mm 2 _ (by omega)).symm), fun x a b => (rfl).trans ((v2.2.2.1 x a b).trans (mm 69 _ (by omega)).symm), fun x a b => (rfl).trans ((v2.2.2.2.1 x a b).trans (mm 70 _ (by omega)).symm), (kf 813 _ (by omega)).trans (v2.2.2.2.2.1.trans (nn 0 (by omega)).symm), rfl⟩, ?_, ?_, ?_, ?_, ?_, ?_, v9, in_S_I B (fun lo hi h => by cases h)⟩
  · exact CF_cg v3 rfl (fun _ _ => rfl) (fun f i a b => kf f _ (by omega)) (fun _ _ _ _ => rfl) (fun _ => ⟨rfl, rfl⟩) (fun _ _ => rfl) (fun j x h => mm j x (by omega)) (nn 3 (by omega))
  · exact CL_cg v4 (fun _ _ => rfl) (Nat.le_refl _) (fun f j a b c => ⟨kf f _ (by omega), rfl⟩) (fun j x h => mm j x (by omega)) (nn 3 (by omega))
  · exact CA_cg v5 rfl rfl (fun f i a b => kf f _ (by omega)) (fun j x h => mm j x (by omega)) (nn 20 (by omega))
  · exact LL_cg v6 rfl (fun _ _ => rfl) (nn 33 (by omega)) (fun k _ _ => mm 34 _ (by omega)) m13 (nn 3 (by omega))
  · exact CB_cg v7 rfl (fun _ _ => rfl) (fun _ _ => Nat.le_refl _) (Nat.le_refl _) (fun f b a hb => ⟨kf f _ (by omega), rfl⟩) (fun _ _ => ⟨rfl, id⟩) (fun t b ht hb => ⟨rfl, fun _ => rfl⟩) (fun f j a b c => ⟨kf f _ (by omega), rfl⟩) (fun j x h => mm j x (by omega)) m13 (nn 3 (by omega)) (nn 44 (by omega))
  · exact CW_cg v8 rfl (fun _ _ => rfl) (fun _ _ => Nat.le_refl _) (fun f w a b hw => ⟨kf f _ (by omega), rfl⟩) (fun _ _ => rfl) (fun j x h => mm j x (by omega)) m13 (nn 3 (by omega)) (nn 61 (by omega))
theorem CF_0 (h : am_CF q s) {i v : Int} (h0 : rI s 3 = 0) : am_CF (uAI q (1800, 0) i.toNat v) (wA s 1 i v) := ⟨h.1, h.2.1, fun i hi => absurd hi (by show ¬ (i : Int) < rI s 3; omega), fun i h1 h2 => absurd h2 (by show ¬ i < rI s 3; omega)⟩
theorem CL_0 {q' : am_A} (h0 : rI s 3 = 0) : am_CL q' s := ⟨fun l hl => absurd hl (by unfold legP; omega), fun l h1 h2 => by omega⟩
theorem CV_zone (V : am_CV q s) {i v : Int} (hi : 0 ≤ i ∧ i < 6) (hv : -12 ≤ v ∧ v ≤ 14) (h0 : rI s 3 = 0) : am_CV (uAI q (1800, 0) i.toNat v) (wA s 1 i v) := by
  obtain ⟨v1, v2, v3, v4, v5, v6, v7, v8, v9, B⟩ := V
  have mm : ∀ j x, j ≠ 1 → rA (wA s 1 i v) j x = rA s j x := fun j x h => if_neg (fun z => h z.1)
  have nn : ∀ j, 0 ≤ j → rI (wA s 1 i v) j = rI s j := fun j h => rfl
  have ka : ∀ (r : am_R) k, r.1 ≠ 1800 → qAI (uAI q (1800, 0) i.toNat v) r k = qAI q r k := fun r k h => u2_ne h
  have m13 : ∀ j x, (10 ≤ j ∧ j ≤ 13) → rA (wA s 1 i v) j x = rA s j x := fun j x h => mm j x (by omega)
  refine ⟨v1, ⟨fun x a b => by { show (if ((1800, 0) : am_R) = (1800, 0) ∧ x.toNat = i.toNat then v else qAI q (1800, 0) x.toNat) = if 1 = 1 ∧ x = i then v else rA s 1 x; by_cases h : x = i; exact (if_pos ⟨rfl, by rw [h]⟩).trans (if_pos ⟨rfl, h⟩).symm; exact (if_neg (fun z => h (by have := z.2; omega))).trans ((v2.1 x a b).trans (if_neg (fun z => h z.2)).symm) }, fun x a b => (ka _ _ (by simp)).trans ((v2.2.1 x a b).trans (mm 2 _ (by omega)).symm), fun x a b => (ka _ _ (by simp)).trans ((v2.2.2.1 x a b).trans (mm 69 _ (by omega)).symm), fun x a b => (ka _ _ (by simp)).trans ((v2.2.2.2.1 x a b).trans (mm 70 _ (by omega)).symm), (rfl).trans (v2.2.2.2.2.1.trans (nn 0 (by omega)).symm), (rfl).trans (v2.2.2.2.2.2.trans (nn 68 (by omega)).symm)⟩, ?_, ?_, ?_, ?_, ?_, ?_, v9, in_S_A B (fun lo hi h => by cases h; omega) (fun h => by cases h)⟩
  · exact CF_0 v3 h0
  · exact CL_0 h0
  · exact CA_cg v5 rfl rfl (fun f i a b => rfl) (fun j x h => mm j x (by omega)) (nn 20 (by omega))
  · exact LL_cg v6 rfl (fun _ _ => rfl) (nn 33 (by omega)) (fun k _ _ => mm 34 _ (by omega)) m13 (nn 3 (by omega))
  · exact CB_cg v7 rfl (fun _ _ => rfl) (fun _ _ => Nat.le_refl _) (Nat.le_refl _) (fun f b a hb => ⟨rfl, rfl⟩) (fun _ _ => ⟨rfl, id⟩) (fun t b ht hb => ⟨rfl, fun _ => ka _ _ (by show _ ≠ _; omega)⟩) (fun f j a b c => ⟨rfl, rfl⟩) (fun j x h => mm j x (by omega)) m13 (nn 3 (by omega)) (nn 44 (by omega))
  · exact CW_cg v8 rfl (fun _ _ => rfl) (fun _ _ => Nat.le_refl _) (fun f w a b hw => ⟨rfl, rfl⟩) (fun _ _ => rfl) (fun j x h => mm j x (by omega)) m13 (nn 3 (by omega)) (nn 61 (by omega))
theorem fFl_14 : am_all fFl (fun _ j => j ≠ 14) := (am_nd_ok (am_nd_ok (am_nd_ok (am_lf_ok (by decide)) (am_lf_ok (by decide))) (am_nd_ok (am_lf_ok (by decide)) (am_lf_ok (by decide)))) (am_nd_ok (am_nd_ok (am_lf_ok (by decide)) (am_lf_ok (by decide))) (am_nd_ok (am_lf_ok (by decide)) (am_lf_ok (by decide)))))
theorem fFl_15 : am_all fFl (fun f j => j ≠ 15 ∧ (f ≠ 412 → j ≠ 16)) := (am_nd_ok (am_nd_ok (am_nd_ok (am_lf_ok (by decide)) (am_lf_ok (by decide))) (am_nd_ok (am_lf_ok (by decide)) (am_lf_ok (by decide)))) (am_nd_ok (am_nd_ok (am_lf_ok (by decide)) (am_lf_ok (by decide))) (am_nd_ok (am_lf_ok (by decide)) (am_lf_ok (by decide)))))
theorem CF_14 (h : am_CF q s) {f0 : Nat} {b0 v : Int} (hb : 0 ≤ b0 ∧ b0 < 4) : am_CF (uAI q (1407, f0) b0.toNat v) (wA s 14 (4 * f0 + b0) v) := by
  have mm : ∀ j x, j ≠ 14 → rA (wA s 14 (4 * f0 + b0) v) j x = rA s j x := fun j x h => if_neg (fun z => h z.1)
  refine ⟨h.1, h.2.1, fun i hi => ?_, fun i h1 h2 => by rw [mm 15 _ (by omega)]; exact h.2.2.2 i h1 h2⟩
  obtain ⟨a1, a2, a3, a4, a5, a6, a7, a8, a9⟩ := h.2.2.1 i hi
  refine ⟨fun f j hf => ?_, a2, by rw [mm 7 _ (by omega), mm 1 _ (by omega), mm 5 _ (by omega)]; exact a3, a4, a5, by rw [mm 15 _ (by omega)]; exact a6, a7, a8, fun b h1 h2 => ?_⟩
  · have := fFl_14 f j hf
    rw [mm j _ this]; exact a1 f j hf
  · show (if ((1407, i) : am_R) = (1407, f0) ∧ b.toNat = b0.toNat then v else qAI q (1407, i) b.toNat) = if 14 = 14 ∧ 4 * (i : Int) + b = 4 * (f0 : Int) + b0 then v else rA s 14 (4 * i + b)
    by_cases e : i = f0 ∧ b = b0
    · obtain ⟨rfl, rfl⟩ := e
      exact (if_pos ⟨rfl, rfl⟩).trans (if_pos ⟨rfl, rfl⟩).symm
    · exact (if_neg (fun z => e ⟨congrArg Prod.snd z.1, by have := z.2; omega⟩)).trans ((a9 b h1 h2).trans (if_neg (fun z => e ⟨by have := z.2; omega, by have := z.2; omega⟩)).symm)
theorem CV_limit (V : am_CV q s) {f0 : Nat} {b0 v : Int} (hb : 0 ≤ b0 ∧ b0 < 4) (hv : 0 ≤ v ∧ v ≤ 70) : am_CV (uAI q (1407, f0) b0.toNat v) (wA s 14 (4 * f0 + b0) v) := by
  obtain ⟨v1, v2, v3, v4, v5, v6, v7, v8, v9, B⟩ := V
  have mm : ∀ j x, j ≠ 14 → rA (wA s 14 (4 * f0 + b0) v) j x = rA s j x := fun j x h => if_neg (fun z => h z.1)
  have nn : ∀ j, 0 ≤ j → rI (wA s 14 (4 * f0 + b0) v) j = rI s j := fun j h => rfl
  have ka : ∀ (r : am_R) k, r.1 ≠ 1407 → qAI (uAI q (1407, f0) b0.toNat v) r k = qAI q r k := fun r k h => u2_ne h
  have m13 : ∀ j x, (10 ≤ j ∧ j ≤ 13) → rA (wA s 14 (4 * f0 + b0) v) j x = rA s j x := fun j x h => mm j x (by omega)
  refine ⟨v1, ⟨fun x a b => (ka _ _ (by simp)).trans ((v2.1 x a b).trans (mm 1 _ (by omega)).symm), fun x a b => (ka _ _ (by simp)).trans ((v2.2.1 x a b).trans (mm 2 _ (by omega)).symm), fun x a b => (ka _ _ (by simp)).trans ((v2.2.2.1 x a b).trans (mm 69 _ (by omega)).symm), fun x a b => (ka _ _ (by simp)).trans ((v2.2.2.2.1 x a b).trans (mm 70 _ (by omega)).symm), (rfl).trans (v2.2.2.2.2.1.trans (nn 0 (by omega)).symm), (rfl).trans (v2.2.2.2.2.2.trans (nn 68 (by omega)).symm)⟩, ?_, ?_, ?_, ?_, ?_, ?_, v9, in_S_A B (fun lo hi h => by cases h; omega) (fun h => by cases h)⟩
  · exact CF_14 v3 hb
  · exact CL_cg v4 (fun _ _ => rfl) (Nat.le_refl _) (fun f j a b c => ⟨rfl, rfl⟩) (fun j x h => mm j x (by omega)) (nn 3 (by omega))
  · exact CA_cg v5 rfl rfl (fun f i a b => rfl) (fun j x h => mm j x (by omega)) (nn 20 (by omega))
  · exact LL_cg v6 rfl (fun _ _ => rfl) (nn 33 (by omega)) (fun k _ _ => mm 34 _ (by omega)) m13 (nn 3 (by omega))
  · exact CB_cg v7 rfl (fun _ _ => rfl) (fun _ _ => Nat.le_refl _) (Nat.le_refl _) (fun f b a hb => ⟨rfl, rfl⟩) (fun _ _ => ⟨rfl, id⟩) (fun t b ht hb => ⟨rfl, fun _ => ka _ _ (by show _ ≠ _; omega)⟩) (fun f j a b c => ⟨rfl, rfl⟩) (fun j x h => mm j x (by omega)) m13 (nn 3 (by omega)) (nn 44 (by omega))
  · exact CW_cg v8 rfl (fun _ _ => rfl) (fun _ _ => Nat.le_refl _) (fun f w a b hw => ⟨rfl, rfl⟩) (fun _ _ => rfl) (fun j x h => mm j x (by omega)) m13 (nn 3 (by omega)) (nn 61 (by omega))
theorem CF_link (h : am_CF q s) {f0 : Nat} {g n : Int} (hg : -1 ≤ g ∧ g < rI s 3) : am_CF (uFI (uFR q 411 (4, f0) (if g = -1 then none else some (4, g.toNat))) 412 (4, f0) n) (wA (wA s 15 f0 g) 16 f0 n) := by
  have mm : ∀ j x, (j ≠ 15 ∧ j ≠ 16) → rA (wA (wA s 15 f0 g) 16 f0 n) j x = rA s j x := fun j x h => by { simp only [wA_A]; rw [if_neg (fun z => absurd z.1 (by omega)), if_neg (fun z => absurd z.1 (by omega))] }
  have e15 : ∀ i : Int, rA (wA (wA s 15 f0 g) 16 f0 n) 15 i = if i = f0 then g else rA s 15 i := fun i => by { rw [wA_A, if_neg (fun z => absurd z.1 (by omega)), wA_A]; by_cases e : i = f0; exact (if_pos ⟨rfl, e⟩).trans (if_pos e).symm; exact (if_neg (fun z => e z.2)).trans (if_neg e).symm }
  have kf : ∀ f r, f ≠ 412 → qFI (uFI (uFR q 411 (4, f0) (if g = -1 then none else some (4, g.toNat))) 412 (4, f0) n) f r = qFI q f r := fun f r h => uf_ne h
  have kr : ∀ (f : Nat) (r : am_R), f ≠ 411 → qFR (uFI (uFR q 411 (4, f0) (if g = -1 then none else some (4, g.toNat))) 412 (4, f0) n) f r = qFR q f r := fun f r h => if_neg (fun z => h z.1)
  refine ⟨h.1, h.2.1, fun i hi => ?_, fun i h1 h2 => ?_⟩
  · obtain ⟨a1, a2, a3, a4, a5, a6, a7, a8, a9⟩ := h.2.2.1 i hi
    refine ⟨fun f j hf => ?_, (kf 400 _ (by omega)).trans a2, (kf 409 _ (by omega)).trans (by rw [mm 7 _ (by omega), mm 1 _ (by omega), mm 5 _ (by omega)]; exact a3), (kr 407 _ (by omega)).trans a4, (kr 408 _ (by omega)).trans a5, ?_, a7, a8, fun b h1 h2 => by rw [mm 14 _ (by omega)]; exact a9 b h1 h2⟩
    · by_cases e : f = 412
      · subst e
        cases hf
        show (if 412 = 412 ∧ ((4, i) : am_R) = (4, f0) then n else qFI q 412 (4, i)) = if 16 = 16 ∧ (i : Int) = f0 then n else rA (wA s 15 f0 g) 16 i
        by_cases e2 : i = f0
        · exact (if_pos ⟨rfl, by rw [e2]⟩).trans (if_pos ⟨rfl, by rw [e2]⟩).symm
        · refine (if_neg (fun z => e2 (congrArg Prod.snd z.2))).trans (Eq.trans ?_ (if_neg (fun z => e2 (by have := z.2; omega))).symm)
          exact a1 412 16 rfl
      · have := fFl_15 f j hf
        rw [mm j _ ⟨this.1, this.2 e⟩]
        exact (kf f _ e).trans (a1 f j hf)
    · rw [e15]
      show (if 411 = 411 ∧ ((4, i) : am_R) = (4, f0) then (if g = -1 then none else some (4, g.toNat)) else qFR q 411 (4, i)) = _
      by_cases e2 : i = f0
      · rw [if_pos (show (411 = 411 ∧ ((4, i) : am_R) = (4, f0)) from ⟨rfl, by rw [e2]⟩), if_pos (show (i : Int) = f0 by omega)]
      · rw [if_neg (show ¬ (411 = 411 ∧ ((4, i) : am_R) = (4, f0)) from fun z => e2 (congrArg Prod.snd z.2)), if_neg (show ¬ (i : Int) = f0 by omega)]
        exact a6
  · rw [e15]
    split
    · exact hg
    · exact h.2.2.2 i h1 h2
theorem CV_link (V : am_CV q s) {f0 : Nat} {g n : Int} (hg : -1 ≤ g ∧ g < rI s 3) (hn : n = 0 ∨ n = 1) : am_CV (uFI (uFR q 411 (4, f0) (if g = -1 then none else some (4, g.toNat))) 412 (4, f0) n) (wA (wA s 15 f0 g) 16 f0 n) := by
  obtain ⟨v1, v2, v3, v4, v5, v6, v7, v8, v9, B⟩ := V
  have b3 := B.2.1 3 0 12 rfl
  have e2 : ∀ (f : Nat) (r : am_R), f ≠ 411 → qFR (uFI (uFR q 411 (4, f0) (if g = -1 then none else some (4, g.toNat))) 412 (4, f0) n) f r = qFR q f r := fun f r h => if_neg (fun z => h z.1)
  have c8 : am_all cRef (fun f _ => f ≠ 411) := (am_nd_ok (am_nd_ok (am_nd_ok (am_lf_ok (by decide)) (am_nd_ok (am_lf_ok (by decide)) (am_lf_ok (by decide)))) (am_nd_ok (am_lf_ok (by decide)) (am_nd_ok (am_lf_ok (by decide)) (am_lf_ok (by decide))))) (am_nd_ok (am_nd_ok (am_lf_ok (by decide)) (am_nd_ok (am_lf_ok (by decide)) (am_lf_ok (by decide)))) (am_nd_ok (am_nd_ok (am_lf_ok (by decide)) (am_lf_ok (by decide))) (am_nd_ok (am_lf_ok (by decide)) (am_lf_ok (by decide))))))
  have mm : ∀ j x, (j ≠ 15 ∧ j ≠ 16) → rA (wA (wA s 15 f0 g) 16 f0 n) j x = rA s j x := fun j x h => by { simp only [wA_A]; rw [if_neg (fun z => absurd z.1 (by omega)), if_neg (fun z => absurd z.1 (by omega))] }
  have nn : ∀ j, 0 ≤ j → rI (wA (wA s 15 f0 g) 16 f0 n) j = rI s j := fun j h => rfl
  have kf : ∀ f r, f ≠ 412 → qFI (uFI (uFR q 411 (4, f0) (if g = -1 then none else some (4, g.toNat))) 412 (4, f0) n) f r = qFI q f r := fun f r h => uf_ne h
  have m13 : ∀ j x, (10 ≤ j ∧ j ≤ 13) → rA (wA (wA s 15 f0 g) 16 f0 n) j x = rA s j x := fun j x h => mm j x (by omega)
  refine ⟨⟨fun f r h => (e2 f _ (c8 f r h)).trans (v1.1 f r h), fun f r h => (e2 f _ (by have := pRef_r f r h; exact fun z => by { subst z; cases h })).trans (v1.2.1 f r h), v1.2.2⟩, ⟨fun x a b => (rfl).trans ((v2.1 x a b).trans (mm 1 _ (by omega)).symm), fun x a b => (rfl).trans ((v2.2.1 x a b).trans (mm 2 _ (by omega)).symm), fun x a b => (rfl).trans ((v2.2.2.1 x a b).trans (mm 69 _ (by omega)).symm), fun x a b => (rfl).trans ((v2.2.2.2.1 x a b).trans (mm 70 _ (by omega)).symm), (kf 813 _ (by omega)).trans (v2.2.2.2.2.1.trans (nn 0 (by omega)).symm), (kf 814 _ (by omega)).trans (v2.2.2.2.2.2.trans (nn 68 (by omega)).symm)⟩, ?_, ?_, ?_, ?_, ?_, ?_, v9, in_S_A (in_S_A B (fun lo hi h => by cases h; omega) (fun h => by cases h)) (fun lo hi h => by cases h; omega) (fun h => by cases h)⟩
  · exact CF_link v3 hg
  · exact CL_cg v4 (fun _ _ => rfl) (Nat.le_refl _) (fun f j a b c => ⟨kf f _ (by omega), e2 f _ (by omega)⟩) (fun j x h => mm j x (by omega)) (nn 3 (by omega))
  · exact CA_cg v5 rfl rfl (fun f i a b => kf f _ (by omega)) (fun j x h => mm j x (by omega)) (nn 20 (by omega))
  · exact LL_cg v6 rfl (fun _ _ => rfl) (nn 33 (by omega)) (fun k _ _ => mm 34 _ (by omega)) m13 (nn 3 (by omega))
  · exact CB_cg v7 rfl (fun _ _ => rfl) (fun _ _ => Nat.le_refl _) (Nat.le_refl _) (fun f b a hb => ⟨kf f _ (by omega), e2 f _ (by omega)⟩) (fun _ _ => ⟨rfl, id⟩) (fun t b ht hb => ⟨rfl, fun _ => rfl⟩) (fun f j a b c => ⟨kf f _ (by omega), e2 f _ (by omega)⟩) (fun j x h => mm j x (by omega)) m13 (nn 3 (by omega)) (nn 44 (by omega))
  · exact CW_cg v8 rfl (fun _ _ => rfl) (fun _ _ => Nat.le_refl _) (fun f w a b hw => ⟨kf f _ (by omega), e2 f _ (by omega)⟩) (fun _ _ => rfl) (fun j x h => mm j x (by omega)) m13 (nn 3 (by omega)) (nn 61 (by omega))
theorem CL_inj (h : am_CL q s) {l l' : Int} (h1 : legP s l) (h2 : legP s l') (e : lId q l = lId q l') : l = l' := by
  have e1 := (h.1 l h1).2.2.2.2.1
  have e2 := (h.1 l' h2).2.2.2.2.1
  rw [e] at e1
  exact e1.symm.trans e2
theorem ix_inj {s : am_Z} {l l' : Int} (h1 : legP s l) (h2 : legP s l') (e : 61 * (l / 100) + l % 100 = 61 * (l' / 100) + l' % 100) : l = l' := by
  unfold legP thereP at h1 h2
  have b := h1.2.2
  have b2 := h2.2.2
  omega
theorem CL_push (h : am_CL q s) {l0 hh : Int} (h0 : legP s l0) : am_CL (uFI (uFI (uFI q 505 (5, lId q l0) (rA s 17 (61 * (l0 / 100) + l0 % 100) + hh)) 503 (5, lId q l0) (dep s l0 + hh)) 504 (5, lId q l0) (arv s l0 + hh)) (wA s 17 (61 * (l0 / 100) + l0 % 100) (rA s 17 (61 * (l0 / 100) + l0 % 100) + hh)) := by
  have mm : ∀ j x, j ≠ 17 → rA (wA s 17 (61 * (l0 / 100) + l0 % 100) (rA s 17 (61 * (l0 / 100) + l0 % 100) + hh)) j x = rA s j x := fun j x h => if_neg (fun z => h z.1)
  have hlp : ∀ l, legP (wA s 17 (61 * (l0 / 100) + l0 % 100) (rA s 17 (61 * (l0 / 100) + l0 % 100) + hh)) l ↔ legP s l := fun l => legP_cg (fun j x hj => mm j x (by omega)) rfl
  have e17 : ∀ l, legP s l → rA (wA s 17 (61 * (l0 / 100) + l0 % 100) (rA s 17 (61 * (l0 / 100) + l0 % 100) + hh)) 17 (61 * (l / 100) + l % 100) = rA s 17 (61 * (l / 100) + l % 100) + if l = l0 then hh else 0 := fun l hl => by
    rw [wA_A]
    by_cases e : l = l0
    · rw [if_pos ⟨rfl, by rw [e]⟩, if_pos e, e]
    · rw [if_neg (fun z => e (ix_inj hl h0 z.2)), if_neg e, Int.add_zero]
  have ed : ∀ l, legP s l → dep (wA s 17 (61 * (l0 / 100) + l0 % 100) (rA s 17 (61 * (l0 / 100) + l0 % 100) + hh)) l = dep s l + if l = l0 then hh else 0 := fun l hl => by
    unfold dep
    rw [e17 l hl, mm 7 _ (by omega), mm 1 _ (by omega), mm 5 _ (by omega)]
    omega
  have ea : ∀ l, legP s l → arv (wA s 17 (61 * (l0 / 100) + l0 % 100) (rA s 17 (61 * (l0 / 100) + l0 % 100) + hh)) l = arv s l + if l = l0 then hh else 0 := fun l hl => by
    unfold arv
    rw [ed l hl, mm 8 _ (by omega)]
    omega
  have kf : ∀ (f : Nat) (r : am_R), f ≠ 503 → f ≠ 504 → f ≠ 505 → qFI (uFI (uFI (uFI q 505 (5, lId q l0) (rA s 17 (61 * (l0 / 100) + l0 % 100) + hh)) 503 (5, lId q l0) (dep s l0 + hh)) 504 (5, lId q l0) (arv s l0 + hh)) f r = qFI q f r := fun f r h3 h4 h5 => (uf_ne h4).trans ((uf_ne h3).trans (uf_ne h5))
  refine ⟨fun l hl => ?_, fun l h1 h2 h3 h4 => h.2 l h1 h2 h3 (fun z => h4 ?_)⟩
  · have hl' := (hlp l).mp hl
    obtain ⟨a1, a2, a3, a4, a5, a6, a7, a8, a9⟩ := h.1 l hl'
    unfold am_Lg
    rw [ed l hl', ea l hl', e17 l hl', mm 18 _ (by omega)]
    refine ⟨a1, a2, a3, ?_, ?_, ?_, ?_, ?_, ?_⟩
    · exact (kf 501 _ (by omega) (by omega) (by omega)).trans a4
    · exact (kf 502 _ (by omega) (by omega) (by omega)).trans a5
    · show qFI (uFI (uFI (uFI q 505 (5, lId q l0) (rA s 17 (61 * (l0 / 100) + l0 % 100) + hh)) 503 (5, lId q l0) (dep s l0 + hh)) 504 (5, lId q l0) (arv s l0 + hh)) 503 (5, lId q l) = _
      rw [ff_ne (show 503 ≠ 504 by omega)]
      by_cases e : l = l0
      · subst e; rw [ff_eq, if_pos rfl]
      · rw [ff_nr (fun z => e (CL_inj h hl' h0 (congrArg Prod.snd z))), if_neg e, Int.add_zero, ff_ne (show 503 ≠ 505 by omega)]
        exact a6
    · show qFI (uFI (uFI (uFI q 505 (5, lId q l0) (rA s 17 (61 * (l0 / 100) + l0 % 100) + hh)) 503 (5, lId q l0) (dep s l0 + hh)) 504 (5, lId q l0) (arv s l0 + hh)) 504 (5, lId q l) = _
      by_cases e : l = l0
      · subst e; rw [ff_eq, if_pos rfl]
      · rw [ff_nr (fun z => e (CL_inj h hl' h0 (congrArg Prod.snd z))), if_neg e, Int.add_zero, ff_ne (show 504 ≠ 503 by omega), ff_ne (show 504 ≠ 505 by omega)]
        exact a7
    · show qFI (uFI (uFI (uFI q 505 (5, lId q l0) (rA s 17 (61 * (l0 / 100) + l0 % 100) + hh)) 503 (5, lId q l0) (dep s l0 + hh)) 504 (5, lId q l0) (arv s l0 + hh)) 505 (5, lId q l) = _
      rw [ff_ne (show 505 ≠ 504 by omega), ff_ne (show 505 ≠ 503 by omega)]
      by_cases e : l = l0
      · subst e; rw [ff_eq, if_pos rfl]
      · rw [ff_nr (fun z => e (CL_inj h hl' h0 (congrArg Prod.snd z))), if_neg e, Int.add_zero]
        exact a8
    · exact (kf 506 _ (by omega) (by omega) (by omega)).trans a9
  · simp only [thereP, mm 10 _ (show _ by omega), mm 11 _ (show _ by omega), mm 12 _ (show _ by omega), mm 13 _ (show _ by omega)]
    exact z
theorem CL_canc (h : am_CL q s) {l0 : Int} (h0 : legP s l0) : am_CL (uFI q 506 (5, lId q l0) 1) (wA s 18 (61 * (l0 / 100) + l0 % 100) 1) := by
  have mm : ∀ j x, j ≠ 18 → rA (wA s 18 (61 * (l0 / 100) + l0 % 100) 1) j x = rA s j x := fun j x h => if_neg (fun z => h z.1)
  have hlp : ∀ l, legP (wA s 18 (61 * (l0 / 100) + l0 % 100) 1) l ↔ legP s l := fun l => legP_cg (fun j x hj => mm j x (by omega)) rfl
  have ed : ∀ l, dep (wA s 18 (61 * (l0 / 100) + l0 % 100) 1) l = dep s l := fun l => by
    unfold dep
    rw [mm 17 _ (by omega), mm 7 _ (by omega), mm 1 _ (by omega), mm 5 _ (by omega)]
  have ea : ∀ l, arv (wA s 18 (61 * (l0 / 100) + l0 % 100) 1) l = arv s l := fun l => by
    unfold arv
    rw [ed l, mm 8 _ (by omega)]
  refine ⟨fun l hl => ?_, fun l h1 h2 h3 h4 => h.2 l h1 h2 h3 (fun z => h4 ?_)⟩
  · have hl' := (hlp l).mp hl
    obtain ⟨a1, a2, a3, a4, a5, a6, a7, a8, a9⟩ := h.1 l hl'
    unfold am_Lg
    rw [ed l, ea l, mm 17 _ (by omega)]
    have kf : ∀ (f : Nat) (r : am_R), f ≠ 506 → qFI (uFI q 506 (5, lId q l0) 1) f r = qFI q f r := fun f r h => uf_ne h
    refine ⟨a1, a2, a3, (kf 501 _ (by omega)).trans a4, (kf 502 _ (by omega)).trans a5, (kf 503 _ (by omega)).trans a6, (kf 504 _ (by omega)).trans a7, (kf 505 _ (by omega)).trans a8, ?_⟩
    show (if 506 = 506 ∧ ((5, lId q l) : am_R) = (5, lId q l0) then 1 else qFI q 506 (5, lId q l)) = if 18 = 18 ∧ 61 * (l / 100) + l % 100 = 61 * (l0 / 100) + l0 % 100 then 1 else rA s 18 (61 * (l / 100) + l % 100)
    by_cases e : l = l0
    · subst e; exact (if_pos ⟨rfl, rfl⟩).trans (if_pos ⟨rfl, rfl⟩).symm
    · exact (if_neg (fun z => e (CL_inj h hl' h0 (congrArg Prod.snd z.2)))).trans (a9.trans (if_neg (fun z => e (ix_inj hl' h0 z.2))).symm)
  · simp only [thereP, mm 10 _ (show _ by omega), mm 11 _ (show _ by omega), mm 12 _ (show _ by omega), mm 13 _ (show _ by omega)]
    exact z
theorem CV_push (V : am_CV q s) {l0 hh : Int} (h0 : legP s l0) (hv : 0 ≤ rA s 17 (61 * (l0 / 100) + l0 % 100) + hh ∧ rA s 17 (61 * (l0 / 100) + l0 % 100) + hh ≤ 8) : am_CV (uFI (uFI (uFI q 505 (5, lId q l0) (rA s 17 (61 * (l0 / 100) + l0 % 100) + hh)) 503 (5, lId q l0) (dep s l0 + hh)) 504 (5, lId q l0) (arv s l0 + hh)) (wA s 17 (61 * (l0 / 100) + l0 % 100) (rA s 17 (61 * (l0 / 100) + l0 % 100) + hh)) := by
  obtain ⟨v1, v2, v3, v4, v5, v6, v7, v8, v9, B⟩ := V
  have mm : ∀ j x, j ≠ 17 → rA (wA s 17 (61 * (l0 / 100) + l0 % 100) (rA s 17 (61 * (l0 / 100) + l0 % 100) + hh)) j x = rA s j x := fun j x h => if_neg (fun z => h z.1)
  have nn : ∀ j, 0 ≤ j → rI (wA s 17 (61 * (l0 / 100) + l0 % 100) (rA s 17 (61 * (l0 / 100) + l0 % 100) + hh)) j = rI s j := fun j h => rfl
  have kf : ∀ f r, f ≠ 503 → f ≠ 504 → f ≠ 505 → qFI (uFI (uFI (uFI q 505 (5, lId q l0) (rA s 17 (61 * (l0 / 100) + l0 % 100) + hh)) 503 (5, lId q l0) (dep s l0 + hh)) 504 (5, lId q l0) (arv s l0 + hh)) f r = qFI q f r := fun f r h => fun h4 h5 => (uf_ne h4).trans ((uf_ne h).trans (uf_ne h5))
  have m13 : ∀ j x, (10 ≤ j ∧ j ≤ 13) → rA (wA s 17 (61 * (l0 / 100) + l0 % 100) (rA s 17 (61 * (l0 / 100) + l0 % 100) + hh)) j x = rA s j x := fun j x h => mm j x (by omega)
  refine ⟨v1, ⟨fun x a b => (rfl).trans ((v2.1 x a b).trans (mm 1 _ (by omega)).symm), fun x a b => (rfl).trans ((v2.2.1 x a b).trans (mm 2 _ (by omega)).symm), fun x a b => (rfl).trans ((v2.2.2.1 x a b).trans (mm 69 _ (by omega)).symm), fun x a b => (rfl).trans ((v2.2.2.2.1 x a b).trans (mm 70 _ (by omega)).symm), (kf 813 _ (by omega) (by omega) (by omega)).trans (v2.2.2.2.2.1.trans (nn 0 (by omega)).symm), (kf 814 _ (by omega) (by omega) (by omega)).trans (v2.2.2.2.2.2.trans (nn 68 (by omega)).symm)⟩, ?_, ?_, ?_, ?_, ?_, ?_, v9, in_S_A B (fun lo hi h => by cases h; omega) (fun h => by cases h)⟩
  · exact CF_cg v3 rfl (fun _ _ => rfl) (fun f i a b => kf f _ (by omega) (by omega) (by omega)) (fun _ _ _ _ => rfl) (fun _ => ⟨rfl, rfl⟩) (fun _ _ => rfl) (fun j x h => mm j x (by omega)) (nn 3 (by omega))
  · exact CL_push v4 h0
  · exact CA_cg v5 rfl rfl (fun f i a b => kf f _ (by omega) (by omega) (by omega)) (fun j x h => mm j x (by omega)) (nn 20 (by omega))
  · exact LL_cg v6 rfl (fun _ _ => rfl) (nn 33 (by omega)) (fun k _ _ => mm 34 _ (by omega)) m13 (nn 3 (by omega))
  · exact CB_cg v7 rfl (fun _ _ => rfl) (fun _ _ => Nat.le_refl _) (Nat.le_refl _) (fun f b a hb => ⟨kf f _ (by omega) (by omega) (by omega), rfl⟩) (fun _ _ => ⟨rfl, id⟩) (fun t b ht hb => ⟨rfl, fun _ => rfl⟩) (fun f j a b c => ⟨kf f _ (by omega) (by omega) (by omega), rfl⟩) (fun j x h => mm j x (by omega)) m13 (nn 3 (by omega)) (nn 44 (by omega))
  · exact CW_cg v8 rfl (fun _ _ => rfl) (fun _ _ => Nat.le_refl _) (fun f w a b hw => ⟨kf f _ (by omega) (by omega) (by omega), rfl⟩) (fun _ _ => rfl) (fun j x h => mm j x (by omega)) m13 (nn 3 (by omega)) (nn 61 (by omega))
theorem CV_canc (V : am_CV q s) {l0 : Int} (h0 : legP s l0) : am_CV (uFI q 506 (5, lId q l0) 1) (wA s 18 (61 * (l0 / 100) + l0 % 100) 1) := by
  obtain ⟨v1, v2, v3, v4, v5, v6, v7, v8, v9, B⟩ := V
  have mm : ∀ j x, j ≠ 18 → rA (wA s 18 (61 * (l0 / 100) + l0 % 100) 1) j x = rA s j x := fun j x h => if_neg (fun z => h z.1)
  have nn : ∀ j, 0 ≤ j → rI (wA s 18 (61 * (l0 / 100) + l0 % 100) 1) j = rI s j := fun j h => rfl
  have kf : ∀ f r, f ≠ 506 → qFI (uFI q 506 (5, lId q l0) 1) f r = qFI q f r := fun f r h => uf_ne h
  have m13 : ∀ j x, (10 ≤ j ∧ j ≤ 13) → rA (wA s 18 (61 * (l0 / 100) + l0 % 100) 1) j x = rA s j x := fun j x h => mm j x (by omega)
  refine ⟨v1, ⟨fun x a b => (rfl).trans ((v2.1 x a b).trans (mm 1 _ (by omega)).symm), fun x a b => (rfl).trans ((v2.2.1 x a b).trans (mm 2 _ (by omega)).symm), fun x a b => (rfl).trans ((v2.2.2.1 x a b).trans (mm 69 _ (by omega)).symm), fun x a b => (rfl).trans ((v2.2.2.2.1 x a b).trans (mm 70 _ (by omega)).symm), (kf 813 _ (by omega)).trans (v2.2.2.2.2.1.trans (nn 0 (by omega)).symm), (kf 814 _ (by omega)).trans (v2.2.2.2.2.2.trans (nn 68 (by omega)).symm)⟩, ?_, ?_, ?_, ?_, ?_, ?_, v9, in_S_A B (fun lo hi h => by cases h; omega) (fun h => by cases h)⟩
  · exact CF_cg v3 rfl (fun _ _ => rfl) (fun f i a b => kf f _ (by omega)) (fun _ _ _ _ => rfl) (fun _ => ⟨rfl, rfl⟩) (fun _ _ => rfl) (fun j x h => mm j x (by omega)) (nn 3 (by omega))
  · exact CL_canc v4 h0
  · exact CA_cg v5 rfl rfl (fun f i a b => kf f _ (by omega)) (fun j x h => mm j x (by omega)) (nn 20 (by omega))
  · exact LL_cg v6 rfl (fun _ _ => rfl) (nn 33 (by omega)) (fun k _ _ => mm 34 _ (by omega)) m13 (nn 3 (by omega))
  · exact CB_cg v7 rfl (fun _ _ => rfl) (fun _ _ => Nat.le_refl _) (Nat.le_refl _) (fun f b a hb => ⟨kf f _ (by omega), rfl⟩) (fun _ _ => ⟨rfl, id⟩) (fun t b ht hb => ⟨rfl, fun _ => rfl⟩) (fun f j a b c => ⟨kf f _ (by omega), rfl⟩) (fun j x h => mm j x (by omega)) m13 (nn 3 (by omega)) (nn 44 (by omega))
  · exact CW_cg v8 rfl (fun _ _ => rfl) (fun _ _ => Nat.le_refl _) (fun f w a b hw => ⟨kf f _ (by omega), rfl⟩) (fun _ _ => rfl) (fun j x h => mm j x (by omega)) m13 (nn 3 (by omega)) (nn 61 (by omega))
end WR2
end

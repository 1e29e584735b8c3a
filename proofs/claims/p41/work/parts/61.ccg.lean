noncomputable section
theorem fFl_r : am_all fFl (fun f j => (400 ≤ f ∧ f < 413) ∧ 4 ≤ j ∧ j ≤ 16) := (am_nd_ok (am_nd_ok (am_nd_ok (am_lf_ok (by decide)) (am_lf_ok (by decide))) (am_nd_ok (am_lf_ok (by decide)) (am_lf_ok (by decide)))) (am_nd_ok (am_nd_ok (am_lf_ok (by decide)) (am_lf_ok (by decide))) (am_nd_ok (am_lf_ok (by decide)) (am_lf_ok (by decide)))))
theorem fFa_r : am_all fFa (fun f j => (300 ≤ f ∧ f < 313) ∧ 21 ≤ j ∧ j ≤ 32) := (am_nd_ok (am_nd_ok (am_nd_ok (am_lf_ok (by decide)) (am_nd_ok (am_lf_ok (by decide)) (am_lf_ok (by decide)))) (am_nd_ok (am_lf_ok (by decide)) (am_nd_ok (am_lf_ok (by decide)) (am_lf_ok (by decide))))) (am_nd_ok (am_nd_ok (am_lf_ok (by decide)) (am_nd_ok (am_lf_ok (by decide)) (am_lf_ok (by decide)))) (am_nd_ok (am_lf_ok (by decide)) (am_nd_ok (am_lf_ok (by decide)) (am_lf_ok (by decide))))))
theorem fBk_r : am_all fBk (fun f j => f < 9 ∧ 45 ≤ j ∧ j ≤ 60) := (am_nd_ok (am_nd_ok (am_lf_ok (by decide)) (am_nd_ok (am_lf_ok (by decide)) (am_lf_ok (by decide)))) (am_nd_ok (am_lf_ok (by decide)) (am_nd_ok (am_lf_ok (by decide)) (am_lf_ok (by decide)))))
theorem fWi_r : am_all fWi (fun f j => (700 ≤ f ∧ f < 704) ∧ 62 ≤ j ∧ j ≤ 66) := (am_nd_ok (am_lf_ok (by decide)) (am_nd_ok (am_lf_ok (by decide)) (am_lf_ok (by decide))))
theorem fCp_r : am_all fCp (fun f j => (100 ≤ f ∧ f < 106) ∧ 53 ≤ j ∧ j ≤ 58) := (am_nd_ok (am_nd_ok (am_lf_ok (by decide)) (am_lf_ok (by decide))) (am_nd_ok (am_lf_ok (by decide)) (am_nd_ok (am_lf_ok (by decide)) (am_lf_ok (by decide)))))
section CG
variable {q q' : am_A} {s s' : am_Z}
theorem CF_cg (h : am_CF q s) (k1 : qLS q' (1802, 0) = qLS q (1802, 0)) (k2 : ∀ t, t = 4 ∨ t = 1407 ∨ t = 1408 → qCN q' t = qCN q t) (k3 : ∀ f i, 400 ≤ f → f < 413 → qFI q' f (4, i) = qFI q f (4, i)) (k4 : ∀ f i, 400 ≤ f → f < 413 → qFR q' f (4, i) = qFR q f (4, i)) (k5 : ∀ i, qAL q' (1407, i) = qAL q (1407, i) ∧ qAL q' (1408, i) = qAL q (1408, i)) (k6 : ∀ i k, qAI q' (1407, i) k = qAI q (1407, i) k) (m1 : ∀ j x, (j = 1 ∨ 4 ≤ j ∧ j ≤ 16) → rA s' j x = rA s j x) (m3 : rI s' 3 = rI s 3) : am_CF q' s' := by
  obtain ⟨h1, h2, h3, h4⟩ := h
  refine ⟨by rw [k1, m3]; exact h1, ?_, fun i hi => ?_, fun i h5 h6 => ?_⟩
  · rw [k2 4 (by omega), k2 1407 (by omega), k2 1408 (by omega), m3]; exact h2
  · obtain ⟨a1, a2, a3, a4, a5, a6, a7, a8, a9⟩ := h3 i (by rw [← m3]; exact hi)
    refine ⟨fun f j hf => ?_, (k3 _ _ (by omega) (by omega)).trans a2, (k3 _ _ (by omega) (by omega)).trans (by rw [m1 7 _ (by omega), m1 1 _ (by omega), m1 5 _ (by omega)]; exact a3), (k4 _ _ (by omega) (by omega)).trans a4, (k4 _ _ (by omega) (by omega)).trans a5, (k4 _ _ (by omega) (by omega)).trans (by rw [m1 15 _ (by omega)]; exact a6), (k5 i).1.trans a7, (k5 i).2.trans a8, fun b b1 b2 => (k6 i _).trans (by rw [m1 14 _ (by omega)]; exact a9 b b1 b2)⟩
    have hr := fFl_r f j hf
    rw [k3 f i hr.1.1 hr.1.2, m1 j _ (Or.inr hr.2)]
    exact a1 f j hf
  · rw [m1 15 _ (by omega), m3]; exact h4 i h5 (by rw [← m3]; exact h6)
theorem legP_cg {l : Int} (m1 : ∀ j x, (10 ≤ j ∧ j ≤ 13) → rA s' j x = rA s j x) (m3 : rI s' 3 = rI s 3) : legP s' l ↔ legP s l := by
  simp only [legP, thereP, m1 10 _ (by omega), m1 11 _ (by omega), m1 12 _ (by omega), m1 13 _ (by omega), m3]
theorem lId_cg {l : Int} (k1 : ∀ i k, qAR q' (1408, i) k = qAR q (1408, i) k) : lId q' l = lId q l := by
  unfold lId legO
  rw [k1]
theorem CL_cg (h : am_CL q s) (k1 : ∀ i k, qAR q' (1408, i) k = qAR q (1408, i) k) (k2 : qCN q 5 ≤ qCN q' 5) (k3 : ∀ f j, 500 ≤ f → f < 507 → j < qCN q 5 → qFI q' f (5, j) = qFI q f (5, j) ∧ qFR q' f (5, j) = qFR q f (5, j)) (m1 : ∀ j x, (j = 1 ∨ (4 ≤ j ∧ j ≤ 13) ∨ j = 17 ∨ j = 18) → rA s' j x = rA s j x) (m3 : rI s' 3 = rI s 3) : am_CL q' s' := by
  have hlp : ∀ l, legP s' l ↔ legP s l := fun l => legP_cg (fun j x hj => m1 j x (by omega)) m3
  have hd : ∀ l, dep s' l = dep s l := fun l => by unfold dep; rw [m1 7 _ (by omega), m1 1 _ (by omega), m1 5 _ (by omega), m1 17 _ (by omega)]
  have ha : ∀ l, arv s' l = arv s l := fun l => by unfold arv; rw [hd, m1 8 _ (by omega)]
  have hO : ∀ l, legO q' l = legO q l := fun l => by unfold legO; rw [k1]
  constructor
  · intro l hl
    obtain ⟨a1, a2, a3, a4, a5, a6, a7, a8, a9⟩ := h.1 l ((hlp l).mp hl)
    have e := lId_cg (l := l) k1
    unfold am_Lg
    rw [e, hO, hd, ha, m1 17 _ (by omega), m1 18 _ (by omega), (k3 500 _ (by omega) (by omega) a2).2, (k3 501 _ (by omega) (by omega) a2).1, (k3 502 _ (by omega) (by omega) a2).1, (k3 503 _ (by omega) (by omega) a2).1, (k3 504 _ (by omega) (by omega) a2).1, (k3 505 _ (by omega) (by omega) a2).1, (k3 506 _ (by omega) (by omega) a2).1]
    exact ⟨a1, Nat.lt_of_lt_of_le a2 k2, a3, a4, a5, a6, a7, a8, a9⟩
  · intro l h1 h2 h3 h4
    rw [hO]
    refine h.2 l h1 (by rw [← m3]; exact h2) h3 (fun z => h4 ?_)
    simp only [thereP, m1 10 _ (show _ by omega), m1 11 _ (show _ by omega), m1 12 _ (show _ by omega), m1 13 _ (show _ by omega)]
    exact z
theorem CA_cg (h : am_CA q s) (k1 : qLS q' (1803, 0) = qLS q (1803, 0)) (k2 : qCN q' 3 = qCN q 3) (k3 : ∀ f i, 300 ≤ f → f < 313 → qFI q' f (3, i) = qFI q f (3, i)) (m1 : ∀ j x, (21 ≤ j ∧ j ≤ 32) → rA s' j x = rA s j x) (m3 : rI s' 20 = rI s 20) : am_CA q' s' := by
  obtain ⟨h1, h2, h3⟩ := h
  refine ⟨by rw [k1, m3]; exact h1, by rw [k2, m3]; exact h2, fun i hi => ⟨fun f j hf => ?_, ?_⟩⟩
  · have hr := fFa_r f j hf
    rw [k3 f i hr.1.1 hr.1.2, m1 j _ hr.2]
    exact (h3 i (by rw [← m3]; exact hi)).1 f j hf
  · rw [k3 300 i (by omega) (by omega)]
    exact (h3 i (by rw [← m3]; exact hi)).2
theorem LL_cg {r : am_R} {n n' : Int} {f f' : Int → Int} (h : am_LL q s r n f) (k0 : qLS q' r = qLS q r) (k1 : ∀ i k, qAR q' (1408, i) k = qAR q (1408, i) k) (m0 : n' = n) (m1 : ∀ k, 0 ≤ k → k < n → f' k = f k) (m2 : ∀ j x, (10 ≤ j ∧ j ≤ 13) → rA s' j x = rA s j x) (m3 : rI s' 3 = rI s 3) : am_LL q' s' r n' f' := by
  refine ⟨by rw [k0, m0]; exact h.1, fun k hk => ?_⟩
  rw [k0, lId_cg k1, m1 k (by omega) (by omega)]
  have h2 := h.2 k (by omega)
  exact ⟨h2.1, (legP_cg m2 m3).mpr h2.2⟩
theorem CB_cg (h : am_CB q s) (k0 : qLS q' (1806, 0) = qLS q (1806, 0)) (k1 : ∀ i k, qAR q' (1408, i) k = qAR q (1408, i) k) (k2 : ∀ t, t = 0 ∨ t = 1003 ∨ t = 1004 ∨ t = 1005 → qCN q t ≤ qCN q' t) (k3 : qCN q 1 ≤ qCN q' 1) (k4 : ∀ f b, f < 9 → ((b : Nat) : Int) < rI s 44 → qFI q' f (0, b) = qFI q f (0, b) ∧ qFR q' f (0, b) = qFR q f (0, b)) (k5 : ∀ b : Nat, (b : Int) < rI s 44 → qLS q' (1003, b) = qLS q (1003, b) ∧ (qCP q (1003, b) ≤ 60 → qCP q' (1003, b) ≤ 60)) (k6 : ∀ t b, t = 1004 ∨ t = 1005 → ((b : Nat) : Int) < rI s 44 → qAL q' (t, b) = qAL q (t, b) ∧ ∀ k, qAI q' (t, b) k = qAI q (t, b) k) (k7 : ∀ f j, 100 ≤ f → f < 106 → j < qCN q 1 → qFI q' f (1, j) = qFI q f (1, j) ∧ qFR q' f (1, j) = qFR q f (1, j)) (m1 : ∀ j x, (45 ≤ j ∧ j ≤ 60) → rA s' j x = rA s j x) (m2 : ∀ j x, (10 ≤ j ∧ j ≤ 13) → rA s' j x = rA s j x) (m3 : rI s' 3 = rI s 3) (m4 : rI s' 44 = rI s 44) : am_CB q' s' := by
  obtain ⟨h1, h2, h3, h4, h5⟩ := h
  have ec : ∀ b k : Nat, (b : Int) < rI s 44 → cId q' b k = cId q b k := fun b k hb => by unfold cId; rw [(k5 b hb).1]
  refine ⟨by rw [k0, m4]; exact h1, by rw [m4]; exact ⟨Nat.le_trans h2.1 (k2 0 (by omega)), Nat.le_trans h2.2.1 (k2 1003 (by omega)), Nat.le_trans h2.2.2.1 (k2 1004 (by omega)), Nat.le_trans h2.2.2.2 (k2 1005 (by omega))⟩, fun b hb => ?_, fun b k hb hk => ?_, fun b k b' k' a1 a2 a3 a4 a5 => ?_⟩
  · have hb' : (b : Int) < rI s 44 := by rw [← m4]; exact hb
    obtain ⟨a1, a2, a3, a4, a5, a6⟩ := h3 b hb'
    refine ⟨fun f j hf => ?_, ⟨(k4 3 b (by omega) hb').2.trans a2.1, (k4 4 b (by omega) hb').2.trans a2.2.1, (k4 5 b (by omega) hb').2.trans a2.2.2⟩, ⟨(k6 1004 b (by omega) hb').1.trans a3.1, (k6 1005 b (by omega) hb').1.trans a3.2⟩, fun k e1 e2 => ?_, by rw [(k5 b hb').1, m1 52 _ (by omega)]; exact a5, (k5 b hb').2 a6⟩
    · have hr := fBk_r f j hf
      rw [(k4 f b hr.1 hb').1, m1 j _ hr.2]
      exact a1 f j hf
    · rw [(k6 1004 b (by omega) hb').2, (k6 1005 b (by omega) hb').2, m1 59 _ (by omega), m1 60 _ (by omega)]
      exact a4 k e1 e2
  · rw [m1 52 _ (by omega)] at hk
    have hb' : (b : Int) < rI s 44 := by rw [← m4]; exact hb
    obtain ⟨a1, a2, a3, a4, a5⟩ := h4 b k hb' hk
    unfold am_Cp
    rw [ec _ _ hb', (k5 b hb').1, lId_cg k1, m1 53 _ (by omega), (k7 100 _ (by omega) (by omega) a2).2]
    refine ⟨a1, Nat.lt_of_lt_of_le a2 k3, a3, (legP_cg m2 m3).mpr a4, fun f j hf => ?_⟩
    have hr := fCp_r f j hf
    rw [(k7 f _ hr.1.1 hr.1.2 a2).1, m1 j _ (by omega)]
    exact a5 f j hf
  · rw [m1 52 _ (by omega)] at a2 a4
    rw [m4] at a1 a3
    rw [ec _ _ a1, ec _ _ a3] at a5
    exact h5 b k b' k' a1 a2 a3 a4 a5
theorem CW_cg (h : am_CW q s) (k0 : qLS q' (1807, 0) = qLS q (1807, 0)) (k1 : ∀ i k, qAR q' (1408, i) k = qAR q (1408, i) k) (k2 : ∀ t, t = 7 ∨ t = 1702 → qCN q t ≤ qCN q' t) (k3 : ∀ f w, 700 ≤ f → f < 704 → ((w : Nat) : Int) < rI s 61 → qFI q' f (7, w) = qFI q f (7, w) ∧ qFR q' f (7, w) = qFR q f (7, w)) (k4 : ∀ w : Nat, (w : Int) < rI s 61 → qLS q' (1702, w) = qLS q (1702, w)) (m1 : ∀ j x, (62 ≤ j ∧ j ≤ 66) → rA s' j x = rA s j x) (m2 : ∀ j x, (10 ≤ j ∧ j ≤ 13) → rA s' j x = rA s j x) (m3 : rI s' 3 = rI s 3) (m4 : rI s' 61 = rI s 61) : am_CW q' s' := by
  obtain ⟨h1, h2, h3⟩ := h
  refine ⟨by rw [k0, m4]; exact h1, by rw [m4]; exact ⟨Nat.le_trans h2.1 (k2 7 (by omega)), Nat.le_trans h2.2 (k2 1702 (by omega))⟩, fun w hw => ?_⟩
  have hw' : (w : Int) < rI s 61 := by rw [← m4]; exact hw
  obtain ⟨a1, a2, a3⟩ := h3 w hw'
  refine ⟨fun f j hf => ?_, (k3 702 w (by omega) (by omega) hw').2.trans a2, LL_cg a3 (k4 w hw') k1 (m1 64 _ (by omega)) (fun k _ _ => m1 65 _ (by omega)) m2 m3⟩
  have hr := fWi_r f j hf
  rw [(k3 f w hr.1.1 hr.1.2 hw').1, m1 j _ hr.2]
  exact a1 f j hf
end CG
end

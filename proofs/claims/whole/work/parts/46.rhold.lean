noncomputable section
theorem wRem_ok {s : am_Z} {n : Int} (hA : 0 ≤ rI s 20 ∧ rI s 20 ≤ 16) {sub : Int → am_wP → List am_wP} (hsub : ∀ p w, okP w → pLen w = p → ∀ x ∈ sub p w, okP x ∧ pLen x = rI s 35) : ∀ (k : Nat) (p : Int) (w : am_wP) (c f : Int), okP w → pLen w = p → 1 ≤ c → -1 ≤ f → f ≤ rI s 20 - 1 → ∀ x ∈ wRem s n sub k p w c f, okP x ∧ pLen x = rI s 35 := by
  intro k
  induction k with
  | zero => intro p w c f _ _ _ _ _ x hx; simp [wRem] at hx
  | succ k ih =>
    intro p w c f hw hp hc hf hf2 x hx
    have hnx := nx_c s c f
    rw [wRem] at hx
    by_cases h1 : rI s 35 < p + nxC s c f ∨ rI s 20 = 0
    · rw [if_pos h1] at hx; cases hx
    · rw [if_neg h1] at hx
      have ho : okP (w ++ [(nxF s f, nxC s c f)]) := okP_app hw ⟨by dsimp only; omega, by dsimp only; omega⟩
      have hl : pLen (w ++ [(nxF s f, nxC s c f)]) = p + nxC s c f := by rw [pLen_app, hp]
      rcases List.mem_append.mp hx with h2 | h2
      · unfold wNode at h2
        by_cases h3 : canH s p (nxC s c f) (nxF s f) n ≠ 0
        · rw [if_pos h3] at h2
          by_cases h4 : p + nxC s c f = rI s 35
          · rw [if_pos h4] at h2
            rw [List.mem_singleton.mp h2]
            exact ⟨ho, hl.trans h4⟩
          · rw [if_neg h4] at h2
            exact hsub _ _ ho hl x h2
        · rw [if_neg h3] at h2; cases h2
      · exact ih p w _ _ hw hp (by omega) (by omega) (by omega) x h2
theorem wSub_ok {s : am_Z} {n : Int} (hA : 0 ≤ rI s 20 ∧ rI s 20 ≤ 16) (D : Nat) : ∀ p w, okP w → pLen w = p → ∀ x ∈ wSub s n D p w, okP x ∧ pLen x = rI s 35 := by
  induction D with
  | zero => intro p w _ _ x hx; simp [wSub] at hx
  | succ D ih =>
    intro p w hw hp x hx
    rw [wSub] at hx
    exact wRem_ok hA ih 100 p w 1 (-1) hw hp (by omega) (by omega) (by omega) x hx
theorem tk_mem {s : am_Z} {P : am_wQ → Prop} (l : List am_wP) (W : am_wQ) (h0 : P W) (h : ∀ x ∈ l, P (pSum s x, x)) : P (l.foldl (tk s) W) := by
  induction l generalizing W with
  | nil => exact h0
  | cons x l ih =>
    refine ih (tk s W x) ?_ (fun y hy => h y (List.mem_cons_of_mem _ hy))
    unfold tk
    split
    · exact h x List.mem_cons_self
    · exact h0
theorem bestW_ok {s : am_Z} (B : in_S s) (n : Int) : (bestW s n).1 ≠ -1 → okP (bestW s n).2 ∧ pLen (bestW s n).2 = rI s 35 ∧ (bestW s n).1 = pSum s (bestW s n).2 := by
  have hA := B.2.1 20 0 16 rfl
  unfold bestW
  split
  · intro h; exact absurd rfl h
  · exact tk_mem (P := fun W => W.1 ≠ -1 → okP W.2 ∧ pLen W.2 = rI s 35 ∧ W.1 = pSum s W.2) _ _ (fun h => absurd rfl h) (fun x hx _ => by
      have := wSub_ok hA 4 0 [] (fun y hy => absurd hy (by simp)) rfl x hx
      exact ⟨this.1, this.2, rfl⟩)
theorem pLen_cat (a b : am_wP) : pLen (a ++ b) = pLen a + pLen b := by
  induction a with
  | nil => simp [pLen]
  | cons x a ih => simp only [List.cons_append, pLen, ih]; omega
theorem pLen_take {w : am_wP} {i : Nat} (hi : i ≤ w.length) : pLen (w.take i) = sumI 0 i (fun k => pC w k.toNat) := by
  induction i with
  | zero => rfl
  | succ i ih =>
    rw [List.take_succ_eq_append_getElem (by omega), pLen_app, ih (by omega), sumI_s]
    have e : pC w ((0 : Int) + i).toNat = (w[i]'(by omega)).2 := by
      rw [show ((0 : Int) + i).toNat = i by omega]
      unfold pC
      rw [List.getD_eq_getElem?_getD, List.getElem?_eq_getElem (by omega)]
      rfl
    rw [e]
theorem pLen_part {w : am_wP} (h : okP w) {i : Nat} (hi : i ≤ w.length) : 0 ≤ sumI 0 i (fun k => pC w k.toNat) ∧ sumI 0 i (fun k => pC w k.toNat) ≤ pLen w := by
  have h1 : pLen w = pLen (w.take i) + pLen (w.drop i) := by rw [← pLen_cat, List.take_append_drop]
  have h2 := pLen_b (w := w.take i) (fun x hx => h x (List.mem_of_mem_take hx))
  have h3 := pLen_b (w := w.drop i) (fun x hx => h x (List.mem_of_mem_drop hx))
  rw [pLen_take hi] at h1 h2
  omega
theorem wq_bk {s1 : am_Z} {W : am_wQ} {L : Int} (hW : am_WQ s1 W) (hok : okP W.2) (hL : pLen W.2 = L) (hL4 : L ≤ 4) :
    (∀ i, 0 ≤ i → i < rI s1 38 → (0 ≤ rA s1 40 i ∧ rA s1 40 i < 16) ∧ 1 ≤ rA s1 39 i) ∧ (∀ i : Nat, (i : Int) < rI s1 38 → 0 ≤ sumI 0 i (rA s1 39) ∧ sumI 0 i (rA s1 39) + rA s1 39 i ≤ L) := by
  have e38 := hW.2.1
  constructor
  · intro i h1 h2
    have h3 := hW.2.2.2 i.toNat (by omega)
    rw [show ((i.toNat : Nat) : Int) = i by omega] at h3
    have h4 := okP_F hok (i := i.toNat) (by omega)
    rw [h3.1, h3.2]
    exact h4
  · intro i h1
    have e : ∀ m : Nat, m ≤ W.2.length → sumI 0 m (rA s1 39) = sumI 0 m (fun k => pC W.2 k.toNat) := fun m hm => sumI_c (fun k h2 h3 => by
      have h4 := (hW.2.2.2 k.toNat (by omega)).2
      rw [show ((k.toNat : Nat) : Int) = k by omega] at h4
      exact h4)
    have h5 := pLen_part hok (i := i) (by omega)
    have h6 := pLen_part hok (i := i + 1) (by omega)
    rw [← e i (by omega)] at h5
    rw [← e (i + 1) (by omega), sumI_s, Int.zero_add] at h6
    omega
def kHold (s : am_Z) (n m h : Int) : Int := if ¬ (-1 ≤ m ∧ m ≤ 4) then 1 else if ¬ ((1 ≤ n ∧ n ≤ 9) ∧ 1 ≤ h ∧ h ≤ 72) then 2 else if (bestW (jrn s) n).1 = -1 ∨ rI s 44 = 40 then 3 else 0
theorem jrn_in {s : am_Z} (B : in_S s) : in_S (jrn s) := by
  refine ⟨fun j i lo hi h => ?_, fun j lo hi h => ?_, fun j i h => ?_⟩
  · show lo ≤ (if j = 36 ∧ 0 ≤ i ∧ i < 0 + _ then rA s 34 i else s.1 j i) ∧ (if j = 36 ∧ 0 ≤ i ∧ i < 0 + _ then rA s 34 i else s.1 j i) ≤ hi
    split
    · rename_i hc
      rw [hc.1] at h
      cases h
      exact B.1 34 i 0 1160 rfl
    · exact B.1 j i lo hi h
  · show lo ≤ (if j = 35 then rI s 33 else s.2 j) ∧ (if j = 35 then rI s 33 else s.2 j) ≤ hi
    split
    · rename_i hc
      rw [hc] at h
      cases h
      exact B.2.1 33 0 4 rfl
    · exact B.2.1 j lo hi h
  · show (if j = 36 ∧ 0 ≤ i ∧ i < 0 + _ then rA s 34 i else s.1 j i) % 100 ≤ 60
    split
    · exact B.2.2 34 i rfl
    · exact B.2.2 j i h
theorem sr_hold {d : Nat} {s : am_Z} {n m h : Int}  (hn : in32 n) (hm : in32 m) (hh : in32 h) (hlen : ∀ k, 0 ≤ k → k < rI s 33 → 1 ≤ rA s 8 (rA s 34 k / 100)) : am_CR (d + 7) m_M_hold [aR 9 0, aI (zI n), aI (zI m), aI (zI h)] s (isG (fun v s2 => (kHold s n m h = 0 → v = rI s 44 ∧ ∃ s1, am_BR (jrn s) s1 ∧ am_WQ s1 (bestW (jrn s) n) ∧ s2 = bkT (wI (wI s1 74 0) 33 0) n m h) ∧ (kHold s n m h ≠ 0 → v = 0 ∧ ∃ s1, s2 = wI s1 74 (kHold s n m h) ∧ (s1 = s ∨ am_BR (jrn s) s1)))) := by
  refine am_CR_i (ls := [some (aR 9 0), some (aI (zI n)), some (aI (zI m)), some (aI (zI h)), none, none]) rfl (fun q0 => ?_)
  refine rr_inS (fun B => ?_)
  have b33 := B.2.1 33 0 4 rfl
  have H94 : ∀ (x4 x5 : Option am_V) (s42 : am_Z), (am_BR (jrn s) s42 ∧ am_WQ s42 (bestW (jrn s) n)) → kHold s n m h = 0 → am_WR (d + 7) m_M_hold 94 [some (aR 9 0), some (aI (zI n)), some (aI (zI m)), some (aI (zI h)), x4, x5] [] q0 (wI s42 74 (kHold s n m h)) (isG (fun v s2 => (kHold s n m h = 0 → v = rI s 44 ∧ ∃ s1, am_BR (jrn s) s1 ∧ am_WQ s1 (bestW (jrn s) n) ∧ s2 = bkT (wI (wI s1 74 0) 33 0) n m h) ∧ (kHold s n m h ≠ 0 → v = 0 ∧ ∃ s1, s2 = wI s1 74 (kHold s n m h) ∧ (s1 = s ∨ am_BR (jrn s) s1)))) := by
    intro x4 x5 s42 q42 hk
    have hk2 := hk
    unfold kHold at hk2
    have e44 : rI s42 44 = rI s 44 := q42.1.2 44 (by omega) (by omega)
    have hj : in_S (jrn s) → okP (bestW (jrn s) n).2 ∧ pLen (bestW (jrn s) n).2 = rI s 33 := fun z => by { have := bestW_ok z n (by omega); exact ⟨this.1, this.2.1⟩ }
    refine rr_inS (fun B42 => ?_)
    have b44 := B42.2.1 44 0 40 rfl
    have e444 : rI (wI s42 74 (kHold s n m h)) 44 = rI s42 44 := rfl
    have hbw := hj (jrn_in B)
    have hbk := wq_bk q42.2 hbw.1 hbw.2 (by omega)
    have hFl : ∀ k, 0 ≤ k → k < 4 → (∃ i : Nat, (i : Int) < rI s42 38 ∧ k < sumI 0 i (rA s42 39) + rA s42 39 i) → 1 ≤ fLen s42 k := by
      rintro k h1 h2 ⟨i, h3, h4⟩
      have h5 := hbk.2 i h3
      have h6 := hlen k h1 (by omega)
      unfold fLen
      rw [q42.1.1 36 _ rfl, q42.1.1 8 _ rfl]
      have e36 : rA (jrn s) 36 k = rA s 34 k := if_pos ⟨rfl, h1, by omega⟩
      rw [e36]
      exact h6
    refine rr_aload_n rfl rfl ?_
    refine rr_iconst rfl ?_
    refine rr_pfI 33 rfl rfl rfl rfl (by omega) rfl (by omega) ?_
    refine rr_aload_n rfl rfl ?_
    refine rr_iload_n rfl rfl ?_
    refine rr_iload_n rfl rfl ?_
    refine rr_iload_n rfl rfl ?_
    refine rr_cv3P rfl rfl rfl (Nat.le_of_ble_eq_true rfl) (sr_books (d := 0) (by omega) (by omega) (by omega) (show rI s42 44 < 40 by omega) hbk.1 (fun i z => (show 0 ≤ sumI 0 i (rA s42 39) ∧ sumI 0 i (rA s42 39) + rA s42 39 i ≤ 4 from by have := hbk.2 i z; omega)) hFl) (by omega) (fun b103 => ?_)
    refine rr_iret rfl (Or.inl rfl) ?_
    exact ⟨_, rfl, fun z => ⟨e44, s42, q42.1, q42.2, by rw [hk]⟩, fun z => absurd hk z⟩
  refine rr_iload_n rfl rfl ?_
  refine rr_cs1B rfl rfl (Nat.le_of_ble_eq_true rfl) (sr_isMember (d := 0) (by omega)) (by omega) ?_
  refine rr_stI4 rfl ?_
  refine rr_join (pc' := 28) (V := if (1 ≤ n ∧ n ≤ 9) ∧ 1 ≤ h ∧ h ≤ 72 then 1 else 0) ?_ (fun K28 => ?_)
  · refine rr_stI5 rfl ?_
    refine rr_iload rfl rfl ?_
    refine rr_if_eqB rfl rfl (fun h32 => ?_) (fun h32 => ?_)
    · refine rr_aload_n rfl rfl ?_
      refine rr_join (pc' := 86) (V := kHold s n m h) ?_ (fun K86 => ?_)
      · refine rr_cv1B rfl rfl rfl (Nat.le_of_ble_eq_true rfl) (sr_fails (d := 0) (by unfold kHold; omega)) (by omega) ?_
        refine rr_if_eqB rfl rfl (fun h89 => ?_) (fun h89 => ?_)
        · have hk : kHold s n m h = 0 := by { have z : 0 ≤ kHold s n m h := by { unfold kHold; omega }; omega }
          have hk2 := hk
          unfold kHold at hk2
          first | exact False.elim (by omega) | exact H94 _ _ _ q42 hk
        · refine rr_iconst rfl ?_
          refine rr_iret rfl (Or.inl rfl) ?_
          first | exact ⟨_, rfl, fun z => absurd z (by omega), fun _ => ⟨rfl, _, rfl, Or.inl rfl⟩⟩ | exact ⟨_, rfl, fun z => absurd z (by omega), fun _ => ⟨rfl, _, rfl, Or.inr q42.1⟩⟩
      · refine rr_iload rfl rfl ?_
        refine rr_if_neB rfl rfl (fun h48 => ?_) (fun h48 => ?_)
        · refine rr_iload rfl rfl ?_
          refine rr_if_neB rfl rfl (fun h57 => ?_) (fun h57 => ?_)
          · refine rr_aload_n rfl rfl ?_
            refine rr_gfI 37 rfl rfl (by omega) rfl (fun b65 => ?_)
            refine rr_iconst rfl ?_
            refine rr_icmp_eq rfl rfl (by omega) (by omega) (fun h69 => ?_) (fun h69 => ?_)
            · refine rr_iconst rfl ?_
              refine rr_goto rfl rfl ?_
              exact K86 _ (by unfold kHold; omega)
            · refine rr_aload_n rfl rfl ?_
              refine rr_gfI 44 rfl rfl (by omega) rfl (fun b73 => ?_)
              refine rr_bipush (x := 40) rfl rfl ?_
              refine rr_icmp_ne rfl rfl (by omega) (by omega) (fun h78 => ?_) (fun h78 => ?_)
              · refine rr_iconst rfl ?_
                exact K86 _ (by unfold kHold; omega)
              · refine rr_iconst rfl ?_
                refine rr_goto rfl rfl ?_
                exact K86 _ (by unfold kHold; omega)
          · refine rr_iconst rfl ?_
            refine rr_goto rfl rfl ?_
            exact K86 _ (by unfold kHold; omega)
        · refine rr_iconst rfl ?_
          refine rr_goto rfl rfl ?_
          exact K86 _ (by unfold kHold; omega)
    · refine rr_iload rfl rfl ?_
      refine rr_if_eqB rfl rfl (fun h37 => ?_) (fun h37 => ?_)
      · refine rr_aload_n rfl rfl ?_
        refine rr_join (pc' := 86) (V := kHold s n m h) ?_ (fun K86 => ?_)
        · refine rr_cv1B rfl rfl rfl (Nat.le_of_ble_eq_true rfl) (sr_fails (d := 0) (by unfold kHold; omega)) (by omega) ?_
          refine rr_if_eqB rfl rfl (fun h89 => ?_) (fun h89 => ?_)
          · have hk : kHold s n m h = 0 := by { have z : 0 ≤ kHold s n m h := by { unfold kHold; omega }; omega }
            have hk2 := hk
            unfold kHold at hk2
            first | exact False.elim (by omega) | exact H94 _ _ _ q42 hk
          · refine rr_iconst rfl ?_
            refine rr_iret rfl (Or.inl rfl) ?_
            first | exact ⟨_, rfl, fun z => absurd z (by omega), fun _ => ⟨rfl, _, rfl, Or.inl rfl⟩⟩ | exact ⟨_, rfl, fun z => absurd z (by omega), fun _ => ⟨rfl, _, rfl, Or.inr q42.1⟩⟩
        · refine rr_iload rfl rfl ?_
          refine rr_if_neB rfl rfl (fun h48 => ?_) (fun h48 => ?_)
          · refine rr_iload rfl rfl ?_
            refine rr_if_neB rfl rfl (fun h57 => ?_) (fun h57 => ?_)
            · refine rr_aload_n rfl rfl ?_
              refine rr_gfI 37 rfl rfl (by omega) rfl (fun b65 => ?_)
              refine rr_iconst rfl ?_
              refine rr_icmp_eq rfl rfl (by omega) (by omega) (fun h69 => ?_) (fun h69 => ?_)
              · refine rr_iconst rfl ?_
                refine rr_goto rfl rfl ?_
                exact K86 _ (by unfold kHold; omega)
              · refine rr_aload_n rfl rfl ?_
                refine rr_gfI 44 rfl rfl (by omega) rfl (fun b73 => ?_)
                refine rr_bipush (x := 40) rfl rfl ?_
                refine rr_icmp_ne rfl rfl (by omega) (by omega) (fun h78 => ?_) (fun h78 => ?_)
                · refine rr_iconst rfl ?_
                  exact K86 _ (by unfold kHold; omega)
                · refine rr_iconst rfl ?_
                  refine rr_goto rfl rfl ?_
                  exact K86 _ (by unfold kHold; omega)
            · refine rr_iconst rfl ?_
              refine rr_goto rfl rfl ?_
              exact K86 _ (by unfold kHold; omega)
          · refine rr_iconst rfl ?_
            refine rr_goto rfl rfl ?_
            exact K86 _ (by unfold kHold; omega)
      · refine rr_aload_n rfl rfl ?_
        refine rr_iload_n rfl rfl ?_
        refine rr_cv1V rfl rfl rfl (Nat.le_of_ble_eq_true rfl) (sr_buildsDraft (d := 0) (by omega)) (by omega) (fun s42 q42 => ?_)
        have g37 := q42.2.1
        have e44 : rI s42 44 = rI s 44 := q42.1.2 44 (by omega) (by omega)
        refine rr_inS (fun B42 => ?_)
        have b44 := B42.2.1 44 0 40 rfl
        refine rr_aload_n rfl rfl ?_
        refine rr_join (pc' := 86) (V := kHold s n m h) ?_ (fun K86 => ?_)
        · refine rr_cv1B rfl rfl rfl (Nat.le_of_ble_eq_true rfl) (sr_fails (d := 0) (by unfold kHold; omega)) (by omega) ?_
          refine rr_if_eqB rfl rfl (fun h89 => ?_) (fun h89 => ?_)
          · have hk : kHold s n m h = 0 := by { have z : 0 ≤ kHold s n m h := by { unfold kHold; omega }; omega }
            have hk2 := hk
            unfold kHold at hk2
            first | exact False.elim (by omega) | exact H94 _ _ _ q42 hk
          · refine rr_iconst rfl ?_
            refine rr_iret rfl (Or.inl rfl) ?_
            first | exact ⟨_, rfl, fun z => absurd z (by omega), fun _ => ⟨rfl, _, rfl, Or.inl rfl⟩⟩ | exact ⟨_, rfl, fun z => absurd z (by omega), fun _ => ⟨rfl, _, rfl, Or.inr q42.1⟩⟩
        · refine rr_iload rfl rfl ?_
          refine rr_if_neB rfl rfl (fun h48 => ?_) (fun h48 => ?_)
          · refine rr_iload rfl rfl ?_
            refine rr_if_neB rfl rfl (fun h57 => ?_) (fun h57 => ?_)
            · refine rr_aload_n rfl rfl ?_
              refine rr_gfI 37 rfl rfl (by omega) rfl (fun b65 => ?_)
              refine rr_iconst rfl ?_
              refine rr_icmp_eq rfl rfl (by omega) (by omega) (fun h69 => ?_) (fun h69 => ?_)
              · refine rr_iconst rfl ?_
                refine rr_goto rfl rfl ?_
                exact K86 _ (by unfold kHold; omega)
              · refine rr_aload_n rfl rfl ?_
                refine rr_gfI 44 rfl rfl (by omega) rfl (fun b73 => ?_)
                refine rr_bipush (x := 40) rfl rfl ?_
                refine rr_icmp_ne rfl rfl (by omega) (by omega) (fun h78 => ?_) (fun h78 => ?_)
                · refine rr_iconst rfl ?_
                  exact K86 _ (by unfold kHold; omega)
                · refine rr_iconst rfl ?_
                  refine rr_goto rfl rfl ?_
                  exact K86 _ (by unfold kHold; omega)
            · refine rr_iconst rfl ?_
              refine rr_goto rfl rfl ?_
              exact K86 _ (by unfold kHold; omega)
          · refine rr_iconst rfl ?_
            refine rr_goto rfl rfl ?_
            exact K86 _ (by unfold kHold; omega)
  · refine rr_iload_n rfl rfl ?_
    refine rr_cs1B rfl rfl (Nat.le_of_ble_eq_true rfl) (sr_isMany (d := 0) (by omega)) (by omega) ?_
    refine rr_if_eqB rfl rfl (fun h10 => ?_) (fun h10 => ?_)
    · refine rr_iconst rfl ?_
      exact K28 _ (by first | omega | (simp_all) | (split <;> omega))
    · refine rr_iload_n rfl rfl ?_
      refine rr_iconst rfl ?_
      refine rr_bipush (x := 72) rfl rfl ?_
      refine rr_cs3B rfl rfl (Nat.le_of_ble_eq_true rfl) (sr_isIn (d := 0) (by omega) (by omega) (by omega)) (by omega) ?_
      refine rr_if_eqB rfl rfl (fun h20 => ?_) (fun h20 => ?_)
      · refine rr_iconst rfl ?_
        exact K28 _ (by first | omega | (simp_all) | (split <;> omega))
      · refine rr_iconst rfl ?_
        refine rr_goto rfl rfl ?_
        exact K28 _ (by first | omega | (simp_all) | (split <;> omega))
end

noncomputable section
/-- the script stays -/
def am_S31 (q q' : am_A) : Prop := qAL q' (31, 0) = qAL q (31, 0) ∧ ∀ i, qAI q' (31, 0) i = qAI q (31, 0) i
theorem S31_r {q : am_A} : am_S31 q q := ⟨rfl, fun _ => rfl⟩
theorem S31_t {a b c : am_A} (x : am_S31 a b) (y : am_S31 b c) : am_S31 a c := ⟨y.1.trans x.1, fun i => (y.2 i).trans (x.2 i)⟩
theorem S31_CY {q q' : am_A} (Y : am_CY q q') : am_S31 q q' := by
  have y := Y.1 (31, 0) (by show ¬ cK 31; omega)
  exact ⟨y.2.2.2.2.2.2.1, y.2.2.1⟩
theorem SC_31 {q q' : am_A} {L : Nat} {X : Nat → Int} (h : am_SC q L X) (Y : am_S31 q q') : am_SC q' L X := ⟨Y.1.trans h.1, fun i => (Y.2 i).trans (h.2 i)⟩
/-- stores into the law's arrays -/
def am_W24 (q q' : am_A) : Prop := (∀ e s, am_CI e q s → am_CI e q' s) ∧ (am_DFh q → am_DFh q') ∧ am_S31 q q'
theorem W24_r {q : am_A} : am_W24 q q := ⟨fun _ _ I => I, fun F => F, S31_r⟩
theorem W24_t {a b c : am_A} (x : am_W24 a b) (y : am_W24 b c) : am_W24 a c := ⟨fun e s I => y.1 e s (x.1 e s I), fun F => y.2.1 (x.2.1 F), S31_t x.2.2 y.2.2⟩
theorem W24_s {q : am_A} {j k : Nat} {v : Int} : am_W24 q (uAI q (24, j) k v) := ⟨fun e s I => CI_24 I, fun F => F, rfl, fun i => by
  show (if ((31, 0) : am_R) = (24, j) ∧ i = k then v else qAI q (31, 0) i) = qAI q (31, 0) i
  exact if_neg (fun z => by have y := congrArg Prod.fst z.1; exact absurd (show (31 : Nat) = 24 from y) (by decide))⟩
theorem ar_ial24 {d y pc p n : Nat} {ls : List (Option am_V)} {st : List am_V} {q : am_A} {Q : am_O → am_A → Prop} {j : Nat} {i : Int} {T : am_LT} (hc : am_c y pc = some (.iaload, p)) (H : am_LA q T) (hj : j < 8) (hn : lLen j = n) (hi : 0 ≤ i ∧ i < (n : Int)) (k : am_W2 d y p ls (aI (zI (T j i)) :: st) q Q) : am_W2 d y pc ls (aI (zI i) :: aR 24 j :: st) q Q := by
  have h := H j hj
  have l : lLen j ≤ 60 := by
    unfold lLen
    split <;> omega
  refine ar_ia hc rfl h.1 ⟨hi.1, by omega⟩ (by omega) ?_
  rw [h.2 i hi.1 (by omega)]
  exact k
theorem ar_ias24 {d y pc p n : Nat} {ls : List (Option am_V)} {st : List am_V} {q : am_A} {Q : am_O → am_A → Prop} {j : Nat} {i v : Int} {T : am_LT} (hc : am_c y pc = some (.iastore, p)) (H : am_LA q T) (hj : j < 8) (hn : lLen j = n) (hi : 0 ≤ i ∧ i < (n : Int)) (k : ∀ q', am_LA q' (uT T j i v) → am_W24 q q' → am_W2 d y p ls st q' Q) : am_W2 d y pc ls (aI (zI v) :: aI (zI i) :: aR 24 j :: st) q Q := by
  have h := H j hj
  have l : lLen j ≤ 60 := by
    unfold lLen
    split <;> omega
  refine ar_ias hc ⟨rfl, by omega⟩ h.1 ⟨hi.1, by omega⟩ (by omega) ?_
  exact k _ (LA_w H hi.1) W24_s
/-- law and class together -/
def am_LS (q : am_A) (s : am_Z) (T : am_LT) : Prop := am_DFh q ∧ am_JJ s ∧ am_LA q T ∧ am_PL s T
/-- behind a method of the law that answers yes -/
def am_LR (c e : Nat) (q : am_A) (s : am_Z) : am_O → am_A → Prop := fun o q' => o = .inl (some (aI (zI 1))) ∧ ∃ s' T', am_CI (e + c) q' s' ∧ am_LS q' s' T' ∧ am_S31 q q' ∧ rI s' 0 = rI s 0
theorem PL_KF {s s' : am_Z} {T : am_LT} (P : am_PL s T) (K : am_KF s s') (n0 : rI s' 0 = rI s 0) (h68 : rI s' 68 = rI s 68) : am_PL s' T := by
  obtain ⟨⟨p0, p1, p2, p3, p4, p5, p6⟩, pn, pm, pf, pb, px⟩ := P
  obtain ⟨k1, k2, k3⟩ := K
  have e59 : rA s' 59 = rA s 59 := funext (fun x => k2 59 x (by omega))
  refine ⟨⟨by rw [k1 3 (by omega)]; exact p0, by rw [k1 20 (by omega)]; exact p1, by rw [n0]; exact p2, by rw [k1 33 (by omega)]; exact p3, by rw [k1 44 (by omega)]; exact p4, by rw [k1 61 (by omega)]; exact p5, P6_cg p6 h68 n0 rfl⟩, fun f h1 h2 => ?_, fun f b h1 h2 h3 h4 => ?_, fun i h1 h2 => ?_, fun k h1 h2 => ?_, fun w h1 h2 => ?_⟩
  · rw [k2 4 _ (by omega), k2 5 _ (by omega), k2 6 _ (by omega), k2 8 _ (by omega), k2 9 _ (by omega)]
    exact pn f h1 (by rw [k1 3 (by omega)] at h2; exact h2)
  · rw [k2 14 _ (by omega)]
    exact pm f b h1 (by rw [k1 3 (by omega)] at h2; exact h2) h3 h4
  · rw [k2 25 _ (by omega)]
    exact pf i h1 (by rw [k1 20 (by omega)] at h2; exact h2)
  · rw [e59, k2 46 _ (by omega)]
    exact pb k h1 (by rw [k1 44 (by omega)] at h2; exact h2)
  · rw [k2 63 _ (by omega)]
    exact px w h1 (by rw [k1 61 (by omega)] at h2; exact h2)
theorem kdx3 (k : Int) : k ≠ 0 → kd3 k = 13 ∨ kd3 k = 14 ∨ kd3 k = 15 := fun _ => by unfold kd3; split; exact Or.inl rfl; split; exact Or.inr (Or.inl rfl); exact Or.inr (Or.inr rfl)
theorem kdx2 (k : Int) : k ≠ 0 → kd2 k = 13 ∨ kd2 k = 14 ∨ kd2 k = 15 := fun _ => by unfold kd2; split; exact Or.inl rfl; exact Or.inr (Or.inr rfl)
theorem kdx1 (k : Int) : k ≠ 0 → kd1 k = 13 ∨ kd1 k = 14 ∨ kd1 k = 15 := fun _ => Or.inr (Or.inl rfl)
theorem dz_setZone {d e : Nat} {q : am_A} {s : am_Z} {a b c p r t : Int} (I : am_CI e q s) (F : am_DFh q) (J : am_JJ s) (ha : in32 a) (hb : in32 b) (hk : kSetZone s a b = 0) : am_C2 (d + 21) m_L_does [aR 8 0, aI (zI 0), aI (zI a), aI (zI b), aI (zI c), aI (zI p), aI (zI r), aI (zI t)] q (am_OX e q (wA s 1 a b) (rA s 1 a)) := by
  have h := ds_setZone (d := d) (e := e) (q := q) (s1 := (wA s 1 a b)) (a := a) (b := b) (c := c) (p := p) (r := r) (t := t) (k := 0) (v := rA s 1 a) (kd := kd3) (fun z => absurd rfl z) (am_C2_imp (co_setZone (d := 18) I ha hb) (fun o q1 h => by { rw [hk, if_pos rfl] at h; exact OQ_OP F h }))
  rw [rc_0 rfl] at h
  exact h
theorem dx_setZone {d e : Nat} {q : am_A} {s : am_Z} {a b c p r t : Int} (I : am_CI e q s) (F : am_DFh q) (J : am_JJ s) (ha : in32 a) (hb : in32 b) {k R : Int} (hk : kSetZone s a b = k) (h0 : k ≠ 0) (hR : am_rc k kd3 (rA s 1 a) = R) : am_C2 (d + 21) m_L_does [aR 8 0, aI (zI 0), aI (zI a), aI (zI b), aI (zI c), aI (zI p), aI (zI r), aI (zI t)] q (am_OX e q s R) := by
  have h := ds_setZone (d := d) (e := e) (q := q) (s1 := s) (a := a) (b := b) (c := c) (p := p) (r := r) (t := t) (k := k) (v := rA s 1 a) (kd := kd3) (kdx3 k) (am_C2_imp (co_setZone (d := 18) I ha hb) (fun o q1 h => by { rw [hk, if_neg h0] at h; exact OQ_OP F h }))
  rw [hR] at h
  exact h
theorem dz_setTax {d e : Nat} {q : am_A} {s : am_Z} {a b c p r t : Int} (I : am_CI e q s) (F : am_DFh q) (J : am_JJ s) (ha : in32 a) (hb : in32 b) (hk : kSetTax s a b = 0) : am_C2 (d + 21) m_L_does [aR 8 0, aI (zI 1), aI (zI a), aI (zI b), aI (zI c), aI (zI p), aI (zI r), aI (zI t)] q (am_OX e q (wA s 2 a b) (rA s 2 a)) := by
  have h := ds_setTax (d := d) (e := e) (q := q) (s1 := (wA s 2 a b)) (a := a) (b := b) (c := c) (p := p) (r := r) (t := t) (k := 0) (v := rA s 2 a) (kd := kd3) (fun z => absurd rfl z) (am_C2_imp (co_setTax (d := 18) I ha hb) (fun o q1 h => by { rw [hk, if_pos rfl] at h; exact OQ_OP F h }))
  rw [rc_0 rfl] at h
  exact h
theorem dx_setTax {d e : Nat} {q : am_A} {s : am_Z} {a b c p r t : Int} (I : am_CI e q s) (F : am_DFh q) (J : am_JJ s) (ha : in32 a) (hb : in32 b) {k R : Int} (hk : kSetTax s a b = k) (h0 : k ≠ 0) (hR : am_rc k kd3 (rA s 2 a) = R) : am_C2 (d + 21) m_L_does [aR 8 0, aI (zI 1), aI (zI a), aI (zI b), aI (zI c), aI (zI p), aI (zI r), aI (zI t)] q (am_OX e q s R) := by
  have h := ds_setTax (d := d) (e := e) (q := q) (s1 := s) (a := a) (b := b) (c := c) (p := p) (r := r) (t := t) (k := k) (v := rA s 2 a) (kd := kd3) (kdx3 k) (am_C2_imp (co_setTax (d := 18) I ha hb) (fun o q1 h => by { rw [hk, if_neg h0] at h; exact OQ_OP F h }))
  rw [hR] at h
  exact h
theorem dz_flight {d e : Nat} {q : am_A} {s : am_Z} {a b c p r t : Int} (I : am_CI e q s) (F : am_DFh q) (J : am_JJ s) (ha : in32 a) (hb : in32 b) (hc : in32 c) (hp : in32 p) (hr : in32 r) (ht : in32 t) (hk : kFlight s a b c p r t = 0) : am_C2 (d + 21) m_L_does [aR 8 0, aI (zI 2), aI (zI a), aI (zI b), aI (zI c), aI (zI p), aI (zI r), aI (zI t)] q (am_OX e q (flightS s a b c p r t) (rI s 3)) := by
  have h := ds_flight (d := d) (e := e) (q := q) (s1 := (flightS s a b c p r t)) (a := a) (b := b) (c := c) (p := p) (r := r) (t := t) (k := 0) (v := rI s 3) (kd := kd3) (fun z => absurd rfl z) (am_C2_imp (co_flight (d := 14) I (INV_VG J.1) ha hb hc hp hr ht) (fun o q1 h => by { rw [hk, if_pos rfl] at h; exact OQ_OP F h }))
  rw [rc_0 rfl] at h
  exact h
theorem dx_flight {d e : Nat} {q : am_A} {s : am_Z} {a b c p r t : Int} (I : am_CI e q s) (F : am_DFh q) (J : am_JJ s) (ha : in32 a) (hb : in32 b) (hc : in32 c) (hp : in32 p) (hr : in32 r) (ht : in32 t) {k R : Int} (hk : kFlight s a b c p r t = k) (h0 : k ≠ 0) (hR : am_rc k kd3 (rI s 3) = R) : am_C2 (d + 21) m_L_does [aR 8 0, aI (zI 2), aI (zI a), aI (zI b), aI (zI c), aI (zI p), aI (zI r), aI (zI t)] q (am_OX e q s R) := by
  have h := ds_flight (d := d) (e := e) (q := q) (s1 := s) (a := a) (b := b) (c := c) (p := p) (r := r) (t := t) (k := k) (v := rI s 3) (kd := kd3) (kdx3 k) (am_C2_imp (co_flight (d := 14) I (INV_VG J.1) ha hb hc hp hr ht) (fun o q1 h => by { rw [hk, if_neg h0] at h; exact OQ_OP F h }))
  rw [hR] at h
  exact h
theorem dz_days {d e : Nat} {q : am_A} {s : am_Z} {a b c p r t : Int} (I : am_CI e q s) (F : am_DFh q) (J : am_JJ s) (ha : in32 a) (hb : in32 b) (hc : in32 c) (hp : in32 p) (hk : kDays s a b c p = 0) : am_C2 (d + 21) m_L_does [aR 8 0, aI (zI 3), aI (zI a), aI (zI b), aI (zI c), aI (zI p), aI (zI r), aI (zI t)] q (am_OX e q (daysS s a b c p) (sumI 0 61 (nThere (daysS s a b c p) a))) := by
  have h := ds_days (d := d) (e := e) (q := q) (s1 := (daysS s a b c p)) (a := a) (b := b) (c := c) (p := p) (r := r) (t := t) (k := 0) (v := sumI 0 61 (nThere (daysS s a b c p) a)) (kd := kd3) (fun z => absurd rfl z) (am_C2_imp (co_days (d := 16) I (INV_VG J.1) ha hb hc hp) (fun o q1 h => by { rw [hk, if_pos rfl] at h; exact OQ_OP F h }))
  rw [rc_0 rfl] at h
  exact h
theorem dx_days {d e : Nat} {q : am_A} {s : am_Z} {a b c p r t : Int} (I : am_CI e q s) (F : am_DFh q) (J : am_JJ s) (ha : in32 a) (hb : in32 b) (hc : in32 c) (hp : in32 p) {k R : Int} (hk : kDays s a b c p = k) (h0 : k ≠ 0) (hR : am_rc k kd3 (sumI 0 61 (nThere (daysS s a b c p) a)) = R) : am_C2 (d + 21) m_L_does [aR 8 0, aI (zI 3), aI (zI a), aI (zI b), aI (zI c), aI (zI p), aI (zI r), aI (zI t)] q (am_OX e q s R) := by
  have h := ds_days (d := d) (e := e) (q := q) (s1 := s) (a := a) (b := b) (c := c) (p := p) (r := r) (t := t) (k := k) (v := sumI 0 61 (nThere (daysS s a b c p) a)) (kd := kd3) (kdx3 k) (am_C2_imp (co_days (d := 16) I (INV_VG J.1) ha hb hc hp) (fun o q1 h => by { rw [hk, if_neg h0] at h; exact OQ_OP F h }))
  rw [hR] at h
  exact h
theorem dz_limit {d e : Nat} {q : am_A} {s : am_Z} {a b c p r t : Int} (I : am_CI e q s) (F : am_DFh q) (J : am_JJ s) (ha : in32 a) (hb : in32 b) (hc : in32 c) (hk : kLimit s a b c = 0) : am_C2 (d + 21) m_L_does [aR 8 0, aI (zI 4), aI (zI a), aI (zI b), aI (zI c), aI (zI p), aI (zI r), aI (zI t)] q (am_OX e q (wA s 14 (4 * a + b) c) (rA s 14 (4 * a + b))) := by
  have h := ds_limit (d := d) (e := e) (q := q) (s1 := (wA s 14 (4 * a + b) c)) (a := a) (b := b) (c := c) (p := p) (r := r) (t := t) (k := 0) (v := rA s 14 (4 * a + b)) (kd := kd3) (fun z => absurd rfl z) (am_C2_imp (co_limit (d := 16) I ha hb hc) (fun o q1 h => by { rw [hk, if_pos rfl] at h; exact OQ_OP F h }))
  rw [rc_0 rfl] at h
  exact h
theorem dx_limit {d e : Nat} {q : am_A} {s : am_Z} {a b c p r t : Int} (I : am_CI e q s) (F : am_DFh q) (J : am_JJ s) (ha : in32 a) (hb : in32 b) (hc : in32 c) {k R : Int} (hk : kLimit s a b c = k) (h0 : k ≠ 0) (hR : am_rc k kd3 (rA s 14 (4 * a + b)) = R) : am_C2 (d + 21) m_L_does [aR 8 0, aI (zI 4), aI (zI a), aI (zI b), aI (zI c), aI (zI p), aI (zI r), aI (zI t)] q (am_OX e q s R) := by
  have h := ds_limit (d := d) (e := e) (q := q) (s1 := s) (a := a) (b := b) (c := c) (p := p) (r := r) (t := t) (k := k) (v := rA s 14 (4 * a + b)) (kd := kd3) (kdx3 k) (am_C2_imp (co_limit (d := 16) I ha hb hc) (fun o q1 h => by { rw [hk, if_neg h0] at h; exact OQ_OP F h }))
  rw [hR] at h
  exact h
theorem dz_link {d e : Nat} {q : am_A} {s : am_Z} {a b c p r t : Int} (I : am_CI e q s) (F : am_DFh q) (J : am_JJ s) (ha : in32 a) (hb : in32 b) (hc : in32 c) (hk : kLink s a b = 0) : am_C2 (d + 21) m_L_does [aR 8 0, aI (zI 5), aI (zI a), aI (zI b), aI (zI c), aI (zI p), aI (zI r), aI (zI t)] q (am_OX e q (wA (wA s 15 a b) 16 a (if c = 1 then 1 else 0)) (rA s 15 a)) := by
  have h := ds_link (d := d) (e := e) (q := q) (s1 := (wA (wA s 15 a b) 16 a (if c = 1 then 1 else 0))) (a := a) (b := b) (c := c) (p := p) (r := r) (t := t) (k := 0) (v := rA s 15 a) (kd := kd3) hc (fun z => absurd rfl z) (am_C2_imp (co_link (d := 16) I ha hb (show (if c = 1 then (1 : Int) else 0) = 0 ∨ (if c = 1 then (1 : Int) else 0) = 1 by split <;> omega)) (fun o q1 h => by { rw [hk, if_pos rfl] at h; exact OQ_OP F h }))
  rw [rc_0 rfl] at h
  exact h
theorem dx_link {d e : Nat} {q : am_A} {s : am_Z} {a b c p r t : Int} (I : am_CI e q s) (F : am_DFh q) (J : am_JJ s) (ha : in32 a) (hb : in32 b) (hc : in32 c) {k R : Int} (hk : kLink s a b = k) (h0 : k ≠ 0) (hR : am_rc k kd3 (rA s 15 a) = R) : am_C2 (d + 21) m_L_does [aR 8 0, aI (zI 5), aI (zI a), aI (zI b), aI (zI c), aI (zI p), aI (zI r), aI (zI t)] q (am_OX e q s R) := by
  have h := ds_link (d := d) (e := e) (q := q) (s1 := s) (a := a) (b := b) (c := c) (p := p) (r := r) (t := t) (k := k) (v := rA s 15 a) (kd := kd3) hc (kdx3 k) (am_C2_imp (co_link (d := 16) I ha hb (show (if c = 1 then (1 : Int) else 0) = 0 ∨ (if c = 1 then (1 : Int) else 0) = 1 by split <;> omega)) (fun o q1 h => by { rw [hk, if_neg h0] at h; exact OQ_OP F h }))
  rw [hR] at h
  exact h
theorem dz_fare {d e : Nat} {q : am_A} {s : am_Z} {a b c p r t : Int} (I : am_CI e q s) (F : am_DFh q) (J : am_JJ s) (ha : in32 a) (hb : in32 b) (hc : in32 c) (hp : in32 p) (hr : in32 r) (hk : kFare s a b c p r = 0) : am_C2 (d + 21) m_L_does [aR 8 0, aI (zI 6), aI (zI a), aI (zI b), aI (zI c), aI (zI p), aI (zI r), aI (zI t)] q (am_OX e q (fareS s a b c p r) (rI s 20)) := by
  have h := ds_fare (d := d) (e := e) (q := q) (s1 := (fareS s a b c p r)) (a := a) (b := b) (c := c) (p := p) (r := r) (t := t) (k := 0) (v := rI s 20) (kd := kd3) (fun z => absurd rfl z) (am_C2_imp (co_fare (d := 14) I (INV_VG J.1) ha hb hc hp hr) (fun o q1 h => by { rw [hk, if_pos rfl] at h; exact OQ_OP F h }))
  rw [rc_0 rfl] at h
  exact h
theorem dx_fare {d e : Nat} {q : am_A} {s : am_Z} {a b c p r t : Int} (I : am_CI e q s) (F : am_DFh q) (J : am_JJ s) (ha : in32 a) (hb : in32 b) (hc : in32 c) (hp : in32 p) (hr : in32 r) {k R : Int} (hk : kFare s a b c p r = k) (h0 : k ≠ 0) (hR : am_rc k kd3 (rI s 20) = R) : am_C2 (d + 21) m_L_does [aR 8 0, aI (zI 6), aI (zI a), aI (zI b), aI (zI c), aI (zI p), aI (zI r), aI (zI t)] q (am_OX e q s R) := by
  have h := ds_fare (d := d) (e := e) (q := q) (s1 := s) (a := a) (b := b) (c := c) (p := p) (r := r) (t := t) (k := k) (v := rI s 20) (kd := kd3) (kdx3 k) (am_C2_imp (co_fare (d := 14) I (INV_VG J.1) ha hb hc hp hr) (fun o q1 h => by { rw [hk, if_neg h0] at h; exact OQ_OP F h }))
  rw [hR] at h
  exact h
theorem dz_back {d e : Nat} {q : am_A} {s : am_Z} {a b c p r t : Int} (I : am_CI e q s) (F : am_DFh q) (J : am_JJ s) (ha : in32 a) (hb : in32 b) (hk : kBack s a b = 0) : am_C2 (d + 21) m_L_does [aR 8 0, aI (zI 7), aI (zI a), aI (zI b), aI (zI c), aI (zI p), aI (zI r), aI (zI t)] q (am_OX e q (wA s 32 a b) (rA s 32 a)) := by
  have h := ds_back (d := d) (e := e) (q := q) (s1 := (wA s 32 a b)) (a := a) (b := b) (c := c) (p := p) (r := r) (t := t) (k := 0) (v := rA s 32 a) (kd := kd3) (fun z => absurd rfl z) (am_C2_imp (co_back (d := 16) I ha hb) (fun o q1 h => by { rw [hk, if_pos rfl] at h; exact OQ_OP F h }))
  rw [rc_0 rfl] at h
  exact h
theorem dx_back {d e : Nat} {q : am_A} {s : am_Z} {a b c p r t : Int} (I : am_CI e q s) (F : am_DFh q) (J : am_JJ s) (ha : in32 a) (hb : in32 b) {k R : Int} (hk : kBack s a b = k) (h0 : k ≠ 0) (hR : am_rc k kd3 (rA s 32 a) = R) : am_C2 (d + 21) m_L_does [aR 8 0, aI (zI 7), aI (zI a), aI (zI b), aI (zI c), aI (zI p), aI (zI r), aI (zI t)] q (am_OX e q s R) := by
  have h := ds_back (d := d) (e := e) (q := q) (s1 := s) (a := a) (b := b) (c := c) (p := p) (r := r) (t := t) (k := k) (v := rA s 32 a) (kd := kd3) (kdx3 k) (am_C2_imp (co_back (d := 16) I ha hb) (fun o q1 h => by { rw [hk, if_neg h0] at h; exact OQ_OP F h }))
  rw [hR] at h
  exact h
theorem dz_cancelLeg {d e : Nat} {q : am_A} {s : am_Z} {a b c p r t : Int} (I : am_CI e q s) (F : am_DFh q) (J : am_JJ s) (ha : in32 a) (hk : kCancelLeg s a = 0) : am_C2 (d + 21) m_L_does [aR 8 0, aI (zI 8), aI (zI a), aI (zI b), aI (zI c), aI (zI p), aI (zI r), aI (zI t)] q (am_OX e q (cancS s a) (tkVc s a)) := by
  have h := ds_cancelLeg (d := d) (e := e) (q := q) (s1 := (cancS s a)) (a := a) (b := b) (c := c) (p := p) (r := r) (t := t) (k := 0) (v := tkVc s a) (kd := kd2) (fun z => absurd rfl z) (am_C2_imp (co_cancelLeg (d := 15) I J.1.2.1.2.1 ha) (fun o q1 h => by { rw [hk, if_pos rfl] at h; exact OQ_OP F h }))
  rw [rc_0 rfl] at h
  exact h
theorem dx_cancelLeg {d e : Nat} {q : am_A} {s : am_Z} {a b c p r t : Int} (I : am_CI e q s) (F : am_DFh q) (J : am_JJ s) (ha : in32 a) {k R : Int} (hk : kCancelLeg s a = k) (h0 : k ≠ 0) (hR : am_rc k kd2 (tkVc s a) = R) : am_C2 (d + 21) m_L_does [aR 8 0, aI (zI 8), aI (zI a), aI (zI b), aI (zI c), aI (zI p), aI (zI r), aI (zI t)] q (am_OX e q s R) := by
  have h := ds_cancelLeg (d := d) (e := e) (q := q) (s1 := s) (a := a) (b := b) (c := c) (p := p) (r := r) (t := t) (k := k) (v := tkVc s a) (kd := kd2) (kdx2 k) (am_C2_imp (co_cancelLeg (d := 15) I J.1.2.1.2.1 ha) (fun o q1 h => by { rw [hk, if_neg h0] at h; exact OQ_OP F h }))
  rw [hR] at h
  exact h
theorem dz_delay {d e : Nat} {q : am_A} {s : am_Z} {a b c p r t : Int} (I : am_CI e q s) (F : am_DFh q) (J : am_JJ s) (ha : in32 a) (hb : in32 b) (hk : kDelay s a b = 0) : am_C2 (d + 21) m_L_does [aR 8 0, aI (zI 9), aI (zI a), aI (zI b), aI (zI c), aI (zI p), aI (zI r), aI (zI t)] q (am_OX e q (delayS s a b) (sumI 0 732 (nTch (delayS s a b)))) := by
  have h := ds_delay (d := d) (e := e) (q := q) (s1 := (delayS s a b)) (a := a) (b := b) (c := c) (p := p) (r := r) (t := t) (k := 0) (v := sumI 0 732 (nTch (delayS s a b))) (kd := kd3) (fun z => absurd rfl z) (am_C2_imp (co_delay (d := 13) I J.1.2.1.2.1 ha hb) (fun o q1 h => by { rw [hk, if_pos rfl] at h; exact OQ_OP F h }))
  rw [rc_0 rfl] at h
  exact h
theorem dx_delay {d e : Nat} {q : am_A} {s : am_Z} {a b c p r t : Int} (I : am_CI e q s) (F : am_DFh q) (J : am_JJ s) (ha : in32 a) (hb : in32 b) {k R : Int} (hk : kDelay s a b = k) (h0 : k ≠ 0) (hR : am_rc k kd3 (sumI 0 732 (nTch (delayS s a b))) = R) : am_C2 (d + 21) m_L_does [aR 8 0, aI (zI 9), aI (zI a), aI (zI b), aI (zI c), aI (zI p), aI (zI r), aI (zI t)] q (am_OX e q s R) := by
  have h := ds_delay (d := d) (e := e) (q := q) (s1 := s) (a := a) (b := b) (c := c) (p := p) (r := r) (t := t) (k := k) (v := sumI 0 732 (nTch (delayS s a b))) (kd := kd3) (kdx3 k) (am_C2_imp (co_delay (d := 13) I J.1.2.1.2.1 ha hb) (fun o q1 h => by { rw [hk, if_neg h0] at h; exact OQ_OP F h }))
  rw [hR] at h
  exact h
theorem dz_leg {d e : Nat} {q : am_A} {s : am_Z} {a b c p r t : Int} (I : am_CI e q s) (F : am_DFh q) (J : am_JJ s) (ha : in32 a) (hk : kLegA s a = 0) : am_C2 (d + 21) m_L_does [aR 8 0, aI (zI 10), aI (zI a), aI (zI b), aI (zI c), aI (zI p), aI (zI r), aI (zI t)] q (am_OX e q (legS s a) (rI s 33 + 1)) := by
  have h := ds_leg (d := d) (e := e) (q := q) (s1 := (legS s a)) (a := a) (b := b) (c := c) (p := p) (r := r) (t := t) (k := 0) (v := rI s 33 + 1) (kd := kd2) (fun z => absurd rfl z) (am_C2_imp (co_leg (d := 14) I ha) (fun o q1 h => by { rw [hk, if_pos rfl] at h; exact OQ_OP F h }))
  rw [rc_0 rfl] at h
  exact h
theorem dx_leg {d e : Nat} {q : am_A} {s : am_Z} {a b c p r t : Int} (I : am_CI e q s) (F : am_DFh q) (J : am_JJ s) (ha : in32 a) {k R : Int} (hk : kLegA s a = k) (h0 : k ≠ 0) (hR : am_rc k kd2 (rI s 33 + 1) = R) : am_C2 (d + 21) m_L_does [aR 8 0, aI (zI 10), aI (zI a), aI (zI b), aI (zI c), aI (zI p), aI (zI r), aI (zI t)] q (am_OX e q s R) := by
  have h := ds_leg (d := d) (e := e) (q := q) (s1 := s) (a := a) (b := b) (c := c) (p := p) (r := r) (t := t) (k := k) (v := rI s 33 + 1) (kd := kd2) (kdx2 k) (am_C2_imp (co_leg (d := 14) I ha) (fun o q1 h => by { rw [hk, if_neg h0] at h; exact OQ_OP F h }))
  rw [hR] at h
  exact h
theorem dz_price {d e : Nat} {q : am_A} {s : am_Z} {a b c p r t : Int} (I : am_CI e q s) (F : am_DFh q) (J : am_JJ s) (ha : in32 a) (hk : kMany a = 0) : am_C2 (d + 21) m_L_does [aR 8 0, aI (zI 11), aI (zI a), aI (zI b), aI (zI c), aI (zI p), aI (zI r), aI (zI t)] q (am_OX e q (s) ((bestW (jrn s) a).1)) := by
  have h := ds_price (d := d) (e := e) (q := q) (s1 := s) (a := a) (b := b) (c := c) (p := p) (r := r) (t := t) (k := 0) (v := (bestW (jrn s) a).1) (kd := kd1) (fun z => absurd rfl z) (am_C2_imp (cs_price (d := 3) I ha) (fun o q1 h => by { rw [hk] at h; exact OQ_OP F h }))
  rw [rc_0 rfl] at h
  exact h
theorem dx_price {d e : Nat} {q : am_A} {s : am_Z} {a b c p r t : Int} (I : am_CI e q s) (F : am_DFh q) (J : am_JJ s) (ha : in32 a) {k R : Int} (hk : kMany a = k) (h0 : k ≠ 0) (hR : am_rc k kd1 ((bestW (jrn s) a).1) = R) : am_C2 (d + 21) m_L_does [aR 8 0, aI (zI 11), aI (zI a), aI (zI b), aI (zI c), aI (zI p), aI (zI r), aI (zI t)] q (am_OX e q s R) := by
  have h := ds_price (d := d) (e := e) (q := q) (s1 := s) (a := a) (b := b) (c := c) (p := p) (r := r) (t := t) (k := k) (v := (bestW (jrn s) a).1) (kd := kd1) (kdx1 k) (am_C2_imp (cs_price (d := 3) I ha) (fun o q1 h => by { rw [hk] at h; exact OQ_OP F h }))
  rw [hR] at h
  exact h
theorem dz_priceAnew {d e : Nat} {q : am_A} {s : am_Z} {a b c p r t : Int} (I : am_CI e q s) (F : am_DFh q) (J : am_JJ s) (ha : in32 a) (hk : kMany a = 0) : am_C2 (d + 21) m_L_does [aR 8 0, aI (zI 12), aI (zI a), aI (zI b), aI (zI c), aI (zI p), aI (zI r), aI (zI t)] q (am_OX e q (s) ((bestW (jrn s) a).1)) := by
  have h := ds_priceAnew (d := d) (e := e) (q := q) (s1 := s) (a := a) (b := b) (c := c) (p := p) (r := r) (t := t) (k := 0) (v := (bestW (jrn s) a).1) (kd := kd1) (fun z => absurd rfl z) (am_C2_imp (cs_priceAnew (d := 4) I ha) (fun o q1 h => by { rw [hk] at h; exact OQ_OP F h }))
  rw [rc_0 rfl] at h
  exact h
theorem dx_priceAnew {d e : Nat} {q : am_A} {s : am_Z} {a b c p r t : Int} (I : am_CI e q s) (F : am_DFh q) (J : am_JJ s) (ha : in32 a) {k R : Int} (hk : kMany a = k) (h0 : k ≠ 0) (hR : am_rc k kd1 ((bestW (jrn s) a).1) = R) : am_C2 (d + 21) m_L_does [aR 8 0, aI (zI 12), aI (zI a), aI (zI b), aI (zI c), aI (zI p), aI (zI r), aI (zI t)] q (am_OX e q s R) := by
  have h := ds_priceAnew (d := d) (e := e) (q := q) (s1 := s) (a := a) (b := b) (c := c) (p := p) (r := r) (t := t) (k := k) (v := (bestW (jrn s) a).1) (kd := kd1) (kdx1 k) (am_C2_imp (cs_priceAnew (d := 4) I ha) (fun o q1 h => by { rw [hk] at h; exact OQ_OP F h }))
  rw [hR] at h
  exact h
theorem dz_stretch {d e : Nat} {q : am_A} {s : am_Z} {a b c p r t : Int} (I : am_CI e q s) (F : am_DFh q) (J : am_JJ s) (ha : in32 a) (hb : in32 b) (hk : kStr s a b = 0) : am_C2 (d + 21) m_L_does [aR 8 0, aI (zI 13), aI (zI a), aI (zI b), aI (zI c), aI (zI p), aI (zI r), aI (zI t)] q (am_OX e q (s) (10 * pF (bestW (jrn s) a).2 b.toNat + pC (bestW (jrn s) a).2 b.toNat)) := by
  have h := ds_stretch (d := d) (e := e) (q := q) (s1 := s) (a := a) (b := b) (c := c) (p := p) (r := r) (t := t) (k := 0) (v := 10 * pF (bestW (jrn s) a).2 b.toNat + pC (bestW (jrn s) a).2 b.toNat) (kd := kd3) (fun z => absurd rfl z) (am_C2_imp (cs_stretch (d := 3) I ha hb) (fun o q1 h => by { rw [hk] at h; exact OQ_OP F h }))
  rw [rc_0 rfl] at h
  exact h
theorem dx_stretch {d e : Nat} {q : am_A} {s : am_Z} {a b c p r t : Int} (I : am_CI e q s) (F : am_DFh q) (J : am_JJ s) (ha : in32 a) (hb : in32 b) {k R : Int} (hk : kStr s a b = k) (h0 : k ≠ 0) (hR : am_rc k kd3 (10 * pF (bestW (jrn s) a).2 b.toNat + pC (bestW (jrn s) a).2 b.toNat) = R) : am_C2 (d + 21) m_L_does [aR 8 0, aI (zI 13), aI (zI a), aI (zI b), aI (zI c), aI (zI p), aI (zI r), aI (zI t)] q (am_OX e q s R) := by
  have h := ds_stretch (d := d) (e := e) (q := q) (s1 := s) (a := a) (b := b) (c := c) (p := p) (r := r) (t := t) (k := k) (v := 10 * pF (bestW (jrn s) a).2 b.toNat + pC (bestW (jrn s) a).2 b.toNat) (kd := kd3) (kdx3 k) (am_C2_imp (cs_stretch (d := 3) I ha hb) (fun o q1 h => by { rw [hk] at h; exact OQ_OP F h }))
  rw [hR] at h
  exact h
theorem dz_wish {d e : Nat} {q : am_A} {s : am_Z} {a b c p r t : Int} (I : am_CI e q s) (F : am_DFh q) (J : am_JJ s) (ha : in32 a) (hb : in32 b) (hk : kWish s a b = 0) : am_C2 (d + 21) m_L_does [aR 8 0, aI (zI 15), aI (zI a), aI (zI b), aI (zI c), aI (zI p), aI (zI r), aI (zI t)] q (am_OX e q (wishS s a b) (rI s 61)) := by
  have h := ds_wish (d := d) (e := e) (q := q) (s1 := (wishS s a b)) (a := a) (b := b) (c := c) (p := p) (r := r) (t := t) (k := 0) (v := rI s 61) (kd := kd3) (fun z => absurd rfl z) (am_C2_imp (co_wish (d := 14) I ha hb) (fun o q1 h => by { rw [hk, if_pos rfl] at h; exact OQ_OP F h }))
  rw [rc_0 rfl] at h
  exact h
theorem dx_wish {d e : Nat} {q : am_A} {s : am_Z} {a b c p r t : Int} (I : am_CI e q s) (F : am_DFh q) (J : am_JJ s) (ha : in32 a) (hb : in32 b) {k R : Int} (hk : kWish s a b = k) (h0 : k ≠ 0) (hR : am_rc k kd3 (rI s 61) = R) : am_C2 (d + 21) m_L_does [aR 8 0, aI (zI 15), aI (zI a), aI (zI b), aI (zI c), aI (zI p), aI (zI r), aI (zI t)] q (am_OX e q s R) := by
  have h := ds_wish (d := d) (e := e) (q := q) (s1 := s) (a := a) (b := b) (c := c) (p := p) (r := r) (t := t) (k := k) (v := rI s 61) (kd := kd3) (kdx3 k) (am_C2_imp (co_wish (d := 14) I ha hb) (fun o q1 h => by { rw [hk, if_neg h0] at h; exact OQ_OP F h }))
  rw [hR] at h
  exact h
theorem dz_ticket {d e : Nat} {q : am_A} {s : am_Z} {a b c p r t : Int} (I : am_CI e q s) (F : am_DFh q) (J : am_JJ s) (ha : in32 a) (hk : kTicket s a = 0) : am_C2 (d + 21) m_L_does [aR 8 0, aI (zI 17), aI (zI a), aI (zI b), aI (zI c), aI (zI p), aI (zI r), aI (zI t)] q (am_OX e q (wA s 47 a 1) (rA s 45 a * pfoS s a)) := by
  have h := ds_ticket (d := d) (e := e) (q := q) (s1 := (wA s 47 a 1)) (a := a) (b := b) (c := c) (p := p) (r := r) (t := t) (k := 0) (v := rA s 45 a * pfoS s a) (kd := kd2) (fun z => absurd rfl z) (am_C2_imp (co_ticket (d := 16) I ha) (fun o q1 h => by { rw [hk, if_pos rfl] at h; exact OQ_OP F h }))
  rw [rc_0 rfl] at h
  exact h
theorem dx_ticket {d e : Nat} {q : am_A} {s : am_Z} {a b c p r t : Int} (I : am_CI e q s) (F : am_DFh q) (J : am_JJ s) (ha : in32 a) {k R : Int} (hk : kTicket s a = k) (h0 : k ≠ 0) (hR : am_rc k kd2 (rA s 45 a * pfoS s a) = R) : am_C2 (d + 21) m_L_does [aR 8 0, aI (zI 17), aI (zI a), aI (zI b), aI (zI c), aI (zI p), aI (zI r), aI (zI t)] q (am_OX e q s R) := by
  have h := ds_ticket (d := d) (e := e) (q := q) (s1 := s) (a := a) (b := b) (c := c) (p := p) (r := r) (t := t) (k := k) (v := rA s 45 a * pfoS s a) (kd := kd2) (kdx2 k) (am_C2_imp (co_ticket (d := 16) I ha) (fun o q1 h => by { rw [hk, if_neg h0] at h; exact OQ_OP F h }))
  rw [hR] at h
  exact h
theorem dz_part {d e : Nat} {q : am_A} {s : am_Z} {a b c p r t : Int} (I : am_CI e q s) (F : am_DFh q) (J : am_JJ s) (ha : in32 a) (hb : in32 b) (hk : kPart s a b = 0) : am_C2 (d + 21) m_L_does [aR 8 0, aI (zI 18), aI (zI a), aI (zI b), aI (zI c), aI (zI p), aI (zI r), aI (zI t)] q (am_OX e q (parS s a b) (rI s 44)) := by
  have h := ds_part (d := d) (e := e) (q := q) (s1 := (parS s a b)) (a := a) (b := b) (c := c) (p := p) (r := r) (t := t) (k := 0) (v := rI s 44) (kd := kd3) (fun z => absurd rfl z) (am_C2_imp (co_part (d := 13) I ha hb) (fun o q1 h => by { rw [hk, if_pos rfl] at h; exact OQ_OP F h }))
  rw [rc_0 rfl] at h
  exact h
theorem dx_part {d e : Nat} {q : am_A} {s : am_Z} {a b c p r t : Int} (I : am_CI e q s) (F : am_DFh q) (J : am_JJ s) (ha : in32 a) (hb : in32 b) {k R : Int} (hk : kPart s a b = k) (h0 : k ≠ 0) (hR : am_rc k kd3 (rI s 44) = R) : am_C2 (d + 21) m_L_does [aR 8 0, aI (zI 18), aI (zI a), aI (zI b), aI (zI c), aI (zI p), aI (zI r), aI (zI t)] q (am_OX e q s R) := by
  have h := ds_part (d := d) (e := e) (q := q) (s1 := s) (a := a) (b := b) (c := c) (p := p) (r := r) (t := t) (k := k) (v := rI s 44) (kd := kd3) (kdx3 k) (am_C2_imp (co_part (d := 13) I ha hb) (fun o q1 h => by { rw [hk, if_neg h0] at h; exact OQ_OP F h }))
  rw [hR] at h
  exact h
theorem dz_cancel {d e : Nat} {q : am_A} {s : am_Z} {a b c p r t : Int} (I : am_CI e q s) (F : am_DFh q) (J : am_JJ s) (ha : in32 a) (hk : kCancel s a = 0) : am_C2 (d + 21) m_L_does [aR 8 0, aI (zI 19), aI (zI a), aI (zI b), aI (zI c), aI (zI p), aI (zI r), aI (zI t)] q (am_OX e q (voidS (wA s 47 a 3) a) (if rA s 47 a = 0 then 0 else rA s 45 a * cbV s a)) := by
  have h := ds_cancel (d := d) (e := e) (q := q) (s1 := (voidS (wA s 47 a 3) a)) (a := a) (b := b) (c := c) (p := p) (r := r) (t := t) (k := 0) (v := if rA s 47 a = 0 then 0 else rA s 45 a * cbV s a) (kd := kd2) (fun z => absurd rfl z) (am_C2_imp (co_cancel (d := 15) I ha) (fun o q1 h => by { rw [hk, if_pos rfl] at h; exact OQ_OP F h }))
  rw [rc_0 rfl] at h
  exact h
theorem dx_cancel {d e : Nat} {q : am_A} {s : am_Z} {a b c p r t : Int} (I : am_CI e q s) (F : am_DFh q) (J : am_JJ s) (ha : in32 a) {k R : Int} (hk : kCancel s a = k) (h0 : k ≠ 0) (hR : am_rc k kd2 (if rA s 47 a = 0 then 0 else rA s 45 a * cbV s a) = R) : am_C2 (d + 21) m_L_does [aR 8 0, aI (zI 19), aI (zI a), aI (zI b), aI (zI c), aI (zI p), aI (zI r), aI (zI t)] q (am_OX e q s R) := by
  have h := ds_cancel (d := d) (e := e) (q := q) (s1 := s) (a := a) (b := b) (c := c) (p := p) (r := r) (t := t) (k := k) (v := if rA s 47 a = 0 then 0 else rA s 45 a * cbV s a) (kd := kd2) (kdx2 k) (am_C2_imp (co_cancel (d := 15) I ha) (fun o q1 h => by { rw [hk, if_neg h0] at h; exact OQ_OP F h }))
  rw [hR] at h
  exact h
theorem dz_check {d e : Nat} {q : am_A} {s : am_Z} {a b c p r t : Int} (I : am_CI e q s) (F : am_DFh q) (J : am_JJ s) (ha : in32 a) (hb : in32 b) (hk : kCheck s a b = 0) : am_C2 (d + 21) m_L_does [aR 8 0, aI (zI 23), aI (zI a), aI (zI b), aI (zI c), aI (zI p), aI (zI r), aI (zI t)] q (am_OX e q (wA s 55 (10 * a + b) 1) (sumI 0 (rI s 44).toNat (chF (wA s 55 (10 * a + b) 1) (rA s 53 (10 * a + b))))) := by
  have h := ds_check (d := d) (e := e) (q := q) (s1 := (wA s 55 (10 * a + b) 1)) (a := a) (b := b) (c := c) (p := p) (r := r) (t := t) (k := 0) (v := sumI 0 (rI s 44).toNat (chF (wA s 55 (10 * a + b) 1) (rA s 53 (10 * a + b)))) (kd := kd2) (fun z => absurd rfl z) (am_C2_imp (co_check (d := 14) I ha hb) (fun o q1 h => by { rw [hk, if_pos rfl] at h; exact OQ_OP F h }))
  rw [rc_0 rfl] at h
  exact h
theorem dx_check {d e : Nat} {q : am_A} {s : am_Z} {a b c p r t : Int} (I : am_CI e q s) (F : am_DFh q) (J : am_JJ s) (ha : in32 a) (hb : in32 b) {k R : Int} (hk : kCheck s a b = k) (h0 : k ≠ 0) (hR : am_rc k kd2 (sumI 0 (rI s 44).toNat (chF (wA s 55 (10 * a + b) 1) (rA s 53 (10 * a + b)))) = R) : am_C2 (d + 21) m_L_does [aR 8 0, aI (zI 23), aI (zI a), aI (zI b), aI (zI c), aI (zI p), aI (zI r), aI (zI t)] q (am_OX e q s R) := by
  have h := ds_check (d := d) (e := e) (q := q) (s1 := s) (a := a) (b := b) (c := c) (p := p) (r := r) (t := t) (k := k) (v := sumI 0 (rI s 44).toNat (chF (wA s 55 (10 * a + b) 1) (rA s 53 (10 * a + b)))) (kd := kd2) (kdx2 k) (am_C2_imp (co_check (d := 14) I ha hb) (fun o q1 h => by { rw [hk, if_neg h0] at h; exact OQ_OP F h }))
  rw [hR] at h
  exact h
theorem dz_volunteer {d e : Nat} {q : am_A} {s : am_Z} {a b c p r t : Int} (I : am_CI e q s) (F : am_DFh q) (J : am_JJ s) (ha : in32 a) (hk : kBooking s a = 0) : am_C2 (d + 21) m_L_does [aR 8 0, aI (zI 24), aI (zI a), aI (zI b), aI (zI c), aI (zI p), aI (zI r), aI (zI t)] q (am_OX e q (wA s 51 a (1 - rA s 51 a)) (1 - rA s 51 a)) := by
  have h := ds_volunteer (d := d) (e := e) (q := q) (s1 := (wA s 51 a (1 - rA s 51 a))) (a := a) (b := b) (c := c) (p := p) (r := r) (t := t) (k := 0) (v := 1 - rA s 51 a) (kd := kd2) (show (1 - rA s 51 a) = 0 ∨ (1 - rA s 51 a) = 1 by have := (CV_B I.1).1 51 a 0 1 rfl; omega) (fun z => absurd rfl z) (am_C2_imp (co_volunteer (d := 16) I ha) (fun o q1 h => by { rw [hk, if_pos rfl] at h; exact OQ_OP F h }))
  rw [rc_0 rfl] at h
  exact h
theorem dx_volunteer {d e : Nat} {q : am_A} {s : am_Z} {a b c p r t : Int} (I : am_CI e q s) (F : am_DFh q) (J : am_JJ s) (ha : in32 a) {k R : Int} (hk : kBooking s a = k) (h0 : k ≠ 0) (hR : am_rc k kd2 (1 - rA s 51 a) = R) : am_C2 (d + 21) m_L_does [aR 8 0, aI (zI 24), aI (zI a), aI (zI b), aI (zI c), aI (zI p), aI (zI r), aI (zI t)] q (am_OX e q s R) := by
  have h := ds_volunteer (d := d) (e := e) (q := q) (s1 := s) (a := a) (b := b) (c := c) (p := p) (r := r) (t := t) (k := k) (v := 1 - rA s 51 a) (kd := kd2) (show (1 - rA s 51 a) = 0 ∨ (1 - rA s 51 a) = 1 by have := (CV_B I.1).1 51 a 0 1 rfl; omega) (kdx2 k) (am_C2_imp (co_volunteer (d := 16) I ha) (fun o q1 h => by { rw [hk, if_neg h0] at h; exact OQ_OP F h }))
  rw [hR] at h
  exact h
theorem dz_rules {d e : Nat} {q : am_A} {s : am_Z} {f a b c p r t : Int} (I : am_CI e q s) (F : am_DFh q) (hf : in32 f) (ha : in32 a) (hb : in32 b) (hc : in32 c) (hr : in32 r) (hp : p = 0 ∨ p = 1) (ht : t = 0 ∨ t = 1) (hk : kRules s f a b c r = 0) : am_C2 (d + 21) m_L_rules [aR 8 0, aI (zI f), aI (zI a), aI (zI b), aI (zI c), aI (zI p), aI (zI r), aI (zI t)] q (am_OX e q (wA (wA (wA (wA (wA (wA s 26 f a) 27 f b) 28 f c) 29 f p) 30 f r) 31 f t) 0) := by
  have h := ds_rules (d := d) (e := e) (q := q) (s1 := wA (wA (wA (wA (wA (wA s 26 f a) 27 f b) 28 f c) 29 f p) 30 f r) 31 f t) (f := f) (a := a) (b := b) (c := c) (p := p) (r := r) (t := t) (k := 0) (kd := kd3) (fun z => absurd rfl z) (am_C2_imp (co_rules (d := 16) I hf ha hb hc hr hp ht) (fun o q1 h => by { rw [hk, if_pos rfl] at h; exact OQ_OP F h }))
  rw [rc_0 rfl] at h
  exact h
theorem dx_rules {d e : Nat} {q : am_A} {s : am_Z} {f a b c p r t : Int} (I : am_CI e q s) (F : am_DFh q) (hf : in32 f) (ha : in32 a) (hb : in32 b) (hc : in32 c) (hr : in32 r) (hp : p = 0 ∨ p = 1) (ht : t = 0 ∨ t = 1) {k R : Int} (hk : kRules s f a b c r = k) (h0 : k = 1 ∨ k = 2) (hR : am_rc k kd3 0 = R) : am_C2 (d + 21) m_L_rules [aR 8 0, aI (zI f), aI (zI a), aI (zI b), aI (zI c), aI (zI p), aI (zI r), aI (zI t)] q (am_OX e q s R) := by
  have h := ds_rules (d := d) (e := e) (q := q) (s1 := s) (f := f) (a := a) (b := b) (c := c) (p := p) (r := r) (t := t) (k := k) (kd := kd3) (fun _ => by rcases h0 with rfl | rfl; exact Or.inl rfl; exact Or.inr rfl) (am_C2_imp (co_rules (d := 16) I hf ha hb hc hr hp ht) (fun o q1 h => by { rw [hk, if_neg (by omega)] at h; exact OQ_OP F h }))
  rw [hR] at h
  exact h
end

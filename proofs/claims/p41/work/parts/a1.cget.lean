noncomputable section
theorem s_stF8 {d y pc p : Nat} {st : List am_V} {h : am_H} {Q : am_O → am_H → Prop} {x0 x1 x2 x3 x4 x5 x6 x7 x8 : Option am_V} {r : List (Option am_V)} {v : UInt32} (hc : am_so y pc = some (8, 2, p)) (k : am_W d y p (x0 :: x1 :: x2 :: x3 :: x4 :: x5 :: x6 :: x7 :: some (aF v) :: r) st h Q) : am_W d y pc (x0 :: x1 :: x2 :: x3 :: x4 :: x5 :: x6 :: x7 :: x8 :: r) (aF v :: st) h Q := am_nxt (am_so_s hc ⟨fun _ => by first | rfl | contradiction, fun _ => by first | rfl | contradiction, fun _ => by first | rfl | contradiction⟩ (by simp)) k
theorem ar_stF8 {d y pc p : Nat} {st : List am_V} {q : am_A} {Q : am_O → am_A → Prop} {x0 x1 x2 x3 x4 x5 x6 x7 x8 : Option am_V} {r : List (Option am_V)} {v : UInt32} (hc : am_so y pc = some (8, 2, p)) (k : am_W2 d y p (x0 :: x1 :: x2 :: x3 :: x4 :: x5 :: x6 :: x7 :: some (aF v) :: r) st q Q) : am_W2 d y pc (x0 :: x1 :: x2 :: x3 :: x4 :: x5 :: x6 :: x7 :: x8 :: r) (aF v :: st) q Q := fun h R => s_stF8 hc (k h R)
theorem T2_is {d y : Nat} {as : List am_V} {q : am_A} {P : Prop} {kt : Nat} {x : am_V} (h : am_C2 d y as q (am_T2 P kt (some x) q)) (hP : P) : am_C2 d y as q (am_is2 x q) := am_C2_imp h (fun o a' z => z.1 hP)
/-- a class operation within the law: its room -/
theorem C2_20 {d y : Nat} {as : List am_V} {q : am_A} {P : am_O → am_A → Prop} (h : ∀ d, am_C2 (d + 0) y as q P) : am_C2 20 y as q P := h 20
theorem dp_standing {d e : Nat} {q : am_A} {s : am_Z} (I : am_CI e q s) (F : am_DFh q) {a b c p r t : Int} (ha : in32 a) (hP : legP s a) : am_C2 (d + 21) m_L_does [aR 8 0, aI (zI 27), aI (zI a), aI (zI b), aI (zI c), aI (zI p), aI (zI r), aI (zI t)] q (am_OX e q s (standing s a)) := by
  have h := ds_standing (d := d) (e := e) (q := q) (s1 := s) (a := a) (b := b) (c := c) (p := p) (r := r) (t := t) (k := 0) (v := standing s a) (kd := kd0) (fun z => absurd rfl z) (am_C2_imp (cs_standing (d := 16) I.1 ha) (fun o q1 h => OQ_T2 (P := legP s a) F I ⟨fun _ => hP, fun _ => rfl⟩ h))
  rw [rc_0 rfl] at h
  exact h
theorem dn_standing {d e : Nat} {q : am_A} {s : am_Z} (I : am_CI e q s) (F : am_DFh q) {a b c p r t : Int} (ha : in32 a) (hP : ¬ legP s a) : am_C2 (d + 21) m_L_does [aR 8 0, aI (zI 27), aI (zI a), aI (zI b), aI (zI c), aI (zI p), aI (zI r), aI (zI t)] q (am_OX e q s (-3000000)) := by
  have h := ds_standing (d := d) (e := e) (q := q) (s1 := s) (a := a) (b := b) (c := c) (p := p) (r := r) (t := t) (k := 1) (v := standing s a) (kd := kd0) (fun _ => Or.inl rfl) (am_C2_imp (cs_standing (d := 16) I.1 ha) (fun o q1 h => OQ_T2 (P := legP s a) F I ⟨fun z => absurd z (by omega), fun z => absurd z hP⟩ h))
  rw [rc_13 (by omega) rfl] at h
  exact h
theorem dp_departure {d e : Nat} {q : am_A} {s : am_Z} (I : am_CI e q s) (F : am_DFh q) {a b c p r t : Int} (ha : in32 a) (hP : legP s a) : am_C2 (d + 21) m_L_does [aR 8 0, aI (zI 26), aI (zI a), aI (zI b), aI (zI c), aI (zI p), aI (zI r), aI (zI t)] q (am_OX e q s (dep s a)) := by
  have h := ds_departure (d := d) (e := e) (q := q) (s1 := s) (a := a) (b := b) (c := c) (p := p) (r := r) (t := t) (k := 0) (v := dep s a) (kd := kd0) (fun z => absurd rfl z) (am_C2_imp (cs_departure (d := 16) I.1 ha) (fun o q1 h => OQ_T2 (P := legP s a) F I ⟨fun _ => hP, fun _ => rfl⟩ h))
  rw [rc_0 rfl] at h
  exact h
theorem dn_departure {d e : Nat} {q : am_A} {s : am_Z} (I : am_CI e q s) (F : am_DFh q) {a b c p r t : Int} (ha : in32 a) (hP : ¬ legP s a) : am_C2 (d + 21) m_L_does [aR 8 0, aI (zI 26), aI (zI a), aI (zI b), aI (zI c), aI (zI p), aI (zI r), aI (zI t)] q (am_OX e q s (-3000000)) := by
  have h := ds_departure (d := d) (e := e) (q := q) (s1 := s) (a := a) (b := b) (c := c) (p := p) (r := r) (t := t) (k := 1) (v := dep s a) (kd := kd0) (fun _ => Or.inl rfl) (am_C2_imp (cs_departure (d := 16) I.1 ha) (fun o q1 h => OQ_T2 (P := legP s a) F I ⟨fun z => absurd z (by omega), fun z => absurd z hP⟩ h))
  rw [rc_13 (by omega) rfl] at h
  exact h
theorem dp_open {d e : Nat} {q : am_A} {s : am_Z} (I : am_CI e q s) (F : am_DFh q) {a b c p r t : Int} (ha : in32 a) (hb : in32 b) (hP : (legP s a ∧ 0 ≤ b ∧ b ≤ 3)) : am_C2 (d + 21) m_L_does [aR 8 0, aI (zI 28), aI (zI a), aI (zI b), aI (zI c), aI (zI p), aI (zI r), aI (zI t)] q (am_OX e q s (openS s a b)) := by
  have h := ds_open (d := d) (e := e) (q := q) (s1 := s) (a := a) (b := b) (c := c) (p := p) (r := r) (t := t) (k := 0) (v := openS s a b) (kd := kd0) (fun z => absurd rfl z) (am_C2_imp (cs_open (d := 15) I.1 ha hb) (fun o q1 h => OQ_T2 (P := (legP s a ∧ 0 ≤ b ∧ b ≤ 3)) F I ⟨fun _ => hP, fun _ => rfl⟩ h))
  rw [rc_0 rfl] at h
  exact h
theorem dn_open {d e : Nat} {q : am_A} {s : am_Z} (I : am_CI e q s) (F : am_DFh q) {a b c p r t : Int} (ha : in32 a) (hb : in32 b) (hP : ¬ (legP s a ∧ 0 ≤ b ∧ b ≤ 3)) : am_C2 (d + 21) m_L_does [aR 8 0, aI (zI 28), aI (zI a), aI (zI b), aI (zI c), aI (zI p), aI (zI r), aI (zI t)] q (am_OX e q s (-3000000)) := by
  have h := ds_open (d := d) (e := e) (q := q) (s1 := s) (a := a) (b := b) (c := c) (p := p) (r := r) (t := t) (k := 1) (v := openS s a b) (kd := kd0) (fun _ => Or.inl rfl) (am_C2_imp (cs_open (d := 15) I.1 ha hb) (fun o q1 h => OQ_T2 (P := (legP s a ∧ 0 ≤ b ∧ b ≤ 3)) F I ⟨fun z => absurd z (by omega), fun z => absurd z hP⟩ h))
  rw [rc_13 (by omega) rfl] at h
  exact h
theorem dp_booking {d e : Nat} {q : am_A} {s : am_Z} (I : am_CI e q s) (F : am_DFh q) {a b c p r t : Int} (ha : in32 a) (hP : (0 ≤ a ∧ a < rI s 44)) : am_C2 (d + 21) m_L_does [aR 8 0, aI (zI 20), aI (zI a), aI (zI b), aI (zI c), aI (zI p), aI (zI r), aI (zI t)] q (am_OX e q s (1000 * rA s 47 a + 10 * rA s 52 a + rA s 45 a)) := by
  have h := ds_booking (d := d) (e := e) (q := q) (s1 := s) (a := a) (b := b) (c := c) (p := p) (r := r) (t := t) (k := 0) (v := 1000 * rA s 47 a + 10 * rA s 52 a + rA s 45 a) (kd := kd0) (fun z => absurd rfl z) (am_C2_imp (cs_booking (d := 16) I.1 ha) (fun o q1 h => OQ_T2 (P := (0 ≤ a ∧ a < rI s 44)) F I ⟨fun _ => hP, fun _ => rfl⟩ h))
  rw [rc_0 rfl] at h
  exact h
theorem dn_booking {d e : Nat} {q : am_A} {s : am_Z} (I : am_CI e q s) (F : am_DFh q) {a b c p r t : Int} (ha : in32 a) (hP : ¬ (0 ≤ a ∧ a < rI s 44)) : am_C2 (d + 21) m_L_does [aR 8 0, aI (zI 20), aI (zI a), aI (zI b), aI (zI c), aI (zI p), aI (zI r), aI (zI t)] q (am_OX e q s (-3000000)) := by
  have h := ds_booking (d := d) (e := e) (q := q) (s1 := s) (a := a) (b := b) (c := c) (p := p) (r := r) (t := t) (k := 1) (v := 1000 * rA s 47 a + 10 * rA s 52 a + rA s 45 a) (kd := kd0) (fun _ => Or.inl rfl) (am_C2_imp (cs_booking (d := 16) I.1 ha) (fun o q1 h => OQ_T2 (P := (0 ≤ a ∧ a < rI s 44)) F I ⟨fun z => absurd z (by omega), fun z => absurd z hP⟩ h))
  rw [rc_13 (by omega) rfl] at h
  exact h
theorem dp_coupon {d e : Nat} {q : am_A} {s : am_Z} (I : am_CI e q s) (F : am_DFh q) {a b c p r t : Int} (ha : in32 a) (hb : in32 b) (hP : cpP s a b) : am_C2 (d + 21) m_L_does [aR 8 0, aI (zI 21), aI (zI a), aI (zI b), aI (zI c), aI (zI p), aI (zI r), aI (zI t)] q (am_OX e q s (100 * rA s 53 (10 * a + b) + 10 * rA s 54 (10 * a + b) + rA s 55 (10 * a + b))) := by
  have h := ds_coupon (d := d) (e := e) (q := q) (s1 := s) (a := a) (b := b) (c := c) (p := p) (r := r) (t := t) (k := 0) (v := 100 * rA s 53 (10 * a + b) + 10 * rA s 54 (10 * a + b) + rA s 55 (10 * a + b)) (kd := kd0) (fun z => absurd rfl z) (am_C2_imp (cs_coupon (d := 15) I.1 ha hb) (fun o q1 h => OQ_T2 (P := cpP s a b) F I ⟨fun _ => hP, fun _ => rfl⟩ h))
  rw [rc_0 rfl] at h
  exact h
theorem dn_coupon {d e : Nat} {q : am_A} {s : am_Z} (I : am_CI e q s) (F : am_DFh q) {a b c p r t : Int} (ha : in32 a) (hb : in32 b) (hP : ¬ cpP s a b) : am_C2 (d + 21) m_L_does [aR 8 0, aI (zI 21), aI (zI a), aI (zI b), aI (zI c), aI (zI p), aI (zI r), aI (zI t)] q (am_OX e q s (-3000000)) := by
  have h := ds_coupon (d := d) (e := e) (q := q) (s1 := s) (a := a) (b := b) (c := c) (p := p) (r := r) (t := t) (k := 1) (v := 100 * rA s 53 (10 * a + b) + 10 * rA s 54 (10 * a + b) + rA s 55 (10 * a + b)) (kd := kd0) (fun _ => Or.inl rfl) (am_C2_imp (cs_coupon (d := 15) I.1 ha hb) (fun o q1 h => OQ_T2 (P := cpP s a b) F I ⟨fun z => absurd z (by omega), fun z => absurd z hP⟩ h))
  rw [rc_13 (by omega) rfl] at h
  exact h
theorem dp_share {d e : Nat} {q : am_A} {s : am_Z} (I : am_CI e q s) (F : am_DFh q) {a b c p r t : Int} (ha : in32 a) (hb : in32 b) (hP : cpP s a b) : am_C2 (d + 21) m_L_does [aR 8 0, aI (zI 22), aI (zI a), aI (zI b), aI (zI c), aI (zI p), aI (zI r), aI (zI t)] q (am_OX e q s (rA s 57 (10 * a + b))) := by
  have h := ds_share (d := d) (e := e) (q := q) (s1 := s) (a := a) (b := b) (c := c) (p := p) (r := r) (t := t) (k := 0) (v := rA s 57 (10 * a + b)) (kd := kd0) (fun z => absurd rfl z) (am_C2_imp (cs_share (d := 15) I.1 ha hb) (fun o q1 h => OQ_T2 (P := cpP s a b) F I ⟨fun _ => hP, fun _ => rfl⟩ h))
  rw [rc_0 rfl] at h
  exact h
theorem dn_share {d e : Nat} {q : am_A} {s : am_Z} (I : am_CI e q s) (F : am_DFh q) {a b c p r t : Int} (ha : in32 a) (hb : in32 b) (hP : ¬ cpP s a b) : am_C2 (d + 21) m_L_does [aR 8 0, aI (zI 22), aI (zI a), aI (zI b), aI (zI c), aI (zI p), aI (zI r), aI (zI t)] q (am_OX e q s (-3000000)) := by
  have h := ds_share (d := d) (e := e) (q := q) (s1 := s) (a := a) (b := b) (c := c) (p := p) (r := r) (t := t) (k := 1) (v := rA s 57 (10 * a + b)) (kd := kd0) (fun _ => Or.inl rfl) (am_C2_imp (cs_share (d := 15) I.1 ha hb) (fun o q1 h => OQ_T2 (P := cpP s a b) F I ⟨fun z => absurd z (by omega), fun z => absurd z hP⟩ h))
  rw [rc_13 (by omega) rfl] at h
  exact h
theorem dp_points {d e : Nat} {q : am_A} {s : am_Z} (I : am_CI e q s) (F : am_DFh q) {a b c p r t : Int} (ha : in32 a) (hP : (0 ≤ a ∧ a < 5)) : am_C2 (d + 21) m_L_does [aR 8 0, aI (zI 29), aI (zI a), aI (zI b), aI (zI c), aI (zI p), aI (zI r), aI (zI t)] q (am_OX e q s (rA s 69 a)) := by
  have h := ds_points (d := d) (e := e) (q := q) (s1 := s) (a := a) (b := b) (c := c) (p := p) (r := r) (t := t) (k := 0) (v := rA s 69 a) (kd := kd0) (fun z => absurd rfl z) (am_C2_imp (cs_points (d := 19) I.1 ha) (fun o q1 h => OQ_T2 (P := (0 ≤ a ∧ a < 5)) F I ⟨fun _ => hP, fun _ => rfl⟩ h))
  rw [rc_0 rfl] at h
  exact h
theorem dn_points {d e : Nat} {q : am_A} {s : am_Z} (I : am_CI e q s) (F : am_DFh q) {a b c p r t : Int} (ha : in32 a) (hP : ¬ (0 ≤ a ∧ a < 5)) : am_C2 (d + 21) m_L_does [aR 8 0, aI (zI 29), aI (zI a), aI (zI b), aI (zI c), aI (zI p), aI (zI r), aI (zI t)] q (am_OX e q s (-3000000)) := by
  have h := ds_points (d := d) (e := e) (q := q) (s1 := s) (a := a) (b := b) (c := c) (p := p) (r := r) (t := t) (k := 1) (v := rA s 69 a) (kd := kd0) (fun _ => Or.inl rfl) (am_C2_imp (cs_points (d := 19) I.1 ha) (fun o q1 h => OQ_T2 (P := (0 ≤ a ∧ a < 5)) F I ⟨fun z => absurd z (by omega), fun z => absurd z hP⟩ h))
  rw [rc_13 (by omega) rfl] at h
  exact h
theorem dp_owed {d e : Nat} {q : am_A} {s : am_Z} (I : am_CI e q s) (F : am_DFh q) {a b c p r t : Int} (ha : in32 a) (hb : in32 b) (hP : ((0 ≤ a ∧ a < 3) ∧ 0 ≤ b ∧ b < 3)) : am_C2 (d + 21) m_L_does [aR 8 0, aI (zI 30), aI (zI a), aI (zI b), aI (zI c), aI (zI p), aI (zI r), aI (zI t)] q (am_OX e q s (rA s 70 (a * 3 + b))) := by
  have h := ds_owed (d := d) (e := e) (q := q) (s1 := s) (a := a) (b := b) (c := c) (p := p) (r := r) (t := t) (k := 0) (v := rA s 70 (a * 3 + b)) (kd := kd0) (fun z => absurd rfl z) (am_C2_imp (cs_owed (d := 19) I.1 ha hb) (fun o q1 h => OQ_T2 (P := ((0 ≤ a ∧ a < 3) ∧ 0 ≤ b ∧ b < 3)) F I ⟨fun _ => hP, fun _ => rfl⟩ h))
  rw [rc_0 rfl] at h
  exact h
theorem dn_owed {d e : Nat} {q : am_A} {s : am_Z} (I : am_CI e q s) (F : am_DFh q) {a b c p r t : Int} (ha : in32 a) (hb : in32 b) (hP : ¬ ((0 ≤ a ∧ a < 3) ∧ 0 ≤ b ∧ b < 3)) : am_C2 (d + 21) m_L_does [aR 8 0, aI (zI 30), aI (zI a), aI (zI b), aI (zI c), aI (zI p), aI (zI r), aI (zI t)] q (am_OX e q s (-3000000)) := by
  have h := ds_owed (d := d) (e := e) (q := q) (s1 := s) (a := a) (b := b) (c := c) (p := p) (r := r) (t := t) (k := 1) (v := rA s 70 (a * 3 + b)) (kd := kd0) (fun _ => Or.inl rfl) (am_C2_imp (cs_owed (d := 19) I.1 ha hb) (fun o q1 h => OQ_T2 (P := ((0 ≤ a ∧ a < 3) ∧ 0 ≤ b ∧ b < 3)) F I ⟨fun z => absurd z (by omega), fun z => absurd z hP⟩ h))
  rw [rc_13 (by omega) rfl] at h
  exact h
theorem dp_wished {d e : Nat} {q : am_A} {s : am_Z} (I : am_CI e q s) (F : am_DFh q) {a b c p r t : Int} (ha : in32 a) (hne : ∀ w, 0 ≤ w → w < rI s 61 → 1 ≤ rA s 64 w) (hP : (0 ≤ a ∧ a < rI s 61)) : am_C2 (d + 21) m_L_does [aR 8 0, aI (zI 16), aI (zI a), aI (zI b), aI (zI c), aI (zI p), aI (zI r), aI (zI t)] q (am_OX e q s (wishedS s a)) := by
  have h := ds_wished (d := d) (e := e) (q := q) (s1 := s) (a := a) (b := b) (c := c) (p := p) (r := r) (t := t) (k := 0) (v := wishedS s a) (kd := kd0) (fun z => absurd rfl z) (am_C2_imp (cs_wished (d := 16) I.1 ha hne) (fun o q1 h => OQ_T2 (P := (0 ≤ a ∧ a < rI s 61)) F I ⟨fun _ => hP, fun _ => rfl⟩ h))
  rw [rc_0 rfl] at h
  exact h
theorem dn_wished {d e : Nat} {q : am_A} {s : am_Z} (I : am_CI e q s) (F : am_DFh q) {a b c p r t : Int} (ha : in32 a) (hne : ∀ w, 0 ≤ w → w < rI s 61 → 1 ≤ rA s 64 w) (hP : ¬ (0 ≤ a ∧ a < rI s 61)) : am_C2 (d + 21) m_L_does [aR 8 0, aI (zI 16), aI (zI a), aI (zI b), aI (zI c), aI (zI p), aI (zI r), aI (zI t)] q (am_OX e q s (-3000000)) := by
  have h := ds_wished (d := d) (e := e) (q := q) (s1 := s) (a := a) (b := b) (c := c) (p := p) (r := r) (t := t) (k := 1) (v := wishedS s a) (kd := kd0) (fun _ => Or.inl rfl) (am_C2_imp (cs_wished (d := 16) I.1 ha hne) (fun o q1 h => OQ_T2 (P := (0 ≤ a ∧ a < rI s 61)) F I ⟨fun z => absurd z (by omega), fun z => absurd z hP⟩ h))
  rw [rc_13 (by omega) rfl] at h
  exact h
theorem lp_ls1 {d : Nat} {q : am_A} {Q : am_O → am_A → Prop} {s : am_Z} (V : am_CV q s) {l bk acc : Int} {b : Nat} (hb : (b : Int) < rI s 44) (bl : in32 l) (bb : in32 bk) (ba : 0 ≤ acc ∧ acc ≤ 10000) : ∀ (m : Nat) (j : Nat) (n k : Int) (x8 : Option am_V), 11 - j < m → (k = j ∧ (j : Int) ≤ rA s 52 b ∧ (rA s 47 b ≤ 1 ∨ j = 0) ∧ n = acc + sumI (10 * (b : Int)) j (cSold s l bk b)) → (∀ n x7 x8, n = acc + bSold s l bk b → am_W2 (d + 6) m_L_sold 107 [some (aR 8 0), some (aR 24 5), some (aI (zI l)), some (aI (zI bk)), some (aI (zI n)), some (aI (zI (b : Int))), some (aI (zI (1000 * rA s 47 (b : Int) + 10 * rA s 52 (b : Int) + rA s 45 (b : Int)))), x7, x8] [] (q) Q) → am_W2 (d + 6) m_L_sold 25 [some (aR 8 0), some (aR 24 5), some (aI (zI l)), some (aI (zI bk)), some (aI (zI n)), some (aI (zI (b : Int))), some (aI (zI (1000 * rA s 47 (b : Int) + 10 * rA s 52 (b : Int) + rA s 45 (b : Int)))), some (aI (zI k)), x8] [] (q) Q := by
  intro m
  induction m with
  | zero => intro j n k x8 hm; exact absurd hm (Nat.not_lt_zero _)
  | succ m ih =>
    intro j n k x8 hm ⟨hj, hj2, h47, hn⟩ K
    subst hj
    have B := CV_B V
    have b47 := B.1 47 (b : Int) 0 3 rfl
    have b52 := B.1 52 (b : Int) 0 10 rfl
    have b45 := B.1 45 (b : Int) 0 9 rfl
    have b44 := B.2.1 44 0 40 rfl
    have b53 := B.1 53 (10 * (b : Int) + (j : Int)) 0 1160 rfl
    have b54 := B.1 54 (10 * (b : Int) + (j : Int)) 0 3 rfl
    have b55 := B.1 55 (10 * (b : Int) + (j : Int)) 0 5 rfl
    have bs := sumI_b (a := 10 * (b : Int)) (n := j) (f := cSold s l bk b) (M := 9) (fun i => by unfold cSold; split <;> omega)
    have bc : 0 ≤ cSold s l bk b (10 * (b : Int) + (j : Int)) ∧ cSold s l bk b (10 * (b : Int) + (j : Int)) ≤ 9 := by { unfold cSold; split <;> omega }
    refine ar_iload rfl rfl ?_
    refine ar_iload rfl rfl ?_
    refine ar_sipush (x := 1000) rfl rfl ?_
    refine ar_irem rfl (by omega) (by omega) ?_
    refine ar_bipush (x := 10) rfl rfl ?_
    refine ar_idiv rfl (by omega) (by omega) ?_
    refine ar_icmp_ge rfl rfl (by omega) (by omega) (fun h36 => ?_) (fun h36 => ?_)
    · refine K n _ _ ?_
      unfold bSold
      by_cases h1 : rA s 47 (b : Int) ≤ 1
      · rw [if_pos h1, hn, show j = (rA s 52 (b : Int)).toNat by omega]
      · rw [if_neg h1, hn, show j = 0 by omega]; rfl
    · refine ar_iload rfl rfl ?_
      refine ar_sipush (x := 2000) rfl rfl ?_
      refine ar_icmp_ge rfl rfl (by omega) (by omega) (fun h44 => ?_) (fun h44 => ?_)
      · refine K n _ _ ?_
        unfold bSold
        by_cases h1 : rA s 47 (b : Int) ≤ 1
        · rw [if_pos h1, hn, show j = (rA s 52 (b : Int)).toNat by omega]
        · rw [if_neg h1, hn, show j = 0 by omega]; rfl
      · refine ar_aload_n rfl rfl ?_
        refine ar_iload rfl rfl ?_
        refine ar_iload rfl rfl ?_
        refine ar_cv2 rfl rfl rfl (Nat.le_of_ble_eq_true rfl) (T2_is (cs_coupon (d := 0) V (by omega) (by omega)) ⟨⟨by omega, hb⟩, by omega, by omega⟩) (by omega) (fun o q52 hq => am_B2_is ?_ hq)
        refine ar_stI8 rfl ?_
        refine ar_iload rfl rfl ?_
        refine cq_join (pc' := 98) (V := cSold s l bk b (10 * (b : Int) + (j : Int))) ?_ (fun K98 => ?_)
        · refine ar_iadd rfl ?_
          refine ar_stI4 rfl ?_
          refine ar_inc7 rfl ?_
          refine ar_goto rfl rfl ?_
          have es := sumI_s (10 * (b : Int)) j (cSold s l bk b)
          exact ih (j + 1) _ _ _ (by omega) ⟨by omega, by omega, by omega, by rw [hn, es]; omega⟩ K
        · refine ar_iload rfl rfl ?_
          refine ar_bipush (x := 100) rfl rfl ?_
          refine ar_idiv rfl (by omega) (by omega) ?_
          refine ar_iload_n rfl rfl ?_
          refine ar_icmp_ne rfl rfl (by omega) (by omega) (fun h65 => ?_) (fun h65 => ?_)
          · refine ar_iconst rfl ?_
            exact K98 _ (by unfold cSold; first | rw [if_pos (by omega)]; omega | rw [if_neg (by omega)])
          · refine ar_iload rfl rfl ?_
            refine ar_bipush (x := 10) rfl rfl ?_
            refine ar_irem rfl (by omega) (by omega) ?_
            refine ar_iconst rfl ?_
            refine ar_icmp_ge rfl rfl (by omega) (by omega) (fun h74 => ?_) (fun h74 => ?_)
            · refine ar_iconst rfl ?_
              exact K98 _ (by unfold cSold; first | rw [if_pos (by omega)]; omega | rw [if_neg (by omega)])
            · refine ar_iload rfl rfl ?_
              refine ar_bipush (x := 10) rfl rfl ?_
              refine ar_idiv rfl (by omega) (by omega) ?_
              refine ar_bipush (x := 10) rfl rfl ?_
              refine ar_irem rfl (by omega) (by omega) ?_
              refine ar_iload_n rfl rfl ?_
              refine ar_icmp_lt rfl rfl (by omega) (by omega) (fun h86 => ?_) (fun h86 => ?_)
              · refine ar_iconst rfl ?_
                exact K98 _ (by unfold cSold; first | rw [if_pos (by omega)]; omega | rw [if_neg (by omega)])
              · refine ar_iload rfl rfl ?_
                refine ar_bipush (x := 10) rfl rfl ?_
                refine ar_irem rfl (by omega) (by omega) ?_
                refine ar_goto rfl rfl ?_
                exact K98 _ (by unfold cSold; first | rw [if_pos (by omega)]; omega | rw [if_neg (by omega)])
theorem lp_ls2 {d : Nat} {q : am_A} {Q : am_O → am_A → Prop} {s : am_Z} (V : am_CV q s) {l bk : Int} {T : am_LT} (H : am_LA q T) (h4 : T 5 4 = rI s 44) (bl : in32 l) (bb : in32 bk) : ∀ (m : Nat) (j : Nat) (n k : Int) (x6 x7 x8 : Option am_V), (rI s 44).toNat - j < m → (k = j ∧ (j : Int) ≤ rI s 44 ∧ n = sumI 0 j (bSold s l bk)) → (∀ x5 x6 x7 x8, am_W2 (d + 6) m_L_sold 113 [some (aR 8 0), some (aR 24 5), some (aI (zI l)), some (aI (zI bk)), some (aI (zI (sold s l bk))), x5, x6, x7, x8] [] (q) Q) → am_W2 (d + 6) m_L_sold 6 [some (aR 8 0), some (aR 24 5), some (aI (zI l)), some (aI (zI bk)), some (aI (zI n)), some (aI (zI k)), x6, x7, x8] [] (q) Q := by
  intro m
  induction m with
  | zero => intro j n k x6 x7 x8 hm; exact absurd hm (Nat.not_lt_zero _)
  | succ m ih =>
    intro j n k x6 x7 x8 hm ⟨hj, hj2, hn⟩ K
    subst hj
    subst hn
    have B := CV_B V
    have b44 := B.2.1 44 0 40 rfl
    have gl : qAL q (24, 5) = 7 := (H 5 (by omega)).1
    have g4 : qAI q (24, 5) (4 : Int).toNat = rI s 44 := ((H 5 (by omega)).2 4 (by omega) (by show (4 : Int) < ((7 : Nat) : Int); omega)).trans h4
    have bs := sumI_b (a := 0) (n := j) (f := bSold s l bk) (M := 90) (bSold_b B l bk)
    refine ar_iload rfl rfl ?_
    refine ar_aload_n rfl rfl ?_
    refine ar_iconst rfl ?_
    refine ar_ia rfl rfl (gl) (by omega) (by omega) ?_
    rw [g4]
    refine ar_icmp_ge rfl rfl (by omega) (by omega) (fun h11 => ?_) (fun h11 => ?_)
    · have ej : j = (rI s 44).toNat := by omega
      rw [ej]
      exact K _ _ _ _
    · refine ar_aload_n rfl rfl ?_
      refine ar_iload rfl rfl ?_
      refine ar_cv1 rfl rfl rfl (Nat.le_of_ble_eq_true rfl) (T2_is (cs_booking (d := 0) V (by omega)) ⟨by omega, by omega⟩) (by omega) (fun o q17 hq => am_B2_is ?_ hq)
      refine ar_stI6 rfl ?_
      refine ar_iconst rfl ?_
      refine ar_stI7 rfl ?_
      refine lp_ls1 (d := d) V (l := l) (bk := bk) (acc := sumI 0 j (bSold s l bk)) (b := j) (by omega) bl bb (by omega) 1000 0 _ 0 _ (by omega) ⟨rfl, by have := B.1 52 (j : Int) 0 10 rfl; omega, Or.inr rfl, (Int.add_zero _).symm⟩ (fun n2 x7 x8 hn2 => ?_)
      refine ar_inc5 rfl ?_
      refine ar_goto rfl rfl ?_
      have es := sumI_s 0 j (bSold s l bk)
      rw [Int.zero_add] at es
      exact ih (j + 1) _ _ _ _ _ (by omega) ⟨by omega, by omega, by rw [hn2, es]⟩ K
theorem cs_lsold {d : Nat} {q : am_A} {s : am_Z} (V : am_CV q s) {l bk : Int} {T : am_LT} (H : am_LA q T) (h4 : T 5 4 = rI s 44) (bl : in32 l) (bb : in32 bk) : am_C2 (d + 6) m_L_sold [aR 8 0, aR 24 5, aI (zI l), aI (zI bk)] q (am_is2 (aI (zI (sold s l bk))) q) := by
  refine am_C2_i (ls := [some (aR 8 0), some (aR 24 5), some (aI (zI l)), some (aI (zI bk)), none, none, none, none, none]) rfl ?_
  have b44 := (CV_B V).2.1 44 0 40 rfl
  refine ar_iconst rfl ?_
  refine ar_stI4 rfl ?_
  refine ar_iconst rfl ?_
  refine ar_stI5 rfl ?_
  refine lp_ls2 (d := d) V H h4 bl bb 1000 0 0 0 _ _ _ (by omega) ⟨rfl, by omega, rfl⟩ (fun x5 x6 x7 x8 => ?_)
  refine ar_iload rfl rfl ?_
  exact ar_iret rfl (Or.inl rfl) (cq_eP (by first | rfl | omega))
end

def am_ckr (b : ByteArray) (f : Nat → Option (Instr × Nat)) (lo n : Nat) : Bool := (List.range n).all (fun j => match f (lo + j) with | none => true | some v => decide (decode b (lo + j) = .ok v))
theorem am_ckr_ok {b : ByteArray} {f : Nat → Option (Instr × Nat)} {lo n : Nat} (h : am_ckr b f lo n = true) {x : Nat} {v : Instr × Nat} (h1 : lo ≤ x) (h2 : x < lo + n) (hv : f x = some v) : decode b x = .ok v := by
  have h3 := List.all_eq_true.mp h (x - lo) (List.mem_range.mpr (by omega))
  rw [show lo + (x - lo) = x by omega] at h3
  simp only [hv] at h3
  exact of_decide_eq_true h3
set_option maxRecDepth 100000 in
theorem ckl_0 : am_ckr code cd_L_law 0 64 = true := by decide +kernel
set_option maxRecDepth 100000 in
theorem ckl_1 : am_ckr code cd_L_law 64 64 = true := by decide +kernel
set_option maxRecDepth 100000 in
theorem ckl_2 : am_ckr code cd_L_law 128 64 = true := by decide +kernel
set_option maxRecDepth 100000 in
theorem ckl_3 : am_ckr code cd_L_law 192 64 = true := by decide +kernel
set_option maxRecDepth 100000 in
theorem ckl_4 : am_ckr code cd_L_law 256 64 = true := by decide +kernel
set_option maxRecDepth 100000 in
theorem ckl_5 : am_ckr code cd_L_law 320 64 = true := by decide +kernel
set_option maxRecDepth 100000 in
theorem ckl_6 : am_ckr code cd_L_law 384 64 = true := by decide +kernel
set_option maxRecDepth 100000 in
theorem ckl_7 : am_ckr code cd_L_law 448 64 = true := by decide +kernel
set_option maxRecDepth 100000 in
theorem ckl_8 : am_ckr code cd_L_law 512 64 = true := by decide +kernel
set_option maxRecDepth 100000 in
theorem ckl_9 : am_ckr code cd_L_law 576 64 = true := by decide +kernel
set_option maxRecDepth 100000 in
theorem ckl_10 : am_ckr code cd_L_law 640 64 = true := by decide +kernel
set_option maxRecDepth 100000 in
theorem ckl_11 : am_ckr code cd_L_law 704 64 = true := by decide +kernel
set_option maxRecDepth 100000 in
theorem ckl_12 : am_ckr code cd_L_law 768 64 = true := by decide +kernel
set_option maxRecDepth 100000 in
theorem ckl_13 : am_ckr code cd_L_law 832 64 = true := by decide +kernel
set_option maxRecDepth 100000 in
theorem ckl_14 : am_ckr code cd_L_law 896 64 = true := by decide +kernel
set_option maxRecDepth 100000 in
theorem ckl_15 : am_ckr code cd_L_law 960 64 = true := by decide +kernel
theorem ck_L_law : am_all cd_L_law (fun x v => decode code x = .ok v) := by
  intro x v hv
  have hN : x < 988 := by
    unfold cd_L_law at hv
    cases hk : Nat.blt x 988 with
    | false => rw [hk] at hv; cases hv
    | true => exact Nat.le_of_ble_eq_true hk
  rcases Nat.lt_or_ge x 64 with h | h
  · exact am_ckr_ok ckl_0 (Nat.zero_le _) (by omega) hv
  rcases Nat.lt_or_ge x 128 with h | h
  · exact am_ckr_ok ckl_1 (by omega) (by omega) hv
  rcases Nat.lt_or_ge x 192 with h | h
  · exact am_ckr_ok ckl_2 (by omega) (by omega) hv
  rcases Nat.lt_or_ge x 256 with h | h
  · exact am_ckr_ok ckl_3 (by omega) (by omega) hv
  rcases Nat.lt_or_ge x 320 with h | h
  · exact am_ckr_ok ckl_4 (by omega) (by omega) hv
  rcases Nat.lt_or_ge x 384 with h | h
  · exact am_ckr_ok ckl_5 (by omega) (by omega) hv
  rcases Nat.lt_or_ge x 448 with h | h
  · exact am_ckr_ok ckl_6 (by omega) (by omega) hv
  rcases Nat.lt_or_ge x 512 with h | h
  · exact am_ckr_ok ckl_7 (by omega) (by omega) hv
  rcases Nat.lt_or_ge x 576 with h | h
  · exact am_ckr_ok ckl_8 (by omega) (by omega) hv
  rcases Nat.lt_or_ge x 640 with h | h
  · exact am_ckr_ok ckl_9 (by omega) (by omega) hv
  rcases Nat.lt_or_ge x 704 with h | h
  · exact am_ckr_ok ckl_10 (by omega) (by omega) hv
  rcases Nat.lt_or_ge x 768 with h | h
  · exact am_ckr_ok ckl_11 (by omega) (by omega) hv
  rcases Nat.lt_or_ge x 832 with h | h
  · exact am_ckr_ok ckl_12 (by omega) (by omega) hv
  rcases Nat.lt_or_ge x 896 with h | h
  · exact am_ckr_ok ckl_13 (by omega) (by omega) hv
  rcases Nat.lt_or_ge x 960 with h | h
  · exact am_ckr_ok ckl_14 (by omega) (by omega) hv
  rcases Nat.lt_or_ge x 1024 with h | h
  · exact am_ckr_ok ckl_15 (by omega) (by omega) hv
  · omega

def am_ckr (b : ByteArray) (f : Nat → Option (Instr × Nat)) (lo n : Nat) : Bool := (List.range n).all (fun j => match f (lo + j) with | none => true | some v => decide (decode b (lo + j) = .ok v))
theorem am_ckr_ok {b : ByteArray} {f : Nat → Option (Instr × Nat)} {lo n : Nat} (h : am_ckr b f lo n = true) {x : Nat} {v : Instr × Nat} (h1 : lo ≤ x) (h2 : x < lo + n) (hv : f x = some v) : decode b x = .ok v := by
  have h3 := List.all_eq_true.mp h (x - lo) (List.mem_range.mpr (by omega))
  rw [show lo + (x - lo) = x by omega] at h3
  simp only [hv] at h3
  exact of_decide_eq_true h3
set_option maxRecDepth 100000 in
theorem ckl_0 : am_ckr code cd_L_law 0 64 = true := by decide +kernel
set_option maxRecDepth 100000 in
theorem ckl_1 : am_ckr code cd_L_law 64 64 = true := by decide +kernel
set_option maxRecDepth 100000 in
theorem ckl_2 : am_ckr code cd_L_law 128 64 = true := by decide +kernel
set_option maxRecDepth 100000 in
theorem ckl_3 : am_ckr code cd_L_law 192 64 = true := by decide +kernel
set_option maxRecDepth 100000 in
theorem ckl_4 : am_ckr code cd_L_law 256 64 = true := by decide +kernel
set_option maxRecDepth 100000 in
theorem ckl_5 : am_ckr code cd_L_law 320 64 = true := by decide +kernel
set_option maxRecDepth 100000 in
theorem ckl_6 : am_ckr code cd_L_law 384 64 = true := by decide +kernel
set_option maxRecDepth 100000 in
theorem ckl_7 : am_ckr code cd_L_law 448 64 = true := by decide +kernel
set_option maxRecDepth 100000 in
theorem ckl_8 : am_ckr code cd_L_law 512 64 = true := by decide +kernel
set_option maxRecDepth 100000 in
theorem ckl_9 : am_ckr code cd_L_law 576 64 = true := by decide +kernel
set_option maxRecDepth 100000 in
theorem ckl_10 : am_ckr code cd_L_law 640 64 = true := by decide +kernel
set_option maxRecDepth 100000 in
theorem ckl_11 : am_ckr code cd_L_law 704 64 = true := by decide +kernel
set_option maxRecDepth 100000 in
theorem ckl_12 : am_ckr code cd_L_law 768 64 = true := by decide +kernel
set_option maxRecDepth 100000 in
theorem ckl_13 : am_ckr code cd_L_law 832 64 = true := by decide +kernel
set_option maxRecDepth 100000 in
theorem ckl_14 : am_ckr code cd_L_law 896 64 = true := by decide +kernel
set_option maxRecDepth 100000 in
theorem ckl_15 : am_ckr code cd_L_law 960 64 = true := by decide +kernel
set_option maxRecDepth 100000 in
theorem ckl_16 : am_ckr code cd_L_law 1024 64 = true := by decide +kernel
set_option maxRecDepth 100000 in
theorem ckl_17 : am_ckr code cd_L_law 1088 64 = true := by decide +kernel
set_option maxRecDepth 100000 in
theorem ckl_18 : am_ckr code cd_L_law 1152 64 = true := by decide +kernel
set_option maxRecDepth 100000 in
theorem ckl_19 : am_ckr code cd_L_law 1216 64 = true := by decide +kernel
set_option maxRecDepth 100000 in
theorem ckl_20 : am_ckr code cd_L_law 1280 64 = true := by decide +kernel
set_option maxRecDepth 100000 in
theorem ckl_21 : am_ckr code cd_L_law 1344 64 = true := by decide +kernel
set_option maxRecDepth 100000 in
theorem ckl_22 : am_ckr code cd_L_law 1408 64 = true := by decide +kernel
set_option maxRecDepth 100000 in
theorem ckl_23 : am_ckr code cd_L_law 1472 64 = true := by decide +kernel
set_option maxRecDepth 100000 in
theorem ckl_24 : am_ckr code cd_L_law 1536 64 = true := by decide +kernel
set_option maxRecDepth 100000 in
theorem ckl_25 : am_ckr code cd_L_law 1600 64 = true := by decide +kernel
set_option maxRecDepth 100000 in
theorem ckl_26 : am_ckr code cd_L_law 1664 64 = true := by decide +kernel
set_option maxRecDepth 100000 in
theorem ckl_27 : am_ckr code cd_L_law 1728 64 = true := by decide +kernel
set_option maxRecDepth 100000 in
theorem ckl_28 : am_ckr code cd_L_law 1792 64 = true := by decide +kernel
set_option maxRecDepth 100000 in
theorem ckl_29 : am_ckr code cd_L_law 1856 64 = true := by decide +kernel
set_option maxRecDepth 100000 in
theorem ckl_30 : am_ckr code cd_L_law 1920 64 = true := by decide +kernel
set_option maxRecDepth 100000 in
theorem ckl_31 : am_ckr code cd_L_law 1984 64 = true := by decide +kernel
set_option maxRecDepth 100000 in
theorem ckl_32 : am_ckr code cd_L_law 2048 64 = true := by decide +kernel
set_option maxRecDepth 100000 in
theorem ckl_33 : am_ckr code cd_L_law 2112 64 = true := by decide +kernel
set_option maxRecDepth 100000 in
theorem ckl_34 : am_ckr code cd_L_law 2176 64 = true := by decide +kernel
set_option maxRecDepth 100000 in
theorem ckl_35 : am_ckr code cd_L_law 2240 64 = true := by decide +kernel
set_option maxRecDepth 100000 in
theorem ckl_36 : am_ckr code cd_L_law 2304 64 = true := by decide +kernel
set_option maxRecDepth 100000 in
theorem ckl_37 : am_ckr code cd_L_law 2368 64 = true := by decide +kernel
set_option maxRecDepth 100000 in
theorem ckl_38 : am_ckr code cd_L_law 2432 64 = true := by decide +kernel
set_option maxRecDepth 100000 in
theorem ckl_39 : am_ckr code cd_L_law 2496 64 = true := by decide +kernel
set_option maxRecDepth 100000 in
theorem ckl_40 : am_ckr code cd_L_law 2560 64 = true := by decide +kernel
set_option maxRecDepth 100000 in
theorem ckl_41 : am_ckr code cd_L_law 2624 64 = true := by decide +kernel
theorem ck_L_law : am_all cd_L_law (fun x v => decode code x = .ok v) := by
  intro x v hv
  have hN : x < 2628 := by
    unfold cd_L_law at hv
    cases hk : Nat.blt x 2628 with
    | false => rw [hk] at hv; cases hv
    | true => exact Nat.le_of_ble_eq_true hk
  rcases Nat.lt_or_ge x 64 with h | h
  · exact am_ckr_ok ckl_0 (Nat.zero_le _) (by omega) hv
  rcases Nat.lt_or_ge x 128 with h | h
  · exact am_ckr_ok ckl_1 (by omega) (by omega) hv
  rcases Nat.lt_or_ge x 192 with h | h
  · exact am_ckr_ok ckl_2 (by omega) (by omega) hv
  rcases Nat.lt_or_ge x 256 with h | h
  · exact am_ckr_ok ckl_3 (by omega) (by omega) hv
  rcases Nat.lt_or_ge x 320 with h | h
  · exact am_ckr_ok ckl_4 (by omega) (by omega) hv
  rcases Nat.lt_or_ge x 384 with h | h
  · exact am_ckr_ok ckl_5 (by omega) (by omega) hv
  rcases Nat.lt_or_ge x 448 with h | h
  · exact am_ckr_ok ckl_6 (by omega) (by omega) hv
  rcases Nat.lt_or_ge x 512 with h | h
  · exact am_ckr_ok ckl_7 (by omega) (by omega) hv
  rcases Nat.lt_or_ge x 576 with h | h
  · exact am_ckr_ok ckl_8 (by omega) (by omega) hv
  rcases Nat.lt_or_ge x 640 with h | h
  · exact am_ckr_ok ckl_9 (by omega) (by omega) hv
  rcases Nat.lt_or_ge x 704 with h | h
  · exact am_ckr_ok ckl_10 (by omega) (by omega) hv
  rcases Nat.lt_or_ge x 768 with h | h
  · exact am_ckr_ok ckl_11 (by omega) (by omega) hv
  rcases Nat.lt_or_ge x 832 with h | h
  · exact am_ckr_ok ckl_12 (by omega) (by omega) hv
  rcases Nat.lt_or_ge x 896 with h | h
  · exact am_ckr_ok ckl_13 (by omega) (by omega) hv
  rcases Nat.lt_or_ge x 960 with h | h
  · exact am_ckr_ok ckl_14 (by omega) (by omega) hv
  rcases Nat.lt_or_ge x 1024 with h | h
  · exact am_ckr_ok ckl_15 (by omega) (by omega) hv
  rcases Nat.lt_or_ge x 1088 with h | h
  · exact am_ckr_ok ckl_16 (by omega) (by omega) hv
  rcases Nat.lt_or_ge x 1152 with h | h
  · exact am_ckr_ok ckl_17 (by omega) (by omega) hv
  rcases Nat.lt_or_ge x 1216 with h | h
  · exact am_ckr_ok ckl_18 (by omega) (by omega) hv
  rcases Nat.lt_or_ge x 1280 with h | h
  · exact am_ckr_ok ckl_19 (by omega) (by omega) hv
  rcases Nat.lt_or_ge x 1344 with h | h
  · exact am_ckr_ok ckl_20 (by omega) (by omega) hv
  rcases Nat.lt_or_ge x 1408 with h | h
  · exact am_ckr_ok ckl_21 (by omega) (by omega) hv
  rcases Nat.lt_or_ge x 1472 with h | h
  · exact am_ckr_ok ckl_22 (by omega) (by omega) hv
  rcases Nat.lt_or_ge x 1536 with h | h
  · exact am_ckr_ok ckl_23 (by omega) (by omega) hv
  rcases Nat.lt_or_ge x 1600 with h | h
  · exact am_ckr_ok ckl_24 (by omega) (by omega) hv
  rcases Nat.lt_or_ge x 1664 with h | h
  · exact am_ckr_ok ckl_25 (by omega) (by omega) hv
  rcases Nat.lt_or_ge x 1728 with h | h
  · exact am_ckr_ok ckl_26 (by omega) (by omega) hv
  rcases Nat.lt_or_ge x 1792 with h | h
  · exact am_ckr_ok ckl_27 (by omega) (by omega) hv
  rcases Nat.lt_or_ge x 1856 with h | h
  · exact am_ckr_ok ckl_28 (by omega) (by omega) hv
  rcases Nat.lt_or_ge x 1920 with h | h
  · exact am_ckr_ok ckl_29 (by omega) (by omega) hv
  rcases Nat.lt_or_ge x 1984 with h | h
  · exact am_ckr_ok ckl_30 (by omega) (by omega) hv
  rcases Nat.lt_or_ge x 2048 with h | h
  · exact am_ckr_ok ckl_31 (by omega) (by omega) hv
  rcases Nat.lt_or_ge x 2112 with h | h
  · exact am_ckr_ok ckl_32 (by omega) (by omega) hv
  rcases Nat.lt_or_ge x 2176 with h | h
  · exact am_ckr_ok ckl_33 (by omega) (by omega) hv
  rcases Nat.lt_or_ge x 2240 with h | h
  · exact am_ckr_ok ckl_34 (by omega) (by omega) hv
  rcases Nat.lt_or_ge x 2304 with h | h
  · exact am_ckr_ok ckl_35 (by omega) (by omega) hv
  rcases Nat.lt_or_ge x 2368 with h | h
  · exact am_ckr_ok ckl_36 (by omega) (by omega) hv
  rcases Nat.lt_or_ge x 2432 with h | h
  · exact am_ckr_ok ckl_37 (by omega) (by omega) hv
  rcases Nat.lt_or_ge x 2496 with h | h
  · exact am_ckr_ok ckl_38 (by omega) (by omega) hv
  rcases Nat.lt_or_ge x 2560 with h | h
  · exact am_ckr_ok ckl_39 (by omega) (by omega) hv
  rcases Nat.lt_or_ge x 2624 with h | h
  · exact am_ckr_ok ckl_40 (by omega) (by omega) hv
  rcases Nat.lt_or_ge x 2688 with h | h
  · exact am_ckr_ok ckl_41 (by omega) (by omega) hv
  · omega

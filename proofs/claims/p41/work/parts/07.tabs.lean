noncomputable section
/-- the length of an instruction -/
def am_okl (i : Instr) (n : Nat) : Bool := match i with
  | .aaload => Nat.beq n 1
  | .aastore => Nat.beq n 1
  | .aconst_null => Nat.beq n 1
  | .areturn => Nat.beq n 1
  | .arraylength => Nat.beq n 1
  | .baload => Nat.beq n 1
  | .bastore => Nat.beq n 1
  | .daload => Nat.beq n 1
  | .dastore => Nat.beq n 1
  | .dup => Nat.beq n 1
  | .dup_x1 => Nat.beq n 1
  | .dup2 => Nat.beq n 1
  | .f2d => Nat.beq n 1
  | .fdiv => Nat.beq n 1
  | .freturn => Nat.beq n 1
  | .i2f => Nat.beq n 1
  | .i2l => Nat.beq n 1
  | .iadd => Nat.beq n 1
  | .iaload => Nat.beq n 1
  | .iand => Nat.beq n 1
  | .iastore => Nat.beq n 1
  | .idiv => Nat.beq n 1
  | .imul => Nat.beq n 1
  | .irem => Nat.beq n 1
  | .ireturn => Nat.beq n 1
  | .ishr => Nat.beq n 1
  | .isub => Nat.beq n 1
  | .ixor => Nat.beq n 1
  | .laload => Nat.beq n 1
  | .lastore => Nat.beq n 1
  | .lcmp => Nat.beq n 1
  | .pop => Nat.beq n 1
  | .return_ => Nat.beq n 1
  | .athrow => Nat.beq n 1
  | .dcmp _ => Nat.beq n 1
  | .fcmp _ => Nat.beq n 1
  | .fconst _ => Nat.beq n 1
  | .lconst _ => Nat.beq n 1
  | .iconst _ => Nat.beq n 1
  | .iload_n _ => Nat.beq n 1
  | .aload_n _ => Nat.beq n 1
  | .istore_n _ => Nat.beq n 1
  | .astore_n _ => Nat.beq n 1
  | .iload _ => Nat.beq n 2
  | .aload _ => Nat.beq n 2
  | .fload _ => Nat.beq n 2
  | .istore _ => Nat.beq n 2
  | .astore _ => Nat.beq n 2
  | .fstore _ => Nat.beq n 2
  | .bipush _ => Nat.beq n 2
  | .ldc k => Nat.beq n 2 && Nat.blt k 10000
  | .newarray _ => Nat.beq n 2
  | .invokeinterface k _ => Nat.beq n 5 && Nat.blt k 10000
  | .tableswitch _ _ _ _ => true
  | .ldc_w k => Nat.beq n 3 && Nat.blt k 10000
  | .getfield k => Nat.beq n 3 && Nat.blt k 10000
  | .putfield k => Nat.beq n 3 && Nat.blt k 10000
  | .getstatic k => Nat.beq n 3 && Nat.blt k 10000
  | .new k => Nat.beq n 3 && Nat.blt k 10000
  | .anewarray k => Nat.beq n 3 && Nat.blt k 10000
  | .checkcast k => Nat.beq n 3 && Nat.blt k 10000
  | .invokestatic k => Nat.beq n 3 && Nat.blt k 10000
  | .invokespecial k => Nat.beq n 3 && Nat.blt k 10000
  | .invokevirtual k => Nat.beq n 3 && Nat.blt k 10000
  | _ => Nat.beq n 3
def am_lk (f : Nat → Option (Instr × Nat)) (N : Nat) : Bool := (List.range N).all (fun x => match f x with | none => true | some v => am_okl v.1 v.2)
def am_lkP (f : Nat → Option (Instr × Nat)) : Prop := ∀ x i n, f x = some (i, n) → am_okl i n = true
theorem am_lk_ok {g : Nat → Option (Instr × Nat)} {N : Nat} (h : am_lk (fun x => bif Nat.blt x N then g x else none) N = true) : am_lkP (fun x => bif Nat.blt x N then g x else none) := by
  intro x i n hv
  have hv' : (bif Nat.blt x N then g x else none) = some (i, n) := hv
  cases hk : Nat.blt x N with
  | false => rw [hk] at hv'; cases hv'
  | true =>
    have h1 := List.all_eq_true.mp h x (List.mem_range.mpr (Nat.le_of_ble_eq_true hk))
    simp only [hv'] at h1
    exact h1
set_option maxRecDepth 100000 in
theorem ln_Bk_init : am_lk cd_Bk_init 56 = true := by decide +kernel
set_option maxRecDepth 100000 in
theorem ln_Bk_hasSeats : am_lk cd_Bk_hasSeats 21 = true := by decide +kernel
set_option maxRecDepth 100000 in
theorem ln_Bk_end : am_lk cd_Bk_end 49 = true := by decide +kernel
set_option maxRecDepth 100000 in
theorem ln_Bk_couponToFly : am_lk cd_Bk_couponToFly 50 = true := by decide +kernel
set_option maxRecDepth 100000 in
theorem ln_Bk_isCheckedFor : am_lk cd_Bk_isCheckedFor 24 = true := by decide +kernel
set_option maxRecDepth 100000 in
theorem ln_Bk_placeOf : am_lk cd_Bk_placeOf 35 = true := by decide +kernel
set_option maxRecDepth 100000 in
theorem ln_Bk_nearestLeg : am_lk cd_Bk_nearestLeg 79 = true := by decide +kernel
set_option maxRecDepth 100000 in
theorem ln_Bk_usesLeg : am_lk cd_Bk_usesLeg 58 = true := by decide +kernel
set_option maxRecDepth 100000 in
theorem ln_Bk_isBroken : am_lk cd_Bk_isBroken 42 = true := by decide +kernel
set_option maxRecDepth 100000 in
theorem ln_Bk_paidForOne : am_lk cd_Bk_paidForOne 62 = true := by decide +kernel
set_option maxRecDepth 100000 in
theorem ln_Bk_backForOne : am_lk cd_Bk_backForOne 97 = true := by decide +kernel
set_option maxRecDepth 100000 in
theorem ln_Bk_isBegun : am_lk cd_Bk_isBegun 59 = true := by decide +kernel
set_option maxRecDepth 100000 in
theorem ln_Bk_parted : am_lk cd_Bk_parted 117 = true := by decide +kernel
set_option maxRecDepth 100000 in
theorem ln_Cp_init : am_lk cd_Cp_init 37 = true := by decide +kernel
set_option maxRecDepth 100000 in
theorem ln_Cp_copied : am_lk cd_Cp_copied 38 = true := by decide +kernel
set_option maxRecDepth 100000 in
theorem ln_Cp_isToFly : am_lk cd_Cp_isToFly 21 = true := by decide +kernel
set_option maxRecDepth 100000 in
theorem ln_Cp_isReplaced : am_lk cd_Cp_isReplaced 22 = true := by decide +kernel
set_option maxRecDepth 100000 in
theorem ln_Dt_init : am_lk cd_Dt_init 5 = true := by decide +kernel
set_option maxRecDepth 100000 in
theorem ln_Dt_begin : am_lk cd_Dt_begin 16 = true := by decide +kernel
set_option maxRecDepth 100000 in
theorem ln_Dt_legs : am_lk cd_Dt_legs 22 = true := by decide +kernel
set_option maxRecDepth 100000 in
theorem ln_Dt_offer : am_lk cd_Dt_offer 79 = true := by decide +kernel
set_option maxRecDepth 100000 in
theorem ln_Fa_init : am_lk cd_Fa_init 55 = true := by decide +kernel
set_option maxRecDepth 100000 in
theorem ln_Fa_beginsWith : am_lk cd_Fa_beginsWith 57 = true := by decide +kernel
set_option maxRecDepth 100000 in
theorem ln_Fl_init : am_lk cd_Fl_init 84 = true := by decide +kernel
set_option maxRecDepth 100000 in
theorem ln_Fl_on : am_lk cd_Fl_on 21 = true := by decide +kernel
set_option maxRecDepth 100000 in
theorem ln_Fl_dayToLookFrom : am_lk cd_Fl_dayToLookFrom 16 = true := by decide +kernel
set_option maxRecDepth 100000 in
theorem ln_Fl_departingAt : am_lk cd_Fl_departingAt 35 = true := by decide +kernel
set_option maxRecDepth 100000 in
theorem ln_Lg_init : am_lk cd_Lg_init 54 = true := by decide +kernel
set_option maxRecDepth 100000 in
theorem ln_Lg_hasDeparted : am_lk cd_Lg_hasDeparted 21 = true := by decide +kernel
set_option maxRecDepth 100000 in
theorem ln_Lg_isAhead : am_lk cd_Lg_isAhead 21 = true := by decide +kernel
set_option maxRecDepth 100000 in
theorem ln_Lg_localDay : am_lk cd_Lg_localDay 21 = true := by decide +kernel
set_option maxRecDepth 100000 in
theorem ln_Lg_push : am_lk cd_Lg_push 31 = true := by decide +kernel
set_option maxRecDepth 100000 in
theorem ln_Lg_onwardLeg : am_lk cd_Lg_onwardLeg 46 = true := by decide +kernel
set_option maxRecDepth 100000 in
theorem ln_Pr_init : am_lk cd_Pr_init 76 = true := by decide +kernel
set_option maxRecDepth 100000 in
theorem ln_Pr_begin : am_lk cd_Pr_begin 41 = true := by decide +kernel
set_option maxRecDepth 100000 in
theorem ln_Pr_findCheapest : am_lk cd_Pr_findCheapest 20 = true := by decide +kernel
set_option maxRecDepth 100000 in
theorem ln_Pr_findCheapestByLegs : am_lk cd_Pr_findCheapestByLegs 20 = true := by decide +kernel
set_option maxRecDepth 100000 in
theorem ln_Pr_tryStretches : am_lk cd_Pr_tryStretches 160 = true := by decide +kernel
set_option maxRecDepth 100000 in
theorem ln_Pr_tryLegs : am_lk cd_Pr_tryLegs 249 = true := by decide +kernel
set_option maxRecDepth 100000 in
theorem ln_Pr_lastTried : am_lk cd_Pr_lastTried 34 = true := by decide +kernel
set_option maxRecDepth 100000 in
theorem ln_Pr_dropLastTried : am_lk cd_Pr_dropLastTried 28 = true := by decide +kernel
set_option maxRecDepth 100000 in
theorem ln_Pr_isCheaper : am_lk cd_Pr_isCheaper 22 = true := by decide +kernel
set_option maxRecDepth 100000 in
theorem ln_Pr_endsAhead : am_lk cd_Pr_endsAhead 51 = true := by decide +kernel
set_option maxRecDepth 100000 in
theorem ln_Pr_fits : am_lk cd_Pr_fits 100 = true := by decide +kernel
set_option maxRecDepth 100000 in
theorem ln_Pr_takes : am_lk cd_Pr_takes 94 = true := by decide +kernel
set_option maxRecDepth 100000 in
theorem ln_Pr_isNear : am_lk cd_Pr_isNear 36 = true := by decide +kernel
set_option maxRecDepth 100000 in
theorem ln_Pr_keepIfPossible : am_lk cd_Pr_keepIfPossible 91 = true := by decide +kernel
set_option maxRecDepth 100000 in
theorem ln_Pr_areCarriersCombined : am_lk cd_Pr_areCarriersCombined 105 = true := by decide +kernel
set_option maxRecDepth 100000 in
theorem ln_Pr_areReturnsWhole : am_lk cd_Pr_areReturnsWhole 178 = true := by decide +kernel
set_option maxRecDepth 100000 in
theorem ln_Wi_init : am_lk cd_Wi_init 31 = true := by decide +kernel
set_option maxRecDepth 100000 in
theorem ln_Wi_waits : am_lk cd_Wi_waits 42 = true := by decide +kernel
set_option maxRecDepth 100000 in
theorem ln_X_init : am_lk cd_X_init 145 = true := by decide +kernel
set_option maxRecDepth 100000 in
theorem ln_X_setZone : am_lk cd_X_setZone 40 = true := by decide +kernel
set_option maxRecDepth 100000 in
theorem ln_X_setTax : am_lk cd_X_setTax 30 = true := by decide +kernel
set_option maxRecDepth 100000 in
theorem ln_X_flight : am_lk cd_X_flight 130 = true := by decide +kernel
set_option maxRecDepth 100000 in
theorem ln_X_days : am_lk cd_X_days 108 = true := by decide +kernel
set_option maxRecDepth 100000 in
theorem ln_X_limit : am_lk cd_X_limit 45 = true := by decide +kernel
set_option maxRecDepth 100000 in
theorem ln_X_link : am_lk cd_X_link 87 = true := by decide +kernel
set_option maxRecDepth 100000 in
theorem ln_X_fare : am_lk cd_X_fare 101 = true := by decide +kernel
set_option maxRecDepth 100000 in
theorem ln_X_rules : am_lk cd_X_rules 78 = true := by decide +kernel
set_option maxRecDepth 100000 in
theorem ln_X_back : am_lk cd_X_back 27 = true := by decide +kernel
set_option maxRecDepth 100000 in
theorem ln_X_departure : am_lk cd_X_departure 9 = true := by decide +kernel
set_option maxRecDepth 100000 in
theorem ln_X_standing : am_lk cd_X_standing 44 = true := by decide +kernel
set_option maxRecDepth 100000 in
theorem ln_X_open : am_lk cd_X_open 18 = true := by decide +kernel
set_option maxRecDepth 100000 in
theorem ln_X_load : am_lk cd_X_load 36 = true := by decide +kernel
set_option maxRecDepth 100000 in
theorem ln_X_cancelLeg : am_lk cd_X_cancelLeg 87 = true := by decide +kernel
set_option maxRecDepth 100000 in
theorem ln_X_delay : am_lk cd_X_delay 151 = true := by decide +kernel
set_option maxRecDepth 100000 in
theorem ln_X_repair : am_lk cd_X_repair 168 = true := by decide +kernel
set_option maxRecDepth 100000 in
theorem ln_X_leg : am_lk cd_X_leg 135 = true := by decide +kernel
set_option maxRecDepth 100000 in
theorem ln_X_dropLegs : am_lk cd_X_dropLegs 17 = true := by decide +kernel
set_option maxRecDepth 100000 in
theorem ln_X_price : am_lk cd_X_price 24 = true := by decide +kernel
set_option maxRecDepth 100000 in
theorem ln_X_priceAnew : am_lk cd_X_priceAnew 31 = true := by decide +kernel
set_option maxRecDepth 100000 in
theorem ln_X_stretch : am_lk cd_X_stretch 65 = true := by decide +kernel
set_option maxRecDepth 100000 in
theorem ln_X_taxes : am_lk cd_X_taxes 35 = true := by decide +kernel
set_option maxRecDepth 100000 in
theorem ln_X_hold : am_lk cd_X_hold 82 = true := by decide +kernel
set_option maxRecDepth 100000 in
theorem ln_X_wish : am_lk cd_X_wish 119 = true := by decide +kernel
set_option maxRecDepth 100000 in
theorem ln_X_clear : am_lk cd_X_clear 142 = true := by decide +kernel
set_option maxRecDepth 100000 in
theorem ln_X_wished : am_lk cd_X_wished 52 = true := by decide +kernel
set_option maxRecDepth 100000 in
theorem ln_X_ticket : am_lk cd_X_ticket 36 = true := by decide +kernel
set_option maxRecDepth 100000 in
theorem ln_X_part : am_lk cd_X_part 77 = true := by decide +kernel
set_option maxRecDepth 100000 in
theorem ln_X_cancel : am_lk cd_X_cancel 41 = true := by decide +kernel
set_option maxRecDepth 100000 in
theorem ln_X_booking : am_lk cd_X_booking 31 = true := by decide +kernel
set_option maxRecDepth 100000 in
theorem ln_X_coupon : am_lk cd_X_coupon 31 = true := by decide +kernel
set_option maxRecDepth 100000 in
theorem ln_X_share : am_lk cd_X_share 10 = true := by decide +kernel
set_option maxRecDepth 100000 in
theorem ln_X_check : am_lk cd_X_check 87 = true := by decide +kernel
set_option maxRecDepth 100000 in
theorem ln_X_volunteer : am_lk cd_X_volunteer 27 = true := by decide +kernel
set_option maxRecDepth 100000 in
theorem ln_X_pass : am_lk cd_X_pass 89 = true := by decide +kernel
set_option maxRecDepth 100000 in
theorem ln_X_denied : am_lk cd_X_denied 5 = true := by decide +kernel
set_option maxRecDepth 100000 in
theorem ln_X_points : am_lk cd_X_points 12 = true := by decide +kernel
set_option maxRecDepth 100000 in
theorem ln_X_owed : am_lk cd_X_owed 21 = true := by decide +kernel
set_option maxRecDepth 100000 in
theorem ln_X_needIndex : am_lk cd_X_needIndex 18 = true := by decide +kernel
set_option maxRecDepth 100000 in
theorem ln_X_needIndexOrNone : am_lk cd_X_needIndexOrNone 11 = true := by decide +kernel
set_option maxRecDepth 100000 in
theorem ln_X_needRange : am_lk cd_X_needRange 19 = true := by decide +kernel
set_option maxRecDepth 100000 in
theorem ln_X_needArgument : am_lk cd_X_needArgument 13 = true := by decide +kernel
set_option maxRecDepth 100000 in
theorem ln_X_needState : am_lk cd_X_needState 13 = true := by decide +kernel
set_option maxRecDepth 100000 in
theorem ln_X_findFlight : am_lk cd_X_findFlight 23 = true := by decide +kernel
set_option maxRecDepth 100000 in
theorem ln_X_findFare : am_lk cd_X_findFare 23 = true := by decide +kernel
set_option maxRecDepth 100000 in
theorem ln_X_findLeg : am_lk cd_X_findLeg 50 = true := by decide +kernel
set_option maxRecDepth 100000 in
theorem ln_X_findBooking : am_lk cd_X_findBooking 23 = true := by decide +kernel
set_option maxRecDepth 100000 in
theorem ln_X_findCoupon : am_lk cd_X_findCoupon 29 = true := by decide +kernel
set_option maxRecDepth 100000 in
theorem ln_X_soldSeats : am_lk cd_X_soldSeats 131 = true := by decide +kernel
set_option maxRecDepth 100000 in
theorem ln_X_openSeats : am_lk cd_X_openSeats 80 = true := by decide +kernel
set_option maxRecDepth 100000 in
theorem ln_X_hoursAhead : am_lk cd_X_hoursAhead 47 = true := by decide +kernel
set_option maxRecDepth 100000 in
theorem ln_X_taxAt : am_lk cd_X_taxAt 80 = true := by decide +kernel
set_option maxRecDepth 100000 in
theorem ln_X_beginPrice : am_lk cd_X_beginPrice 86 = true := by decide +kernel
set_option maxRecDepth 100000 in
theorem ln_X_buildPrice : am_lk cd_X_buildPrice 14 = true := by decide +kernel
set_option maxRecDepth 100000 in
theorem ln_X_holdPriced : am_lk cd_X_holdPriced 165 = true := by decide +kernel
set_option maxRecDepth 100000 in
theorem ln_X_addCoupons : am_lk cd_X_addCoupons 196 = true := by decide +kernel
set_option maxRecDepth 100000 in
theorem ln_X_tierOf : am_lk cd_X_tierOf 26 = true := by decide +kernel
set_option maxRecDepth 100000 in
theorem ln_X_checkedPersons : am_lk cd_X_checkedPersons 58 = true := by decide +kernel
set_option maxRecDepth 100000 in
theorem ln_X_lapseHeld : am_lk cd_X_lapseHeld 55 = true := by decide +kernel
set_option maxRecDepth 100000 in
theorem ln_X_takeOff : am_lk cd_X_takeOff 115 = true := by decide +kernel
set_option maxRecDepth 100000 in
theorem ln_X_denySurplus : am_lk cd_X_denySurplus 153 = true := by decide +kernel
set_option maxRecDepth 100000 in
theorem ln_X_deny : am_lk cd_X_deny 38 = true := by decide +kernel
set_option maxRecDepth 100000 in
theorem ln_X_flyOrMiss : am_lk cd_X_flyOrMiss 85 = true := by decide +kernel
set_option maxRecDepth 100000 in
theorem ln_X_addAt : am_lk cd_X_addAt 18 = true := by decide +kernel
set_option maxRecDepth 100000 in
theorem ln_X_withdraw : am_lk cd_X_withdraw 57 = true := by decide +kernel
set_option maxRecDepth 100000 in
theorem ln_X_addOnce : am_lk cd_X_addOnce 33 = true := by decide +kernel
set_option maxRecDepth 100000 in
theorem ln_X_moveOn : am_lk cd_X_moveOn 149 = true := by decide +kernel
set_option maxRecDepth 100000 in
theorem ln_X_findDetour : am_lk cd_X_findDetour 240 = true := by decide +kernel
set_option maxRecDepth 100000 in
theorem ln_X_offerFrom : am_lk cd_X_offerFrom 207 = true := by decide +kernel
set_option maxRecDepth 100000 in
theorem ln_AL_init : am_lk cd_AL_init 12 = true := by decide +kernel
set_option maxRecDepth 100000 in
theorem ln_AL_grow : am_lk cd_AL_grow 60 = true := by decide +kernel
set_option maxRecDepth 100000 in
theorem ln_AL_grow2 : am_lk cd_AL_grow2 11 = true := by decide +kernel
set_option maxRecDepth 100000 in
theorem ln_AL_size : am_lk cd_AL_size 5 = true := by decide +kernel
set_option maxRecDepth 100000 in
theorem ln_AL_isEmpty : am_lk cd_AL_isEmpty 13 = true := by decide +kernel
set_option maxRecDepth 100000 in
theorem ln_AL_elementData : am_lk cd_AL_elementData 7 = true := by decide +kernel
set_option maxRecDepth 100000 in
theorem ln_AL_get : am_lk cd_AL_get 15 = true := by decide +kernel
set_option maxRecDepth 100000 in
theorem ln_AL_add : am_lk cd_AL_add 23 = true := by decide +kernel
set_option maxRecDepth 100000 in
theorem ln_AL_add2 : am_lk cd_AL_add2 25 = true := by decide +kernel
set_option maxRecDepth 100000 in
theorem ln_AL_add3 : am_lk cd_AL_add3 65 = true := by decide +kernel
set_option maxRecDepth 100000 in
theorem ln_AL_remove : am_lk cd_AL_remove 26 = true := by decide +kernel
set_option maxRecDepth 100000 in
theorem ln_AL_fastRemove : am_lk cd_AL_fastRemove 44 = true := by decide +kernel
set_option maxRecDepth 100000 in
theorem ln_AL_clear : am_lk cd_AL_clear 43 = true := by decide +kernel
set_option maxRecDepth 100000 in
theorem ln_AL_rangeCheckForAdd : am_lk cd_AL_rangeCheckForAdd 26 = true := by decide +kernel
set_option maxRecDepth 100000 in
theorem ln_L_part : am_lk cd_L_part 33 = true := by decide +kernel
set_option maxRecDepth 100000 in
theorem ln_L_does : am_lk cd_L_does 493 = true := by decide +kernel
set_option maxRecDepth 100000 in
theorem ln_L_rules : am_lk cd_L_rules 27 = true := by decide +kernel
set_option maxRecDepth 100000 in
theorem ln_L_sold : am_lk cd_L_sold 116 = true := by decide +kernel
set_option maxRecDepth 100000 in
theorem ln_L_isLeg : am_lk cd_L_isLeg 316 = true := by decide +kernel
set_option maxRecDepth 100000 in
theorem ln_L_areBookings : am_lk cd_L_areBookings 569 = true := by decide +kernel
set_option maxRecDepth 100000 in
theorem ln_L_isPrice : am_lk cd_L_isPrice 272 = true := by decide +kernel
set_option maxRecDepth 100000 in
theorem ln_L_isFlight : am_lk cd_L_isFlight 304 = true := by decide +kernel
set_option maxRecDepth 100000 in
theorem ln_L_isFare : am_lk cd_L_isFare 328 = true := by decide +kernel
set_option maxRecDepth 100000 in
theorem ln_L_leg : am_lk cd_L_leg 27 = true := by decide +kernel
set_option maxRecDepth 100000 in
theorem ln_L_isDrafted : am_lk cd_L_isDrafted 202 = true := by decide +kernel
set_option maxRecDepth 100000 in
theorem ln_L_isHeld : am_lk cd_L_isHeld 359 = true := by decide +kernel
set_option maxRecDepth 100000 in
theorem ln_L_isCleared : am_lk cd_L_isCleared 269 = true := by decide +kernel
set_option maxRecDepth 100000 in
theorem ln_L_isChanged : am_lk cd_L_isChanged 652 = true := by decide +kernel
set_option maxRecDepth 100000 in
theorem ln_L_isBad : am_lk cd_L_isBad 486 = true := by decide +kernel
set_option maxRecDepth 100000 in
theorem ln_AbL_init : am_lk cd_AbL_init 10 = true := by decide +kernel
set_option maxRecDepth 100000 in
theorem ln_AbC_init : am_lk cd_AbC_init 5 = true := by decide +kernel
set_option maxRecDepth 100000 in
theorem ln_Ob_checkIndex : am_lk cd_Ob_checkIndex 7 = true := by decide +kernel
set_option maxRecDepth 100000 in
theorem ln_Pc_checkIndex : am_lk cd_Pc_checkIndex 18 = true := by decide +kernel
set_option maxRecDepth 100000 in
theorem ln_AS_newLength : am_lk cd_AS_newLength 27 = true := by decide +kernel
set_option maxRecDepth 100000 in
theorem ln_Ma_floorDiv : am_lk cd_Ma_floorDiv 23 = true := by decide +kernel
set_option maxRecDepth 100000 in
theorem ln_Ma_max : am_lk cd_Ma_max 11 = true := by decide +kernel
set_option maxRecDepth 100000 in
theorem ln_Ma_min : am_lk cd_Ma_min 11 = true := by decide +kernel
set_option maxRecDepth 100000 in
theorem ln_L_law : am_lk cd_L_law 988 = true := by decide +kernel
theorem am_cdt_len : am_all am_cdt (fun _ f => am_lkP f) := am_nd_ok (am_nd_ok (am_nd_ok (am_nd_ok (am_nd_ok (am_nd_ok (am_nd_ok (am_lf_ok (am_lk_ok ln_Bk_init)) (am_lf_ok (am_lk_ok ln_Bk_hasSeats))) (am_nd_ok (am_lf_ok (am_lk_ok ln_Bk_end)) (am_lf_ok (am_lk_ok ln_Bk_couponToFly)))) (am_nd_ok (am_nd_ok (am_lf_ok (am_lk_ok ln_Bk_isCheckedFor)) (am_lf_ok (am_lk_ok ln_Bk_placeOf))) (am_nd_ok (am_lf_ok (am_lk_ok ln_Bk_nearestLeg)) (am_nd_ok (am_lf_ok (am_lk_ok ln_Bk_usesLeg)) (am_lf_ok (am_lk_ok ln_Bk_isBroken)))))) (am_nd_ok (am_nd_ok (am_nd_ok (am_lf_ok (am_lk_ok ln_Bk_paidForOne)) (am_lf_ok (am_lk_ok ln_Bk_backForOne))) (am_nd_ok (am_lf_ok (am_lk_ok ln_Bk_isBegun)) (am_nd_ok (am_lf_ok (am_lk_ok ln_Bk_parted)) (am_lf_ok (am_lk_ok ln_Cp_init))))) (am_nd_ok (am_nd_ok (am_lf_ok (am_lk_ok ln_Cp_copied)) (am_lf_ok (am_lk_ok ln_Cp_isToFly))) (am_nd_ok (am_lf_ok (am_lk_ok ln_Cp_isReplaced)) (am_nd_ok (am_lf_ok (am_lk_ok ln_Dt_init)) (am_lf_ok (am_lk_ok ln_Dt_begin))))))) (am_nd_ok (am_nd_ok (am_nd_ok (am_nd_ok (am_lf_ok (am_lk_ok ln_Dt_legs)) (am_lf_ok (am_lk_ok ln_Dt_offer))) (am_nd_ok (am_lf_ok (am_lk_ok ln_Fa_init)) (am_nd_ok (am_lf_ok (am_lk_ok ln_Fa_beginsWith)) (am_lf_ok (am_lk_ok ln_Fl_init))))) (am_nd_ok (am_nd_ok (am_lf_ok (am_lk_ok ln_Fl_on)) (am_lf_ok (am_lk_ok ln_Fl_dayToLookFrom))) (am_nd_ok (am_lf_ok (am_lk_ok ln_Fl_departingAt)) (am_nd_ok (am_lf_ok (am_lk_ok ln_Lg_init)) (am_lf_ok (am_lk_ok ln_Lg_hasDeparted)))))) (am_nd_ok (am_nd_ok (am_nd_ok (am_lf_ok (am_lk_ok ln_Lg_isAhead)) (am_lf_ok (am_lk_ok ln_Lg_localDay))) (am_nd_ok (am_lf_ok (am_lk_ok ln_Lg_push)) (am_nd_ok (am_lf_ok (am_lk_ok ln_Lg_onwardLeg)) (am_lf_ok (am_lk_ok ln_Pr_init))))) (am_nd_ok (am_nd_ok (am_lf_ok (am_lk_ok ln_Pr_begin)) (am_lf_ok (am_lk_ok ln_Pr_findCheapest))) (am_nd_ok (am_lf_ok (am_lk_ok ln_Pr_findCheapestByLegs)) (am_nd_ok (am_lf_ok (am_lk_ok ln_Pr_tryStretches)) (am_lf_ok (am_lk_ok ln_Pr_tryLegs)))))))) (am_nd_ok (am_nd_ok (am_nd_ok (am_nd_ok (am_nd_ok (am_lf_ok (am_lk_ok ln_Pr_lastTried)) (am_lf_ok (am_lk_ok ln_Pr_dropLastTried))) (am_nd_ok (am_lf_ok (am_lk_ok ln_Pr_isCheaper)) (am_nd_ok (am_lf_ok (am_lk_ok ln_Pr_endsAhead)) (am_lf_ok (am_lk_ok ln_Pr_fits))))) (am_nd_ok (am_nd_ok (am_lf_ok (am_lk_ok ln_Pr_takes)) (am_lf_ok (am_lk_ok ln_Pr_isNear))) (am_nd_ok (am_lf_ok (am_lk_ok ln_Pr_keepIfPossible)) (am_nd_ok (am_lf_ok (am_lk_ok ln_Pr_areCarriersCombined)) (am_lf_ok (am_lk_ok ln_Pr_areReturnsWhole)))))) (am_nd_ok (am_nd_ok (am_nd_ok (am_lf_ok (am_lk_ok ln_Wi_init)) (am_lf_ok (am_lk_ok ln_Wi_waits))) (am_nd_ok (am_lf_ok (am_lk_ok ln_X_init)) (am_nd_ok (am_lf_ok (am_lk_ok ln_X_setZone)) (am_lf_ok (am_lk_ok ln_X_setTax))))) (am_nd_ok (am_nd_ok (am_lf_ok (am_lk_ok ln_X_flight)) (am_lf_ok (am_lk_ok ln_X_days))) (am_nd_ok (am_lf_ok (am_lk_ok ln_X_limit)) (am_nd_ok (am_lf_ok (am_lk_ok ln_X_link)) (am_lf_ok (am_lk_ok ln_X_fare))))))) (am_nd_ok (am_nd_ok (am_nd_ok (am_nd_ok (am_lf_ok (am_lk_ok ln_X_rules)) (am_lf_ok (am_lk_ok ln_X_back))) (am_nd_ok (am_lf_ok (am_lk_ok ln_X_departure)) (am_nd_ok (am_lf_ok (am_lk_ok ln_X_standing)) (am_lf_ok (am_lk_ok ln_X_open))))) (am_nd_ok (am_nd_ok (am_lf_ok (am_lk_ok ln_X_load)) (am_lf_ok (am_lk_ok ln_X_cancelLeg))) (am_nd_ok (am_lf_ok (am_lk_ok ln_X_delay)) (am_nd_ok (am_lf_ok (am_lk_ok ln_X_repair)) (am_lf_ok (am_lk_ok ln_X_leg)))))) (am_nd_ok (am_nd_ok (am_nd_ok (am_lf_ok (am_lk_ok ln_X_dropLegs)) (am_lf_ok (am_lk_ok ln_X_price))) (am_nd_ok (am_lf_ok (am_lk_ok ln_X_priceAnew)) (am_nd_ok (am_lf_ok (am_lk_ok ln_X_stretch)) (am_lf_ok (am_lk_ok ln_X_taxes))))) (am_nd_ok (am_nd_ok (am_lf_ok (am_lk_ok ln_X_hold)) (am_lf_ok (am_lk_ok ln_X_wish))) (am_nd_ok (am_lf_ok (am_lk_ok ln_X_clear)) (am_nd_ok (am_lf_ok (am_lk_ok ln_X_wished)) (am_lf_ok (am_lk_ok ln_X_ticket))))))))) (am_nd_ok (am_nd_ok (am_nd_ok (am_nd_ok (am_nd_ok (am_nd_ok (am_lf_ok (am_lk_ok ln_X_part)) (am_lf_ok (am_lk_ok ln_X_cancel))) (am_nd_ok (am_lf_ok (am_lk_ok ln_X_booking)) (am_nd_ok (am_lf_ok (am_lk_ok ln_X_coupon)) (am_lf_ok (am_lk_ok ln_X_share))))) (am_nd_ok (am_nd_ok (am_lf_ok (am_lk_ok ln_X_check)) (am_lf_ok (am_lk_ok ln_X_volunteer))) (am_nd_ok (am_lf_ok (am_lk_ok ln_X_pass)) (am_nd_ok (am_lf_ok (am_lk_ok ln_X_denied)) (am_lf_ok (am_lk_ok ln_X_points)))))) (am_nd_ok (am_nd_ok (am_nd_ok (am_lf_ok (am_lk_ok ln_X_owed)) (am_lf_ok (am_lk_ok ln_X_needIndex))) (am_nd_ok (am_lf_ok (am_lk_ok ln_X_needIndexOrNone)) (am_nd_ok (am_lf_ok (am_lk_ok ln_X_needRange)) (am_lf_ok (am_lk_ok ln_X_needArgument))))) (am_nd_ok (am_nd_ok (am_lf_ok (am_lk_ok ln_X_needState)) (am_lf_ok (am_lk_ok ln_X_findFlight))) (am_nd_ok (am_lf_ok (am_lk_ok ln_X_findFare)) (am_nd_ok (am_lf_ok (am_lk_ok ln_X_findLeg)) (am_lf_ok (am_lk_ok ln_X_findBooking))))))) (am_nd_ok (am_nd_ok (am_nd_ok (am_nd_ok (am_lf_ok (am_lk_ok ln_X_findCoupon)) (am_lf_ok (am_lk_ok ln_X_soldSeats))) (am_nd_ok (am_lf_ok (am_lk_ok ln_X_openSeats)) (am_nd_ok (am_lf_ok (am_lk_ok ln_X_hoursAhead)) (am_lf_ok (am_lk_ok ln_X_taxAt))))) (am_nd_ok (am_nd_ok (am_lf_ok (am_lk_ok ln_X_beginPrice)) (am_lf_ok (am_lk_ok ln_X_buildPrice))) (am_nd_ok (am_lf_ok (am_lk_ok ln_X_holdPriced)) (am_nd_ok (am_lf_ok (am_lk_ok ln_X_addCoupons)) (am_lf_ok (am_lk_ok ln_X_tierOf)))))) (am_nd_ok (am_nd_ok (am_nd_ok (am_lf_ok (am_lk_ok ln_X_checkedPersons)) (am_lf_ok (am_lk_ok ln_X_lapseHeld))) (am_nd_ok (am_lf_ok (am_lk_ok ln_X_takeOff)) (am_nd_ok (am_lf_ok (am_lk_ok ln_X_denySurplus)) (am_lf_ok (am_lk_ok ln_X_deny))))) (am_nd_ok (am_nd_ok (am_lf_ok (am_lk_ok ln_X_flyOrMiss)) (am_lf_ok (am_lk_ok ln_X_addAt))) (am_nd_ok (am_lf_ok (am_lk_ok ln_X_withdraw)) (am_nd_ok (am_lf_ok (am_lk_ok ln_X_addOnce)) (am_lf_ok (am_lk_ok ln_X_moveOn)))))))) (am_nd_ok (am_nd_ok (am_nd_ok (am_nd_ok (am_nd_ok (am_lf_ok (am_lk_ok ln_X_findDetour)) (am_lf_ok (am_lk_ok ln_X_offerFrom))) (am_nd_ok (am_lf_ok (am_lk_ok ln_AL_init)) (am_nd_ok (am_lf_ok (am_lk_ok ln_AL_grow)) (am_lf_ok (am_lk_ok ln_AL_grow2))))) (am_nd_ok (am_nd_ok (am_lf_ok (am_lk_ok ln_AL_size)) (am_lf_ok (am_lk_ok ln_AL_isEmpty))) (am_nd_ok (am_lf_ok (am_lk_ok ln_AL_elementData)) (am_nd_ok (am_lf_ok (am_lk_ok ln_AL_get)) (am_lf_ok (am_lk_ok ln_AL_add)))))) (am_nd_ok (am_nd_ok (am_nd_ok (am_lf_ok (am_lk_ok ln_AL_add2)) (am_lf_ok (am_lk_ok ln_AL_add3))) (am_nd_ok (am_lf_ok (am_lk_ok ln_AL_remove)) (am_nd_ok (am_lf_ok (am_lk_ok ln_AL_fastRemove)) (am_lf_ok (am_lk_ok ln_AL_clear))))) (am_nd_ok (am_nd_ok (am_lf_ok (am_lk_ok ln_AL_rangeCheckForAdd)) (am_lf_ok (am_lk_ok ln_L_part))) (am_nd_ok (am_lf_ok (am_lk_ok ln_L_does)) (am_nd_ok (am_lf_ok (am_lk_ok ln_L_rules)) (am_lf_ok (am_lk_ok ln_L_sold))))))) (am_nd_ok (am_nd_ok (am_nd_ok (am_nd_ok (am_lf_ok (am_lk_ok ln_L_isLeg)) (am_lf_ok (am_lk_ok ln_L_areBookings))) (am_nd_ok (am_lf_ok (am_lk_ok ln_L_isPrice)) (am_nd_ok (am_lf_ok (am_lk_ok ln_L_isFlight)) (am_lf_ok (am_lk_ok ln_L_isFare))))) (am_nd_ok (am_nd_ok (am_lf_ok (am_lk_ok ln_L_leg)) (am_lf_ok (am_lk_ok ln_L_isDrafted))) (am_nd_ok (am_lf_ok (am_lk_ok ln_L_isHeld)) (am_nd_ok (am_lf_ok (am_lk_ok ln_L_isCleared)) (am_lf_ok (am_lk_ok ln_L_isChanged)))))) (am_nd_ok (am_nd_ok (am_nd_ok (am_lf_ok (am_lk_ok ln_L_isBad)) (am_lf_ok (am_lk_ok ln_AbL_init))) (am_nd_ok (am_lf_ok (am_lk_ok ln_AbC_init)) (am_nd_ok (am_lf_ok (am_lk_ok ln_Ob_checkIndex)) (am_lf_ok (am_lk_ok ln_Pc_checkIndex))))) (am_nd_ok (am_nd_ok (am_lf_ok (am_lk_ok ln_AS_newLength)) (am_lf_ok (am_lk_ok ln_Ma_floorDiv))) (am_nd_ok (am_lf_ok (am_lk_ok ln_Ma_max)) (am_nd_ok (am_lf_ok (am_lk_ok ln_Ma_min)) (am_lf_ok (am_lk_ok ln_L_law)))))))))
theorem am_len {y pc n : Nat} {i : Instr} (h : am_cd y pc = some (i, n)) : am_okl i n = true := by
  unfold am_cd at h
  cases hy : am_cdt y with
  | none => rw [hy] at h; cases h
  | some f => rw [hy] at h; exact am_cdt_len y f hy pc i n h
/-- the bytes of a method -/
def am_by (y : Nat) : ByteArray := match am_mt y with | some v => v.2.1 | none => code
theorem am_cdt_law : am_all am_cdt (fun y f => (am_mt y).isSome = true ∨ f = cd_L_law) := am_nd_ok (am_nd_ok (am_nd_ok (am_nd_ok (am_nd_ok (am_nd_ok (am_nd_ok (am_lf_ok (Or.inl rfl)) (am_lf_ok (Or.inl rfl))) (am_nd_ok (am_lf_ok (Or.inl rfl)) (am_lf_ok (Or.inl rfl)))) (am_nd_ok (am_nd_ok (am_lf_ok (Or.inl rfl)) (am_lf_ok (Or.inl rfl))) (am_nd_ok (am_lf_ok (Or.inl rfl)) (am_nd_ok (am_lf_ok (Or.inl rfl)) (am_lf_ok (Or.inl rfl)))))) (am_nd_ok (am_nd_ok (am_nd_ok (am_lf_ok (Or.inl rfl)) (am_lf_ok (Or.inl rfl))) (am_nd_ok (am_lf_ok (Or.inl rfl)) (am_nd_ok (am_lf_ok (Or.inl rfl)) (am_lf_ok (Or.inl rfl))))) (am_nd_ok (am_nd_ok (am_lf_ok (Or.inl rfl)) (am_lf_ok (Or.inl rfl))) (am_nd_ok (am_lf_ok (Or.inl rfl)) (am_nd_ok (am_lf_ok (Or.inl rfl)) (am_lf_ok (Or.inl rfl))))))) (am_nd_ok (am_nd_ok (am_nd_ok (am_nd_ok (am_lf_ok (Or.inl rfl)) (am_lf_ok (Or.inl rfl))) (am_nd_ok (am_lf_ok (Or.inl rfl)) (am_nd_ok (am_lf_ok (Or.inl rfl)) (am_lf_ok (Or.inl rfl))))) (am_nd_ok (am_nd_ok (am_lf_ok (Or.inl rfl)) (am_lf_ok (Or.inl rfl))) (am_nd_ok (am_lf_ok (Or.inl rfl)) (am_nd_ok (am_lf_ok (Or.inl rfl)) (am_lf_ok (Or.inl rfl)))))) (am_nd_ok (am_nd_ok (am_nd_ok (am_lf_ok (Or.inl rfl)) (am_lf_ok (Or.inl rfl))) (am_nd_ok (am_lf_ok (Or.inl rfl)) (am_nd_ok (am_lf_ok (Or.inl rfl)) (am_lf_ok (Or.inl rfl))))) (am_nd_ok (am_nd_ok (am_lf_ok (Or.inl rfl)) (am_lf_ok (Or.inl rfl))) (am_nd_ok (am_lf_ok (Or.inl rfl)) (am_nd_ok (am_lf_ok (Or.inl rfl)) (am_lf_ok (Or.inl rfl)))))))) (am_nd_ok (am_nd_ok (am_nd_ok (am_nd_ok (am_nd_ok (am_lf_ok (Or.inl rfl)) (am_lf_ok (Or.inl rfl))) (am_nd_ok (am_lf_ok (Or.inl rfl)) (am_nd_ok (am_lf_ok (Or.inl rfl)) (am_lf_ok (Or.inl rfl))))) (am_nd_ok (am_nd_ok (am_lf_ok (Or.inl rfl)) (am_lf_ok (Or.inl rfl))) (am_nd_ok (am_lf_ok (Or.inl rfl)) (am_nd_ok (am_lf_ok (Or.inl rfl)) (am_lf_ok (Or.inl rfl)))))) (am_nd_ok (am_nd_ok (am_nd_ok (am_lf_ok (Or.inl rfl)) (am_lf_ok (Or.inl rfl))) (am_nd_ok (am_lf_ok (Or.inl rfl)) (am_nd_ok (am_lf_ok (Or.inl rfl)) (am_lf_ok (Or.inl rfl))))) (am_nd_ok (am_nd_ok (am_lf_ok (Or.inl rfl)) (am_lf_ok (Or.inl rfl))) (am_nd_ok (am_lf_ok (Or.inl rfl)) (am_nd_ok (am_lf_ok (Or.inl rfl)) (am_lf_ok (Or.inl rfl))))))) (am_nd_ok (am_nd_ok (am_nd_ok (am_nd_ok (am_lf_ok (Or.inl rfl)) (am_lf_ok (Or.inl rfl))) (am_nd_ok (am_lf_ok (Or.inl rfl)) (am_nd_ok (am_lf_ok (Or.inl rfl)) (am_lf_ok (Or.inl rfl))))) (am_nd_ok (am_nd_ok (am_lf_ok (Or.inl rfl)) (am_lf_ok (Or.inl rfl))) (am_nd_ok (am_lf_ok (Or.inl rfl)) (am_nd_ok (am_lf_ok (Or.inl rfl)) (am_lf_ok (Or.inl rfl)))))) (am_nd_ok (am_nd_ok (am_nd_ok (am_lf_ok (Or.inl rfl)) (am_lf_ok (Or.inl rfl))) (am_nd_ok (am_lf_ok (Or.inl rfl)) (am_nd_ok (am_lf_ok (Or.inl rfl)) (am_lf_ok (Or.inl rfl))))) (am_nd_ok (am_nd_ok (am_lf_ok (Or.inl rfl)) (am_lf_ok (Or.inl rfl))) (am_nd_ok (am_lf_ok (Or.inl rfl)) (am_nd_ok (am_lf_ok (Or.inl rfl)) (am_lf_ok (Or.inl rfl))))))))) (am_nd_ok (am_nd_ok (am_nd_ok (am_nd_ok (am_nd_ok (am_nd_ok (am_lf_ok (Or.inl rfl)) (am_lf_ok (Or.inl rfl))) (am_nd_ok (am_lf_ok (Or.inl rfl)) (am_nd_ok (am_lf_ok (Or.inl rfl)) (am_lf_ok (Or.inl rfl))))) (am_nd_ok (am_nd_ok (am_lf_ok (Or.inl rfl)) (am_lf_ok (Or.inl rfl))) (am_nd_ok (am_lf_ok (Or.inl rfl)) (am_nd_ok (am_lf_ok (Or.inl rfl)) (am_lf_ok (Or.inl rfl)))))) (am_nd_ok (am_nd_ok (am_nd_ok (am_lf_ok (Or.inl rfl)) (am_lf_ok (Or.inl rfl))) (am_nd_ok (am_lf_ok (Or.inl rfl)) (am_nd_ok (am_lf_ok (Or.inl rfl)) (am_lf_ok (Or.inl rfl))))) (am_nd_ok (am_nd_ok (am_lf_ok (Or.inl rfl)) (am_lf_ok (Or.inl rfl))) (am_nd_ok (am_lf_ok (Or.inl rfl)) (am_nd_ok (am_lf_ok (Or.inl rfl)) (am_lf_ok (Or.inl rfl))))))) (am_nd_ok (am_nd_ok (am_nd_ok (am_nd_ok (am_lf_ok (Or.inl rfl)) (am_lf_ok (Or.inl rfl))) (am_nd_ok (am_lf_ok (Or.inl rfl)) (am_nd_ok (am_lf_ok (Or.inl rfl)) (am_lf_ok (Or.inl rfl))))) (am_nd_ok (am_nd_ok (am_lf_ok (Or.inl rfl)) (am_lf_ok (Or.inl rfl))) (am_nd_ok (am_lf_ok (Or.inl rfl)) (am_nd_ok (am_lf_ok (Or.inl rfl)) (am_lf_ok (Or.inl rfl)))))) (am_nd_ok (am_nd_ok (am_nd_ok (am_lf_ok (Or.inl rfl)) (am_lf_ok (Or.inl rfl))) (am_nd_ok (am_lf_ok (Or.inl rfl)) (am_nd_ok (am_lf_ok (Or.inl rfl)) (am_lf_ok (Or.inl rfl))))) (am_nd_ok (am_nd_ok (am_lf_ok (Or.inl rfl)) (am_lf_ok (Or.inl rfl))) (am_nd_ok (am_lf_ok (Or.inl rfl)) (am_nd_ok (am_lf_ok (Or.inl rfl)) (am_lf_ok (Or.inl rfl)))))))) (am_nd_ok (am_nd_ok (am_nd_ok (am_nd_ok (am_nd_ok (am_lf_ok (Or.inl rfl)) (am_lf_ok (Or.inl rfl))) (am_nd_ok (am_lf_ok (Or.inl rfl)) (am_nd_ok (am_lf_ok (Or.inl rfl)) (am_lf_ok (Or.inl rfl))))) (am_nd_ok (am_nd_ok (am_lf_ok (Or.inl rfl)) (am_lf_ok (Or.inl rfl))) (am_nd_ok (am_lf_ok (Or.inl rfl)) (am_nd_ok (am_lf_ok (Or.inl rfl)) (am_lf_ok (Or.inl rfl)))))) (am_nd_ok (am_nd_ok (am_nd_ok (am_lf_ok (Or.inl rfl)) (am_lf_ok (Or.inl rfl))) (am_nd_ok (am_lf_ok (Or.inl rfl)) (am_nd_ok (am_lf_ok (Or.inl rfl)) (am_lf_ok (Or.inl rfl))))) (am_nd_ok (am_nd_ok (am_lf_ok (Or.inl rfl)) (am_lf_ok (Or.inl rfl))) (am_nd_ok (am_lf_ok (Or.inl rfl)) (am_nd_ok (am_lf_ok (Or.inl rfl)) (am_lf_ok (Or.inl rfl))))))) (am_nd_ok (am_nd_ok (am_nd_ok (am_nd_ok (am_lf_ok (Or.inl rfl)) (am_lf_ok (Or.inl rfl))) (am_nd_ok (am_lf_ok (Or.inl rfl)) (am_nd_ok (am_lf_ok (Or.inl rfl)) (am_lf_ok (Or.inl rfl))))) (am_nd_ok (am_nd_ok (am_lf_ok (Or.inl rfl)) (am_lf_ok (Or.inl rfl))) (am_nd_ok (am_lf_ok (Or.inl rfl)) (am_nd_ok (am_lf_ok (Or.inl rfl)) (am_lf_ok (Or.inl rfl)))))) (am_nd_ok (am_nd_ok (am_nd_ok (am_lf_ok (Or.inl rfl)) (am_lf_ok (Or.inl rfl))) (am_nd_ok (am_lf_ok (Or.inl rfl)) (am_nd_ok (am_lf_ok (Or.inl rfl)) (am_lf_ok (Or.inl rfl))))) (am_nd_ok (am_nd_ok (am_lf_ok (Or.inl rfl)) (am_lf_ok (Or.inl rfl))) (am_nd_ok (am_lf_ok (Or.inl rfl)) (am_nd_ok (am_lf_ok (Or.inl rfl)) (am_lf_ok (Or.inr rfl)))))))))
theorem am_dec {y pc n : Nat} {i : Instr} (h : am_cd y pc = some (i, n)) : decode (am_by y) pc = .ok (i, n) := by
  unfold am_by
  cases hy : am_mt y with
  | some v => exact (am_mt_ok y v hy).2.2.2.2.2.2.2 pc (i, n) h
  | none =>
    unfold am_cd at h
    cases hc : am_cdt y with
    | none => rw [hc] at h; cases h
    | some f =>
      rw [hc] at h
      rcases am_cdt_law y f hc with h1 | rfl
      · rw [hy] at h1; cases h1
      · exact ck_L_law pc (i, n) h
end

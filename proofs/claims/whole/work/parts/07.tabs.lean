noncomputable section
/-- the length of an instruction -/
def am_okl (i : Instr) (n : Nat) : Bool := match i with
  | .aaload => Nat.beq n 1
  | .aastore => Nat.beq n 1
  | .aconst_null => Nat.beq n 1
  | .areturn => Nat.beq n 1
  | .arraylength => Nat.beq n 1
  | .baload => Nat.beq n 1
  | .bastore => Nat.beq n 1
  | .daload => Nat.beq n 1
  | .dastore => Nat.beq n 1
  | .dup => Nat.beq n 1
  | .dup_x1 => Nat.beq n 1
  | .dup2 => Nat.beq n 1
  | .f2d => Nat.beq n 1
  | .fdiv => Nat.beq n 1
  | .freturn => Nat.beq n 1
  | .i2f => Nat.beq n 1
  | .i2l => Nat.beq n 1
  | .iadd => Nat.beq n 1
  | .iaload => Nat.beq n 1
  | .iand => Nat.beq n 1
  | .iastore => Nat.beq n 1
  | .idiv => Nat.beq n 1
  | .imul => Nat.beq n 1
  | .irem => Nat.beq n 1
  | .ireturn => Nat.beq n 1
  | .ishr => Nat.beq n 1
  | .isub => Nat.beq n 1
  | .ixor => Nat.beq n 1
  | .laload => Nat.beq n 1
  | .lastore => Nat.beq n 1
  | .lcmp => Nat.beq n 1
  | .pop => Nat.beq n 1
  | .return_ => Nat.beq n 1
  | .athrow => Nat.beq n 1
  | .dcmp _ => Nat.beq n 1
  | .fcmp _ => Nat.beq n 1
  | .fconst _ => Nat.beq n 1
  | .lconst _ => Nat.beq n 1
  | .iconst _ => Nat.beq n 1
  | .iload_n _ => Nat.beq n 1
  | .aload_n _ => Nat.beq n 1
  | .istore_n _ => Nat.beq n 1
  | .astore_n _ => Nat.beq n 1
  | .iload _ => Nat.beq n 2
  | .aload _ => Nat.beq n 2
  | .fload _ => Nat.beq n 2
  | .istore _ => Nat.beq n 2
  | .astore _ => Nat.beq n 2
  | .fstore _ => Nat.beq n 2
  | .bipush _ => Nat.beq n 2
  | .ldc k => Nat.beq n 2 && Nat.blt k 10000
  | .newarray _ => Nat.beq n 2
  | .invokeinterface k _ => Nat.beq n 5 && Nat.blt k 10000
  | .tableswitch _ _ _ _ => true
  | .ldc_w k => Nat.beq n 3 && Nat.blt k 10000
  | .getfield k => Nat.beq n 3 && Nat.blt k 10000
  | .putfield k => Nat.beq n 3 && Nat.blt k 10000
  | .getstatic k => Nat.beq n 3 && Nat.blt k 10000
  | .new k => Nat.beq n 3 && Nat.blt k 10000
  | .anewarray k => Nat.beq n 3 && Nat.blt k 10000
  | .checkcast k => Nat.beq n 3 && Nat.blt k 10000
  | .invokestatic k => Nat.beq n 3 && Nat.blt k 10000
  | .invokespecial k => Nat.beq n 3 && Nat.blt k 10000
  | .invokevirtual k => Nat.beq n 3 && Nat.blt k 10000
  | _ => Nat.beq n 3
def am_lk (f : Nat → Option (Instr × Nat)) (N : Nat) : Bool := (List.range N).all (fun x => match f x with | none => true | some v => am_okl v.1 v.2)
def am_lkP (f : Nat → Option (Instr × Nat)) : Prop := ∀ x i n, f x = some (i, n) → am_okl i n = true
theorem am_lk_ok {g : Nat → Option (Instr × Nat)} {N : Nat} (h : am_lk (fun x => bif Nat.blt x N then g x else none) N = true) : am_lkP (fun x => bif Nat.blt x N then g x else none) := by
  intro x i n hv
  have hv' : (bif Nat.blt x N then g x else none) = some (i, n) := hv
  cases hk : Nat.blt x N with
  | false => rw [hk] at hv'; cases hv'
  | true =>
    have h1 := List.all_eq_true.mp h x (List.mem_range.mpr (Nat.le_of_ble_eq_true hk))
    simp only [hv'] at h1
    exact h1
set_option maxRecDepth 100000 in
theorem ln_Bk_init : am_lk cd_Bk_init 56 = true := by decide +kernel
set_option maxRecDepth 100000 in
theorem ln_Bk_hasSeats : am_lk cd_Bk_hasSeats 21 = true := by decide +kernel
set_option maxRecDepth 100000 in
theorem ln_Bk_end : am_lk cd_Bk_end 49 = true := by decide +kernel
set_option maxRecDepth 100000 in
theorem ln_Bk_couponToFly : am_lk cd_Bk_couponToFly 50 = true := by decide +kernel
set_option maxRecDepth 100000 in
theorem ln_Bk_isCheckedFor : am_lk cd_Bk_isCheckedFor 24 = true := by decide +kernel
set_option maxRecDepth 100000 in
theorem ln_Bk_placeOf : am_lk cd_Bk_placeOf 35 = true := by decide +kernel
set_option maxRecDepth 100000 in
theorem ln_Bk_nearestLeg : am_lk cd_Bk_nearestLeg 79 = true := by decide +kernel
set_option maxRecDepth 100000 in
theorem ln_Bk_usesLeg : am_lk cd_Bk_usesLeg 58 = true := by decide +kernel
set_option maxRecDepth 100000 in
theorem ln_Bk_isBroken : am_lk cd_Bk_isBroken 42 = true := by decide +kernel
set_option maxRecDepth 100000 in
theorem ln_Bk_paidForOne : am_lk cd_Bk_paidForOne 62 = true := by decide +kernel
set_option maxRecDepth 100000 in
theorem ln_Bk_backForOne : am_lk cd_Bk_backForOne 97 = true := by decide +kernel
set_option maxRecDepth 100000 in
theorem ln_Bk_isBegun : am_lk cd_Bk_isBegun 59 = true := by decide +kernel
set_option maxRecDepth 100000 in
theorem ln_Bk_parted : am_lk cd_Bk_parted 117 = true := by decide +kernel
set_option maxRecDepth 100000 in
theorem ln_Cp_init : am_lk cd_Cp_init 37 = true := by decide +kernel
set_option maxRecDepth 100000 in
theorem ln_Cp_copied : am_lk cd_Cp_copied 38 = true := by decide +kernel
set_option maxRecDepth 100000 in
theorem ln_Cp_isToFly : am_lk cd_Cp_isToFly 21 = true := by decide +kernel
set_option maxRecDepth 100000 in
theorem ln_Cp_isReplaced : am_lk cd_Cp_isReplaced 22 = true := by decide +kernel
set_option maxRecDepth 100000 in
theorem ln_Dt_init : am_lk cd_Dt_init 5 = true := by decide +kernel
set_option maxRecDepth 100000 in
theorem ln_Dt_begin : am_lk cd_Dt_begin 16 = true := by decide +kernel
set_option maxRecDepth 100000 in
theorem ln_Dt_legs : am_lk cd_Dt_legs 22 = true := by decide +kernel
set_option maxRecDepth 100000 in
theorem ln_Dt_offer : am_lk cd_Dt_offer 79 = true := by decide +kernel
set_option maxRecDepth 100000 in
theorem ln_Fa_init : am_lk cd_Fa_init 55 = true := by decide +kernel
set_option maxRecDepth 100000 in
theorem ln_Fa_beginsWith : am_lk cd_Fa_beginsWith 57 = true := by decide +kernel
set_option maxRecDepth 100000 in
theorem ln_Fl_init : am_lk cd_Fl_init 84 = true := by decide +kernel
set_option maxRecDepth 100000 in
theorem ln_Fl_on : am_lk cd_Fl_on 21 = true := by decide +kernel
set_option maxRecDepth 100000 in
theorem ln_Fl_dayToLookFrom : am_lk cd_Fl_dayToLookFrom 16 = true := by decide +kernel
set_option maxRecDepth 100000 in
theorem ln_Fl_departingAt : am_lk cd_Fl_departingAt 35 = true := by decide +kernel
set_option maxRecDepth 100000 in
theorem ln_Lg_init : am_lk cd_Lg_init 54 = true := by decide +kernel
set_option maxRecDepth 100000 in
theorem ln_Lg_hasDeparted : am_lk cd_Lg_hasDeparted 21 = true := by decide +kernel
set_option maxRecDepth 100000 in
theorem ln_Lg_isAhead : am_lk cd_Lg_isAhead 21 = true := by decide +kernel
set_option maxRecDepth 100000 in
theorem ln_Lg_localDay : am_lk cd_Lg_localDay 21 = true := by decide +kernel
set_option maxRecDepth 100000 in
theorem ln_Lg_push : am_lk cd_Lg_push 31 = true := by decide +kernel
set_option maxRecDepth 100000 in
theorem ln_Lg_onwardLeg : am_lk cd_Lg_onwardLeg 46 = true := by decide +kernel
set_option maxRecDepth 100000 in
theorem ln_Pr_init : am_lk cd_Pr_init 76 = true := by decide +kernel
set_option maxRecDepth 100000 in
theorem ln_Pr_begin : am_lk cd_Pr_begin 41 = true := by decide +kernel
set_option maxRecDepth 100000 in
theorem ln_Pr_findCheapest : am_lk cd_Pr_findCheapest 20 = true := by decide +kernel
set_option maxRecDepth 100000 in
theorem ln_Pr_findCheapestByLegs : am_lk cd_Pr_findCheapestByLegs 20 = true := by decide +kernel
set_option maxRecDepth 100000 in
theorem ln_Pr_tryStretches : am_lk cd_Pr_tryStretches 160 = true := by decide +kernel
set_option maxRecDepth 100000 in
theorem ln_Pr_tryLegs : am_lk cd_Pr_tryLegs 249 = true := by decide +kernel
set_option maxRecDepth 100000 in
theorem ln_Pr_lastTried : am_lk cd_Pr_lastTried 34 = true := by decide +kernel
set_option maxRecDepth 100000 in
theorem ln_Pr_dropLastTried : am_lk cd_Pr_dropLastTried 28 = true := by decide +kernel
set_option maxRecDepth 100000 in
theorem ln_Pr_isCheaper : am_lk cd_Pr_isCheaper 22 = true := by decide +kernel
set_option maxRecDepth 100000 in
theorem ln_Pr_endsAhead : am_lk cd_Pr_endsAhead 51 = true := by decide +kernel
set_option maxRecDepth 100000 in
theorem ln_Pr_fits : am_lk cd_Pr_fits 100 = true := by decide +kernel
set_option maxRecDepth 100000 in
theorem ln_Pr_takes : am_lk cd_Pr_takes 94 = true := by decide +kernel
set_option maxRecDepth 100000 in
theorem ln_Pr_isNear : am_lk cd_Pr_isNear 36 = true := by decide +kernel
set_option maxRecDepth 100000 in
theorem ln_Pr_keepIfPossible : am_lk cd_Pr_keepIfPossible 91 = true := by decide +kernel
set_option maxRecDepth 100000 in
theorem ln_Pr_areCarriersCombined : am_lk cd_Pr_areCarriersCombined 105 = true := by decide +kernel
set_option maxRecDepth 100000 in
theorem ln_Pr_areReturnsWhole : am_lk cd_Pr_areReturnsWhole 178 = true := by decide +kernel
set_option maxRecDepth 100000 in
theorem ln_Wi_init : am_lk cd_Wi_init 31 = true := by decide +kernel
set_option maxRecDepth 100000 in
theorem ln_Wi_waits : am_lk cd_Wi_waits 42 = true := by decide +kernel
set_option maxRecDepth 100000 in
theorem ln_X_init : am_lk cd_X_init 145 = true := by decide +kernel
set_option maxRecDepth 100000 in
theorem ln_X_setZone : am_lk cd_X_setZone 40 = true := by decide +kernel
set_option maxRecDepth 100000 in
theorem ln_X_setTax : am_lk cd_X_setTax 30 = true := by decide +kernel
set_option maxRecDepth 100000 in
theorem ln_X_flight : am_lk cd_X_flight 130 = true := by decide +kernel
set_option maxRecDepth 100000 in
theorem ln_X_days : am_lk cd_X_days 108 = true := by decide +kernel
set_option maxRecDepth 100000 in
theorem ln_X_limit : am_lk cd_X_limit 45 = true := by decide +kernel
set_option maxRecDepth 100000 in
theorem ln_X_link : am_lk cd_X_link 87 = true := by decide +kernel
set_option maxRecDepth 100000 in
theorem ln_X_fare : am_lk cd_X_fare 101 = true := by decide +kernel
set_option maxRecDepth 100000 in
theorem ln_X_rules : am_lk cd_X_rules 78 = true := by decide +kernel
set_option maxRecDepth 100000 in
theorem ln_X_back : am_lk cd_X_back 27 = true := by decide +kernel
set_option maxRecDepth 100000 in
theorem ln_X_departure : am_lk cd_X_departure 9 = true := by decide +kernel
set_option maxRecDepth 100000 in
theorem ln_X_standing : am_lk cd_X_standing 44 = true := by decide +kernel
set_option maxRecDepth 100000 in
theorem ln_X_open : am_lk cd_X_open 18 = true := by decide +kernel
set_option maxRecDepth 100000 in
theorem ln_X_load : am_lk cd_X_load 36 = true := by decide +kernel
set_option maxRecDepth 100000 in
theorem ln_X_cancelLeg : am_lk cd_X_cancelLeg 87 = true := by decide +kernel
set_option maxRecDepth 100000 in
theorem ln_X_delay : am_lk cd_X_delay 151 = true := by decide +kernel
set_option maxRecDepth 100000 in
theorem ln_X_repair : am_lk cd_X_repair 168 = true := by decide +kernel
set_option maxRecDepth 100000 in
theorem ln_X_leg : am_lk cd_X_leg 135 = true := by decide +kernel
set_option maxRecDepth 100000 in
theorem ln_X_dropLegs : am_lk cd_X_dropLegs 17 = true := by decide +kernel
set_option maxRecDepth 100000 in
theorem ln_X_price : am_lk cd_X_price 24 = true := by decide +kernel
set_option maxRecDepth 100000 in
theorem ln_X_priceAnew : am_lk cd_X_priceAnew 31 = true := by decide +kernel
set_option maxRecDepth 100000 in
theorem ln_X_stretch : am_lk cd_X_stretch 65 = true := by decide +kernel
set_option maxRecDepth 100000 in
theorem ln_X_taxes : am_lk cd_X_taxes 35 = true := by decide +kernel
set_option maxRecDepth 100000 in
theorem ln_X_hold : am_lk cd_X_hold 82 = true := by decide +kernel
set_option maxRecDepth 100000 in
theorem ln_X_wish : am_lk cd_X_wish 119 = true := by decide +kernel
set_option maxRecDepth 100000 in
theorem ln_X_clear : am_lk cd_X_clear 142 = true := by decide +kernel
set_option maxRecDepth 100000 in
theorem ln_X_wished : am_lk cd_X_wished 52 = true := by decide +kernel
set_option maxRecDepth 100000 in
theorem ln_X_ticket : am_lk cd_X_ticket 36 = true := by decide +kernel
set_option maxRecDepth 100000 in
theorem ln_X_part : am_lk cd_X_part 77 = true := by decide +kernel
set_option maxRecDepth 100000 in
theorem ln_X_cancel : am_lk cd_X_cancel 41 = true := by decide +kernel
set_option maxRecDepth 100000 in
theorem ln_X_booking : am_lk cd_X_booking 31 = true := by decide +kernel
set_option maxRecDepth 100000 in
theorem ln_X_coupon : am_lk cd_X_coupon 31 = true := by decide +kernel
set_option maxRecDepth 100000 in
theorem ln_X_share : am_lk cd_X_share 10 = true := by decide +kernel
set_option maxRecDepth 100000 in
theorem ln_X_check : am_lk cd_X_check 87 = true := by decide +kernel
set_option maxRecDepth 100000 in
theorem ln_X_volunteer : am_lk cd_X_volunteer 27 = true := by decide +kernel
set_option maxRecDepth 100000 in
theorem ln_X_pass : am_lk cd_X_pass 89 = true := by decide +kernel
set_option maxRecDepth 100000 in
theorem ln_X_denied : am_lk cd_X_denied 5 = true := by decide +kernel
set_option maxRecDepth 100000 in
theorem ln_X_points : am_lk cd_X_points 12 = true := by decide +kernel
set_option maxRecDepth 100000 in
theorem ln_X_owed : am_lk cd_X_owed 21 = true := by decide +kernel
set_option maxRecDepth 100000 in
theorem ln_X_needIndex : am_lk cd_X_needIndex 18 = true := by decide +kernel
set_option maxRecDepth 100000 in
theorem ln_X_needIndexOrNone : am_lk cd_X_needIndexOrNone 11 = true := by decide +kernel
set_option maxRecDepth 100000 in
theorem ln_X_needRange : am_lk cd_X_needRange 19 = true := by decide +kernel
set_option maxRecDepth 100000 in
theorem ln_X_needArgument : am_lk cd_X_needArgument 13 = true := by decide +kernel
set_option maxRecDepth 100000 in
theorem ln_X_needState : am_lk cd_X_needState 13 = true := by decide +kernel
set_option maxRecDepth 100000 in
theorem ln_X_findFlight : am_lk cd_X_findFlight 23 = true := by decide +kernel
set_option maxRecDepth 100000 in
theorem ln_X_findFare : am_lk cd_X_findFare 23 = true := by decide +kernel
set_option maxRecDepth 100000 in
theorem ln_X_findLeg : am_lk cd_X_findLeg 50 = true := by decide +kernel
set_option maxRecDepth 100000 in
theorem ln_X_findBooking : am_lk cd_X_findBooking 23 = true := by decide +kernel
set_option maxRecDepth 100000 in
theorem ln_X_findCoupon : am_lk cd_X_findCoupon 29 = true := by decide +kernel
set_option maxRecDepth 100000 in
theorem ln_X_soldSeats : am_lk cd_X_soldSeats 131 = true := by decide +kernel
set_option maxRecDepth 100000 in
theorem ln_X_openSeats : am_lk cd_X_openSeats 80 = true := by decide +kernel
set_option maxRecDepth 100000 in
theorem ln_X_hoursAhead : am_lk cd_X_hoursAhead 47 = true := by decide +kernel
set_option maxRecDepth 100000 in
theorem ln_X_taxAt : am_lk cd_X_taxAt 80 = true := by decide +kernel
set_option maxRecDepth 100000 in
theorem ln_X_beginPrice : am_lk cd_X_beginPrice 86 = true := by decide +kernel
set_option maxRecDepth 100000 in
theorem ln_X_buildPrice : am_lk cd_X_buildPrice 14 = true := by decide +kernel
set_option maxRecDepth 100000 in
theorem ln_X_holdPriced : am_lk cd_X_holdPriced 165 = true := by decide +kernel
set_option maxRecDepth 100000 in
theorem ln_X_addCoupons : am_lk cd_X_addCoupons 196 = true := by decide +kernel
set_option maxRecDepth 100000 in
theorem ln_X_tierOf : am_lk cd_X_tierOf 26 = true := by decide +kernel
set_option maxRecDepth 100000 in
theorem ln_X_checkedPersons : am_lk cd_X_checkedPersons 58 = true := by decide +kernel
set_option maxRecDepth 100000 in
theorem ln_X_lapseHeld : am_lk cd_X_lapseHeld 55 = true := by decide +kernel
set_option maxRecDepth 100000 in
theorem ln_X_takeOff : am_lk cd_X_takeOff 115 = true := by decide +kernel
set_option maxRecDepth 100000 in
theorem ln_X_denySurplus : am_lk cd_X_denySurplus 153 = true := by decide +kernel
set_option maxRecDepth 100000 in
theorem ln_X_deny : am_lk cd_X_deny 38 = true := by decide +kernel
set_option maxRecDepth 100000 in
theorem ln_X_flyOrMiss : am_lk cd_X_flyOrMiss 85 = true := by decide +kernel
set_option maxRecDepth 100000 in
theorem ln_X_addAt : am_lk cd_X_addAt 18 = true := by decide +kernel
set_option maxRecDepth 100000 in
theorem ln_X_withdraw : am_lk cd_X_withdraw 57 = true := by decide +kernel
set_option maxRecDepth 100000 in
theorem ln_X_addOnce : am_lk cd_X_addOnce 33 = true := by decide +kernel
set_option maxRecDepth 100000 in
theorem ln_X_moveOn : am_lk cd_X_moveOn 149 = true := by decide +kernel
set_option maxRecDepth 100000 in
theorem ln_X_findDetour : am_lk cd_X_findDetour 240 = true := by decide +kernel
set_option maxRecDepth 100000 in
theorem ln_X_offerFrom : am_lk cd_X_offerFrom 207 = true := by decide +kernel
set_option maxRecDepth 100000 in
theorem ln_M_init : am_lk cd_M_init 525 = true := by decide +kernel
set_option maxRecDepth 100000 in
theorem ln_M_thrown : am_lk cd_M_thrown 5 = true := by decide +kernel
set_option maxRecDepth 100000 in
theorem ln_M_fails : am_lk cd_M_fails 15 = true := by decide +kernel
set_option maxRecDepth 100000 in
theorem ln_M_tells : am_lk cd_M_tells 7 = true := by decide +kernel
set_option maxRecDepth 100000 in
theorem ln_M_isIn : am_lk cd_M_isIn 16 = true := by decide +kernel
set_option maxRecDepth 100000 in
theorem ln_M_least : am_lk cd_M_least 11 = true := by decide +kernel
set_option maxRecDepth 100000 in
theorem ln_M_isAirport : am_lk cd_M_isAirport 7 = true := by decide +kernel
set_option maxRecDepth 100000 in
theorem ln_M_isBucket : am_lk cd_M_isBucket 7 = true := by decide +kernel
set_option maxRecDepth 100000 in
theorem ln_M_isFlight : am_lk cd_M_isFlight 12 = true := by decide +kernel
set_option maxRecDepth 100000 in
theorem ln_M_isFare : am_lk cd_M_isFare 12 = true := by decide +kernel
set_option maxRecDepth 100000 in
theorem ln_M_isMember : am_lk cd_M_isMember 7 = true := by decide +kernel
set_option maxRecDepth 100000 in
theorem ln_M_setZone : am_lk cd_M_setZone 63 = true := by decide +kernel
set_option maxRecDepth 100000 in
theorem ln_M_setTax : am_lk cd_M_setTax 52 = true := by decide +kernel
set_option maxRecDepth 100000 in
theorem ln_M_flight : am_lk cd_M_flight 227 = true := by decide +kernel
set_option maxRecDepth 100000 in
theorem ln_M_days : am_lk cd_M_days 157 = true := by decide +kernel
set_option maxRecDepth 100000 in
theorem ln_M_isThere : am_lk cd_M_isThere 51 = true := by decide +kernel
set_option maxRecDepth 100000 in
theorem ln_M_limit : am_lk cd_M_limit 88 = true := by decide +kernel
set_option maxRecDepth 100000 in
theorem ln_M_link : am_lk cd_M_link 121 = true := by decide +kernel
set_option maxRecDepth 100000 in
theorem ln_M_fare : am_lk cd_M_fare 192 = true := by decide +kernel
set_option maxRecDepth 100000 in
theorem ln_M_rules : am_lk cd_M_rules 129 = true := by decide +kernel
set_option maxRecDepth 100000 in
theorem ln_M_back : am_lk cd_M_back 52 = true := by decide +kernel
set_option maxRecDepth 100000 in
theorem ln_M_isLeg : am_lk cd_M_isLeg 45 = true := by decide +kernel
set_option maxRecDepth 100000 in
theorem ln_M_at : am_lk cd_M_at 13 = true := by decide +kernel
set_option maxRecDepth 100000 in
theorem ln_M_departs : am_lk cd_M_departs 42 = true := by decide +kernel
set_option maxRecDepth 100000 in
theorem ln_M_arrives : am_lk cd_M_arrives 16 = true := by decide +kernel
set_option maxRecDepth 100000 in
theorem ln_M_hasDeparted : am_lk cd_M_hasDeparted 30 = true := by decide +kernel
set_option maxRecDepth 100000 in
theorem ln_M_isFree : am_lk cd_M_isFree 30 = true := by decide +kernel
set_option maxRecDepth 100000 in
theorem ln_M_departure : am_lk cd_M_departure 30 = true := by decide +kernel
set_option maxRecDepth 100000 in
theorem ln_M_standing : am_lk cd_M_standing 67 = true := by decide +kernel
set_option maxRecDepth 100000 in
theorem ln_M_sold : am_lk cd_M_sold 123 = true := by decide +kernel
set_option maxRecDepth 100000 in
theorem ln_M_openIn : am_lk cd_M_openIn 81 = true := by decide +kernel
set_option maxRecDepth 100000 in
theorem ln_M_open : am_lk cd_M_open 48 = true := by decide +kernel
set_option maxRecDepth 100000 in
theorem ln_M_load : am_lk cd_M_load 41 = true := by decide +kernel
set_option maxRecDepth 100000 in
theorem ln_M_voids : am_lk cd_M_voids 53 = true := by decide +kernel
set_option maxRecDepth 100000 in
theorem ln_M_cancels : am_lk cd_M_cancels 103 = true := by decide +kernel
set_option maxRecDepth 100000 in
theorem ln_M_cancelLeg : am_lk cd_M_cancelLeg 141 = true := by decide +kernel
set_option maxRecDepth 100000 in
theorem ln_M_delays : am_lk cd_M_delays 48 = true := by decide +kernel
set_option maxRecDepth 100000 in
theorem ln_M_delay : am_lk cd_M_delay 305 = true := by decide +kernel
set_option maxRecDepth 100000 in
theorem ln_M_leg : am_lk cd_M_leg 182 = true := by decide +kernel
set_option maxRecDepth 100000 in
theorem ln_M_dropLegs : am_lk cd_M_dropLegs 17 = true := by decide +kernel
set_option maxRecDepth 100000 in
theorem ln_M_canHave : am_lk cd_M_canHave 272 = true := by decide +kernel
set_option maxRecDepth 100000 in
theorem ln_M_goTogether : am_lk cd_M_goTogether 249 = true := by decide +kernel
set_option maxRecDepth 100000 in
theorem ln_M_builds : am_lk cd_M_builds 203 = true := by decide +kernel
set_option maxRecDepth 100000 in
theorem ln_M_takes : am_lk cd_M_takes 101 = true := by decide +kernel
set_option maxRecDepth 100000 in
theorem ln_M_buildsDraft : am_lk cd_M_buildsDraft 42 = true := by decide +kernel
set_option maxRecDepth 100000 in
theorem ln_M_isMany : am_lk cd_M_isMany 8 = true := by decide +kernel
set_option maxRecDepth 100000 in
theorem ln_M_priced : am_lk cd_M_priced 31 = true := by decide +kernel
set_option maxRecDepth 100000 in
theorem ln_M_price : am_lk cd_M_price 6 = true := by decide +kernel
set_option maxRecDepth 100000 in
theorem ln_M_priceAnew : am_lk cd_M_priceAnew 6 = true := by decide +kernel
set_option maxRecDepth 100000 in
theorem ln_M_stretch : am_lk cd_M_stretch 95 = true := by decide +kernel
set_option maxRecDepth 100000 in
theorem ln_M_taxAt : am_lk cd_M_taxAt 66 = true := by decide +kernel
set_option maxRecDepth 100000 in
theorem ln_M_taxes : am_lk cd_M_taxes 53 = true := by decide +kernel
set_option maxRecDepth 100000 in
theorem ln_M_books : am_lk cd_M_books 432 = true := by decide +kernel
set_option maxRecDepth 100000 in
theorem ln_M_hold : am_lk cd_M_hold 107 = true := by decide +kernel
set_option maxRecDepth 100000 in
theorem ln_M_wish : am_lk cd_M_wish 158 = true := by decide +kernel
set_option maxRecDepth 100000 in
theorem ln_M_tier : am_lk cd_M_tier 24 = true := by decide +kernel
set_option maxRecDepth 100000 in
theorem ln_M_isWaiting : am_lk cd_M_isWaiting 31 = true := by decide +kernel
set_option maxRecDepth 100000 in
theorem ln_M_nextWish : am_lk cd_M_nextWish 81 = true := by decide +kernel
set_option maxRecDepth 100000 in
theorem ln_M_clear : am_lk cd_M_clear 151 = true := by decide +kernel
set_option maxRecDepth 100000 in
theorem ln_M_wished : am_lk cd_M_wished 66 = true := by decide +kernel
set_option maxRecDepth 100000 in
theorem ln_M_isBooking : am_lk cd_M_isBooking 12 = true := by decide +kernel
set_option maxRecDepth 100000 in
theorem ln_M_ticket : am_lk cd_M_ticket 58 = true := by decide +kernel
set_option maxRecDepth 100000 in
theorem ln_M_part : am_lk cd_M_part 307 = true := by decide +kernel
set_option maxRecDepth 100000 in
theorem ln_M_copies : am_lk cd_M_copies 73 = true := by decide +kernel
set_option maxRecDepth 100000 in
theorem ln_M_givenBack : am_lk cd_M_givenBack 217 = true := by decide +kernel
set_option maxRecDepth 100000 in
theorem ln_M_cancel : am_lk cd_M_cancel 78 = true := by decide +kernel
set_option maxRecDepth 100000 in
theorem ln_M_booking : am_lk cd_M_booking 52 = true := by decide +kernel
set_option maxRecDepth 100000 in
theorem ln_M_isCoupon : am_lk cd_M_isCoupon 30 = true := by decide +kernel
set_option maxRecDepth 100000 in
theorem ln_M_coupon : am_lk cd_M_coupon 73 = true := by decide +kernel
set_option maxRecDepth 100000 in
theorem ln_M_share : am_lk cd_M_share 39 = true := by decide +kernel
set_option maxRecDepth 100000 in
theorem ln_M_checked : am_lk cd_M_checked 93 = true := by decide +kernel
set_option maxRecDepth 100000 in
theorem ln_M_check : am_lk cd_M_check 136 = true := by decide +kernel
set_option maxRecDepth 100000 in
theorem ln_M_volunteer : am_lk cd_M_volunteer 49 = true := by decide +kernel
set_option maxRecDepth 100000 in
theorem ln_M_canGo : am_lk cd_M_canGo 100 = true := by decide +kernel
set_option maxRecDepth 100000 in
theorem ln_M_neighbour : am_lk cd_M_neighbour 71 = true := by decide +kernel
set_option maxRecDepth 100000 in
theorem ln_M_findsWay : am_lk cd_M_findsWay 486 = true := by decide +kernel
set_option maxRecDepth 100000 in
theorem ln_M_isBetter : am_lk cd_M_isBetter 109 = true := by decide +kernel
set_option maxRecDepth 100000 in
theorem ln_M_moves : am_lk cd_M_moves 276 = true := by decide +kernel
set_option maxRecDepth 100000 in
theorem ln_M_isBroken : am_lk cd_M_isBroken 98 = true := by decide +kernel
set_option maxRecDepth 100000 in
theorem ln_M_repair : am_lk cd_M_repair 122 = true := by decide +kernel
set_option maxRecDepth 100000 in
theorem ln_M_checkedFor : am_lk cd_M_checkedFor 85 = true := by decide +kernel
set_option maxRecDepth 100000 in
theorem ln_M_nextDenied : am_lk cd_M_nextDenied 135 = true := by decide +kernel
set_option maxRecDepth 100000 in
theorem ln_M_flies : am_lk cd_M_flies 92 = true := by decide +kernel
set_option maxRecDepth 100000 in
theorem ln_M_goes : am_lk cd_M_goes 272 = true := by decide +kernel
set_option maxRecDepth 100000 in
theorem ln_M_pass : am_lk cd_M_pass 158 = true := by decide +kernel
set_option maxRecDepth 100000 in
theorem ln_M_denied : am_lk cd_M_denied 9 = true := by decide +kernel
set_option maxRecDepth 100000 in
theorem ln_M_points : am_lk cd_M_points 32 = true := by decide +kernel
set_option maxRecDepth 100000 in
theorem ln_M_owed : am_lk cd_M_owed 55 = true := by decide +kernel
set_option maxRecDepth 100000 in
theorem ln_AL_init : am_lk cd_AL_init 12 = true := by decide +kernel
set_option maxRecDepth 100000 in
theorem ln_AL_grow : am_lk cd_AL_grow 60 = true := by decide +kernel
set_option maxRecDepth 100000 in
theorem ln_AL_grow2 : am_lk cd_AL_grow2 11 = true := by decide +kernel
set_option maxRecDepth 100000 in
theorem ln_AL_size : am_lk cd_AL_size 5 = true := by decide +kernel
set_option maxRecDepth 100000 in
theorem ln_AL_isEmpty : am_lk cd_AL_isEmpty 13 = true := by decide +kernel
set_option maxRecDepth 100000 in
theorem ln_AL_elementData : am_lk cd_AL_elementData 7 = true := by decide +kernel
set_option maxRecDepth 100000 in
theorem ln_AL_get : am_lk cd_AL_get 15 = true := by decide +kernel
set_option maxRecDepth 100000 in
theorem ln_AL_add : am_lk cd_AL_add 23 = true := by decide +kernel
set_option maxRecDepth 100000 in
theorem ln_AL_add2 : am_lk cd_AL_add2 25 = true := by decide +kernel
set_option maxRecDepth 100000 in
theorem ln_AL_add3 : am_lk cd_AL_add3 65 = true := by decide +kernel
set_option maxRecDepth 100000 in
theorem ln_AL_remove : am_lk cd_AL_remove 26 = true := by decide +kernel
set_option maxRecDepth 100000 in
theorem ln_AL_fastRemove : am_lk cd_AL_fastRemove 44 = true := by decide +kernel
set_option maxRecDepth 100000 in
theorem ln_AL_clear : am_lk cd_AL_clear 43 = true := by decide +kernel
set_option maxRecDepth 100000 in
theorem ln_AL_rangeCheckForAdd : am_lk cd_AL_rangeCheckForAdd 26 = true := by decide +kernel
set_option maxRecDepth 100000 in
theorem ln_L_setZone : am_lk cd_L_setZone 27 = true := by decide +kernel
set_option maxRecDepth 100000 in
theorem ln_L_setTax : am_lk cd_L_setTax 23 = true := by decide +kernel
set_option maxRecDepth 100000 in
theorem ln_L_flight : am_lk cd_L_flight 35 = true := by decide +kernel
set_option maxRecDepth 100000 in
theorem ln_L_days : am_lk cd_L_days 31 = true := by decide +kernel
set_option maxRecDepth 100000 in
theorem ln_L_limit : am_lk cd_L_limit 25 = true := by decide +kernel
set_option maxRecDepth 100000 in
theorem ln_L_link : am_lk cd_L_link 25 = true := by decide +kernel
set_option maxRecDepth 100000 in
theorem ln_L_fare : am_lk cd_L_fare 33 = true := by decide +kernel
set_option maxRecDepth 100000 in
theorem ln_L_rules : am_lk cd_L_rules 28 = true := by decide +kernel
set_option maxRecDepth 100000 in
theorem ln_L_back : am_lk cd_L_back 23 = true := by decide +kernel
set_option maxRecDepth 100000 in
theorem ln_L_departure : am_lk cd_L_departure 17 = true := by decide +kernel
set_option maxRecDepth 100000 in
theorem ln_L_standing : am_lk cd_L_standing 17 = true := by decide +kernel
set_option maxRecDepth 100000 in
theorem ln_L_open : am_lk cd_L_open 19 = true := by decide +kernel
set_option maxRecDepth 100000 in
theorem ln_L_load : am_lk cd_L_load 17 = true := by decide +kernel
set_option maxRecDepth 100000 in
theorem ln_L_cancelLeg : am_lk cd_L_cancelLeg 20 = true := by decide +kernel
set_option maxRecDepth 100000 in
theorem ln_L_delay : am_lk cd_L_delay 27 = true := by decide +kernel
set_option maxRecDepth 100000 in
theorem ln_L_leg : am_lk cd_L_leg 20 = true := by decide +kernel
set_option maxRecDepth 100000 in
theorem ln_L_price : am_lk cd_L_price 17 = true := by decide +kernel
set_option maxRecDepth 100000 in
theorem ln_L_priceAnew : am_lk cd_L_priceAnew 17 = true := by decide +kernel
set_option maxRecDepth 100000 in
theorem ln_L_stretch : am_lk cd_L_stretch 23 = true := by decide +kernel
set_option maxRecDepth 100000 in
theorem ln_L_hold : am_lk cd_L_hold 29 = true := by decide +kernel
set_option maxRecDepth 100000 in
theorem ln_L_wish : am_lk cd_L_wish 27 = true := by decide +kernel
set_option maxRecDepth 100000 in
theorem ln_L_wished : am_lk cd_L_wished 17 = true := by decide +kernel
set_option maxRecDepth 100000 in
theorem ln_L_ticket : am_lk cd_L_ticket 20 = true := by decide +kernel
set_option maxRecDepth 100000 in
theorem ln_L_part : am_lk cd_L_part 27 = true := by decide +kernel
set_option maxRecDepth 100000 in
theorem ln_L_cancel : am_lk cd_L_cancel 20 = true := by decide +kernel
set_option maxRecDepth 100000 in
theorem ln_L_booking : am_lk cd_L_booking 17 = true := by decide +kernel
set_option maxRecDepth 100000 in
theorem ln_L_coupon : am_lk cd_L_coupon 19 = true := by decide +kernel
set_option maxRecDepth 100000 in
theorem ln_L_share : am_lk cd_L_share 19 = true := by decide +kernel
set_option maxRecDepth 100000 in
theorem ln_L_check : am_lk cd_L_check 23 = true := by decide +kernel
set_option maxRecDepth 100000 in
theorem ln_L_volunteer : am_lk cd_L_volunteer 24 = true := by decide +kernel
set_option maxRecDepth 100000 in
theorem ln_L_pass : am_lk cd_L_pass 17 = true := by decide +kernel
set_option maxRecDepth 100000 in
theorem ln_L_points : am_lk cd_L_points 17 = true := by decide +kernel
set_option maxRecDepth 100000 in
theorem ln_L_owed : am_lk cd_L_owed 19 = true := by decide +kernel
set_option maxRecDepth 100000 in
theorem ln_AbL_init : am_lk cd_AbL_init 10 = true := by decide +kernel
set_option maxRecDepth 100000 in
theorem ln_AbC_init : am_lk cd_AbC_init 5 = true := by decide +kernel
set_option maxRecDepth 100000 in
theorem ln_Ob_checkIndex : am_lk cd_Ob_checkIndex 7 = true := by decide +kernel
set_option maxRecDepth 100000 in
theorem ln_Pc_checkIndex : am_lk cd_Pc_checkIndex 18 = true := by decide +kernel
set_option maxRecDepth 100000 in
theorem ln_AS_newLength : am_lk cd_AS_newLength 27 = true := by decide +kernel
set_option maxRecDepth 100000 in
theorem ln_Ma_floorDiv : am_lk cd_Ma_floorDiv 23 = true := by decide +kernel
set_option maxRecDepth 100000 in
theorem ln_Ma_max : am_lk cd_Ma_max 11 = true := by decide +kernel
set_option maxRecDepth 100000 in
theorem ln_Ma_min : am_lk cd_Ma_min 11 = true := by decide +kernel
set_option maxRecDepth 100000 in
theorem ln_L_law : am_lk cd_L_law 2628 = true := by decide +kernel
theorem am_cdt_len : am_all am_cdt (fun _ f => am_lkP f) := am_nd_ok (am_nd_ok (am_nd_ok (am_nd_ok (am_nd_ok (am_nd_ok (am_nd_ok (am_nd_ok (am_lf_ok (am_lk_ok ln_Bk_init)) (am_lf_ok (am_lk_ok ln_Bk_hasSeats))) (am_nd_ok (am_lf_ok (am_lk_ok ln_Bk_end)) (am_lf_ok (am_lk_ok ln_Bk_couponToFly)))) (am_nd_ok (am_nd_ok (am_lf_ok (am_lk_ok ln_Bk_isCheckedFor)) (am_lf_ok (am_lk_ok ln_Bk_placeOf))) (am_nd_ok (am_lf_ok (am_lk_ok ln_Bk_nearestLeg)) (am_lf_ok (am_lk_ok ln_Bk_usesLeg))))) (am_nd_ok (am_nd_ok (am_nd_ok (am_lf_ok (am_lk_ok ln_Bk_isBroken)) (am_lf_ok (am_lk_ok ln_Bk_paidForOne))) (am_nd_ok (am_lf_ok (am_lk_ok ln_Bk_backForOne)) (am_lf_ok (am_lk_ok ln_Bk_isBegun)))) (am_nd_ok (am_nd_ok (am_lf_ok (am_lk_ok ln_Bk_parted)) (am_lf_ok (am_lk_ok ln_Cp_init))) (am_nd_ok (am_lf_ok (am_lk_ok ln_Cp_copied)) (am_lf_ok (am_lk_ok ln_Cp_isToFly)))))) (am_nd_ok (am_nd_ok (am_nd_ok (am_nd_ok (am_lf_ok (am_lk_ok ln_Cp_isReplaced)) (am_lf_ok (am_lk_ok ln_Dt_init))) (am_nd_ok (am_lf_ok (am_lk_ok ln_Dt_begin)) (am_lf_ok (am_lk_ok ln_Dt_legs)))) (am_nd_ok (am_nd_ok (am_lf_ok (am_lk_ok ln_Dt_offer)) (am_lf_ok (am_lk_ok ln_Fa_init))) (am_nd_ok (am_lf_ok (am_lk_ok ln_Fa_beginsWith)) (am_lf_ok (am_lk_ok ln_Fl_init))))) (am_nd_ok (am_nd_ok (am_nd_ok (am_lf_ok (am_lk_ok ln_Fl_on)) (am_lf_ok (am_lk_ok ln_Fl_dayToLookFrom))) (am_nd_ok (am_lf_ok (am_lk_ok ln_Fl_departingAt)) (am_lf_ok (am_lk_ok ln_Lg_init)))) (am_nd_ok (am_nd_ok (am_lf_ok (am_lk_ok ln_Lg_hasDeparted)) (am_lf_ok (am_lk_ok ln_Lg_isAhead))) (am_nd_ok (am_lf_ok (am_lk_ok ln_Lg_localDay)) (am_nd_ok (am_lf_ok (am_lk_ok ln_Lg_push)) (am_lf_ok (am_lk_ok ln_Lg_onwardLeg)))))))) (am_nd_ok (am_nd_ok (am_nd_ok (am_nd_ok (am_nd_ok (am_lf_ok (am_lk_ok ln_Pr_init)) (am_lf_ok (am_lk_ok ln_Pr_begin))) (am_nd_ok (am_lf_ok (am_lk_ok ln_Pr_findCheapest)) (am_lf_ok (am_lk_ok ln_Pr_findCheapestByLegs)))) (am_nd_ok (am_nd_ok (am_lf_ok (am_lk_ok ln_Pr_tryStretches)) (am_lf_ok (am_lk_ok ln_Pr_tryLegs))) (am_nd_ok (am_lf_ok (am_lk_ok ln_Pr_lastTried)) (am_lf_ok (am_lk_ok ln_Pr_dropLastTried))))) (am_nd_ok (am_nd_ok (am_nd_ok (am_lf_ok (am_lk_ok ln_Pr_isCheaper)) (am_lf_ok (am_lk_ok ln_Pr_endsAhead))) (am_nd_ok (am_lf_ok (am_lk_ok ln_Pr_fits)) (am_lf_ok (am_lk_ok ln_Pr_takes)))) (am_nd_ok (am_nd_ok (am_lf_ok (am_lk_ok ln_Pr_isNear)) (am_lf_ok (am_lk_ok ln_Pr_keepIfPossible))) (am_nd_ok (am_lf_ok (am_lk_ok ln_Pr_areCarriersCombined)) (am_lf_ok (am_lk_ok ln_Pr_areReturnsWhole)))))) (am_nd_ok (am_nd_ok (am_nd_ok (am_nd_ok (am_lf_ok (am_lk_ok ln_Wi_init)) (am_lf_ok (am_lk_ok ln_Wi_waits))) (am_nd_ok (am_lf_ok (am_lk_ok ln_X_init)) (am_lf_ok (am_lk_ok ln_X_setZone)))) (am_nd_ok (am_nd_ok (am_lf_ok (am_lk_ok ln_X_setTax)) (am_lf_ok (am_lk_ok ln_X_flight))) (am_nd_ok (am_lf_ok (am_lk_ok ln_X_days)) (am_lf_ok (am_lk_ok ln_X_limit))))) (am_nd_ok (am_nd_ok (am_nd_ok (am_lf_ok (am_lk_ok ln_X_link)) (am_lf_ok (am_lk_ok ln_X_fare))) (am_nd_ok (am_lf_ok (am_lk_ok ln_X_rules)) (am_lf_ok (am_lk_ok ln_X_back)))) (am_nd_ok (am_nd_ok (am_lf_ok (am_lk_ok ln_X_departure)) (am_lf_ok (am_lk_ok ln_X_standing))) (am_nd_ok (am_lf_ok (am_lk_ok ln_X_open)) (am_nd_ok (am_lf_ok (am_lk_ok ln_X_load)) (am_lf_ok (am_lk_ok ln_X_cancelLeg))))))))) (am_nd_ok (am_nd_ok (am_nd_ok (am_nd_ok (am_nd_ok (am_nd_ok (am_lf_ok (am_lk_ok ln_X_delay)) (am_lf_ok (am_lk_ok ln_X_repair))) (am_nd_ok (am_lf_ok (am_lk_ok ln_X_leg)) (am_lf_ok (am_lk_ok ln_X_dropLegs)))) (am_nd_ok (am_nd_ok (am_lf_ok (am_lk_ok ln_X_price)) (am_lf_ok (am_lk_ok ln_X_priceAnew))) (am_nd_ok (am_lf_ok (am_lk_ok ln_X_stretch)) (am_lf_ok (am_lk_ok ln_X_taxes))))) (am_nd_ok (am_nd_ok (am_nd_ok (am_lf_ok (am_lk_ok ln_X_hold)) (am_lf_ok (am_lk_ok ln_X_wish))) (am_nd_ok (am_lf_ok (am_lk_ok ln_X_clear)) (am_lf_ok (am_lk_ok ln_X_wished)))) (am_nd_ok (am_nd_ok (am_lf_ok (am_lk_ok ln_X_ticket)) (am_lf_ok (am_lk_ok ln_X_part))) (am_nd_ok (am_lf_ok (am_lk_ok ln_X_cancel)) (am_lf_ok (am_lk_ok ln_X_booking)))))) (am_nd_ok (am_nd_ok (am_nd_ok (am_nd_ok (am_lf_ok (am_lk_ok ln_X_coupon)) (am_lf_ok (am_lk_ok ln_X_share))) (am_nd_ok (am_lf_ok (am_lk_ok ln_X_check)) (am_lf_ok (am_lk_ok ln_X_volunteer)))) (am_nd_ok (am_nd_ok (am_lf_ok (am_lk_ok ln_X_pass)) (am_lf_ok (am_lk_ok ln_X_denied))) (am_nd_ok (am_lf_ok (am_lk_ok ln_X_points)) (am_lf_ok (am_lk_ok ln_X_owed))))) (am_nd_ok (am_nd_ok (am_nd_ok (am_lf_ok (am_lk_ok ln_X_needIndex)) (am_lf_ok (am_lk_ok ln_X_needIndexOrNone))) (am_nd_ok (am_lf_ok (am_lk_ok ln_X_needRange)) (am_lf_ok (am_lk_ok ln_X_needArgument)))) (am_nd_ok (am_nd_ok (am_lf_ok (am_lk_ok ln_X_needState)) (am_lf_ok (am_lk_ok ln_X_findFlight))) (am_nd_ok (am_lf_ok (am_lk_ok ln_X_findFare)) (am_nd_ok (am_lf_ok (am_lk_ok ln_X_findLeg)) (am_lf_ok (am_lk_ok ln_X_findBooking)))))))) (am_nd_ok (am_nd_ok (am_nd_ok (am_nd_ok (am_nd_ok (am_lf_ok (am_lk_ok ln_X_findCoupon)) (am_lf_ok (am_lk_ok ln_X_soldSeats))) (am_nd_ok (am_lf_ok (am_lk_ok ln_X_openSeats)) (am_lf_ok (am_lk_ok ln_X_hoursAhead)))) (am_nd_ok (am_nd_ok (am_lf_ok (am_lk_ok ln_X_taxAt)) (am_lf_ok (am_lk_ok ln_X_beginPrice))) (am_nd_ok (am_lf_ok (am_lk_ok ln_X_buildPrice)) (am_lf_ok (am_lk_ok ln_X_holdPriced))))) (am_nd_ok (am_nd_ok (am_nd_ok (am_lf_ok (am_lk_ok ln_X_addCoupons)) (am_lf_ok (am_lk_ok ln_X_tierOf))) (am_nd_ok (am_lf_ok (am_lk_ok ln_X_checkedPersons)) (am_lf_ok (am_lk_ok ln_X_lapseHeld)))) (am_nd_ok (am_nd_ok (am_lf_ok (am_lk_ok ln_X_takeOff)) (am_lf_ok (am_lk_ok ln_X_denySurplus))) (am_nd_ok (am_lf_ok (am_lk_ok ln_X_deny)) (am_lf_ok (am_lk_ok ln_X_flyOrMiss)))))) (am_nd_ok (am_nd_ok (am_nd_ok (am_nd_ok (am_lf_ok (am_lk_ok ln_X_addAt)) (am_lf_ok (am_lk_ok ln_X_withdraw))) (am_nd_ok (am_lf_ok (am_lk_ok ln_X_addOnce)) (am_lf_ok (am_lk_ok ln_X_moveOn)))) (am_nd_ok (am_nd_ok (am_lf_ok (am_lk_ok ln_X_findDetour)) (am_lf_ok (am_lk_ok ln_X_offerFrom))) (am_nd_ok (am_lf_ok (am_lk_ok ln_M_init)) (am_lf_ok (am_lk_ok ln_M_thrown))))) (am_nd_ok (am_nd_ok (am_nd_ok (am_lf_ok (am_lk_ok ln_M_fails)) (am_lf_ok (am_lk_ok ln_M_tells))) (am_nd_ok (am_lf_ok (am_lk_ok ln_M_isIn)) (am_lf_ok (am_lk_ok ln_M_least)))) (am_nd_ok (am_nd_ok (am_lf_ok (am_lk_ok ln_M_isAirport)) (am_lf_ok (am_lk_ok ln_M_isBucket))) (am_nd_ok (am_lf_ok (am_lk_ok ln_M_isFlight)) (am_nd_ok (am_lf_ok (am_lk_ok ln_M_isFare)) (am_lf_ok (am_lk_ok ln_M_isMember)))))))))) (am_nd_ok (am_nd_ok (am_nd_ok (am_nd_ok (am_nd_ok (am_nd_ok (am_nd_ok (am_lf_ok (am_lk_ok ln_M_setZone)) (am_lf_ok (am_lk_ok ln_M_setTax))) (am_nd_ok (am_lf_ok (am_lk_ok ln_M_flight)) (am_lf_ok (am_lk_ok ln_M_days)))) (am_nd_ok (am_nd_ok (am_lf_ok (am_lk_ok ln_M_isThere)) (am_lf_ok (am_lk_ok ln_M_limit))) (am_nd_ok (am_lf_ok (am_lk_ok ln_M_link)) (am_lf_ok (am_lk_ok ln_M_fare))))) (am_nd_ok (am_nd_ok (am_nd_ok (am_lf_ok (am_lk_ok ln_M_rules)) (am_lf_ok (am_lk_ok ln_M_back))) (am_nd_ok (am_lf_ok (am_lk_ok ln_M_isLeg)) (am_lf_ok (am_lk_ok ln_M_at)))) (am_nd_ok (am_nd_ok (am_lf_ok (am_lk_ok ln_M_departs)) (am_lf_ok (am_lk_ok ln_M_arrives))) (am_nd_ok (am_lf_ok (am_lk_ok ln_M_hasDeparted)) (am_lf_ok (am_lk_ok ln_M_isFree)))))) (am_nd_ok (am_nd_ok (am_nd_ok (am_nd_ok (am_lf_ok (am_lk_ok ln_M_departure)) (am_lf_ok (am_lk_ok ln_M_standing))) (am_nd_ok (am_lf_ok (am_lk_ok ln_M_sold)) (am_lf_ok (am_lk_ok ln_M_openIn)))) (am_nd_ok (am_nd_ok (am_lf_ok (am_lk_ok ln_M_open)) (am_lf_ok (am_lk_ok ln_M_load))) (am_nd_ok (am_lf_ok (am_lk_ok ln_M_voids)) (am_lf_ok (am_lk_ok ln_M_cancels))))) (am_nd_ok (am_nd_ok (am_nd_ok (am_lf_ok (am_lk_ok ln_M_cancelLeg)) (am_lf_ok (am_lk_ok ln_M_delays))) (am_nd_ok (am_lf_ok (am_lk_ok ln_M_delay)) (am_lf_ok (am_lk_ok ln_M_leg)))) (am_nd_ok (am_nd_ok (am_lf_ok (am_lk_ok ln_M_dropLegs)) (am_lf_ok (am_lk_ok ln_M_canHave))) (am_nd_ok (am_lf_ok (am_lk_ok ln_M_goTogether)) (am_nd_ok (am_lf_ok (am_lk_ok ln_M_builds)) (am_lf_ok (am_lk_ok ln_M_takes)))))))) (am_nd_ok (am_nd_ok (am_nd_ok (am_nd_ok (am_nd_ok (am_lf_ok (am_lk_ok ln_M_buildsDraft)) (am_lf_ok (am_lk_ok ln_M_isMany))) (am_nd_ok (am_lf_ok (am_lk_ok ln_M_priced)) (am_lf_ok (am_lk_ok ln_M_price)))) (am_nd_ok (am_nd_ok (am_lf_ok (am_lk_ok ln_M_priceAnew)) (am_lf_ok (am_lk_ok ln_M_stretch))) (am_nd_ok (am_lf_ok (am_lk_ok ln_M_taxAt)) (am_lf_ok (am_lk_ok ln_M_taxes))))) (am_nd_ok (am_nd_ok (am_nd_ok (am_lf_ok (am_lk_ok ln_M_books)) (am_lf_ok (am_lk_ok ln_M_hold))) (am_nd_ok (am_lf_ok (am_lk_ok ln_M_wish)) (am_lf_ok (am_lk_ok ln_M_tier)))) (am_nd_ok (am_nd_ok (am_lf_ok (am_lk_ok ln_M_isWaiting)) (am_lf_ok (am_lk_ok ln_M_nextWish))) (am_nd_ok (am_lf_ok (am_lk_ok ln_M_clear)) (am_lf_ok (am_lk_ok ln_M_wished)))))) (am_nd_ok (am_nd_ok (am_nd_ok (am_nd_ok (am_lf_ok (am_lk_ok ln_M_isBooking)) (am_lf_ok (am_lk_ok ln_M_ticket))) (am_nd_ok (am_lf_ok (am_lk_ok ln_M_part)) (am_lf_ok (am_lk_ok ln_M_copies)))) (am_nd_ok (am_nd_ok (am_lf_ok (am_lk_ok ln_M_givenBack)) (am_lf_ok (am_lk_ok ln_M_cancel))) (am_nd_ok (am_lf_ok (am_lk_ok ln_M_booking)) (am_lf_ok (am_lk_ok ln_M_isCoupon))))) (am_nd_ok (am_nd_ok (am_nd_ok (am_lf_ok (am_lk_ok ln_M_coupon)) (am_lf_ok (am_lk_ok ln_M_share))) (am_nd_ok (am_lf_ok (am_lk_ok ln_M_checked)) (am_lf_ok (am_lk_ok ln_M_check)))) (am_nd_ok (am_nd_ok (am_lf_ok (am_lk_ok ln_M_volunteer)) (am_lf_ok (am_lk_ok ln_M_canGo))) (am_nd_ok (am_lf_ok (am_lk_ok ln_M_neighbour)) (am_nd_ok (am_lf_ok (am_lk_ok ln_M_findsWay)) (am_lf_ok (am_lk_ok ln_M_isBetter))))))))) (am_nd_ok (am_nd_ok (am_nd_ok (am_nd_ok (am_nd_ok (am_nd_ok (am_lf_ok (am_lk_ok ln_M_moves)) (am_lf_ok (am_lk_ok ln_M_isBroken))) (am_nd_ok (am_lf_ok (am_lk_ok ln_M_repair)) (am_lf_ok (am_lk_ok ln_M_checkedFor)))) (am_nd_ok (am_nd_ok (am_lf_ok (am_lk_ok ln_M_nextDenied)) (am_lf_ok (am_lk_ok ln_M_flies))) (am_nd_ok (am_lf_ok (am_lk_ok ln_M_goes)) (am_lf_ok (am_lk_ok ln_M_pass))))) (am_nd_ok (am_nd_ok (am_nd_ok (am_lf_ok (am_lk_ok ln_M_denied)) (am_lf_ok (am_lk_ok ln_M_points))) (am_nd_ok (am_lf_ok (am_lk_ok ln_M_owed)) (am_lf_ok (am_lk_ok ln_AL_init)))) (am_nd_ok (am_nd_ok (am_lf_ok (am_lk_ok ln_AL_grow)) (am_lf_ok (am_lk_ok ln_AL_grow2))) (am_nd_ok (am_lf_ok (am_lk_ok ln_AL_size)) (am_lf_ok (am_lk_ok ln_AL_isEmpty)))))) (am_nd_ok (am_nd_ok (am_nd_ok (am_nd_ok (am_lf_ok (am_lk_ok ln_AL_elementData)) (am_lf_ok (am_lk_ok ln_AL_get))) (am_nd_ok (am_lf_ok (am_lk_ok ln_AL_add)) (am_lf_ok (am_lk_ok ln_AL_add2)))) (am_nd_ok (am_nd_ok (am_lf_ok (am_lk_ok ln_AL_add3)) (am_lf_ok (am_lk_ok ln_AL_remove))) (am_nd_ok (am_lf_ok (am_lk_ok ln_AL_fastRemove)) (am_lf_ok (am_lk_ok ln_AL_clear))))) (am_nd_ok (am_nd_ok (am_nd_ok (am_lf_ok (am_lk_ok ln_AL_rangeCheckForAdd)) (am_lf_ok (am_lk_ok ln_L_setZone))) (am_nd_ok (am_lf_ok (am_lk_ok ln_L_setTax)) (am_lf_ok (am_lk_ok ln_L_flight)))) (am_nd_ok (am_nd_ok (am_lf_ok (am_lk_ok ln_L_days)) (am_lf_ok (am_lk_ok ln_L_limit))) (am_nd_ok (am_lf_ok (am_lk_ok ln_L_link)) (am_nd_ok (am_lf_ok (am_lk_ok ln_L_fare)) (am_lf_ok (am_lk_ok ln_L_rules)))))))) (am_nd_ok (am_nd_ok (am_nd_ok (am_nd_ok (am_nd_ok (am_lf_ok (am_lk_ok ln_L_back)) (am_lf_ok (am_lk_ok ln_L_departure))) (am_nd_ok (am_lf_ok (am_lk_ok ln_L_standing)) (am_lf_ok (am_lk_ok ln_L_open)))) (am_nd_ok (am_nd_ok (am_lf_ok (am_lk_ok ln_L_load)) (am_lf_ok (am_lk_ok ln_L_cancelLeg))) (am_nd_ok (am_lf_ok (am_lk_ok ln_L_delay)) (am_lf_ok (am_lk_ok ln_L_leg))))) (am_nd_ok (am_nd_ok (am_nd_ok (am_lf_ok (am_lk_ok ln_L_price)) (am_lf_ok (am_lk_ok ln_L_priceAnew))) (am_nd_ok (am_lf_ok (am_lk_ok ln_L_stretch)) (am_lf_ok (am_lk_ok ln_L_hold)))) (am_nd_ok (am_nd_ok (am_lf_ok (am_lk_ok ln_L_wish)) (am_lf_ok (am_lk_ok ln_L_wished))) (am_nd_ok (am_lf_ok (am_lk_ok ln_L_ticket)) (am_nd_ok (am_lf_ok (am_lk_ok ln_L_part)) (am_lf_ok (am_lk_ok ln_L_cancel))))))) (am_nd_ok (am_nd_ok (am_nd_ok (am_nd_ok (am_lf_ok (am_lk_ok ln_L_booking)) (am_lf_ok (am_lk_ok ln_L_coupon))) (am_nd_ok (am_lf_ok (am_lk_ok ln_L_share)) (am_lf_ok (am_lk_ok ln_L_check)))) (am_nd_ok (am_nd_ok (am_lf_ok (am_lk_ok ln_L_volunteer)) (am_lf_ok (am_lk_ok ln_L_pass))) (am_nd_ok (am_lf_ok (am_lk_ok ln_L_points)) (am_lf_ok (am_lk_ok ln_L_owed))))) (am_nd_ok (am_nd_ok (am_nd_ok (am_lf_ok (am_lk_ok ln_AbL_init)) (am_lf_ok (am_lk_ok ln_AbC_init))) (am_nd_ok (am_lf_ok (am_lk_ok ln_Ob_checkIndex)) (am_lf_ok (am_lk_ok ln_Pc_checkIndex)))) (am_nd_ok (am_nd_ok (am_lf_ok (am_lk_ok ln_AS_newLength)) (am_lf_ok (am_lk_ok ln_Ma_floorDiv))) (am_nd_ok (am_lf_ok (am_lk_ok ln_Ma_max)) (am_nd_ok (am_lf_ok (am_lk_ok ln_Ma_min)) (am_lf_ok (am_lk_ok ln_L_law))))))))))
theorem am_len {y pc n : Nat} {i : Instr} (h : am_cd y pc = some (i, n)) : am_okl i n = true := by
  unfold am_cd at h
  cases hy : am_cdt y with
  | none => rw [hy] at h; cases h
  | some f => rw [hy] at h; exact am_cdt_len y f hy pc i n h
/-- the bytes of a method -/
def am_by (y : Nat) : ByteArray := match am_mt y with | some v => v.2.1 | none => code
theorem am_cdt_law : am_all am_cdt (fun y f => (am_mt y).isSome = true ∨ f = cd_L_law) := am_nd_ok (am_nd_ok (am_nd_ok (am_nd_ok (am_nd_ok (am_nd_ok (am_nd_ok (am_nd_ok (am_lf_ok (Or.inl rfl)) (am_lf_ok (Or.inl rfl))) (am_nd_ok (am_lf_ok (Or.inl rfl)) (am_lf_ok (Or.inl rfl)))) (am_nd_ok (am_nd_ok (am_lf_ok (Or.inl rfl)) (am_lf_ok (Or.inl rfl))) (am_nd_ok (am_lf_ok (Or.inl rfl)) (am_lf_ok (Or.inl rfl))))) (am_nd_ok (am_nd_ok (am_nd_ok (am_lf_ok (Or.inl rfl)) (am_lf_ok (Or.inl rfl))) (am_nd_ok (am_lf_ok (Or.inl rfl)) (am_lf_ok (Or.inl rfl)))) (am_nd_ok (am_nd_ok (am_lf_ok (Or.inl rfl)) (am_lf_ok (Or.inl rfl))) (am_nd_ok (am_lf_ok (Or.inl rfl)) (am_lf_ok (Or.inl rfl)))))) (am_nd_ok (am_nd_ok (am_nd_ok (am_nd_ok (am_lf_ok (Or.inl rfl)) (am_lf_ok (Or.inl rfl))) (am_nd_ok (am_lf_ok (Or.inl rfl)) (am_lf_ok (Or.inl rfl)))) (am_nd_ok (am_nd_ok (am_lf_ok (Or.inl rfl)) (am_lf_ok (Or.inl rfl))) (am_nd_ok (am_lf_ok (Or.inl rfl)) (am_lf_ok (Or.inl rfl))))) (am_nd_ok (am_nd_ok (am_nd_ok (am_lf_ok (Or.inl rfl)) (am_lf_ok (Or.inl rfl))) (am_nd_ok (am_lf_ok (Or.inl rfl)) (am_lf_ok (Or.inl rfl)))) (am_nd_ok (am_nd_ok (am_lf_ok (Or.inl rfl)) (am_lf_ok (Or.inl rfl))) (am_nd_ok (am_lf_ok (Or.inl rfl)) (am_nd_ok (am_lf_ok (Or.inl rfl)) (am_lf_ok (Or.inl rfl)))))))) (am_nd_ok (am_nd_ok (am_nd_ok (am_nd_ok (am_nd_ok (am_lf_ok (Or.inl rfl)) (am_lf_ok (Or.inl rfl))) (am_nd_ok (am_lf_ok (Or.inl rfl)) (am_lf_ok (Or.inl rfl)))) (am_nd_ok (am_nd_ok (am_lf_ok (Or.inl rfl)) (am_lf_ok (Or.inl rfl))) (am_nd_ok (am_lf_ok (Or.inl rfl)) (am_lf_ok (Or.inl rfl))))) (am_nd_ok (am_nd_ok (am_nd_ok (am_lf_ok (Or.inl rfl)) (am_lf_ok (Or.inl rfl))) (am_nd_ok (am_lf_ok (Or.inl rfl)) (am_lf_ok (Or.inl rfl)))) (am_nd_ok (am_nd_ok (am_lf_ok (Or.inl rfl)) (am_lf_ok (Or.inl rfl))) (am_nd_ok (am_lf_ok (Or.inl rfl)) (am_lf_ok (Or.inl rfl)))))) (am_nd_ok (am_nd_ok (am_nd_ok (am_nd_ok (am_lf_ok (Or.inl rfl)) (am_lf_ok (Or.inl rfl))) (am_nd_ok (am_lf_ok (Or.inl rfl)) (am_lf_ok (Or.inl rfl)))) (am_nd_ok (am_nd_ok (am_lf_ok (Or.inl rfl)) (am_lf_ok (Or.inl rfl))) (am_nd_ok (am_lf_ok (Or.inl rfl)) (am_lf_ok (Or.inl rfl))))) (am_nd_ok (am_nd_ok (am_nd_ok (am_lf_ok (Or.inl rfl)) (am_lf_ok (Or.inl rfl))) (am_nd_ok (am_lf_ok (Or.inl rfl)) (am_lf_ok (Or.inl rfl)))) (am_nd_ok (am_nd_ok (am_lf_ok (Or.inl rfl)) (am_lf_ok (Or.inl rfl))) (am_nd_ok (am_lf_ok (Or.inl rfl)) (am_nd_ok (am_lf_ok (Or.inl rfl)) (am_lf_ok (Or.inl rfl))))))))) (am_nd_ok (am_nd_ok (am_nd_ok (am_nd_ok (am_nd_ok (am_nd_ok (am_lf_ok (Or.inl rfl)) (am_lf_ok (Or.inl rfl))) (am_nd_ok (am_lf_ok (Or.inl rfl)) (am_lf_ok (Or.inl rfl)))) (am_nd_ok (am_nd_ok (am_lf_ok (Or.inl rfl)) (am_lf_ok (Or.inl rfl))) (am_nd_ok (am_lf_ok (Or.inl rfl)) (am_lf_ok (Or.inl rfl))))) (am_nd_ok (am_nd_ok (am_nd_ok (am_lf_ok (Or.inl rfl)) (am_lf_ok (Or.inl rfl))) (am_nd_ok (am_lf_ok (Or.inl rfl)) (am_lf_ok (Or.inl rfl)))) (am_nd_ok (am_nd_ok (am_lf_ok (Or.inl rfl)) (am_lf_ok (Or.inl rfl))) (am_nd_ok (am_lf_ok (Or.inl rfl)) (am_lf_ok (Or.inl rfl)))))) (am_nd_ok (am_nd_ok (am_nd_ok (am_nd_ok (am_lf_ok (Or.inl rfl)) (am_lf_ok (Or.inl rfl))) (am_nd_ok (am_lf_ok (Or.inl rfl)) (am_lf_ok (Or.inl rfl)))) (am_nd_ok (am_nd_ok (am_lf_ok (Or.inl rfl)) (am_lf_ok (Or.inl rfl))) (am_nd_ok (am_lf_ok (Or.inl rfl)) (am_lf_ok (Or.inl rfl))))) (am_nd_ok (am_nd_ok (am_nd_ok (am_lf_ok (Or.inl rfl)) (am_lf_ok (Or.inl rfl))) (am_nd_ok (am_lf_ok (Or.inl rfl)) (am_lf_ok (Or.inl rfl)))) (am_nd_ok (am_nd_ok (am_lf_ok (Or.inl rfl)) (am_lf_ok (Or.inl rfl))) (am_nd_ok (am_lf_ok (Or.inl rfl)) (am_nd_ok (am_lf_ok (Or.inl rfl)) (am_lf_ok (Or.inl rfl)))))))) (am_nd_ok (am_nd_ok (am_nd_ok (am_nd_ok (am_nd_ok (am_lf_ok (Or.inl rfl)) (am_lf_ok (Or.inl rfl))) (am_nd_ok (am_lf_ok (Or.inl rfl)) (am_lf_ok (Or.inl rfl)))) (am_nd_ok (am_nd_ok (am_lf_ok (Or.inl rfl)) (am_lf_ok (Or.inl rfl))) (am_nd_ok (am_lf_ok (Or.inl rfl)) (am_lf_ok (Or.inl rfl))))) (am_nd_ok (am_nd_ok (am_nd_ok (am_lf_ok (Or.inl rfl)) (am_lf_ok (Or.inl rfl))) (am_nd_ok (am_lf_ok (Or.inl rfl)) (am_lf_ok (Or.inl rfl)))) (am_nd_ok (am_nd_ok (am_lf_ok (Or.inl rfl)) (am_lf_ok (Or.inl rfl))) (am_nd_ok (am_lf_ok (Or.inl rfl)) (am_lf_ok (Or.inl rfl)))))) (am_nd_ok (am_nd_ok (am_nd_ok (am_nd_ok (am_lf_ok (Or.inl rfl)) (am_lf_ok (Or.inl rfl))) (am_nd_ok (am_lf_ok (Or.inl rfl)) (am_lf_ok (Or.inl rfl)))) (am_nd_ok (am_nd_ok (am_lf_ok (Or.inl rfl)) (am_lf_ok (Or.inl rfl))) (am_nd_ok (am_lf_ok (Or.inl rfl)) (am_lf_ok (Or.inl rfl))))) (am_nd_ok (am_nd_ok (am_nd_ok (am_lf_ok (Or.inl rfl)) (am_lf_ok (Or.inl rfl))) (am_nd_ok (am_lf_ok (Or.inl rfl)) (am_lf_ok (Or.inl rfl)))) (am_nd_ok (am_nd_ok (am_lf_ok (Or.inl rfl)) (am_lf_ok (Or.inl rfl))) (am_nd_ok (am_lf_ok (Or.inl rfl)) (am_nd_ok (am_lf_ok (Or.inl rfl)) (am_lf_ok (Or.inl rfl)))))))))) (am_nd_ok (am_nd_ok (am_nd_ok (am_nd_ok (am_nd_ok (am_nd_ok (am_nd_ok (am_lf_ok (Or.inl rfl)) (am_lf_ok (Or.inl rfl))) (am_nd_ok (am_lf_ok (Or.inl rfl)) (am_lf_ok (Or.inl rfl)))) (am_nd_ok (am_nd_ok (am_lf_ok (Or.inl rfl)) (am_lf_ok (Or.inl rfl))) (am_nd_ok (am_lf_ok (Or.inl rfl)) (am_lf_ok (Or.inl rfl))))) (am_nd_ok (am_nd_ok (am_nd_ok (am_lf_ok (Or.inl rfl)) (am_lf_ok (Or.inl rfl))) (am_nd_ok (am_lf_ok (Or.inl rfl)) (am_lf_ok (Or.inl rfl)))) (am_nd_ok (am_nd_ok (am_lf_ok (Or.inl rfl)) (am_lf_ok (Or.inl rfl))) (am_nd_ok (am_lf_ok (Or.inl rfl)) (am_lf_ok (Or.inl rfl)))))) (am_nd_ok (am_nd_ok (am_nd_ok (am_nd_ok (am_lf_ok (Or.inl rfl)) (am_lf_ok (Or.inl rfl))) (am_nd_ok (am_lf_ok (Or.inl rfl)) (am_lf_ok (Or.inl rfl)))) (am_nd_ok (am_nd_ok (am_lf_ok (Or.inl rfl)) (am_lf_ok (Or.inl rfl))) (am_nd_ok (am_lf_ok (Or.inl rfl)) (am_lf_ok (Or.inl rfl))))) (am_nd_ok (am_nd_ok (am_nd_ok (am_lf_ok (Or.inl rfl)) (am_lf_ok (Or.inl rfl))) (am_nd_ok (am_lf_ok (Or.inl rfl)) (am_lf_ok (Or.inl rfl)))) (am_nd_ok (am_nd_ok (am_lf_ok (Or.inl rfl)) (am_lf_ok (Or.inl rfl))) (am_nd_ok (am_lf_ok (Or.inl rfl)) (am_nd_ok (am_lf_ok (Or.inl rfl)) (am_lf_ok (Or.inl rfl)))))))) (am_nd_ok (am_nd_ok (am_nd_ok (am_nd_ok (am_nd_ok (am_lf_ok (Or.inl rfl)) (am_lf_ok (Or.inl rfl))) (am_nd_ok (am_lf_ok (Or.inl rfl)) (am_lf_ok (Or.inl rfl)))) (am_nd_ok (am_nd_ok (am_lf_ok (Or.inl rfl)) (am_lf_ok (Or.inl rfl))) (am_nd_ok (am_lf_ok (Or.inl rfl)) (am_lf_ok (Or.inl rfl))))) (am_nd_ok (am_nd_ok (am_nd_ok (am_lf_ok (Or.inl rfl)) (am_lf_ok (Or.inl rfl))) (am_nd_ok (am_lf_ok (Or.inl rfl)) (am_lf_ok (Or.inl rfl)))) (am_nd_ok (am_nd_ok (am_lf_ok (Or.inl rfl)) (am_lf_ok (Or.inl rfl))) (am_nd_ok (am_lf_ok (Or.inl rfl)) (am_lf_ok (Or.inl rfl)))))) (am_nd_ok (am_nd_ok (am_nd_ok (am_nd_ok (am_lf_ok (Or.inl rfl)) (am_lf_ok (Or.inl rfl))) (am_nd_ok (am_lf_ok (Or.inl rfl)) (am_lf_ok (Or.inl rfl)))) (am_nd_ok (am_nd_ok (am_lf_ok (Or.inl rfl)) (am_lf_ok (Or.inl rfl))) (am_nd_ok (am_lf_ok (Or.inl rfl)) (am_lf_ok (Or.inl rfl))))) (am_nd_ok (am_nd_ok (am_nd_ok (am_lf_ok (Or.inl rfl)) (am_lf_ok (Or.inl rfl))) (am_nd_ok (am_lf_ok (Or.inl rfl)) (am_lf_ok (Or.inl rfl)))) (am_nd_ok (am_nd_ok (am_lf_ok (Or.inl rfl)) (am_lf_ok (Or.inl rfl))) (am_nd_ok (am_lf_ok (Or.inl rfl)) (am_nd_ok (am_lf_ok (Or.inl rfl)) (am_lf_ok (Or.inl rfl))))))))) (am_nd_ok (am_nd_ok (am_nd_ok (am_nd_ok (am_nd_ok (am_nd_ok (am_lf_ok (Or.inl rfl)) (am_lf_ok (Or.inl rfl))) (am_nd_ok (am_lf_ok (Or.inl rfl)) (am_lf_ok (Or.inl rfl)))) (am_nd_ok (am_nd_ok (am_lf_ok (Or.inl rfl)) (am_lf_ok (Or.inl rfl))) (am_nd_ok (am_lf_ok (Or.inl rfl)) (am_lf_ok (Or.inl rfl))))) (am_nd_ok (am_nd_ok (am_nd_ok (am_lf_ok (Or.inl rfl)) (am_lf_ok (Or.inl rfl))) (am_nd_ok (am_lf_ok (Or.inl rfl)) (am_lf_ok (Or.inl rfl)))) (am_nd_ok (am_nd_ok (am_lf_ok (Or.inl rfl)) (am_lf_ok (Or.inl rfl))) (am_nd_ok (am_lf_ok (Or.inl rfl)) (am_lf_ok (Or.inl rfl)))))) (am_nd_ok (am_nd_ok (am_nd_ok (am_nd_ok (am_lf_ok (Or.inl rfl)) (am_lf_ok (Or.inl rfl))) (am_nd_ok (am_lf_ok (Or.inl rfl)) (am_lf_ok (Or.inl rfl)))) (am_nd_ok (am_nd_ok (am_lf_ok (Or.inl rfl)) (am_lf_ok (Or.inl rfl))) (am_nd_ok (am_lf_ok (Or.inl rfl)) (am_lf_ok (Or.inl rfl))))) (am_nd_ok (am_nd_ok (am_nd_ok (am_lf_ok (Or.inl rfl)) (am_lf_ok (Or.inl rfl))) (am_nd_ok (am_lf_ok (Or.inl rfl)) (am_lf_ok (Or.inl rfl)))) (am_nd_ok (am_nd_ok (am_lf_ok (Or.inl rfl)) (am_lf_ok (Or.inl rfl))) (am_nd_ok (am_lf_ok (Or.inl rfl)) (am_nd_ok (am_lf_ok (Or.inl rfl)) (am_lf_ok (Or.inl rfl)))))))) (am_nd_ok (am_nd_ok (am_nd_ok (am_nd_ok (am_nd_ok (am_lf_ok (Or.inl rfl)) (am_lf_ok (Or.inl rfl))) (am_nd_ok (am_lf_ok (Or.inl rfl)) (am_lf_ok (Or.inl rfl)))) (am_nd_ok (am_nd_ok (am_lf_ok (Or.inl rfl)) (am_lf_ok (Or.inl rfl))) (am_nd_ok (am_lf_ok (Or.inl rfl)) (am_lf_ok (Or.inl rfl))))) (am_nd_ok (am_nd_ok (am_nd_ok (am_lf_ok (Or.inl rfl)) (am_lf_ok (Or.inl rfl))) (am_nd_ok (am_lf_ok (Or.inl rfl)) (am_lf_ok (Or.inl rfl)))) (am_nd_ok (am_nd_ok (am_lf_ok (Or.inl rfl)) (am_lf_ok (Or.inl rfl))) (am_nd_ok (am_lf_ok (Or.inl rfl)) (am_nd_ok (am_lf_ok (Or.inl rfl)) (am_lf_ok (Or.inl rfl))))))) (am_nd_ok (am_nd_ok (am_nd_ok (am_nd_ok (am_lf_ok (Or.inl rfl)) (am_lf_ok (Or.inl rfl))) (am_nd_ok (am_lf_ok (Or.inl rfl)) (am_lf_ok (Or.inl rfl)))) (am_nd_ok (am_nd_ok (am_lf_ok (Or.inl rfl)) (am_lf_ok (Or.inl rfl))) (am_nd_ok (am_lf_ok (Or.inl rfl)) (am_lf_ok (Or.inl rfl))))) (am_nd_ok (am_nd_ok (am_nd_ok (am_lf_ok (Or.inl rfl)) (am_lf_ok (Or.inl rfl))) (am_nd_ok (am_lf_ok (Or.inl rfl)) (am_lf_ok (Or.inl rfl)))) (am_nd_ok (am_nd_ok (am_lf_ok (Or.inl rfl)) (am_lf_ok (Or.inl rfl))) (am_nd_ok (am_lf_ok (Or.inl rfl)) (am_nd_ok (am_lf_ok (Or.inl rfl)) (am_lf_ok (Or.inr rfl))))))))))
theorem am_dec {y pc n : Nat} {i : Instr} (h : am_cd y pc = some (i, n)) : decode (am_by y) pc = .ok (i, n) := by
  unfold am_by
  cases hy : am_mt y with
  | some v => exact (am_mt_ok y v hy).2.2.2.2.2.2.2 pc (i, n) h
  | none =>
    unfold am_cd at h
    cases hc : am_cdt y with
    | none => rw [hc] at h; cases h
    | some f =>
      rw [hc] at h
      rcases am_cdt_law y f hc with h1 | rfl
      · rw [hy] at h1; cases h1
      · exact ck_L_law pc (i, n) h
end

theorem rw_u_106 : Cond.fieldLink RX6 15 "WhatWasHers$Reader" "length" "I" ∈ zU := zm 106 (by decide +kernel) rfl
theorem rw_u_105 : Cond.fieldLink RX6 9 "WhatWasHers$Reader" "tape" "[B" ∈ zU := zm 105 (by decide +kernel) rfl
theorem rw_u_115 : Cond.fieldLink RX6 126 "WhatWasHers$Reader" "value" "I" ∈ zU := zm 115 (by decide +kernel) rfl
theorem rw_u_114 : Cond.fieldLink RX6 30 "WhatWasHers$Reader" "behind" "I" ∈ zU := zm 114 (by decide +kernel) rfl
theorem rw_u_113 : Cond.fieldLink RX6 129 "WhatWasHers$Reader" "start" "I" ∈ zU := zm 113 (by decide +kernel) rfl
theorem rw_u_112 : Cond.fieldLink RX6 94 "WhatWasHers$Reader" "sort" "I" ∈ zU := zm 112 (by decide +kernel) rfl
theorem rw_u_108 : Cond.fieldLink RX6 24 "WhatWasHers$Reader" "wrong" "I" ∈ zU := zm 108 (by decide +kernel) rfl
theorem rw_u_466 : Cond.code yX6_isIn cX6_isIn 3 (some .boolean) ∈ zU := zm 466 (by decide +kernel) rfl
theorem rw_u_72 : Cond.initialized yX6_isIn.cls ∈ zU := zm 72 (by decide +kernel) rfl
theorem rw_u_464 : Cond.methodLink RX6 145 yX6_isIn ∈ zU := zm 464 (by decide +kernel) rfl
theorem rw_u_465 : Cond.static yX6_isIn ∈ zU := zm 465 (by decide +kernel) rfl
theorem rw_u_470 : Cond.code yX6_behindRun cX6_behindRun 5 (some .int) ∈ zU := zm 470 (by decide +kernel) rfl
theorem rw_u_467 : Cond.methodLink RX6 149 yX6_behindRun ∈ zU := zm 467 (by decide +kernel) rfl
theorem rw_u_469 : Cond.instanceMethod yX6_behindRun ∈ zU := zm 469 (by decide +kernel) rfl
theorem rw_u_5 : Cond.selects RX6 yX6_behindRun yX6_behindRun ∈ zU := zm 5 (by decide +kernel) rfl
theorem rw_u_474 : Cond.code yX6_takeNumber cX6_takeNumber 2 none ∈ zU := zm 474 (by decide +kernel) rfl
theorem rw_u_471 : Cond.methodLink RX6 153 yX6_takeNumber ∈ zU := zm 471 (by decide +kernel) rfl
theorem rw_u_473 : Cond.instanceMethod yX6_takeNumber ∈ zU := zm 473 (by decide +kernel) rfl
theorem rw_u_6 : Cond.selects RX6 yX6_takeNumber yX6_takeNumber ∈ zU := zm 6 (by decide +kernel) rfl
theorem rw_u_497 : Cond.code yJ0_charAt_5068e cJ0_charAt_5068e 2 (some .char) ∈ zU := zm 497 (by decide +kernel) rfl
theorem rw_u_494 : Cond.methodLink RX6 137 yJ0_charAt_5068e ∈ zU := zm 494 (by decide +kernel) rfl
theorem rw_u_495 : Cond.instanceMethod yJ0_charAt_5068e ∈ zU := zm 495 (by decide +kernel) rfl
theorem rw_u_496 : Cond.selects RJ0 yJ0_charAt_5068e yJ0_charAt_5068e ∈ zU := zm 496 (by decide +kernel) rfl
theorem rw_u_487 : Cond.code yJ0_length_8abf5 cJ0_length_8abf5 1 (some .int) ∈ zU := zm 487 (by decide +kernel) rfl
theorem rw_u_484 : Cond.methodLink RX6 132 yJ0_length_8abf5 ∈ zU := zm 484 (by decide +kernel) rfl
theorem rw_u_485 : Cond.instanceMethod yJ0_length_8abf5 ∈ zU := zm 485 (by decide +kernel) rfl
theorem rw_u_486 : Cond.selects RJ0 yJ0_length_8abf5 yJ0_length_8abf5 ∈ zU := zm 486 (by decide +kernel) rfl
theorem rw_u_535 : Cond.code yX6_isWord cX6_isWord 5 (some .boolean) ∈ zU := zm 535 (by decide +kernel) rfl
theorem rw_u_532 : Cond.methodLink RX6 141 yX6_isWord ∈ zU := zm 532 (by decide +kernel) rfl
theorem rw_u_534 : Cond.instanceMethod yX6_isWord ∈ zU := zm 534 (by decide +kernel) rfl
theorem rw_u_9 : Cond.selects RX6 yX6_isWord yX6_isWord ∈ zU := zm 9 (by decide +kernel) rfl
theorem rw_u_110 : Cond.fieldLink RX6 27 "WhatWasHers$Reader" "wrongPlace" "I" ∈ zU := zm 110 (by decide +kernel) rfl
theorem rw_u_483 : Cond.code yX6_choice cX6_choice 5 (some .int) ∈ zU := zm 483 (by decide +kernel) rfl
theorem rw_u_480 : Cond.methodLink RX6 45 yX6_choice ∈ zU := zm 480 (by decide +kernel) rfl
theorem rw_u_482 : Cond.instanceMethod yX6_choice ∈ zU := zm 482 (by decide +kernel) rfl
theorem rw_u_8 : Cond.selects RX6 yX6_choice yX6_choice ∈ zU := zm 8 (by decide +kernel) rfl
theorem rw_u_463 : Cond.code yX6_step cX6_step 1 none ∈ zU := zm 463 (by decide +kernel) rfl
theorem rw_u_460 : Cond.methodLink RX6 33 yX6_step ∈ zU := zm 460 (by decide +kernel) rfl
theorem rw_u_462 : Cond.instanceMethod yX6_step ∈ zU := zm 462 (by decide +kernel) rfl
theorem rw_u_4 : Cond.selects RX6 yX6_step yX6_step ∈ zU := zm 4 (by decide +kernel) rfl
theorem rw_u_539 : Cond.code yX6_fail cX6_fail 2 none ∈ zU := zm 539 (by decide +kernel) rfl
theorem rw_u_536 : Cond.methodLink RX6 49 yX6_fail ∈ zU := zm 536 (by decide +kernel) rfl
theorem rw_u_538 : Cond.instanceMethod yX6_fail ∈ zU := zm 538 (by decide +kernel) rfl
theorem rw_u_10 : Cond.selects RX6 yX6_fail yX6_fail ∈ zU := zm 10 (by decide +kernel) rfl
theorem rw_u_152 : Cond.fieldLink RX6 69 "WhatWasHers$Story" "mix" "[I" ∈ zU := zm 152 (by decide +kernel) rfl
theorem rw_u_548 : Cond.code yX6_word cX6_word 3 (some .int) ∈ zU := zm 548 (by decide +kernel) rfl
theorem rw_u_545 : Cond.methodLink RX6 66 yX6_word ∈ zU := zm 545 (by decide +kernel) rfl
theorem rw_u_547 : Cond.instanceMethod yX6_word ∈ zU := zm 547 (by decide +kernel) rfl
theorem rw_u_12 : Cond.selects RX6 yX6_word yX6_word ∈ zU := zm 12 (by decide +kernel) rfl
theorem rw_u_155 : Cond.fieldLink RX6 74 "WhatWasHers$Story" "owe" "[I" ∈ zU := zm 155 (by decide +kernel) rfl
theorem rw_u_157 : Cond.fieldLink RX6 79 "WhatWasHers$Story" "move" "[I" ∈ zU := zm 157 (by decide +kernel) rfl
theorem rw_u_160 : Cond.fieldLink RX6 84 "WhatWasHers$Story" "hundredths" "[I" ∈ zU := zm 160 (by decide +kernel) rfl
theorem rw_u_555 : Cond.code yX6_number cX6_number 4 (some .int) ∈ zU := zm 555 (by decide +kernel) rfl
theorem rw_u_552 : Cond.methodLink RX6 87 yX6_number ∈ zU := zm 552 (by decide +kernel) rfl
theorem rw_u_554 : Cond.instanceMethod yX6_number ∈ zU := zm 554 (by decide +kernel) rfl
theorem rw_u_13 : Cond.selects RX6 yX6_number yX6_number ∈ zU := zm 13 (by decide +kernel) rfl
theorem rw_u_559 : Cond.code yX6_semicolon cX6_semicolon 1 none ∈ zU := zm 559 (by decide +kernel) rfl
theorem rw_u_556 : Cond.methodLink RX6 91 yX6_semicolon ∈ zU := zm 556 (by decide +kernel) rfl
theorem rw_u_558 : Cond.instanceMethod yX6_semicolon ∈ zU := zm 558 (by decide +kernel) rfl
theorem rw_u_14 : Cond.selects RX6 yX6_semicolon yX6_semicolon ∈ zU := zm 14 (by decide +kernel) rfl
theorem rw_u_150 : Cond.fieldLink RX6 60 "WhatWasHers$Story" "places" "[I" ∈ zU := zm 150 (by decide +kernel) rfl
theorem rw_u_142 : Cond.fieldLink RX6 53 "WhatWasHers$Story" "laws" "I" ∈ zU := zm 142 (by decide +kernel) rfl
theorem rw_u_543 : Cond.code yX6_readLaw cX6_readLaw 4 none ∈ zU := zm 543 (by decide +kernel) rfl
theorem rw_u_540 : Cond.methodLink RX6 56 yX6_readLaw ∈ zU := zm 540 (by decide +kernel) rfl
theorem rw_u_542 : Cond.instanceMethod yX6_readLaw ∈ zU := zm 542 (by decide +kernel) rfl
theorem rw_u_11 : Cond.selects RX6 yX6_readLaw yX6_readLaw ∈ zU := zm 11 (by decide +kernel) rfl
theorem rw_u_163 : Cond.fieldLink RX6 109 "WhatWasHers$Story" "what" "[I" ∈ zU := zm 163 (by decide +kernel) rfl
theorem rw_u_165 : Cond.fieldLink RX6 112 "WhatWasHers$Story" "day" "[I" ∈ zU := zm 165 (by decide +kernel) rfl
theorem rw_u_168 : Cond.fieldLink RX6 115 "WhatWasHers$Story" "first" "[I" ∈ zU := zm 168 (by decide +kernel) rfl
theorem rw_u_171 : Cond.fieldLink RX6 120 "WhatWasHers$Story" "second" "[I" ∈ zU := zm 171 (by decide +kernel) rfl
theorem rw_u_174 : Cond.fieldLink RX6 123 "WhatWasHers$Story" "third" "[I" ∈ zU := zm 174 (by decide +kernel) rfl
theorem rw_u_148 : Cond.fieldLink RX6 102 "WhatWasHers$Story" "things" "I" ∈ zU := zm 148 (by decide +kernel) rfl
theorem rw_u_145 : Cond.fieldLink RX6 99 "WhatWasHers$Story" "events" "I" ∈ zU := zm 145 (by decide +kernel) rfl
theorem rw_u_568 : Cond.code yX6_readEvent cX6_readEvent 5 none ∈ zU := zm 568 (by decide +kernel) rfl
theorem rw_u_565 : Cond.methodLink RX6 105 yX6_readEvent ∈ zU := zm 565 (by decide +kernel) rfl
theorem rw_u_567 : Cond.instanceMethod yX6_readEvent ∈ zU := zm 567 (by decide +kernel) rfl
theorem rw_u_16 : Cond.selects RX6 yX6_readEvent yX6_readEvent ∈ zU := zm 16 (by decide +kernel) rfl
theorem rw_u_459 : Cond.code yX7_clear cX7_clear 1 none ∈ zU := zm 459 (by decide +kernel) rfl
theorem rw_u_73 : Cond.initialized yX7_clear.cls ∈ zU := zm 73 (by decide +kernel) rfl
theorem rw_u_456 : Cond.methodLink RX6 19 yX7_clear ∈ zU := zm 456 (by decide +kernel) rfl
theorem rw_u_457 : Cond.instanceMethod yX7_clear ∈ zU := zm 457 (by decide +kernel) rfl
theorem rw_u_458 : Cond.selects RX7 yX7_clear yX7_clear ∈ zU := zm 458 (by decide +kernel) rfl
theorem rw_u_478 : Cond.code yX6_readLaws cX6_readLaws 3 none ∈ zU := zm 478 (by decide +kernel) rfl
theorem rw_u_475 : Cond.methodLink RX6 36 yX6_readLaws ∈ zU := zm 475 (by decide +kernel) rfl
theorem rw_u_477 : Cond.instanceMethod yX6_readLaws ∈ zU := zm 477 (by decide +kernel) rfl
theorem rw_u_7 : Cond.selects RX6 yX6_readLaws yX6_readLaws ∈ zU := zm 7 (by decide +kernel) rfl
theorem rw_u_563 : Cond.code yX6_readEvents cX6_readEvents 5 none ∈ zU := zm 563 (by decide +kernel) rfl
theorem rw_u_560 : Cond.methodLink RX6 40 yX6_readEvents ∈ zU := zm 560 (by decide +kernel) rfl
theorem rw_u_562 : Cond.instanceMethod yX6_readEvents ∈ zU := zm 562 (by decide +kernel) rfl
theorem rw_u_15 : Cond.selects RX6 yX6_readEvents yX6_readEvents ∈ zU := zm 15 (by decide +kernel) rfl
/-! WhatWasHers$Reader.append(B)V -/
abbrev rmX6_append : Room := { frames := 0, cells := 0, slots := 0, locals := 0 }
def fR_append (sR : zSt) (a0 : Int32) : Option (zSt) :=
  if 500 ≤ (zI sR 1) then (some (sR)) else (zg (zix (zI sR 1) 500) <| zn (zsA sR 0 (zI sR 1).toNatClampNeg (vp_nar .byte a0)) fun sR1 => zn (zsI sR1 1 ((zI sR1 1) + 1)) fun sR2 => some (sR2))
/-! WhatWasHers$Reader.isIn(BCC)Z -/
abbrev rmX6_isIn : Room := { frames := 0, cells := 0, slots := 0, locals := 0 }
def fR_isIn  (a0 : Int32) (a1 : Int32) (a2 : Int32) : Option (Bool) :=
  if a0 < a1 then (some (false)) else (if a2 < a0 then (some (false)) else (some (true)))
/-! WhatWasHers$Reader.behindRun(ICC)I -/
abbrev rmX6_behindRun : Room := { frames := 0, cells := 0, slots := 0, locals := 0 }
def fR_behindRun_l3b (K3 : zSt → Int32 → Int32 → Int32 → Option (Int32)) (sR : zSt) (x2 : Int32) (x3 : Int32) (x4 : Int32) : Option (Int32) :=
  if (zI sR 1) ≤ x4 then (some (x4)) else (zg (zix x4 500) <| if (zA sR 0 x4.toNatClampNeg) < x2 then (some (x4)) else (zg (zix x4 500) <| if x3 < (zA sR 0 x4.toNatClampNeg) then (some (x4)) else (zn (x4 + 1 : Int32) fun x4_1 => K3 sR x2 x3 x4_1)))
def fR_behindRun_l3  : Nat → zSt → Int32 → Int32 → Int32 → Option (Int32)
  | 0, _, _, _, _ => none
  | n + 1, v0, v1, v2, v3 => fR_behindRun_l3b  (fun v0 v1 v2 v3 => fR_behindRun_l3  n v0 v1 v2 v3) v0 v1 v2 v3
def fR_behindRun (sR : zSt) (a0 : Int32) (a1 : Int32) (a2 : Int32) : Option (Int32) :=
  fR_behindRun_l3  zF sR a1 a2 a0
/-! WhatWasHers$Reader.takeNumber()V -/
abbrev rmX6_takeNumber : Room := { frames := 0, cells := 0, slots := 0, locals := 0 }
def fR_takeNumber_l34b (K34 : zSt → Int32 → Option (zSt)) (sR : zSt) (x1 : Int32) : Option (zSt) :=
  if (zI sR 6) ≤ x1 then (some (sR)) else (zg (zix x1 500) <| zn (zsI sR 7 (((zI sR 7) * 10) + ((zA sR 0 x1.toNatClampNeg) - 48))) fun sR4 => zn (x1 + 1 : Int32) fun x1_5 => K34 sR4 x1_5)
def fR_takeNumber_l34  : Nat → zSt → Int32 → Option (zSt)
  | 0, _, _ => none
  | n + 1, v0, v1 => fR_takeNumber_l34b  (fun v0 v1 => fR_takeNumber_l34  n v0 v1) v0 v1
def fR_takeNumber (sR : zSt)  : Option (zSt) :=
  zn (zsI sR 7 0) fun sR1 => if ((zI sR1 6) - (zI sR1 5)) ≤ 3 then (zn (zsI sR1 4 2) fun sR2 => zn ((zI sR2 5) : Int32) fun x1_3 => fR_takeNumber_l34  zF sR2 x1_3) else (zn (zsI sR1 4 4) fun sR6 => some (sR6))
/-! WhatWasHers$Reader.step()V -/
abbrev rmX6_step : Room := { frames := 1, cells := 0, slots := 0, locals := 24 }
def fR_step_b200  (sR : zSt) (t0 : Int32) : Option (zSt) :=
  zn (zsI sR 4 t0) fun sR4 => zn (zsI sR4 6 ((zI sR4 5) + 1)) fun sR5 => some (sR5)
def fR_step_b68  (sR : zSt)  : Option (zSt) :=
  if (zI sR 5) < (zI sR 1) then (zg (zix (zI sR 5) 500) <| Option.bind (fR_isIn (zA sR 0 (zI sR 5).toNatClampNeg) 97 122) fun y2 => if y2 = true then (zn (zsI sR 4 1) fun sR9 => Option.bind (fR_behindRun sR9 (zI sR9 5) 97 122) fun y10 => zn (zsI sR9 6 y10) fun sR11 => some (sR11)) else (zg (zix (zI sR 5) 500) <| Option.bind (fR_isIn (zA sR 0 (zI sR 5).toNatClampNeg) 48 57) fun y3 => if y3 = true then (Option.bind (fR_behindRun sR (zI sR 5) 48 57) fun y6 => zn (zsI sR 6 y6) fun sR7 => Option.bind (fR_takeNumber sR7) fun y8 => some (y8)) else (zg (zix (zI sR 5) 500) <| if (zA sR 0 (zI sR 5).toNatClampNeg) = 59 then (fR_step_b200  sR 3) else (fR_step_b200  sR 4)))) else (zn (zsI sR 4 0) fun sR12 => zn (zsI sR12 6 (zI sR12 5)) fun sR13 => some (sR13))
def fR_step_b55 (K16 : zSt → Option (zSt)) (sR : zSt)  : Option (zSt) :=
  zn (zsI sR 5 ((zI sR 5) + 1)) fun sR14 => K16 sR14
def fR_step_l16b (K16 : zSt → Option (zSt)) (sR : zSt)  : Option (zSt) :=
  if (zI sR 1) ≤ (zI sR 5) then (fR_step_b68  sR) else (zg (zix (zI sR 5) 500) <| if (zA sR 0 (zI sR 5).toNatClampNeg) = 32 then (fR_step_b55 K16 sR) else (zg (zix (zI sR 5) 500) <| if (zA sR 0 (zI sR 5).toNatClampNeg) = 10 then (fR_step_b55 K16 sR) else (fR_step_b68  sR)))
def fR_step_l16  : Nat → zSt → Option (zSt)
  | 0, _ => none
  | n + 1, v0 => fR_step_l16b  (fun v0 => fR_step_l16  n v0) v0
def fR_step (sR : zSt)  : Option (zSt) :=
  if (zI sR 2) = 0 then (zn (zsI sR 5 (zI sR 6)) fun sR1 => fR_step_l16  zF sR1) else (some (sR))
/-! WhatWasHers$Reader.isWord(Ljava/lang/String;II)Z -/
abbrev rmX6_isWord : Room := { frames := 4, cells := 0, slots := 0, locals := 85 }
def fR_isWord_l20b (K20 : zSt → Nat → Int32 → Int32 → Int32 → Option (Bool)) (sR : zSt) (x1 : Nat) (x2 : Int32) (x3 : Int32) (x4 : Int32) : Option (Bool) :=
  if x3 ≤ x4 then (some (true)) else (zg (zs7 x1 && zix x4 (zLen.getD x1 0)) <| zg (zix (((zI sR 5) + x4) - x2) 500) <| if (zch x1 x4) = (zA sR 0 (((zI sR 5) + x4) - x2).toNatClampNeg) then (zn (x4 + 1 : Int32) fun x4_1 => K20 sR x1 x2 x3 x4_1) else (some (false)))
def fR_isWord_l20  : Nat → zSt → Nat → Int32 → Int32 → Int32 → Option (Bool)
  | 0, _, _, _, _, _ => none
  | n + 1, v0, v1, v2, v3, v4 => fR_isWord_l20b  (fun v0 v1 v2 v3 v4 => fR_isWord_l20  n v0 v1 v2 v3 v4) v0 v1 v2 v3 v4
def fR_isWord (sR : zSt) (a0 : Nat) (a1 : Int32) (a2 : Int32) : Option (Bool) :=
  if (a2 - a1) = ((zI sR 6) - (zI sR 5)) then (fR_isWord_l20  zF sR a0 a1 a2 a1) else (some (false))
/-! WhatWasHers$Reader.choice(Ljava/lang/String;)I -/
abbrev rmX6_choice : Room := { frames := 5, cells := 0, slots := 0, locals := 109 }
def fR_choice_b46 (K17 : zSt → Nat → Int32 → Int32 → Int32 → Option (Int32)) (sR : zSt) (x1 : Nat) (x2 : Int32) (x3 : Int32) (x4 : Int32) : Option (Int32) :=
  Option.bind (fR_isWord sR x1 x3 x4) fun y1 => if y1 = true then (some (x2)) else (zn (x2 + 1 : Int32) fun x2_2 => zn ((x4 + 1) : Int32) fun x3_3 => zn (x4 + 1 : Int32) fun x4_4 => K17 sR x1 x2_2 x3_3 x4_4)
def fR_choice_l17b (K17 : zSt → Nat → Int32 → Int32 → Int32 → Option (Int32)) (sR : zSt) (x1 : Nat) (x2 : Int32) (x3 : Int32) (x4 : Int32) : Option (Int32) :=
  zg (zs7 x1) <| if (nI (zLen.getD x1 0)) < x4 then (some ((-1))) else (zg (zs7 x1) <| if x4 = (nI (zLen.getD x1 0)) then (fR_choice_b46 K17 sR x1 x2 x3 x4) else (zg (zs7 x1 && zix x4 (zLen.getD x1 0)) <| if (zch x1 x4) = 32 then (fR_choice_b46 K17 sR x1 x2 x3 x4) else (zn (x4 + 1 : Int32) fun x4_5 => K17 sR x1 x2 x3 x4_5)))
def fR_choice_l17  : Nat → zSt → Nat → Int32 → Int32 → Int32 → Option (Int32)
  | 0, _, _, _, _, _ => none
  | n + 1, v0, v1, v2, v3, v4 => fR_choice_l17b  (fun v0 v1 v2 v3 v4 => fR_choice_l17  n v0 v1 v2 v3 v4) v0 v1 v2 v3 v4
def fR_choice (sR : zSt) (a0 : Nat) : Option (Int32) :=
  if (zI sR 4) = 1 then (fR_choice_l17  zF sR a0 0 0 0) else (some ((-1)))
/-! WhatWasHers$Reader.fail(I)V -/
abbrev rmX6_fail : Room := { frames := 0, cells := 0, slots := 0, locals := 0 }
def fR_fail (sR : zSt) (a0 : Int32) : Option (zSt) :=
  if (zI sR 2) = 0 then (zn (zsI sR 2 a0) fun sR1 => zn (zsI sR1 3 (zI sR1 5)) fun sR2 => some (sR2)) else (some (sR))
/-! WhatWasHers$Reader.word(Ljava/lang/String;)I -/
abbrev rmX6_word : Room := { frames := 6, cells := 0, slots := 0, locals := 133 }
def fR_word (sR : zSt) (a0 : Nat) : Option (Int32 × zSt) :=
  Option.bind (fR_choice sR a0) fun y1 => if 0 ≤ y1 then (Option.bind (fR_step sR) fun y2 => some (y1, y2)) else (Option.bind (fR_fail sR 1) fun y3 => some (0, y3))
/-! WhatWasHers$Reader.number(II)I -/
abbrev rmX6_number : Room := { frames := 2, cells := 0, slots := 0, locals := 44 }
def fR_number_b30  (sR : zSt)  : Option (Int32 × zSt) :=
  Option.bind (fR_fail sR 2) fun y2 => some (0, y2)
def fR_number (sR : zSt) (a0 : Int32) (a1 : Int32) : Option (Int32 × zSt) :=
  zn ((zI sR 7) : Int32) fun x3_1 => if (zI sR 4) = 2 then (if x3_1 < a0 then (fR_number_b30  sR) else (if x3_1 ≤ a1 then (Option.bind (fR_step sR) fun y3 => some (x3_1, y3)) else (fR_number_b30  sR))) else (Option.bind (fR_fail sR 1) fun y4 => some (0, y4))
/-! WhatWasHers$Reader.semicolon()V -/
abbrev rmX6_semicolon : Room := { frames := 2, cells := 0, slots := 0, locals := 44 }
def fR_semicolon (sR : zSt)  : Option (zSt) :=
  if (zI sR 4) = 3 then (Option.bind (fR_step sR) fun y2 => some (y2)) else (Option.bind (fR_fail sR 1) fun y1 => some (y1))
/-! WhatWasHers$Reader.readLaw(LWhatWasHers$Story;I)V -/
abbrev rmX6_readLaw : Room := { frames := 7, cells := 0, slots := 0, locals := 155 }
def fR_readLaw_l6b (K6 : zSt → zSt → Int32 → Int32 → Option (zSt × zSt)) (sR : zSt) (sS : zSt) (x2 : Int32) (x3 : Int32) : Option (zSt × zSt) :=
  if 4 ≤ x3 then (Option.bind (fR_word sR 2) fun y2 => zg (zix x2 4) <| zn (zsA sS 4 x2.toNatClampNeg y2.1) fun sS3 => Option.bind (fR_word y2.2 3) fun y4 => zg (zix x2 4) <| zn (zsA sS3 5 x2.toNatClampNeg y4.1) fun sS5 => Option.bind (fR_word y4.2 4) fun y6 => zg (zix x2 4) <| zn (zsA sS5 6 x2.toNatClampNeg y6.1) fun sS7 => Option.bind (fR_number y6.2 0 100) fun y8 => zg (zix x2 4) <| zn (zsA sS7 7 x2.toNatClampNeg y8.1) fun sS9 => Option.bind (fR_semicolon y8.2) fun y10 => some (y10, sS9)) else (Option.bind (fR_word sR 1) fun y11 => zg (zix ((x2 * 4) + x3) 16) <| zn (zsA sS 3 ((x2 * 4) + x3).toNatClampNeg y11.1) fun sS12 => zn (x3 + 1 : Int32) fun x3_13 => K6 y11.2 sS12 x2 x3_13)
def fR_readLaw_l6  : Nat → zSt → zSt → Int32 → Int32 → Option (zSt × zSt)
  | 0, _, _, _, _ => none
  | n + 1, v0, v1, v2, v3 => fR_readLaw_l6b  (fun v0 v1 v2 v3 => fR_readLaw_l6  n v0 v1 v2 v3) v0 v1 v2 v3
def fR_readLaw (sR : zSt) (sS : zSt) (a1 : Int32) : Option (zSt × zSt) :=
  Option.bind (fR_step sR) fun y1 => fR_readLaw_l6  zF y1 sS a1 0
/-! WhatWasHers$Reader.readLaws(LWhatWasHers$Story;)V -/
abbrev rmX6_readLaws : Room := { frames := 8, cells := 0, slots := 0, locals := 178 }
def fR_readLaws_l16b (K16 : zSt → zSt → Int32 → Option (zSt × zSt)) (sR : zSt) (sS : zSt) (x2 : Int32) : Option (zSt × zSt) :=
  if 4 < x2 then (some (sR, sS)) else (if (zI sR 2) = 0 then (Option.bind (fR_choice sR 0) fun y2 => if y2 = 0 then (if (zI sS 0) < 4 then (Option.bind (fR_readLaw sR sS (zI sS 0)) fun y3 => zn (zsI y3.2 0 ((zI y3.2 0) + 1)) fun sS4 => zn (x2 + 1 : Int32) fun x2_5 => K16 y3.1 sS4 x2_5) else (Option.bind (fR_fail sR 3) fun y6 => zn (x2 + 1 : Int32) fun x2_7 => K16 y6 sS x2_7)) else (some (sR, sS))) else (some (sR, sS)))
def fR_readLaws_l16  : Nat → zSt → zSt → Int32 → Option (zSt × zSt)
  | 0, _, _, _ => none
  | n + 1, v0, v1, v2 => fR_readLaws_l16b  (fun v0 v1 v2 => fR_readLaws_l16  n v0 v1 v2) v0 v1 v2
def fR_readLaws (sR : zSt) (sS : zSt)  : Option (zSt × zSt) :=
  Option.bind (fR_choice sR 0) fun y1 => if 0 ≤ y1 then (fR_readLaws_l16  zF sR sS 0) else (Option.bind (fR_fail sR 1) fun y8 => fR_readLaws_l16  zF y8 sS 0)
/-! WhatWasHers$Reader.readEvent(LWhatWasHers$Story;II)V -/
abbrev rmX6_readEvent : Room := { frames := 7, cells := 0, slots := 0, locals := 155 }
def fR_readEvent_b187  (sR : zSt) (sS : zSt) (t0 : Int32) (t2 : Int32) : Option (zSt × zSt) :=
  Option.bind (fR_number sR t0 99) fun y16 => zg (zix t2 30) <| zn (zsA sS 12 t2.toNatClampNeg y16.1) fun sS17 => Option.bind (fR_semicolon y16.2) fun y18 => some (y18, sS17)
def fR_readEvent_b169  (sR : zSt) (sS : zSt) (x2 : Int32) (t0 : Int32) : Option (zSt × zSt) :=
  if t0 = 0 then (fR_readEvent_b187  sR sS 0 x2) else (fR_readEvent_b187  sR sS 1 x2)
def fR_readEvent_b33  (sR : zSt) (sS : zSt) (x2 : Int32) (x3 : Int32) (t0 : Int32) (t2 : Int32) : Option (zSt × zSt) :=
  Option.bind (fR_number sR t0 999) fun y3 => zg (zix t2 30) <| zn (zsA sS 9 t2.toNatClampNeg y3.1) fun sS4 => if x3 = 0 then (Option.bind (fR_word y3.2 6) fun y5 => zg (zix x2 30) <| zn (zsA sS4 10 x2.toNatClampNeg y5.1) fun sS6 => Option.bind (fR_number y5.2 0 1) fun y7 => zg (zix x2 30) <| zn (zsA sS6 11 x2.toNatClampNeg y7.1) fun sS8 => Option.bind (fR_number y7.2 1 99) fun y9 => zg (zix x2 30) <| zn (zsA sS8 12 x2.toNatClampNeg y9.1) fun sS10 => Option.bind (fR_semicolon y9.2) fun y11 => some (y11, sS10)) else (if x3 = 1 then (Option.bind (fR_number y3.2 0 99) fun y12 => zg (zix x2 30) <| zn (zsA sS4 10 x2.toNatClampNeg y12.1) fun sS13 => Option.bind (fR_number y12.2 0 99) fun y14 => zg (zix x2 30) <| zn (zsA sS13 11 x2.toNatClampNeg y14.1) fun sS15 => zg (zix x2 30) <| if (zA sS15 10 x2.toNatClampNeg) = 0 then (zg (zix x2 30) <| if (zA sS15 11 x2.toNatClampNeg) = 0 then (fR_readEvent_b169  y14.2 sS15 x2 1) else (fR_readEvent_b169  y14.2 sS15 x2 0)) else (fR_readEvent_b169  y14.2 sS15 x2 0)) else (if x3 = 2 then (Option.bind (fR_number y3.2 0 ((zI sS4 2) - 1)) fun y19 => zg (zix x2 30) <| zn (zsA sS4 10 x2.toNatClampNeg y19.1) fun sS20 => Option.bind (fR_number y19.2 0 2) fun y21 => zg (zix x2 30) <| zn (zsA sS20 11 x2.toNatClampNeg y21.1) fun sS22 => Option.bind (fR_number y21.2 1 99) fun y23 => zg (zix x2 30) <| zn (zsA sS22 12 x2.toNatClampNeg y23.1) fun sS24 => Option.bind (fR_semicolon y23.2) fun y25 => some (y25, sS24)) else (if x3 = 3 then (Option.bind (fR_number y3.2 0 ((zI sS4 2) - 1)) fun y26 => zg (zix x2 30) <| zn (zsA sS4 10 x2.toNatClampNeg y26.1) fun sS27 => Option.bind (fR_number y26.2 0 99) fun y28 => zg (zix x2 30) <| zn (zsA sS27 11 x2.toNatClampNeg y28.1) fun sS29 => Option.bind (fR_semicolon y28.2) fun y30 => some (y30, sS29)) else (if x3 = 4 then (Option.bind (fR_number y3.2 0 2) fun y31 => zg (zix x2 30) <| zn (zsA sS4 10 x2.toNatClampNeg y31.1) fun sS32 => Option.bind (fR_number y31.2 1 99) fun y33 => zg (zix x2 30) <| zn (zsA sS32 11 x2.toNatClampNeg y33.1) fun sS34 => Option.bind (fR_semicolon y33.2) fun y35 => some (y35, sS34)) else (if x3 = 5 then (Option.bind (fR_number y3.2 0 ((zI sS4 0) - 1)) fun y36 => zg (zix x2 30) <| zn (zsA sS4 10 x2.toNatClampNeg y36.1) fun sS37 => Option.bind (fR_semicolon y36.2) fun y38 => some (y38, sS37)) else (Option.bind (fR_number y3.2 0 4) fun y39 => zg (zix x2 30) <| zn (zsA sS4 10 x2.toNatClampNeg y39.1) fun sS40 => Option.bind (fR_number y39.2 0 2) fun y41 => zg (zix x2 30) <| zn (zsA sS40 11 x2.toNatClampNeg y41.1) fun sS42 => Option.bind (fR_semicolon y41.2) fun y43 => some (y43, sS42)))))))
def fR_readEvent (sR : zSt) (sS : zSt) (a1 : Int32) (a2 : Int32) : Option (zSt × zSt) :=
  Option.bind (fR_step sR) fun y1 => zg (zix a1 30) <| zn (zsA sS 8 a1.toNatClampNeg a2) fun sS2 => if a1 = 0 then (fR_readEvent_b33  y1 sS2 a1 a2 0 a1) else (zg (zix (a1 - 1) 30) <| fR_readEvent_b33  y1 sS2 a1 a2 (zA sS2 9 (a1 - 1).toNatClampNeg) a1)
/-! WhatWasHers$Reader.readEvents(LWhatWasHers$Story;)V -/
abbrev rmX6_readEvents : Room := { frames := 8, cells := 0, slots := 0, locals := 179 }
def fR_readEvents_b80 (K2 : zSt → zSt → Int32 → Option (zSt × zSt)) (sR : zSt) (sS : zSt) (x2 : Int32) : Option (zSt × zSt) :=
  Option.bind (fR_fail sR 3) fun y2 => zn (x2 + 1 : Int32) fun x2_3 => K2 y2 sS x2_3
def fR_readEvents_b88 (K2 : zSt → zSt → Int32 → Option (zSt × zSt)) (sR : zSt) (sS : zSt) (x2 : Int32) (x3 : Int32) (x4 : Int32) : Option (zSt × zSt) :=
  Option.bind (fR_readEvent sR sS (zI sS 1) x3) fun y4 => zn (zsI y4.2 1 ((zI y4.2 1) + 1)) fun sS5 => if x4 = 0 then (zn (zsI sS5 2 ((zI sS5 2) + 0)) fun sS6 => zn (x2 + 1 : Int32) fun x2_7 => K2 y4.1 sS6 x2_7) else (zn (zsI sS5 2 ((zI sS5 2) + 1)) fun sS8 => zn (x2 + 1 : Int32) fun x2_9 => K2 y4.1 sS8 x2_9)
def fR_readEvents_b43 (K2 : zSt → zSt → Int32 → Option (zSt × zSt)) (sR : zSt) (sS : zSt) (x2 : Int32) (x3 : Int32) (t0 : Int32) : Option (zSt × zSt) :=
  if 0 ≤ x3 then (if 30 ≤ (zI sS 1) then (fR_readEvents_b80 K2 sR sS x2) else (if t0 = 0 then (fR_readEvents_b88 K2 sR sS x2 x3 t0) else (if (zI sS 2) < 10 then (fR_readEvents_b88 K2 sR sS x2 x3 t0) else (fR_readEvents_b80 K2 sR sS x2)))) else (Option.bind (fR_fail sR 1) fun y10 => zn (x2 + 1 : Int32) fun x2_11 => K2 y10 sS x2_11)
def fR_readEvents_l2b (K2 : zSt → zSt → Int32 → Option (zSt × zSt)) (sR : zSt) (sS : zSt) (x2 : Int32) : Option (zSt × zSt) :=
  if 30 < x2 then (some (sR, sS)) else (if (zI sR 2) = 0 then (if (zI sR 4) = 0 then (some (sR, sS)) else (Option.bind (fR_choice sR 5) fun y1 => if y1 = 0 then (fR_readEvents_b43 K2 sR sS x2 y1 1) else (if y1 = 1 then (fR_readEvents_b43 K2 sR sS x2 y1 1) else (fR_readEvents_b43 K2 sR sS x2 y1 0)))) else (some (sR, sS)))
def fR_readEvents_l2  : Nat → zSt → zSt → Int32 → Option (zSt × zSt)
  | 0, _, _, _ => none
  | n + 1, v0, v1, v2 => fR_readEvents_l2b  (fun v0 v1 v2 => fR_readEvents_l2  n v0 v1 v2) v0 v1 v2
def fR_readEvents (sR : zSt) (sS : zSt)  : Option (zSt × zSt) :=
  fR_readEvents_l2  zF sR sS 0
/-! WhatWasHers$Reader.readInto(LWhatWasHers$Story;)V -/
abbrev rmX6_readInto : Room := { frames := 9, cells := 0, slots := 0, locals := 203 }
def fR_readInto (sR : zSt) (sS : zSt)  : Option (zSt × zSt) :=
  Option.bind (fS_clear sS) fun y1 => zn (zsI sR 2 0) fun sR2 => zn (zsI sR2 3 0) fun sR3 => zn (zsI sR3 6 0) fun sR4 => Option.bind (fR_step sR4) fun y5 => Option.bind (fR_readLaws y5 y1) fun y6 => Option.bind (fR_readEvents y6.1 y6.2) fun y7 => zn (zsI y7.1 1 0) fun sR8 => some (sR8, y7.2)
theorem rw_g_X6_15_R_R {x : zX} {G : zG} {ce sl pc : Nat} {lv : List (Nat × Value)} {st : List Value} {cc : ByteArray} {nL : Nat} {ret : Option FieldType} {rm : Room} {qR : Nat → Nat} {sR : zSt} (C : zC x G RX6 cc nL ret rm) (hd : decode cc pc = .ok (.getfield 15, 3)) (K : zW x G ce sl (pc + 3) lv (.int (zI sR 1) :: st) (wdR G qR sR)) : zW x G ce sl pc lv (.ref (qR 0) :: st) (wdR G qR sR) := z_get C (Cn := RX6) (T := TX6) (N := 8) (ci := 6) (k := 1) inzX6 rfl (by decide) rw_u_106 (fun _ h => h) 0 rfl rfl hd K
theorem rw_g_X6_9_R_R {x : zX} {G : zG} {ce sl pc : Nat} {lv : List (Nat × Value)} {st : List Value} {cc : ByteArray} {nL : Nat} {ret : Option FieldType} {rm : Room} {qR : Nat → Nat} {sR : zSt} (C : zC x G RX6 cc nL ret rm) (hd : decode cc pc = .ok (.getfield 9, 3)) (K : zW x G ce sl (pc + 3) lv (.ref (qR 1) :: st) (wdR G qR sR)) : zW x G ce sl pc lv (.ref (qR 0) :: st) (wdR G qR sR) := z_get C (Cn := RX6) (T := TX6) (N := 8) (ci := 6) (k := 0) inzX6 rfl (by decide) rw_u_105 (fun _ h => h) 0 rfl rfl hd K
theorem rw_s_R_R_0 {x : zX} {G : zG} {ce sl pc : Nat} {lv : List (Nat × Value)} {st : List Value} {cc : ByteArray} {nL : Nat} {ret : Option FieldType} {rm : Room} {own : String} {qR : Nat → Nat} {sR : zSt} {i : Int32} {v : Int32} {α : Type} {o : α} {kk : zSt → Option α} (C : zC x G own cc nL ret rm) (hd : decode cc pc = .ok (.bastore, 1)) (h : zg (zix i 500) (zn (zsA sR 0 i.toNatClampNeg (vp_nar .byte v)) kk) = some o) (K : ∀ s' : zSt, kk s' = some o → zW x G ce sl (pc + 1) lv st (wdR G qR s')) : zW x G ce sl pc lv (.int v :: .int i :: .ref (qR 1) :: st) (wdR G qR sR) := z_bast C (w' := wdR G qR (zsA sR 0 i.toNatClampNeg (vp_nar .byte v))) 1 rfl rfl hd h (fun h => K _ h)
theorem rw_p_X6_15_R_R {x : zX} {G : zG} {ce sl pc : Nat} {lv : List (Nat × Value)} {st : List Value} {cc : ByteArray} {nL : Nat} {ret : Option FieldType} {rm : Room} {qR : Nat → Nat} {sR : zSt} {v : Int32} {α : Type} {o : α} {kk : zSt → Option α} (C : zC x G RX6 cc nL ret rm) (hd : decode cc pc = .ok (.putfield 15, 3)) (h : zn (zsI sR 1 v) kk = some o) (K : ∀ s' : zSt, kk s' = some o → zW x G ce sl (pc + 3) lv st (wdR G qR s')) : zW x G ce sl pc lv (.int v :: .ref (qR 0) :: st) (wdR G qR sR) := z_put C (Cn := RX6) (T := TX6) (N := 8) (ci := 6) (k := 1) (ty := .int) (w' := wdR G qR (zsI sR 1 v)) inzX6 tyX6 tyX6_ok nmX6 rfl (by decide) rw_u_106 (fun _ h => h) rfl 0 rfl (by decide +kernel) rfl rfl (Nat.le_of_ble_eq_true rfl) rfl hd (K _ h)
theorem rw_l_R_R_0 {x : zX} {G : zG} {ce sl pc : Nat} {lv : List (Nat × Value)} {st : List Value} {cc : ByteArray} {nL : Nat} {ret : Option FieldType} {rm : Room} {own : String} {qR : Nat → Nat} {sR : zSt} {i : Int32} {α : Type} {o : α} {kk : Option α} (C : zC x G own cc nL ret rm) (hd : decode cc pc = .ok (.baload, 1)) (h : zg (zix i 500) kk = some o) (K : kk = some o → zW x G ce sl (pc + 1) lv (.int (zA sR 0 i.toNatClampNeg) :: st) (wdR G qR sR)) : zW x G ce sl pc lv (.int i :: .ref (qR 1) :: st) (wdR G qR sR) := z_bald C 1 rfl hd h K
theorem rw_p_X6_126_R_R {x : zX} {G : zG} {ce sl pc : Nat} {lv : List (Nat × Value)} {st : List Value} {cc : ByteArray} {nL : Nat} {ret : Option FieldType} {rm : Room} {qR : Nat → Nat} {sR : zSt} {v : Int32} {α : Type} {o : α} {kk : zSt → Option α} (C : zC x G RX6 cc nL ret rm) (hd : decode cc pc = .ok (.putfield 126, 3)) (h : zn (zsI sR 7 v) kk = some o) (K : ∀ s' : zSt, kk s' = some o → zW x G ce sl (pc + 3) lv st (wdR G qR s')) : zW x G ce sl pc lv (.int v :: .ref (qR 0) :: st) (wdR G qR sR) := z_put C (Cn := RX6) (T := TX6) (N := 8) (ci := 6) (k := 7) (ty := .int) (w' := wdR G qR (zsI sR 7 v)) inzX6 tyX6 tyX6_ok nmX6 rfl (by decide) rw_u_115 (fun _ h => h) rfl 0 rfl (by decide +kernel) rfl rfl (Nat.le_of_ble_eq_true rfl) rfl hd (K _ h)
theorem rw_g_X6_30_R_R {x : zX} {G : zG} {ce sl pc : Nat} {lv : List (Nat × Value)} {st : List Value} {cc : ByteArray} {nL : Nat} {ret : Option FieldType} {rm : Room} {qR : Nat → Nat} {sR : zSt} (C : zC x G RX6 cc nL ret rm) (hd : decode cc pc = .ok (.getfield 30, 3)) (K : zW x G ce sl (pc + 3) lv (.int (zI sR 6) :: st) (wdR G qR sR)) : zW x G ce sl pc lv (.ref (qR 0) :: st) (wdR G qR sR) := z_get C (Cn := RX6) (T := TX6) (N := 8) (ci := 6) (k := 6) inzX6 rfl (by decide) rw_u_114 (fun _ h => h) 0 rfl rfl hd K
theorem rw_g_X6_129_R_R {x : zX} {G : zG} {ce sl pc : Nat} {lv : List (Nat × Value)} {st : List Value} {cc : ByteArray} {nL : Nat} {ret : Option FieldType} {rm : Room} {qR : Nat → Nat} {sR : zSt} (C : zC x G RX6 cc nL ret rm) (hd : decode cc pc = .ok (.getfield 129, 3)) (K : zW x G ce sl (pc + 3) lv (.int (zI sR 5) :: st) (wdR G qR sR)) : zW x G ce sl pc lv (.ref (qR 0) :: st) (wdR G qR sR) := z_get C (Cn := RX6) (T := TX6) (N := 8) (ci := 6) (k := 5) inzX6 rfl (by decide) rw_u_113 (fun _ h => h) 0 rfl rfl hd K
theorem rw_p_X6_94_R_R {x : zX} {G : zG} {ce sl pc : Nat} {lv : List (Nat × Value)} {st : List Value} {cc : ByteArray} {nL : Nat} {ret : Option FieldType} {rm : Room} {qR : Nat → Nat} {sR : zSt} {v : Int32} {α : Type} {o : α} {kk : zSt → Option α} (C : zC x G RX6 cc nL ret rm) (hd : decode cc pc = .ok (.putfield 94, 3)) (h : zn (zsI sR 4 v) kk = some o) (K : ∀ s' : zSt, kk s' = some o → zW x G ce sl (pc + 3) lv st (wdR G qR s')) : zW x G ce sl pc lv (.int v :: .ref (qR 0) :: st) (wdR G qR sR) := z_put C (Cn := RX6) (T := TX6) (N := 8) (ci := 6) (k := 4) (ty := .int) (w' := wdR G qR (zsI sR 4 v)) inzX6 tyX6 tyX6_ok nmX6 rfl (by decide) rw_u_112 (fun _ h => h) rfl 0 rfl (by decide +kernel) rfl rfl (Nat.le_of_ble_eq_true rfl) rfl hd (K _ h)
theorem rw_g_X6_126_R_R {x : zX} {G : zG} {ce sl pc : Nat} {lv : List (Nat × Value)} {st : List Value} {cc : ByteArray} {nL : Nat} {ret : Option FieldType} {rm : Room} {qR : Nat → Nat} {sR : zSt} (C : zC x G RX6 cc nL ret rm) (hd : decode cc pc = .ok (.getfield 126, 3)) (K : zW x G ce sl (pc + 3) lv (.int (zI sR 7) :: st) (wdR G qR sR)) : zW x G ce sl pc lv (.ref (qR 0) :: st) (wdR G qR sR) := z_get C (Cn := RX6) (T := TX6) (N := 8) (ci := 6) (k := 7) inzX6 rfl (by decide) rw_u_115 (fun _ h => h) 0 rfl rfl hd K
theorem rw_g_X6_24_R_R {x : zX} {G : zG} {ce sl pc : Nat} {lv : List (Nat × Value)} {st : List Value} {cc : ByteArray} {nL : Nat} {ret : Option FieldType} {rm : Room} {qR : Nat → Nat} {sR : zSt} (C : zC x G RX6 cc nL ret rm) (hd : decode cc pc = .ok (.getfield 24, 3)) (K : zW x G ce sl (pc + 3) lv (.int (zI sR 2) :: st) (wdR G qR sR)) : zW x G ce sl pc lv (.ref (qR 0) :: st) (wdR G qR sR) := z_get C (Cn := RX6) (T := TX6) (N := 8) (ci := 6) (k := 2) inzX6 rfl (by decide) rw_u_108 (fun _ h => h) 0 rfl rfl hd K
theorem rw_p_X6_129_R_R {x : zX} {G : zG} {ce sl pc : Nat} {lv : List (Nat × Value)} {st : List Value} {cc : ByteArray} {nL : Nat} {ret : Option FieldType} {rm : Room} {qR : Nat → Nat} {sR : zSt} {v : Int32} {α : Type} {o : α} {kk : zSt → Option α} (C : zC x G RX6 cc nL ret rm) (hd : decode cc pc = .ok (.putfield 129, 3)) (h : zn (zsI sR 5 v) kk = some o) (K : ∀ s' : zSt, kk s' = some o → zW x G ce sl (pc + 3) lv st (wdR G qR s')) : zW x G ce sl pc lv (.int v :: .ref (qR 0) :: st) (wdR G qR sR) := z_put C (Cn := RX6) (T := TX6) (N := 8) (ci := 6) (k := 5) (ty := .int) (w' := wdR G qR (zsI sR 5 v)) inzX6 tyX6 tyX6_ok nmX6 rfl (by decide) rw_u_113 (fun _ h => h) rfl 0 rfl (by decide +kernel) rfl rfl (Nat.le_of_ble_eq_true rfl) rfl hd (K _ h)
theorem rw_c_X6_145 {x : zX} {G : zG} {ce sl pc : Nat} {lv : List (Nat × Value)} {cc : ByteArray} {nL : Nat} {ret : Option FieldType} {rm : Room} {w w1 : va_W} {rest : List Value} {r : Option Value} {a0 : Int32} {a1 : Int32} {a2 : Int32} (C : zC x G RX6 cc nL ret rm) (hc : Ct (xl x) G yX6_isIn cX6_isIn 3 (some .boolean) rmX6_isIn [.int a0, .int a1, .int a2] w r w1) (hd : decode cc pc = .ok (.invokestatic 145, 3)) (hcat : (rest.map fun v => v.category).sum ≤ 8) (hrm : zRm rm rmX6_isIn 3 ce sl) (K : zW x G (ce + rmX6_isIn.cells) (sl + rmX6_isIn.slots) (pc + 3) lv (r.toList ++ rest) w1) : zW x G ce sl pc lv (.int a2 :: .int a1 :: .int a0 :: rest) w := z_callS C 3 rw_u_466 rw_u_72 rw_u_464 rw_u_465 ⟨by decide, by decide, by decide +kernel⟩ hc rfl hd hcat hrm K
theorem rw_p_X6_30_R_R {x : zX} {G : zG} {ce sl pc : Nat} {lv : List (Nat × Value)} {st : List Value} {cc : ByteArray} {nL : Nat} {ret : Option FieldType} {rm : Room} {qR : Nat → Nat} {sR : zSt} {v : Int32} {α : Type} {o : α} {kk : zSt → Option α} (C : zC x G RX6 cc nL ret rm) (hd : decode cc pc = .ok (.putfield 30, 3)) (h : zn (zsI sR 6 v) kk = some o) (K : ∀ s' : zSt, kk s' = some o → zW x G ce sl (pc + 3) lv st (wdR G qR s')) : zW x G ce sl pc lv (.int v :: .ref (qR 0) :: st) (wdR G qR sR) := z_put C (Cn := RX6) (T := TX6) (N := 8) (ci := 6) (k := 6) (ty := .int) (w' := wdR G qR (zsI sR 6 v)) inzX6 tyX6 tyX6_ok nmX6 rfl (by decide) rw_u_114 (fun _ h => h) rfl 0 rfl (by decide +kernel) rfl rfl (Nat.le_of_ble_eq_true rfl) rfl hd (K _ h)
theorem rw_c_X6_149 {x : zX} {G : zG} {ce sl pc : Nat} {lv : List (Nat × Value)} {cc : ByteArray} {nL : Nat} {ret : Option FieldType} {rm : Room} {w w1 : va_W} {rest : List Value} {r : Option Value} {a0 : Int32} {a1 : Int32} {a2 : Int32} {b : Nat} {fs : List Value} (C : zC x G RX6 cc nL ret rm) (hc : Ct (xl x) G yX6_behindRun cX6_behindRun 5 (some .int) rmX6_behindRun [.ref b, .int a0, .int a1, .int a2] w r w1) (q0 : Nat) (he : w[q0]? = some (b, .inr (6, fs))) (hd : decode cc pc = .ok (.invokevirtual 149, 3)) (hcat : (rest.map fun v => v.category).sum ≤ 8) (hrm : zRm rm rmX6_behindRun 5 ce sl) (K : zW x G (ce + rmX6_behindRun.cells) (sl + rmX6_behindRun.slots) (pc + 3) lv (r.toList ++ rest) w1) : zW x G ce sl pc lv (.int a2 :: .int a1 :: .int a0 :: .ref b :: rest) w := z_callV C 3 rw_u_470 rw_u_72 rw_u_467 rw_u_469 rw_u_5 ⟨by decide, by decide, by decide +kernel⟩ (T := TX6) (N := 8) rfl hc rfl q0 he hd hcat hrm K
theorem rw_c_X6_153 {x : zX} {G : zG} {ce sl pc : Nat} {lv : List (Nat × Value)} {cc : ByteArray} {nL : Nat} {ret : Option FieldType} {rm : Room} {w w1 : va_W} {rest : List Value} {r : Option Value}  {b : Nat} {fs : List Value} (C : zC x G RX6 cc nL ret rm) (hc : Ct (xl x) G yX6_takeNumber cX6_takeNumber 2 none rmX6_takeNumber [.ref b] w r w1) (q0 : Nat) (he : w[q0]? = some (b, .inr (6, fs))) (hd : decode cc pc = .ok (.invokevirtual 153, 3)) (hcat : (rest.map fun v => v.category).sum ≤ 8) (hrm : zRm rm rmX6_takeNumber 2 ce sl) (K : zW x G (ce + rmX6_takeNumber.cells) (sl + rmX6_takeNumber.slots) (pc + 3) lv (r.toList ++ rest) w1) : zW x G ce sl pc lv (.ref b :: rest) w := z_callV C 0 rw_u_474 rw_u_72 rw_u_471 rw_u_473 rw_u_6 ⟨by decide, by decide, by decide +kernel⟩ (T := TX6) (N := 8) rfl hc rfl q0 he hd hcat hrm K
theorem rw_schar_X6_137 {x : zX} {G : zG} {ce sl pc : Nat} {lv : List (Nat × Value)} {st : List Value} {cc : ByteArray} {nL : Nat} {ret : Option FieldType} {rm : Room} {w : va_W} {i : Nat} {k : Int32} {α : Type} {o : α} {kk : Option α} (C : zC x G RX6 cc nL ret rm) (hd : decode cc pc = .ok (.invokevirtual 137, 3)) (hcat : (st.map fun v => v.category).sum ≤ 8) (hrm : zRm rm rmJ0_charAt_5068e 2 ce sl) (h : zg (zs7 i && zix k (zLen.getD i 0)) kk = some o) (K : kk = some o → zW x G ce sl (pc + 3) lv (.int (zch i k) :: st) w) : zW x G ce sl pc lv (.int k :: .ref (gK G i) :: st) w := z_callVr C 1 (As := [.int k]) (rest := st) (Cn := RJ0) rw_u_497 rw_u_80 rw_u_494 rw_u_495 rw_u_496 ⟨by decide, by decide, by decide +kernel⟩ (Ct.frame0 (cJ_charAt (of_decide_eq_true (Bool.and_eq_true_iff.mp (zg_o h).1).1) (Bool.and_eq_true_iff.mp (zg_o h).1).2)) rfl (zrecvK C i (of_decide_eq_true (Bool.and_eq_true_iff.mp (zg_o h).1).1)) hd hcat hrm (K (zg_o h).2)
theorem rw_g_X6_94_R_R {x : zX} {G : zG} {ce sl pc : Nat} {lv : List (Nat × Value)} {st : List Value} {cc : ByteArray} {nL : Nat} {ret : Option FieldType} {rm : Room} {qR : Nat → Nat} {sR : zSt} (C : zC x G RX6 cc nL ret rm) (hd : decode cc pc = .ok (.getfield 94, 3)) (K : zW x G ce sl (pc + 3) lv (.int (zI sR 4) :: st) (wdR G qR sR)) : zW x G ce sl pc lv (.ref (qR 0) :: st) (wdR G qR sR) := z_get C (Cn := RX6) (T := TX6) (N := 8) (ci := 6) (k := 4) inzX6 rfl (by decide) rw_u_112 (fun _ h => h) 0 rfl rfl hd K
theorem rw_slen_X6_132 {x : zX} {G : zG} {ce sl pc : Nat} {lv : List (Nat × Value)} {st : List Value} {cc : ByteArray} {nL : Nat} {ret : Option FieldType} {rm : Room} {w : va_W} {i : Nat} {α : Type} {o : α} {kk : Option α} (C : zC x G RX6 cc nL ret rm) (hd : decode cc pc = .ok (.invokevirtual 132, 3)) (hcat : (st.map fun v => v.category).sum ≤ 8) (hrm : zRm rm rmJ0_length_8abf5 1 ce sl) (h : zg (zs7 i) kk = some o) (K : kk = some o → zW x G ce sl (pc + 3) lv (.int (nI (zLen.getD i 0)) :: st) w) : zW x G ce sl pc lv (.ref (gK G i) :: st) w := z_callVr C 0 (As := []) (rest := st) (Cn := RJ0) rw_u_487 rw_u_80 rw_u_484 rw_u_485 rw_u_486 ⟨by decide, by decide, by decide +kernel⟩ (Ct.frame0 (cJ_length (of_decide_eq_true (zg_o h).1))) rfl (zrecvK C i (of_decide_eq_true (zg_o h).1)) hd hcat hrm (K (zg_o h).2)
theorem rw_c_X6_141 {x : zX} {G : zG} {ce sl pc : Nat} {lv : List (Nat × Value)} {cc : ByteArray} {nL : Nat} {ret : Option FieldType} {rm : Room} {w w1 : va_W} {rest : List Value} {r : Option Value} {a0 : Nat} {a1 : Int32} {a2 : Int32} {b : Nat} {fs : List Value} (C : zC x G RX6 cc nL ret rm) (hc : Ct (xl x) G yX6_isWord cX6_isWord 5 (some .boolean) rmX6_isWord [.ref b, .ref a0, .int a1, .int a2] w r w1) (q0 : Nat) (he : w[q0]? = some (b, .inr (6, fs))) (hd : decode cc pc = .ok (.invokevirtual 141, 3)) (hcat : (rest.map fun v => v.category).sum ≤ 8) (hrm : zRm rm rmX6_isWord 5 ce sl) (K : zW x G (ce + rmX6_isWord.cells) (sl + rmX6_isWord.slots) (pc + 3) lv (r.toList ++ rest) w1) : zW x G ce sl pc lv (.int a2 :: .int a1 :: .ref a0 :: .ref b :: rest) w := z_callV C 3 rw_u_535 rw_u_72 rw_u_532 rw_u_534 rw_u_9 ⟨by decide, by decide, by decide +kernel⟩ (T := TX6) (N := 8) rfl hc rfl q0 he hd hcat hrm K
theorem rw_p_X6_24_R_R {x : zX} {G : zG} {ce sl pc : Nat} {lv : List (Nat × Value)} {st : List Value} {cc : ByteArray} {nL : Nat} {ret : Option FieldType} {rm : Room} {qR : Nat → Nat} {sR : zSt} {v : Int32} {α : Type} {o : α} {kk : zSt → Option α} (C : zC x G RX6 cc nL ret rm) (hd : decode cc pc = .ok (.putfield 24, 3)) (h : zn (zsI sR 2 v) kk = some o) (K : ∀ s' : zSt, kk s' = some o → zW x G ce sl (pc + 3) lv st (wdR G qR s')) : zW x G ce sl pc lv (.int v :: .ref (qR 0) :: st) (wdR G qR sR) := z_put C (Cn := RX6) (T := TX6) (N := 8) (ci := 6) (k := 2) (ty := .int) (w' := wdR G qR (zsI sR 2 v)) inzX6 tyX6 tyX6_ok nmX6 rfl (by decide) rw_u_108 (fun _ h => h) rfl 0 rfl (by decide +kernel) rfl rfl (Nat.le_of_ble_eq_true rfl) rfl hd (K _ h)
theorem rw_p_X6_27_R_R {x : zX} {G : zG} {ce sl pc : Nat} {lv : List (Nat × Value)} {st : List Value} {cc : ByteArray} {nL : Nat} {ret : Option FieldType} {rm : Room} {qR : Nat → Nat} {sR : zSt} {v : Int32} {α : Type} {o : α} {kk : zSt → Option α} (C : zC x G RX6 cc nL ret rm) (hd : decode cc pc = .ok (.putfield 27, 3)) (h : zn (zsI sR 3 v) kk = some o) (K : ∀ s' : zSt, kk s' = some o → zW x G ce sl (pc + 3) lv st (wdR G qR s')) : zW x G ce sl pc lv (.int v :: .ref (qR 0) :: st) (wdR G qR sR) := z_put C (Cn := RX6) (T := TX6) (N := 8) (ci := 6) (k := 3) (ty := .int) (w' := wdR G qR (zsI sR 3 v)) inzX6 tyX6 tyX6_ok nmX6 rfl (by decide) rw_u_110 (fun _ h => h) rfl 0 rfl (by decide +kernel) rfl rfl (Nat.le_of_ble_eq_true rfl) rfl hd (K _ h)
theorem rw_c_X6_45 {x : zX} {G : zG} {ce sl pc : Nat} {lv : List (Nat × Value)} {cc : ByteArray} {nL : Nat} {ret : Option FieldType} {rm : Room} {w w1 : va_W} {rest : List Value} {r : Option Value} {a0 : Nat} {b : Nat} {fs : List Value} (C : zC x G RX6 cc nL ret rm) (hc : Ct (xl x) G yX6_choice cX6_choice 5 (some .int) rmX6_choice [.ref b, .ref a0] w r w1) (q0 : Nat) (he : w[q0]? = some (b, .inr (6, fs))) (hd : decode cc pc = .ok (.invokevirtual 45, 3)) (hcat : (rest.map fun v => v.category).sum ≤ 8) (hrm : zRm rm rmX6_choice 5 ce sl) (K : zW x G (ce + rmX6_choice.cells) (sl + rmX6_choice.slots) (pc + 3) lv (r.toList ++ rest) w1) : zW x G ce sl pc lv (.ref a0 :: .ref b :: rest) w := z_callV C 1 rw_u_483 rw_u_72 rw_u_480 rw_u_482 rw_u_8 ⟨by decide, by decide, by decide +kernel⟩ (T := TX6) (N := 8) rfl hc rfl q0 he hd hcat hrm K
theorem rw_c_X6_33 {x : zX} {G : zG} {ce sl pc : Nat} {lv : List (Nat × Value)} {cc : ByteArray} {nL : Nat} {ret : Option FieldType} {rm : Room} {w w1 : va_W} {rest : List Value} {r : Option Value}  {b : Nat} {fs : List Value} (C : zC x G RX6 cc nL ret rm) (hc : Ct (xl x) G yX6_step cX6_step 1 none rmX6_step [.ref b] w r w1) (q0 : Nat) (he : w[q0]? = some (b, .inr (6, fs))) (hd : decode cc pc = .ok (.invokevirtual 33, 3)) (hcat : (rest.map fun v => v.category).sum ≤ 8) (hrm : zRm rm rmX6_step 1 ce sl) (K : zW x G (ce + rmX6_step.cells) (sl + rmX6_step.slots) (pc + 3) lv (r.toList ++ rest) w1) : zW x G ce sl pc lv (.ref b :: rest) w := z_callV C 0 rw_u_463 rw_u_72 rw_u_460 rw_u_462 rw_u_4 ⟨by decide, by decide, by decide +kernel⟩ (T := TX6) (N := 8) rfl hc rfl q0 he hd hcat hrm K
theorem rw_c_X6_49 {x : zX} {G : zG} {ce sl pc : Nat} {lv : List (Nat × Value)} {cc : ByteArray} {nL : Nat} {ret : Option FieldType} {rm : Room} {w w1 : va_W} {rest : List Value} {r : Option Value} {a0 : Int32} {b : Nat} {fs : List Value} (C : zC x G RX6 cc nL ret rm) (hc : Ct (xl x) G yX6_fail cX6_fail 2 none rmX6_fail [.ref b, .int a0] w r w1) (q0 : Nat) (he : w[q0]? = some (b, .inr (6, fs))) (hd : decode cc pc = .ok (.invokevirtual 49, 3)) (hcat : (rest.map fun v => v.category).sum ≤ 8) (hrm : zRm rm rmX6_fail 2 ce sl) (K : zW x G (ce + rmX6_fail.cells) (sl + rmX6_fail.slots) (pc + 3) lv (r.toList ++ rest) w1) : zW x G ce sl pc lv (.int a0 :: .ref b :: rest) w := z_callV C 1 rw_u_539 rw_u_72 rw_u_536 rw_u_538 rw_u_10 ⟨by decide, by decide, by decide +kernel⟩ (T := TX6) (N := 8) rfl hc rfl q0 he hd hcat hrm K
theorem rw_g_X6_69_RS_S {x : zX} {G : zG} {ce sl pc : Nat} {lv : List (Nat × Value)} {st : List Value} {cc : ByteArray} {nL : Nat} {ret : Option FieldType} {rm : Room} {qR qS : Nat → Nat} {sR sS : zSt} (C : zC x G RX6 cc nL ret rm) (hd : decode cc pc = .ok (.getfield 69, 3)) (K : zW x G ce sl (pc + 3) lv (.ref (qS 5) :: st) (wdR G qR sR ++ (wdS G qS sS))) : zW x G ce sl pc lv (.ref (qS 0) :: st) (wdR G qR sR ++ (wdS G qS sS)) := z_get C (Cn := RX7) (T := TX7) (N := 13) (ci := 7) (k := 4) inzX7 rfl (by decide) rw_u_152 (fun _ h => h) 2 rfl rfl hd K
theorem rw_c_X6_66 {x : zX} {G : zG} {ce sl pc : Nat} {lv : List (Nat × Value)} {cc : ByteArray} {nL : Nat} {ret : Option FieldType} {rm : Room} {w w1 : va_W} {rest : List Value} {r : Option Value} {a0 : Nat} {b : Nat} {fs : List Value} (C : zC x G RX6 cc nL ret rm) (hc : Ct (xl x) G yX6_word cX6_word 3 (some .int) rmX6_word [.ref b, .ref a0] w r w1) (q0 : Nat) (he : w[q0]? = some (b, .inr (6, fs))) (hd : decode cc pc = .ok (.invokevirtual 66, 3)) (hcat : (rest.map fun v => v.category).sum ≤ 8) (hrm : zRm rm rmX6_word 3 ce sl) (K : zW x G (ce + rmX6_word.cells) (sl + rmX6_word.slots) (pc + 3) lv (r.toList ++ rest) w1) : zW x G ce sl pc lv (.ref a0 :: .ref b :: rest) w := z_callV C 1 rw_u_548 rw_u_72 rw_u_545 rw_u_547 rw_u_12 ⟨by decide, by decide, by decide +kernel⟩ (T := TX6) (N := 8) rfl hc rfl q0 he hd hcat hrm K
theorem rw_s_RS_S_4 {x : zX} {G : zG} {ce sl pc : Nat} {lv : List (Nat × Value)} {st : List Value} {cc : ByteArray} {nL : Nat} {ret : Option FieldType} {rm : Room} {own : String} {qR qS : Nat → Nat} {sR sS : zSt} {i : Int32} {v : Int32} {α : Type} {o : α} {kk : zSt → Option α} (C : zC x G own cc nL ret rm) (hd : decode cc pc = .ok (.iastore, 1)) (h : zg (zix i 4) (zn (zsA sS 4 i.toNatClampNeg v) kk) = some o) (K : ∀ s' : zSt, kk s' = some o → zW x G ce sl (pc + 1) lv st (wdR G qR sR ++ (wdS G qS s'))) : zW x G ce sl pc lv (.int v :: .int i :: .ref (qS 5) :: st) (wdR G qR sR ++ (wdS G qS sS)) := z_iast C (w' := wdR G qR sR ++ (wdS G qS (zsA sS 4 i.toNatClampNeg v))) 4 rfl rfl hd h (fun h => K _ h)
theorem rw_g_X6_74_RS_S {x : zX} {G : zG} {ce sl pc : Nat} {lv : List (Nat × Value)} {st : List Value} {cc : ByteArray} {nL : Nat} {ret : Option FieldType} {rm : Room} {qR qS : Nat → Nat} {sR sS : zSt} (C : zC x G RX6 cc nL ret rm) (hd : decode cc pc = .ok (.getfield 74, 3)) (K : zW x G ce sl (pc + 3) lv (.ref (qS 6) :: st) (wdR G qR sR ++ (wdS G qS sS))) : zW x G ce sl pc lv (.ref (qS 0) :: st) (wdR G qR sR ++ (wdS G qS sS)) := z_get C (Cn := RX7) (T := TX7) (N := 13) (ci := 7) (k := 5) inzX7 rfl (by decide) rw_u_155 (fun _ h => h) 2 rfl rfl hd K
theorem rw_s_RS_S_5 {x : zX} {G : zG} {ce sl pc : Nat} {lv : List (Nat × Value)} {st : List Value} {cc : ByteArray} {nL : Nat} {ret : Option FieldType} {rm : Room} {own : String} {qR qS : Nat → Nat} {sR sS : zSt} {i : Int32} {v : Int32} {α : Type} {o : α} {kk : zSt → Option α} (C : zC x G own cc nL ret rm) (hd : decode cc pc = .ok (.iastore, 1)) (h : zg (zix i 4) (zn (zsA sS 5 i.toNatClampNeg v) kk) = some o) (K : ∀ s' : zSt, kk s' = some o → zW x G ce sl (pc + 1) lv st (wdR G qR sR ++ (wdS G qS s'))) : zW x G ce sl pc lv (.int v :: .int i :: .ref (qS 6) :: st) (wdR G qR sR ++ (wdS G qS sS)) := z_iast C (w' := wdR G qR sR ++ (wdS G qS (zsA sS 5 i.toNatClampNeg v))) 5 rfl rfl hd h (fun h => K _ h)
theorem rw_g_X6_79_RS_S {x : zX} {G : zG} {ce sl pc : Nat} {lv : List (Nat × Value)} {st : List Value} {cc : ByteArray} {nL : Nat} {ret : Option FieldType} {rm : Room} {qR qS : Nat → Nat} {sR sS : zSt} (C : zC x G RX6 cc nL ret rm) (hd : decode cc pc = .ok (.getfield 79, 3)) (K : zW x G ce sl (pc + 3) lv (.ref (qS 7) :: st) (wdR G qR sR ++ (wdS G qS sS))) : zW x G ce sl pc lv (.ref (qS 0) :: st) (wdR G qR sR ++ (wdS G qS sS)) := z_get C (Cn := RX7) (T := TX7) (N := 13) (ci := 7) (k := 6) inzX7 rfl (by decide) rw_u_157 (fun _ h => h) 2 rfl rfl hd K
theorem rw_s_RS_S_6 {x : zX} {G : zG} {ce sl pc : Nat} {lv : List (Nat × Value)} {st : List Value} {cc : ByteArray} {nL : Nat} {ret : Option FieldType} {rm : Room} {own : String} {qR qS : Nat → Nat} {sR sS : zSt} {i : Int32} {v : Int32} {α : Type} {o : α} {kk : zSt → Option α} (C : zC x G own cc nL ret rm) (hd : decode cc pc = .ok (.iastore, 1)) (h : zg (zix i 4) (zn (zsA sS 6 i.toNatClampNeg v) kk) = some o) (K : ∀ s' : zSt, kk s' = some o → zW x G ce sl (pc + 1) lv st (wdR G qR sR ++ (wdS G qS s'))) : zW x G ce sl pc lv (.int v :: .int i :: .ref (qS 7) :: st) (wdR G qR sR ++ (wdS G qS sS)) := z_iast C (w' := wdR G qR sR ++ (wdS G qS (zsA sS 6 i.toNatClampNeg v))) 6 rfl rfl hd h (fun h => K _ h)
theorem rw_g_X6_84_RS_S {x : zX} {G : zG} {ce sl pc : Nat} {lv : List (Nat × Value)} {st : List Value} {cc : ByteArray} {nL : Nat} {ret : Option FieldType} {rm : Room} {qR qS : Nat → Nat} {sR sS : zSt} (C : zC x G RX6 cc nL ret rm) (hd : decode cc pc = .ok (.getfield 84, 3)) (K : zW x G ce sl (pc + 3) lv (.ref (qS 8) :: st) (wdR G qR sR ++ (wdS G qS sS))) : zW x G ce sl pc lv (.ref (qS 0) :: st) (wdR G qR sR ++ (wdS G qS sS)) := z_get C (Cn := RX7) (T := TX7) (N := 13) (ci := 7) (k := 7) inzX7 rfl (by decide) rw_u_160 (fun _ h => h) 2 rfl rfl hd K
theorem rw_c_X6_87 {x : zX} {G : zG} {ce sl pc : Nat} {lv : List (Nat × Value)} {cc : ByteArray} {nL : Nat} {ret : Option FieldType} {rm : Room} {w w1 : va_W} {rest : List Value} {r : Option Value} {a0 : Int32} {a1 : Int32} {b : Nat} {fs : List Value} (C : zC x G RX6 cc nL ret rm) (hc : Ct (xl x) G yX6_number cX6_number 4 (some .int) rmX6_number [.ref b, .int a0, .int a1] w r w1) (q0 : Nat) (he : w[q0]? = some (b, .inr (6, fs))) (hd : decode cc pc = .ok (.invokevirtual 87, 3)) (hcat : (rest.map fun v => v.category).sum ≤ 8) (hrm : zRm rm rmX6_number 4 ce sl) (K : zW x G (ce + rmX6_number.cells) (sl + rmX6_number.slots) (pc + 3) lv (r.toList ++ rest) w1) : zW x G ce sl pc lv (.int a1 :: .int a0 :: .ref b :: rest) w := z_callV C 2 rw_u_555 rw_u_72 rw_u_552 rw_u_554 rw_u_13 ⟨by decide, by decide, by decide +kernel⟩ (T := TX6) (N := 8) rfl hc rfl q0 he hd hcat hrm K
theorem rw_s_RS_S_7 {x : zX} {G : zG} {ce sl pc : Nat} {lv : List (Nat × Value)} {st : List Value} {cc : ByteArray} {nL : Nat} {ret : Option FieldType} {rm : Room} {own : String} {qR qS : Nat → Nat} {sR sS : zSt} {i : Int32} {v : Int32} {α : Type} {o : α} {kk : zSt → Option α} (C : zC x G own cc nL ret rm) (hd : decode cc pc = .ok (.iastore, 1)) (h : zg (zix i 4) (zn (zsA sS 7 i.toNatClampNeg v) kk) = some o) (K : ∀ s' : zSt, kk s' = some o → zW x G ce sl (pc + 1) lv st (wdR G qR sR ++ (wdS G qS s'))) : zW x G ce sl pc lv (.int v :: .int i :: .ref (qS 8) :: st) (wdR G qR sR ++ (wdS G qS sS)) := z_iast C (w' := wdR G qR sR ++ (wdS G qS (zsA sS 7 i.toNatClampNeg v))) 7 rfl rfl hd h (fun h => K _ h)
theorem rw_c_X6_91 {x : zX} {G : zG} {ce sl pc : Nat} {lv : List (Nat × Value)} {cc : ByteArray} {nL : Nat} {ret : Option FieldType} {rm : Room} {w w1 : va_W} {rest : List Value} {r : Option Value}  {b : Nat} {fs : List Value} (C : zC x G RX6 cc nL ret rm) (hc : Ct (xl x) G yX6_semicolon cX6_semicolon 1 none rmX6_semicolon [.ref b] w r w1) (q0 : Nat) (he : w[q0]? = some (b, .inr (6, fs))) (hd : decode cc pc = .ok (.invokevirtual 91, 3)) (hcat : (rest.map fun v => v.category).sum ≤ 8) (hrm : zRm rm rmX6_semicolon 1 ce sl) (K : zW x G (ce + rmX6_semicolon.cells) (sl + rmX6_semicolon.slots) (pc + 3) lv (r.toList ++ rest) w1) : zW x G ce sl pc lv (.ref b :: rest) w := z_callV C 0 rw_u_559 rw_u_72 rw_u_556 rw_u_558 rw_u_14 ⟨by decide, by decide, by decide +kernel⟩ (T := TX6) (N := 8) rfl hc rfl q0 he hd hcat hrm K
theorem rw_g_X6_60_RS_S {x : zX} {G : zG} {ce sl pc : Nat} {lv : List (Nat × Value)} {st : List Value} {cc : ByteArray} {nL : Nat} {ret : Option FieldType} {rm : Room} {qR qS : Nat → Nat} {sR sS : zSt} (C : zC x G RX6 cc nL ret rm) (hd : decode cc pc = .ok (.getfield 60, 3)) (K : zW x G ce sl (pc + 3) lv (.ref (qS 4) :: st) (wdR G qR sR ++ (wdS G qS sS))) : zW x G ce sl pc lv (.ref (qS 0) :: st) (wdR G qR sR ++ (wdS G qS sS)) := z_get C (Cn := RX7) (T := TX7) (N := 13) (ci := 7) (k := 3) inzX7 rfl (by decide) rw_u_150 (fun _ h => h) 2 rfl rfl hd K
theorem rw_s_RS_S_3 {x : zX} {G : zG} {ce sl pc : Nat} {lv : List (Nat × Value)} {st : List Value} {cc : ByteArray} {nL : Nat} {ret : Option FieldType} {rm : Room} {own : String} {qR qS : Nat → Nat} {sR sS : zSt} {i : Int32} {v : Int32} {α : Type} {o : α} {kk : zSt → Option α} (C : zC x G own cc nL ret rm) (hd : decode cc pc = .ok (.iastore, 1)) (h : zg (zix i 16) (zn (zsA sS 3 i.toNatClampNeg v) kk) = some o) (K : ∀ s' : zSt, kk s' = some o → zW x G ce sl (pc + 1) lv st (wdR G qR sR ++ (wdS G qS s'))) : zW x G ce sl pc lv (.int v :: .int i :: .ref (qS 4) :: st) (wdR G qR sR ++ (wdS G qS sS)) := z_iast C (w' := wdR G qR sR ++ (wdS G qS (zsA sS 3 i.toNatClampNeg v))) 3 rfl rfl hd h (fun h => K _ h)
theorem rw_g_X6_24_RS_R {x : zX} {G : zG} {ce sl pc : Nat} {lv : List (Nat × Value)} {st : List Value} {cc : ByteArray} {nL : Nat} {ret : Option FieldType} {rm : Room} {qR qS : Nat → Nat} {sR sS : zSt} (C : zC x G RX6 cc nL ret rm) (hd : decode cc pc = .ok (.getfield 24, 3)) (K : zW x G ce sl (pc + 3) lv (.int (zI sR 2) :: st) (wdR G qR sR ++ (wdS G qS sS))) : zW x G ce sl pc lv (.ref (qR 0) :: st) (wdR G qR sR ++ (wdS G qS sS)) := z_get C (Cn := RX6) (T := TX6) (N := 8) (ci := 6) (k := 2) inzX6 rfl (by decide) rw_u_108 (fun _ h => h) 0 rfl rfl hd K
theorem rw_g_X6_53_RS_S {x : zX} {G : zG} {ce sl pc : Nat} {lv : List (Nat × Value)} {st : List Value} {cc : ByteArray} {nL : Nat} {ret : Option FieldType} {rm : Room} {qR qS : Nat → Nat} {sR sS : zSt} (C : zC x G RX6 cc nL ret rm) (hd : decode cc pc = .ok (.getfield 53, 3)) (K : zW x G ce sl (pc + 3) lv (.int (zI sS 0) :: st) (wdR G qR sR ++ (wdS G qS sS))) : zW x G ce sl pc lv (.ref (qS 0) :: st) (wdR G qR sR ++ (wdS G qS sS)) := z_get C (Cn := RX7) (T := TX7) (N := 13) (ci := 7) (k := 0) inzX7 rfl (by decide) rw_u_142 (fun _ h => h) 2 rfl rfl hd K
theorem rw_c_X6_56 {x : zX} {G : zG} {ce sl pc : Nat} {lv : List (Nat × Value)} {cc : ByteArray} {nL : Nat} {ret : Option FieldType} {rm : Room} {w w1 : va_W} {rest : List Value} {r : Option Value} {a0 : Nat} {a1 : Int32} {b : Nat} {fs : List Value} (C : zC x G RX6 cc nL ret rm) (hc : Ct (xl x) G yX6_readLaw cX6_readLaw 4 none rmX6_readLaw [.ref b, .ref a0, .int a1] w r w1) (q0 : Nat) (he : w[q0]? = some (b, .inr (6, fs))) (hd : decode cc pc = .ok (.invokevirtual 56, 3)) (hcat : (rest.map fun v => v.category).sum ≤ 8) (hrm : zRm rm rmX6_readLaw 4 ce sl) (K : zW x G (ce + rmX6_readLaw.cells) (sl + rmX6_readLaw.slots) (pc + 3) lv (r.toList ++ rest) w1) : zW x G ce sl pc lv (.int a1 :: .ref a0 :: .ref b :: rest) w := z_callV C 2 rw_u_543 rw_u_72 rw_u_540 rw_u_542 rw_u_11 ⟨by decide, by decide, by decide +kernel⟩ (T := TX6) (N := 8) rfl hc rfl q0 he hd hcat hrm K
theorem rw_p_X6_53_RS_S {x : zX} {G : zG} {ce sl pc : Nat} {lv : List (Nat × Value)} {st : List Value} {cc : ByteArray} {nL : Nat} {ret : Option FieldType} {rm : Room} {qR qS : Nat → Nat} {sR sS : zSt} {v : Int32} {α : Type} {o : α} {kk : zSt → Option α} (C : zC x G RX6 cc nL ret rm) (hd : decode cc pc = .ok (.putfield 53, 3)) (h : zn (zsI sS 0 v) kk = some o) (K : ∀ s' : zSt, kk s' = some o → zW x G ce sl (pc + 3) lv st (wdR G qR sR ++ (wdS G qS s'))) : zW x G ce sl pc lv (.int v :: .ref (qS 0) :: st) (wdR G qR sR ++ (wdS G qS sS)) := z_put C (Cn := RX7) (T := TX7) (N := 13) (ci := 7) (k := 0) (ty := .int) (w' := wdR G qR sR ++ (wdS G qS (zsI sS 0 v))) inzX7 tyX7 tyX7_ok nmX7 rfl (by decide) rw_u_142 (fun _ h => h) rfl 2 rfl (by decide +kernel) rfl rfl (Nat.le_of_ble_eq_true rfl) rfl hd (K _ h)
theorem rw_g_X6_109_RS_S {x : zX} {G : zG} {ce sl pc : Nat} {lv : List (Nat × Value)} {st : List Value} {cc : ByteArray} {nL : Nat} {ret : Option FieldType} {rm : Room} {qR qS : Nat → Nat} {sR sS : zSt} (C : zC x G RX6 cc nL ret rm) (hd : decode cc pc = .ok (.getfield 109, 3)) (K : zW x G ce sl (pc + 3) lv (.ref (qS 9) :: st) (wdR G qR sR ++ (wdS G qS sS))) : zW x G ce sl pc lv (.ref (qS 0) :: st) (wdR G qR sR ++ (wdS G qS sS)) := z_get C (Cn := RX7) (T := TX7) (N := 13) (ci := 7) (k := 8) inzX7 rfl (by decide) rw_u_163 (fun _ h => h) 2 rfl rfl hd K
theorem rw_s_RS_S_8 {x : zX} {G : zG} {ce sl pc : Nat} {lv : List (Nat × Value)} {st : List Value} {cc : ByteArray} {nL : Nat} {ret : Option FieldType} {rm : Room} {own : String} {qR qS : Nat → Nat} {sR sS : zSt} {i : Int32} {v : Int32} {α : Type} {o : α} {kk : zSt → Option α} (C : zC x G own cc nL ret rm) (hd : decode cc pc = .ok (.iastore, 1)) (h : zg (zix i 30) (zn (zsA sS 8 i.toNatClampNeg v) kk) = some o) (K : ∀ s' : zSt, kk s' = some o → zW x G ce sl (pc + 1) lv st (wdR G qR sR ++ (wdS G qS s'))) : zW x G ce sl pc lv (.int v :: .int i :: .ref (qS 9) :: st) (wdR G qR sR ++ (wdS G qS sS)) := z_iast C (w' := wdR G qR sR ++ (wdS G qS (zsA sS 8 i.toNatClampNeg v))) 8 rfl rfl hd h (fun h => K _ h)
theorem rw_g_X6_112_RS_S {x : zX} {G : zG} {ce sl pc : Nat} {lv : List (Nat × Value)} {st : List Value} {cc : ByteArray} {nL : Nat} {ret : Option FieldType} {rm : Room} {qR qS : Nat → Nat} {sR sS : zSt} (C : zC x G RX6 cc nL ret rm) (hd : decode cc pc = .ok (.getfield 112, 3)) (K : zW x G ce sl (pc + 3) lv (.ref (qS 10) :: st) (wdR G qR sR ++ (wdS G qS sS))) : zW x G ce sl pc lv (.ref (qS 0) :: st) (wdR G qR sR ++ (wdS G qS sS)) := z_get C (Cn := RX7) (T := TX7) (N := 13) (ci := 7) (k := 9) inzX7 rfl (by decide) rw_u_165 (fun _ h => h) 2 rfl rfl hd K
theorem rw_l_RS_S_9 {x : zX} {G : zG} {ce sl pc : Nat} {lv : List (Nat × Value)} {st : List Value} {cc : ByteArray} {nL : Nat} {ret : Option FieldType} {rm : Room} {own : String} {qR qS : Nat → Nat} {sR sS : zSt} {i : Int32} {α : Type} {o : α} {kk : Option α} (C : zC x G own cc nL ret rm) (hd : decode cc pc = .ok (.iaload, 1)) (h : zg (zix i 30) kk = some o) (K : kk = some o → zW x G ce sl (pc + 1) lv (.int (zA sS 9 i.toNatClampNeg) :: st) (wdR G qR sR ++ (wdS G qS sS))) : zW x G ce sl pc lv (.int i :: .ref (qS 10) :: st) (wdR G qR sR ++ (wdS G qS sS)) := z_iald C 9 rfl hd h K
theorem rw_s_RS_S_9 {x : zX} {G : zG} {ce sl pc : Nat} {lv : List (Nat × Value)} {st : List Value} {cc : ByteArray} {nL : Nat} {ret : Option FieldType} {rm : Room} {own : String} {qR qS : Nat → Nat} {sR sS : zSt} {i : Int32} {v : Int32} {α : Type} {o : α} {kk : zSt → Option α} (C : zC x G own cc nL ret rm) (hd : decode cc pc = .ok (.iastore, 1)) (h : zg (zix i 30) (zn (zsA sS 9 i.toNatClampNeg v) kk) = some o) (K : ∀ s' : zSt, kk s' = some o → zW x G ce sl (pc + 1) lv st (wdR G qR sR ++ (wdS G qS s'))) : zW x G ce sl pc lv (.int v :: .int i :: .ref (qS 10) :: st) (wdR G qR sR ++ (wdS G qS sS)) := z_iast C (w' := wdR G qR sR ++ (wdS G qS (zsA sS 9 i.toNatClampNeg v))) 9 rfl rfl hd h (fun h => K _ h)
theorem rw_g_X6_115_RS_S {x : zX} {G : zG} {ce sl pc : Nat} {lv : List (Nat × Value)} {st : List Value} {cc : ByteArray} {nL : Nat} {ret : Option FieldType} {rm : Room} {qR qS : Nat → Nat} {sR sS : zSt} (C : zC x G RX6 cc nL ret rm) (hd : decode cc pc = .ok (.getfield 115, 3)) (K : zW x G ce sl (pc + 3) lv (.ref (qS 11) :: st) (wdR G qR sR ++ (wdS G qS sS))) : zW x G ce sl pc lv (.ref (qS 0) :: st) (wdR G qR sR ++ (wdS G qS sS)) := z_get C (Cn := RX7) (T := TX7) (N := 13) (ci := 7) (k := 10) inzX7 rfl (by decide) rw_u_168 (fun _ h => h) 2 rfl rfl hd K
theorem rw_s_RS_S_10 {x : zX} {G : zG} {ce sl pc : Nat} {lv : List (Nat × Value)} {st : List Value} {cc : ByteArray} {nL : Nat} {ret : Option FieldType} {rm : Room} {own : String} {qR qS : Nat → Nat} {sR sS : zSt} {i : Int32} {v : Int32} {α : Type} {o : α} {kk : zSt → Option α} (C : zC x G own cc nL ret rm) (hd : decode cc pc = .ok (.iastore, 1)) (h : zg (zix i 30) (zn (zsA sS 10 i.toNatClampNeg v) kk) = some o) (K : ∀ s' : zSt, kk s' = some o → zW x G ce sl (pc + 1) lv st (wdR G qR sR ++ (wdS G qS s'))) : zW x G ce sl pc lv (.int v :: .int i :: .ref (qS 11) :: st) (wdR G qR sR ++ (wdS G qS sS)) := z_iast C (w' := wdR G qR sR ++ (wdS G qS (zsA sS 10 i.toNatClampNeg v))) 10 rfl rfl hd h (fun h => K _ h)
theorem rw_g_X6_120_RS_S {x : zX} {G : zG} {ce sl pc : Nat} {lv : List (Nat × Value)} {st : List Value} {cc : ByteArray} {nL : Nat} {ret : Option FieldType} {rm : Room} {qR qS : Nat → Nat} {sR sS : zSt} (C : zC x G RX6 cc nL ret rm) (hd : decode cc pc = .ok (.getfield 120, 3)) (K : zW x G ce sl (pc + 3) lv (.ref (qS 12) :: st) (wdR G qR sR ++ (wdS G qS sS))) : zW x G ce sl pc lv (.ref (qS 0) :: st) (wdR G qR sR ++ (wdS G qS sS)) := z_get C (Cn := RX7) (T := TX7) (N := 13) (ci := 7) (k := 11) inzX7 rfl (by decide) rw_u_171 (fun _ h => h) 2 rfl rfl hd K
theorem rw_s_RS_S_11 {x : zX} {G : zG} {ce sl pc : Nat} {lv : List (Nat × Value)} {st : List Value} {cc : ByteArray} {nL : Nat} {ret : Option FieldType} {rm : Room} {own : String} {qR qS : Nat → Nat} {sR sS : zSt} {i : Int32} {v : Int32} {α : Type} {o : α} {kk : zSt → Option α} (C : zC x G own cc nL ret rm) (hd : decode cc pc = .ok (.iastore, 1)) (h : zg (zix i 30) (zn (zsA sS 11 i.toNatClampNeg v) kk) = some o) (K : ∀ s' : zSt, kk s' = some o → zW x G ce sl (pc + 1) lv st (wdR G qR sR ++ (wdS G qS s'))) : zW x G ce sl pc lv (.int v :: .int i :: .ref (qS 12) :: st) (wdR G qR sR ++ (wdS G qS sS)) := z_iast C (w' := wdR G qR sR ++ (wdS G qS (zsA sS 11 i.toNatClampNeg v))) 11 rfl rfl hd h (fun h => K _ h)
theorem rw_g_X6_123_RS_S {x : zX} {G : zG} {ce sl pc : Nat} {lv : List (Nat × Value)} {st : List Value} {cc : ByteArray} {nL : Nat} {ret : Option FieldType} {rm : Room} {qR qS : Nat → Nat} {sR sS : zSt} (C : zC x G RX6 cc nL ret rm) (hd : decode cc pc = .ok (.getfield 123, 3)) (K : zW x G ce sl (pc + 3) lv (.ref (qS 13) :: st) (wdR G qR sR ++ (wdS G qS sS))) : zW x G ce sl pc lv (.ref (qS 0) :: st) (wdR G qR sR ++ (wdS G qS sS)) := z_get C (Cn := RX7) (T := TX7) (N := 13) (ci := 7) (k := 12) inzX7 rfl (by decide) rw_u_174 (fun _ h => h) 2 rfl rfl hd K
theorem rw_s_RS_S_12 {x : zX} {G : zG} {ce sl pc : Nat} {lv : List (Nat × Value)} {st : List Value} {cc : ByteArray} {nL : Nat} {ret : Option FieldType} {rm : Room} {own : String} {qR qS : Nat → Nat} {sR sS : zSt} {i : Int32} {v : Int32} {α : Type} {o : α} {kk : zSt → Option α} (C : zC x G own cc nL ret rm) (hd : decode cc pc = .ok (.iastore, 1)) (h : zg (zix i 30) (zn (zsA sS 12 i.toNatClampNeg v) kk) = some o) (K : ∀ s' : zSt, kk s' = some o → zW x G ce sl (pc + 1) lv st (wdR G qR sR ++ (wdS G qS s'))) : zW x G ce sl pc lv (.int v :: .int i :: .ref (qS 13) :: st) (wdR G qR sR ++ (wdS G qS sS)) := z_iast C (w' := wdR G qR sR ++ (wdS G qS (zsA sS 12 i.toNatClampNeg v))) 12 rfl rfl hd h (fun h => K _ h)
theorem rw_l_RS_S_10 {x : zX} {G : zG} {ce sl pc : Nat} {lv : List (Nat × Value)} {st : List Value} {cc : ByteArray} {nL : Nat} {ret : Option FieldType} {rm : Room} {own : String} {qR qS : Nat → Nat} {sR sS : zSt} {i : Int32} {α : Type} {o : α} {kk : Option α} (C : zC x G own cc nL ret rm) (hd : decode cc pc = .ok (.iaload, 1)) (h : zg (zix i 30) kk = some o) (K : kk = some o → zW x G ce sl (pc + 1) lv (.int (zA sS 10 i.toNatClampNeg) :: st) (wdR G qR sR ++ (wdS G qS sS))) : zW x G ce sl pc lv (.int i :: .ref (qS 11) :: st) (wdR G qR sR ++ (wdS G qS sS)) := z_iald C 10 rfl hd h K
theorem rw_l_RS_S_11 {x : zX} {G : zG} {ce sl pc : Nat} {lv : List (Nat × Value)} {st : List Value} {cc : ByteArray} {nL : Nat} {ret : Option FieldType} {rm : Room} {own : String} {qR qS : Nat → Nat} {sR sS : zSt} {i : Int32} {α : Type} {o : α} {kk : Option α} (C : zC x G own cc nL ret rm) (hd : decode cc pc = .ok (.iaload, 1)) (h : zg (zix i 30) kk = some o) (K : kk = some o → zW x G ce sl (pc + 1) lv (.int (zA sS 11 i.toNatClampNeg) :: st) (wdR G qR sR ++ (wdS G qS sS))) : zW x G ce sl pc lv (.int i :: .ref (qS 12) :: st) (wdR G qR sR ++ (wdS G qS sS)) := z_iald C 11 rfl hd h K
theorem rw_g_X6_102_RS_S {x : zX} {G : zG} {ce sl pc : Nat} {lv : List (Nat × Value)} {st : List Value} {cc : ByteArray} {nL : Nat} {ret : Option FieldType} {rm : Room} {qR qS : Nat → Nat} {sR sS : zSt} (C : zC x G RX6 cc nL ret rm) (hd : decode cc pc = .ok (.getfield 102, 3)) (K : zW x G ce sl (pc + 3) lv (.int (zI sS 2) :: st) (wdR G qR sR ++ (wdS G qS sS))) : zW x G ce sl pc lv (.ref (qS 0) :: st) (wdR G qR sR ++ (wdS G qS sS)) := z_get C (Cn := RX7) (T := TX7) (N := 13) (ci := 7) (k := 2) inzX7 rfl (by decide) rw_u_148 (fun _ h => h) 2 rfl rfl hd K
theorem rw_g_X6_94_RS_R {x : zX} {G : zG} {ce sl pc : Nat} {lv : List (Nat × Value)} {st : List Value} {cc : ByteArray} {nL : Nat} {ret : Option FieldType} {rm : Room} {qR qS : Nat → Nat} {sR sS : zSt} (C : zC x G RX6 cc nL ret rm) (hd : decode cc pc = .ok (.getfield 94, 3)) (K : zW x G ce sl (pc + 3) lv (.int (zI sR 4) :: st) (wdR G qR sR ++ (wdS G qS sS))) : zW x G ce sl pc lv (.ref (qR 0) :: st) (wdR G qR sR ++ (wdS G qS sS)) := z_get C (Cn := RX6) (T := TX6) (N := 8) (ci := 6) (k := 4) inzX6 rfl (by decide) rw_u_112 (fun _ h => h) 0 rfl rfl hd K
theorem rw_g_X6_99_RS_S {x : zX} {G : zG} {ce sl pc : Nat} {lv : List (Nat × Value)} {st : List Value} {cc : ByteArray} {nL : Nat} {ret : Option FieldType} {rm : Room} {qR qS : Nat → Nat} {sR sS : zSt} (C : zC x G RX6 cc nL ret rm) (hd : decode cc pc = .ok (.getfield 99, 3)) (K : zW x G ce sl (pc + 3) lv (.int (zI sS 1) :: st) (wdR G qR sR ++ (wdS G qS sS))) : zW x G ce sl pc lv (.ref (qS 0) :: st) (wdR G qR sR ++ (wdS G qS sS)) := z_get C (Cn := RX7) (T := TX7) (N := 13) (ci := 7) (k := 1) inzX7 rfl (by decide) rw_u_145 (fun _ h => h) 2 rfl rfl hd K
theorem rw_c_X6_105 {x : zX} {G : zG} {ce sl pc : Nat} {lv : List (Nat × Value)} {cc : ByteArray} {nL : Nat} {ret : Option FieldType} {rm : Room} {w w1 : va_W} {rest : List Value} {r : Option Value} {a0 : Nat} {a1 : Int32} {a2 : Int32} {b : Nat} {fs : List Value} (C : zC x G RX6 cc nL ret rm) (hc : Ct (xl x) G yX6_readEvent cX6_readEvent 5 none rmX6_readEvent [.ref b, .ref a0, .int a1, .int a2] w r w1) (q0 : Nat) (he : w[q0]? = some (b, .inr (6, fs))) (hd : decode cc pc = .ok (.invokevirtual 105, 3)) (hcat : (rest.map fun v => v.category).sum ≤ 8) (hrm : zRm rm rmX6_readEvent 5 ce sl) (K : zW x G (ce + rmX6_readEvent.cells) (sl + rmX6_readEvent.slots) (pc + 3) lv (r.toList ++ rest) w1) : zW x G ce sl pc lv (.int a2 :: .int a1 :: .ref a0 :: .ref b :: rest) w := z_callV C 3 rw_u_568 rw_u_72 rw_u_565 rw_u_567 rw_u_16 ⟨by decide, by decide, by decide +kernel⟩ (T := TX6) (N := 8) rfl hc rfl q0 he hd hcat hrm K
theorem rw_p_X6_99_RS_S {x : zX} {G : zG} {ce sl pc : Nat} {lv : List (Nat × Value)} {st : List Value} {cc : ByteArray} {nL : Nat} {ret : Option FieldType} {rm : Room} {qR qS : Nat → Nat} {sR sS : zSt} {v : Int32} {α : Type} {o : α} {kk : zSt → Option α} (C : zC x G RX6 cc nL ret rm) (hd : decode cc pc = .ok (.putfield 99, 3)) (h : zn (zsI sS 1 v) kk = some o) (K : ∀ s' : zSt, kk s' = some o → zW x G ce sl (pc + 3) lv st (wdR G qR sR ++ (wdS G qS s'))) : zW x G ce sl pc lv (.int v :: .ref (qS 0) :: st) (wdR G qR sR ++ (wdS G qS sS)) := z_put C (Cn := RX7) (T := TX7) (N := 13) (ci := 7) (k := 1) (ty := .int) (w' := wdR G qR sR ++ (wdS G qS (zsI sS 1 v))) inzX7 tyX7 tyX7_ok nmX7 rfl (by decide) rw_u_145 (fun _ h => h) rfl 2 rfl (by decide +kernel) rfl rfl (Nat.le_of_ble_eq_true rfl) rfl hd (K _ h)
theorem rw_p_X6_102_RS_S {x : zX} {G : zG} {ce sl pc : Nat} {lv : List (Nat × Value)} {st : List Value} {cc : ByteArray} {nL : Nat} {ret : Option FieldType} {rm : Room} {qR qS : Nat → Nat} {sR sS : zSt} {v : Int32} {α : Type} {o : α} {kk : zSt → Option α} (C : zC x G RX6 cc nL ret rm) (hd : decode cc pc = .ok (.putfield 102, 3)) (h : zn (zsI sS 2 v) kk = some o) (K : ∀ s' : zSt, kk s' = some o → zW x G ce sl (pc + 3) lv st (wdR G qR sR ++ (wdS G qS s'))) : zW x G ce sl pc lv (.int v :: .ref (qS 0) :: st) (wdR G qR sR ++ (wdS G qS sS)) := z_put C (Cn := RX7) (T := TX7) (N := 13) (ci := 7) (k := 2) (ty := .int) (w' := wdR G qR sR ++ (wdS G qS (zsI sS 2 v))) inzX7 tyX7 tyX7_ok nmX7 rfl (by decide) rw_u_148 (fun _ h => h) rfl 2 rfl (by decide +kernel) rfl rfl (Nat.le_of_ble_eq_true rfl) rfl hd (K _ h)
theorem rw_c_X6_19 {x : zX} {G : zG} {ce sl pc : Nat} {lv : List (Nat × Value)} {cc : ByteArray} {nL : Nat} {ret : Option FieldType} {rm : Room} {w w1 : va_W} {rest : List Value} {r : Option Value}  {b : Nat} {fs : List Value} (C : zC x G RX6 cc nL ret rm) (hc : Ct (xl x) G yX7_clear cX7_clear 1 none rmX7_clear [.ref b] w r w1) (q0 : Nat) (he : w[q0]? = some (b, .inr (7, fs))) (hd : decode cc pc = .ok (.invokevirtual 19, 3)) (hcat : (rest.map fun v => v.category).sum ≤ 8) (hrm : zRm rm rmX7_clear 1 ce sl) (K : zW x G (ce + rmX7_clear.cells) (sl + rmX7_clear.slots) (pc + 3) lv (r.toList ++ rest) w1) : zW x G ce sl pc lv (.ref b :: rest) w := z_callV C 0 rw_u_459 rw_u_73 rw_u_456 rw_u_457 rw_u_458 ⟨by decide, by decide, by decide +kernel⟩ (T := TX7) (N := 13) rfl hc rfl q0 he hd hcat hrm K
theorem rw_p_X6_24_RS_R {x : zX} {G : zG} {ce sl pc : Nat} {lv : List (Nat × Value)} {st : List Value} {cc : ByteArray} {nL : Nat} {ret : Option FieldType} {rm : Room} {qR qS : Nat → Nat} {sR sS : zSt} {v : Int32} {α : Type} {o : α} {kk : zSt → Option α} (C : zC x G RX6 cc nL ret rm) (hd : decode cc pc = .ok (.putfield 24, 3)) (h : zn (zsI sR 2 v) kk = some o) (K : ∀ s' : zSt, kk s' = some o → zW x G ce sl (pc + 3) lv st (wdR G qR s' ++ (wdS G qS sS))) : zW x G ce sl pc lv (.int v :: .ref (qR 0) :: st) (wdR G qR sR ++ (wdS G qS sS)) := z_put C (Cn := RX6) (T := TX6) (N := 8) (ci := 6) (k := 2) (ty := .int) (w' := wdR G qR (zsI sR 2 v) ++ (wdS G qS sS)) inzX6 tyX6 tyX6_ok nmX6 rfl (by decide) rw_u_108 (fun _ h => h) rfl 0 rfl (by decide +kernel) rfl rfl (Nat.le_of_ble_eq_true rfl) rfl hd (K _ h)
theorem rw_p_X6_27_RS_R {x : zX} {G : zG} {ce sl pc : Nat} {lv : List (Nat × Value)} {st : List Value} {cc : ByteArray} {nL : Nat} {ret : Option FieldType} {rm : Room} {qR qS : Nat → Nat} {sR sS : zSt} {v : Int32} {α : Type} {o : α} {kk : zSt → Option α} (C : zC x G RX6 cc nL ret rm) (hd : decode cc pc = .ok (.putfield 27, 3)) (h : zn (zsI sR 3 v) kk = some o) (K : ∀ s' : zSt, kk s' = some o → zW x G ce sl (pc + 3) lv st (wdR G qR s' ++ (wdS G qS sS))) : zW x G ce sl pc lv (.int v :: .ref (qR 0) :: st) (wdR G qR sR ++ (wdS G qS sS)) := z_put C (Cn := RX6) (T := TX6) (N := 8) (ci := 6) (k := 3) (ty := .int) (w' := wdR G qR (zsI sR 3 v) ++ (wdS G qS sS)) inzX6 tyX6 tyX6_ok nmX6 rfl (by decide) rw_u_110 (fun _ h => h) rfl 0 rfl (by decide +kernel) rfl rfl (Nat.le_of_ble_eq_true rfl) rfl hd (K _ h)
theorem rw_p_X6_30_RS_R {x : zX} {G : zG} {ce sl pc : Nat} {lv : List (Nat × Value)} {st : List Value} {cc : ByteArray} {nL : Nat} {ret : Option FieldType} {rm : Room} {qR qS : Nat → Nat} {sR sS : zSt} {v : Int32} {α : Type} {o : α} {kk : zSt → Option α} (C : zC x G RX6 cc nL ret rm) (hd : decode cc pc = .ok (.putfield 30, 3)) (h : zn (zsI sR 6 v) kk = some o) (K : ∀ s' : zSt, kk s' = some o → zW x G ce sl (pc + 3) lv st (wdR G qR s' ++ (wdS G qS sS))) : zW x G ce sl pc lv (.int v :: .ref (qR 0) :: st) (wdR G qR sR ++ (wdS G qS sS)) := z_put C (Cn := RX6) (T := TX6) (N := 8) (ci := 6) (k := 6) (ty := .int) (w' := wdR G qR (zsI sR 6 v) ++ (wdS G qS sS)) inzX6 tyX6 tyX6_ok nmX6 rfl (by decide) rw_u_114 (fun _ h => h) rfl 0 rfl (by decide +kernel) rfl rfl (Nat.le_of_ble_eq_true rfl) rfl hd (K _ h)
theorem rw_c_X6_36 {x : zX} {G : zG} {ce sl pc : Nat} {lv : List (Nat × Value)} {cc : ByteArray} {nL : Nat} {ret : Option FieldType} {rm : Room} {w w1 : va_W} {rest : List Value} {r : Option Value} {a0 : Nat} {b : Nat} {fs : List Value} (C : zC x G RX6 cc nL ret rm) (hc : Ct (xl x) G yX6_readLaws cX6_readLaws 3 none rmX6_readLaws [.ref b, .ref a0] w r w1) (q0 : Nat) (he : w[q0]? = some (b, .inr (6, fs))) (hd : decode cc pc = .ok (.invokevirtual 36, 3)) (hcat : (rest.map fun v => v.category).sum ≤ 8) (hrm : zRm rm rmX6_readLaws 3 ce sl) (K : zW x G (ce + rmX6_readLaws.cells) (sl + rmX6_readLaws.slots) (pc + 3) lv (r.toList ++ rest) w1) : zW x G ce sl pc lv (.ref a0 :: .ref b :: rest) w := z_callV C 1 rw_u_478 rw_u_72 rw_u_475 rw_u_477 rw_u_7 ⟨by decide, by decide, by decide +kernel⟩ (T := TX6) (N := 8) rfl hc rfl q0 he hd hcat hrm K
theorem rw_c_X6_40 {x : zX} {G : zG} {ce sl pc : Nat} {lv : List (Nat × Value)} {cc : ByteArray} {nL : Nat} {ret : Option FieldType} {rm : Room} {w w1 : va_W} {rest : List Value} {r : Option Value} {a0 : Nat} {b : Nat} {fs : List Value} (C : zC x G RX6 cc nL ret rm) (hc : Ct (xl x) G yX6_readEvents cX6_readEvents 5 none rmX6_readEvents [.ref b, .ref a0] w r w1) (q0 : Nat) (he : w[q0]? = some (b, .inr (6, fs))) (hd : decode cc pc = .ok (.invokevirtual 40, 3)) (hcat : (rest.map fun v => v.category).sum ≤ 8) (hrm : zRm rm rmX6_readEvents 5 ce sl) (K : zW x G (ce + rmX6_readEvents.cells) (sl + rmX6_readEvents.slots) (pc + 3) lv (r.toList ++ rest) w1) : zW x G ce sl pc lv (.ref a0 :: .ref b :: rest) w := z_callV C 1 rw_u_563 rw_u_72 rw_u_560 rw_u_562 rw_u_15 ⟨by decide, by decide, by decide +kernel⟩ (T := TX6) (N := 8) rfl hc rfl q0 he hd hcat hrm K
theorem rw_p_X6_15_RS_R {x : zX} {G : zG} {ce sl pc : Nat} {lv : List (Nat × Value)} {st : List Value} {cc : ByteArray} {nL : Nat} {ret : Option FieldType} {rm : Room} {qR qS : Nat → Nat} {sR sS : zSt} {v : Int32} {α : Type} {o : α} {kk : zSt → Option α} (C : zC x G RX6 cc nL ret rm) (hd : decode cc pc = .ok (.putfield 15, 3)) (h : zn (zsI sR 1 v) kk = some o) (K : ∀ s' : zSt, kk s' = some o → zW x G ce sl (pc + 3) lv st (wdR G qR s' ++ (wdS G qS sS))) : zW x G ce sl pc lv (.int v :: .ref (qR 0) :: st) (wdR G qR sR ++ (wdS G qS sS)) := z_put C (Cn := RX6) (T := TX6) (N := 8) (ci := 6) (k := 1) (ty := .int) (w' := wdR G qR (zsI sR 1 v) ++ (wdS G qS sS)) inzX6 tyX6 tyX6_ok nmX6 rfl (by decide) rw_u_106 (fun _ h => h) rfl 0 rfl (by decide +kernel) rfl rfl (Nat.le_of_ble_eq_true rfl) rfl hd (K _ h)
set_option maxHeartbeats 4000000 in
set_option maxRecDepth 100000 in
theorem cR_append {l : Launch} {G : zG} {qR : Nat → Nat} {sR : zSt} {a0 : Int32} {out : zSt} (h : fR_append sR a0 = some out) : Ct l G yX6_append cX6_append 2 none rmX6_append [.ref (qR 0), .int a0] (wdR G qR sR) none (wdR G qR out) := by
  refine zMet (own := RX6) rfl (by decide) (Nat.le_of_ble_eq_true rfl) (fun x hl C O => ?_)
  show zW x G 0 0 0 [(0, .ref (qR 0)), (1, .int a0)] [] _
  unfold fR_append at h
  refine z_aload_n C dX6_append_0 0 rfl ?_
  refine rw_g_X6_15_R_R C dX6_append_1 ?_
  refine z_sipush C 500 dX6_append_4 (by decide) ?_
  refine z_icmp_ge C dX6_append_7 30 (by decide) h (fun h => ?_) (fun h => ?_)
  · replace h := Option.some.inj h
    subst h
    exact z_vret C O dX6_append_30 rfl rfl
  · refine z_aload_n C dX6_append_10 0 rfl ?_
    refine rw_g_X6_9_R_R C dX6_append_11 ?_
    refine z_aload_n C dX6_append_14 0 rfl ?_
    refine rw_g_X6_15_R_R C dX6_append_15 ?_
    refine z_iload_n C dX6_append_18 1 rfl ?_
    refine rw_s_R_R_0 C dX6_append_19 h (fun sR1 h => ?_)
    refine z_aload_n C dX6_append_20 0 rfl ?_
    refine z_dup C dX6_append_21 rfl ?_
    refine rw_g_X6_15_R_R C dX6_append_22 ?_
    refine z_iconst C 1 dX6_append_25 (by decide) ?_
    refine z_iadd C dX6_append_26 ?_
    refine rw_p_X6_15_R_R C dX6_append_27 h (fun sR2 h => ?_)
    replace h := Option.some.inj h
    subst h
    exact z_vret C O dX6_append_30 rfl rfl
set_option maxHeartbeats 4000000 in
set_option maxRecDepth 100000 in
theorem cR_isIn {l : Launch} {G : zG}   {a0 : Int32} {a1 : Int32} {a2 : Int32} {out : Bool} (h : fR_isIn  a0 a1 a2 = some out) : Ct l G yX6_isIn cX6_isIn 3 (some .boolean) rmX6_isIn [.int a0, .int a1, .int a2] ([]) (some (.int (zb out))) ([]) := by
  refine zMet (own := RX6) rfl (by decide) (Nat.le_of_ble_eq_true rfl) (fun x hl C O => ?_)
  show zW x G 0 0 0 [(0, .int a0), (1, .int a1), (2, .int a2)] [] _
  unfold fR_isIn at h
  refine z_iload_n C dX6_isIn_0 0 rfl ?_
  refine z_iload_n C dX6_isIn_1 1 rfl ?_
  refine z_icmp_lt C dX6_isIn_2 14 (by decide) h (fun h => ?_) (fun h => ?_)
  · refine z_iconst C 0 dX6_isIn_14 (by decide) ?_
    replace h := Option.some.inj h
    subst h
    exact z_zret C O dX6_isIn_15 (zb_nar false) rfl rfl
  · refine z_iload_n C dX6_isIn_5 0 rfl ?_
    refine z_iload_n C dX6_isIn_6 2 rfl ?_
    refine z_icmp_gt C dX6_isIn_7 14 (by decide) h (fun h => ?_) (fun h => ?_)
    · refine z_iconst C 0 dX6_isIn_14 (by decide) ?_
      replace h := Option.some.inj h
      subst h
      exact z_zret C O dX6_isIn_15 (zb_nar false) rfl rfl
    · refine z_iconst C 1 dX6_isIn_10 (by decide) ?_
      refine z_goto C dX6_isIn_11 15 (by decide) ?_
      replace h := Option.some.inj h
      subst h
      exact z_zret C O dX6_isIn_15 (zb_nar true) rfl rfl
set_option maxHeartbeats 4000000 in
set_option maxRecDepth 100000 in
theorem kR_behindRun_l3b {x : zX} {G : zG} {qR : Nat → Nat} {sR : zSt} {out : Int32} (C : zC x G RX6 cX6_behindRun 5 (some .int) rmX6_behindRun) (O : zO x G (some (.int out)) (wdR G qR sR) 0 0) {K3 : zSt → Int32 → Int32 → Int32 → Option (Int32)} (hK3 : ∀  (x2 : Int32) (x3 : Int32) (x4 : Int32), K3 sR x2 x3 x4 = some out → zW x G 0 0 3 [(0, .ref (qR 0)), (2, .int x2), (3, .int x3), (4, .int x4)] [] (wdR G qR sR))  {x2 : Int32} {x3 : Int32} {x4 : Int32} (h : fR_behindRun_l3b K3 sR x2 x3 x4 = some out) : zW x G 0 0 3 [(0, .ref (qR 0)), (2, .int x2), (3, .int x3), (4, .int x4)] [] (wdR G qR sR) := by
  unfold fR_behindRun_l3b at h
  refine z_iload C dX6_behindRun_3 3 rfl ?_
  refine z_aload_n C dX6_behindRun_5 0 rfl ?_
  refine rw_g_X6_15_R_R C dX6_behindRun_6 ?_
  refine z_icmp_ge C dX6_behindRun_9 40 (by decide) h (fun h => ?_) (fun h => ?_)
  · refine z_iload C dX6_behindRun_40 3 rfl ?_
    replace h := Option.some.inj h
    subst h
    exact z_iret C O dX6_behindRun_42 rfl rfl
  · refine z_aload_n C dX6_behindRun_12 0 rfl ?_
    refine rw_g_X6_9_R_R C dX6_behindRun_13 ?_
    refine z_iload C dX6_behindRun_16 3 rfl ?_
    refine rw_l_R_R_0 C dX6_behindRun_18 h (fun h => ?_)
    refine z_iload_n C dX6_behindRun_19 1 rfl ?_
    refine z_icmp_lt C dX6_behindRun_20 40 (by decide) h (fun h => ?_) (fun h => ?_)
    · refine z_iload C dX6_behindRun_40 3 rfl ?_
      replace h := Option.some.inj h
      subst h
      exact z_iret C O dX6_behindRun_42 rfl rfl
    · refine z_aload_n C dX6_behindRun_23 0 rfl ?_
      refine rw_g_X6_9_R_R C dX6_behindRun_24 ?_
      refine z_iload C dX6_behindRun_27 3 rfl ?_
      refine rw_l_R_R_0 C dX6_behindRun_29 h (fun h => ?_)
      refine z_iload_n C dX6_behindRun_30 2 rfl ?_
      refine z_icmp_gt C dX6_behindRun_31 40 (by decide) h (fun h => ?_) (fun h => ?_)
      · refine z_iload C dX6_behindRun_40 3 rfl ?_
        replace h := Option.some.inj h
        subst h
        exact z_iret C O dX6_behindRun_42 rfl rfl
      · refine z_iinc C dX6_behindRun_34 3 rfl 1 (by decide) (by decide) (lvr := [(0, .ref (qR 0)), (2, .int x2), (3, .int x3)]) rfl h (fun x4_1 h => ?_)
        refine z_goto C dX6_behindRun_37 3 (by decide) ?_
        refine z_perm [1, 2, 3, 0] (lv' := [(0, .ref (qR 0)), (2, .int x2), (3, .int x3), (4, .int x4_1)]) rfl ?_
        exact hK3   _ _ _ h
set_option maxHeartbeats 4000000 in
set_option maxRecDepth 100000 in
theorem kR_behindRun_l3 {x : zX} {G : zG} {qR : Nat → Nat} {sR : zSt} {out : Int32} (C : zC x G RX6 cX6_behindRun 5 (some .int) rmX6_behindRun) (O : zO x G (some (.int out)) (wdR G qR sR) 0 0)  : ∀ (n : Nat)  {x2 : Int32} {x3 : Int32} {x4 : Int32}, fR_behindRun_l3  n sR x2 x3 x4 = some out → zW x G 0 0 3 [(0, .ref (qR 0)), (2, .int x2), (3, .int x3), (4, .int x4)] [] (wdR G qR sR) := by
  intro n
  induction n with
  | zero =>
    intro  x2 x3 x4 h
    have h : (none : Option (Int32)) = some out := h
    cases h
  | succ n ih =>
    intro  x2 x3 x4 h
    exact kR_behindRun_l3b C O (K3 := fun v0 v1 v2 v3 => fR_behindRun_l3  n v0 v1 v2 v3) (fun  x2 x3 x4 h => ih h) h
set_option maxHeartbeats 4000000 in
set_option maxRecDepth 100000 in
theorem cR_behindRun {l : Launch} {G : zG} {qR : Nat → Nat} {sR : zSt} {a0 : Int32} {a1 : Int32} {a2 : Int32} {out : Int32} (h : fR_behindRun sR a0 a1 a2 = some out) : Ct l G yX6_behindRun cX6_behindRun 5 (some .int) rmX6_behindRun [.ref (qR 0), .int a0, .int a1, .int a2] (wdR G qR sR) (some (.int out)) (wdR G qR sR) := by
  refine zMet (own := RX6) rfl (by decide) (Nat.le_of_ble_eq_true rfl) (fun x hl C O => ?_)
  show zW x G 0 0 0 [(0, .ref (qR 0)), (1, .int a0), (2, .int a1), (3, .int a2)] [] _
  unfold fR_behindRun at h
  refine z_iload_n C dX6_behindRun_0 1 rfl ?_
  refine z_istore C dX6_behindRun_1 (by decide) (lvr := [(0, .ref (qR 0)), (1, .int a0), (2, .int a1), (3, .int a2)]) rfl ?_
  refine z_perm [1, 3, 4, 0] (lv' := [(0, .ref (qR 0)), (2, .int a1), (3, .int a2), (4, .int a0)]) rfl ?_
  exact kR_behindRun_l3 C O  zF h
set_option maxHeartbeats 4000000 in
set_option maxRecDepth 100000 in
theorem kR_takeNumber_l34b {x : zX} {G : zG} {qR : Nat → Nat}  {out : zSt} (C : zC x G RX6 cX6_takeNumber 2 none rmX6_takeNumber) (O : zO x G none (wdR G qR out) 0 0) {K34 : zSt → Int32 → Option (zSt)} (hK34 : ∀ (sR : zSt) (x1 : Int32), K34 sR x1 = some out → zW x G 0 0 34 [(0, .ref (qR 0)), (1, .int x1)] [] (wdR G qR sR)) {sR : zSt} {x1 : Int32} (h : fR_takeNumber_l34b K34 sR x1 = some out) : zW x G 0 0 34 [(0, .ref (qR 0)), (1, .int x1)] [] (wdR G qR sR) := by
  unfold fR_takeNumber_l34b at h
  refine z_iload_n C dX6_takeNumber_34 1 rfl ?_
  refine z_aload_n C dX6_takeNumber_35 0 rfl ?_
  refine rw_g_X6_30_R_R C dX6_takeNumber_36 ?_
  refine z_icmp_ge C dX6_takeNumber_39 69 (by decide) h (fun h => ?_) (fun h => ?_)
  · replace h := Option.some.inj h
    subst h
    exact z_vret C O dX6_takeNumber_69 rfl rfl
  · refine z_aload_n C dX6_takeNumber_42 0 rfl ?_
    refine z_aload_n C dX6_takeNumber_43 0 rfl ?_
    refine rw_g_X6_126_R_R C dX6_takeNumber_44 ?_
    refine z_bipush C 10 dX6_takeNumber_47 (by decide) ?_
    refine z_imul C dX6_takeNumber_49 ?_
    refine z_aload_n C dX6_takeNumber_50 0 rfl ?_
    refine rw_g_X6_9_R_R C dX6_takeNumber_51 ?_
    refine z_iload_n C dX6_takeNumber_54 1 rfl ?_
    refine rw_l_R_R_0 C dX6_takeNumber_55 h (fun h => ?_)
    refine z_bipush C 48 dX6_takeNumber_56 (by decide) ?_
    refine z_isub C dX6_takeNumber_58 ?_
    refine z_iadd C dX6_takeNumber_59 ?_
    refine rw_p_X6_126_R_R C dX6_takeNumber_60 h (fun sR4 h => ?_)
    refine z_iinc C dX6_takeNumber_63 1 rfl 1 (by decide) (by decide) (lvr := [(0, .ref (qR 0))]) rfl h (fun x1_5 h => ?_)
    refine z_goto C dX6_takeNumber_66 34 (by decide) ?_
    refine z_perm [1, 0] (lv' := [(0, .ref (qR 0)), (1, .int x1_5)]) rfl ?_
    exact hK34 _  _ h
set_option maxHeartbeats 4000000 in
set_option maxRecDepth 100000 in
theorem kR_takeNumber_l34 {x : zX} {G : zG} {qR : Nat → Nat}  {out : zSt} (C : zC x G RX6 cX6_takeNumber 2 none rmX6_takeNumber) (O : zO x G none (wdR G qR out) 0 0)  : ∀ (n : Nat) {sR : zSt} {x1 : Int32}, fR_takeNumber_l34  n sR x1 = some out → zW x G 0 0 34 [(0, .ref (qR 0)), (1, .int x1)] [] (wdR G qR sR) := by
  intro n
  induction n with
  | zero =>
    intro sR x1 h
    have h : (none : Option (zSt)) = some out := h
    cases h
  | succ n ih =>
    intro sR x1 h
    exact kR_takeNumber_l34b C O (K34 := fun v0 v1 => fR_takeNumber_l34  n v0 v1) (fun sR x1 h => ih h) h
set_option maxHeartbeats 4000000 in
set_option maxRecDepth 100000 in
theorem cR_takeNumber {l : Launch} {G : zG} {qR : Nat → Nat} {sR : zSt}  {out : zSt} (h : fR_takeNumber sR  = some out) : Ct l G yX6_takeNumber cX6_takeNumber 2 none rmX6_takeNumber [.ref (qR 0)] (wdR G qR sR) none (wdR G qR out) := by
  refine zMet (own := RX6) rfl (by decide) (Nat.le_of_ble_eq_true rfl) (fun x hl C O => ?_)
  show zW x G 0 0 0 [(0, .ref (qR 0))] [] _
  unfold fR_takeNumber at h
  refine z_aload_n C dX6_takeNumber_0 0 rfl ?_
  refine z_iconst C 0 dX6_takeNumber_1 (by decide) ?_
  refine rw_p_X6_126_R_R C dX6_takeNumber_2 h (fun sR1 h => ?_)
  refine z_aload_n C dX6_takeNumber_5 0 rfl ?_
  refine rw_g_X6_30_R_R C dX6_takeNumber_6 ?_
  refine z_aload_n C dX6_takeNumber_9 0 rfl ?_
  refine rw_g_X6_129_R_R C dX6_takeNumber_10 ?_
  refine z_isub C dX6_takeNumber_13 ?_
  refine z_iconst C 3 dX6_takeNumber_14 (by decide) ?_
  refine z_icmp_le C dX6_takeNumber_15 24 (by decide) h (fun h => ?_) (fun h => ?_)
  · refine z_aload_n C dX6_takeNumber_24 0 rfl ?_
    refine z_iconst C 2 dX6_takeNumber_25 (by decide) ?_
    refine rw_p_X6_94_R_R C dX6_takeNumber_26 h (fun sR2 h => ?_)
    refine z_aload_n C dX6_takeNumber_29 0 rfl ?_
    refine rw_g_X6_129_R_R C dX6_takeNumber_30 ?_
    refine z_istore_nN C dX6_takeNumber_33 (by decide) (lvr := [(0, .ref (qR 0))]) rfl h (fun x1_3 h => ?_)
    refine z_perm [1, 0] (lv' := [(0, .ref (qR 0)), (1, .int x1_3)]) rfl ?_
    exact kR_takeNumber_l34 C O  zF h
  · refine z_aload_n C dX6_takeNumber_18 0 rfl ?_
    refine z_iconst C 4 dX6_takeNumber_19 (by decide) ?_
    refine rw_p_X6_94_R_R C dX6_takeNumber_20 h (fun sR6 h => ?_)
    replace h := Option.some.inj h
    subst h
    exact z_vret C O dX6_takeNumber_23 rfl rfl
set_option maxHeartbeats 4000000 in
set_option maxRecDepth 100000 in
theorem kR_step_b200 {x : zX} {G : zG} {qR : Nat → Nat}  {out : zSt} (C : zC x G RX6 cX6_step 1 none rmX6_step) (O : zO x G none (wdR G qR out) 0 0)  {sR : zSt} {t0 : Int32} (h : fR_step_b200  sR t0 = some out) : zW x G 0 0 200 [(0, .ref (qR 0))] [.int t0, .ref (qR 0)] (wdR G qR sR) := by
  unfold fR_step_b200 at h
  refine rw_p_X6_94_R_R C dX6_step_200 h (fun sR4 h => ?_)
  refine z_aload_n C dX6_step_203 0 rfl ?_
  refine z_aload_n C dX6_step_204 0 rfl ?_
  refine rw_g_X6_129_R_R C dX6_step_205 ?_
  refine z_iconst C 1 dX6_step_208 (by decide) ?_
  refine z_iadd C dX6_step_209 ?_
  refine rw_p_X6_30_R_R C dX6_step_210 h (fun sR5 h => ?_)
  replace h := Option.some.inj h
  subst h
  exact z_vret C O dX6_step_213 rfl rfl
set_option maxHeartbeats 4000000 in
set_option maxRecDepth 100000 in
theorem kR_step_b68 {x : zX} {G : zG} {qR : Nat → Nat}  {out : zSt} (C : zC x G RX6 cX6_step 1 none rmX6_step) (O : zO x G none (wdR G qR out) 0 0)  {sR : zSt}  (h : fR_step_b68  sR  = some out) : zW x G 0 0 68 [(0, .ref (qR 0))] [] (wdR G qR sR) := by
  unfold fR_step_b68 at h
  refine z_aload_n C dX6_step_68 0 rfl ?_
  refine rw_g_X6_129_R_R C dX6_step_69 ?_
  refine z_aload_n C dX6_step_72 0 rfl ?_
  refine rw_g_X6_15_R_R C dX6_step_73 ?_
  refine z_icmp_lt C dX6_step_76 95 (by decide) h (fun h => ?_) (fun h => ?_)
  · refine z_aload_n C dX6_step_95 0 rfl ?_
    refine rw_g_X6_9_R_R C dX6_step_96 ?_
    refine z_aload_n C dX6_step_99 0 rfl ?_
    refine rw_g_X6_129_R_R C dX6_step_100 ?_
    refine rw_l_R_R_0 C dX6_step_103 h (fun h => ?_)
    refine z_bipush C 97 dX6_step_104 (by decide) ?_
    refine z_bipush C 122 dX6_step_106 (by decide) ?_
    obtain ⟨y2, hy2, h⟩ := bind_o h
    refine rw_c_X6_145 C (Ct.frame0 (cR_isIn hy2)) dX6_step_108 (Nat.le_of_ble_eq_true rfl) (zrm rfl) ?_
    refine z_ifb_eq C dX6_step_111 138 (by decide) h (fun h => ?_) (fun h => ?_)
    · refine z_aload_n C dX6_step_138 0 rfl ?_
      refine rw_g_X6_9_R_R C dX6_step_139 ?_
      refine z_aload_n C dX6_step_142 0 rfl ?_
      refine rw_g_X6_129_R_R C dX6_step_143 ?_
      refine rw_l_R_R_0 C dX6_step_146 h (fun h => ?_)
      refine z_bipush C 48 dX6_step_147 (by decide) ?_
      refine z_bipush C 57 dX6_step_149 (by decide) ?_
      obtain ⟨y3, hy3, h⟩ := bind_o h
      refine rw_c_X6_145 C (Ct.frame0 (cR_isIn hy3)) dX6_step_151 (Nat.le_of_ble_eq_true rfl) (zrm rfl) ?_
      refine z_ifb_eq C dX6_step_154 180 (by decide) h (fun h => ?_) (fun h => ?_)
      · refine z_aload_n C dX6_step_180 0 rfl ?_
        refine z_aload_n C dX6_step_181 0 rfl ?_
        refine rw_g_X6_9_R_R C dX6_step_182 ?_
        refine z_aload_n C dX6_step_185 0 rfl ?_
        refine rw_g_X6_129_R_R C dX6_step_186 ?_
        refine rw_l_R_R_0 C dX6_step_189 h (fun h => ?_)
        refine z_bipush C 59 dX6_step_190 (by decide) ?_
        refine z_icmp_ne C dX6_step_192 199 (by decide) h (fun h => ?_) (fun h => ?_)
        · refine z_iconst C 4 dX6_step_199 (by decide) ?_
          exact kR_step_b200 C O  h
        · refine z_iconst C 3 dX6_step_195 (by decide) ?_
          refine z_goto C dX6_step_196 200 (by decide) ?_
          exact kR_step_b200 C O  h
      · refine z_aload_n C dX6_step_157 0 rfl ?_
        refine z_aload_n C dX6_step_158 0 rfl ?_
        refine z_aload_n C dX6_step_159 0 rfl ?_
        refine rw_g_X6_129_R_R C dX6_step_160 ?_
        refine z_bipush C 48 dX6_step_163 (by decide) ?_
        refine z_bipush C 57 dX6_step_165 (by decide) ?_
        obtain ⟨y6, hy6, h⟩ := bind_o h
        refine rw_c_X6_149 C (cR_behindRun hy6) 0 rfl dX6_step_167 (Nat.le_of_ble_eq_true rfl) (zrm rfl) ?_
        refine rw_p_X6_30_R_R C dX6_step_170 h (fun sR7 h => ?_)
        refine z_aload_n C dX6_step_173 0 rfl ?_
        obtain ⟨y8, hy8, h⟩ := bind_o h
        refine rw_c_X6_153 C (cR_takeNumber hy8) 0 rfl dX6_step_174 (Nat.le_of_ble_eq_true rfl) (zrm rfl) ?_
        refine z_goto C dX6_step_177 213 (by decide) ?_
        replace h := Option.some.inj h
        subst h
        exact z_vret C O dX6_step_213 rfl rfl
    · refine z_aload_n C dX6_step_114 0 rfl ?_
      refine z_iconst C 1 dX6_step_115 (by decide) ?_
      refine rw_p_X6_94_R_R C dX6_step_116 h (fun sR9 h => ?_)
      refine z_aload_n C dX6_step_119 0 rfl ?_
      refine z_aload_n C dX6_step_120 0 rfl ?_
      refine z_aload_n C dX6_step_121 0 rfl ?_
      refine rw_g_X6_129_R_R C dX6_step_122 ?_
      refine z_bipush C 97 dX6_step_125 (by decide) ?_
      refine z_bipush C 122 dX6_step_127 (by decide) ?_
      obtain ⟨y10, hy10, h⟩ := bind_o h
      refine rw_c_X6_149 C (cR_behindRun hy10) 0 rfl dX6_step_129 (Nat.le_of_ble_eq_true rfl) (zrm rfl) ?_
      refine rw_p_X6_30_R_R C dX6_step_132 h (fun sR11 h => ?_)
      refine z_goto C dX6_step_135 213 (by decide) ?_
      replace h := Option.some.inj h
      subst h
      exact z_vret C O dX6_step_213 rfl rfl
  · refine z_aload_n C dX6_step_79 0 rfl ?_
    refine z_iconst C 0 dX6_step_80 (by decide) ?_
    refine rw_p_X6_94_R_R C dX6_step_81 h (fun sR12 h => ?_)
    refine z_aload_n C dX6_step_84 0 rfl ?_
    refine z_aload_n C dX6_step_85 0 rfl ?_
    refine rw_g_X6_129_R_R C dX6_step_86 ?_
    refine rw_p_X6_30_R_R C dX6_step_89 h (fun sR13 h => ?_)
    refine z_goto C dX6_step_92 213 (by decide) ?_
    replace h := Option.some.inj h
    subst h
    exact z_vret C O dX6_step_213 rfl rfl
set_option maxHeartbeats 4000000 in
set_option maxRecDepth 100000 in
theorem kR_step_b55 {x : zX} {G : zG} {qR : Nat → Nat}  {out : zSt} (C : zC x G RX6 cX6_step 1 none rmX6_step) (O : zO x G none (wdR G qR out) 0 0) {K16 : zSt → Option (zSt)} (hK16 : ∀ (sR : zSt) , K16 sR  = some out → zW x G 0 0 16 [(0, .ref (qR 0))] [] (wdR G qR sR)) {sR : zSt}  (h : fR_step_b55 K16 sR  = some out) : zW x G 0 0 55 [(0, .ref (qR 0))] [] (wdR G qR sR) := by
  unfold fR_step_b55 at h
  refine z_aload_n C dX6_step_55 0 rfl ?_
  refine z_dup C dX6_step_56 rfl ?_
  refine rw_g_X6_129_R_R C dX6_step_57 ?_
  refine z_iconst C 1 dX6_step_60 (by decide) ?_
  refine z_iadd C dX6_step_61 ?_
  refine rw_p_X6_129_R_R C dX6_step_62 h (fun sR14 h => ?_)
  refine z_goto C dX6_step_65 16 (by decide) ?_
  exact hK16 _   h
set_option maxHeartbeats 4000000 in
set_option maxRecDepth 100000 in
theorem kR_step_l16b {x : zX} {G : zG} {qR : Nat → Nat}  {out : zSt} (C : zC x G RX6 cX6_step 1 none rmX6_step) (O : zO x G none (wdR G qR out) 0 0) {K16 : zSt → Option (zSt)} (hK16 : ∀ (sR : zSt) , K16 sR  = some out → zW x G 0 0 16 [(0, .ref (qR 0))] [] (wdR G qR sR)) {sR : zSt}  (h : fR_step_l16b K16 sR  = some out) : zW x G 0 0 16 [(0, .ref (qR 0))] [] (wdR G qR sR) := by
  unfold fR_step_l16b at h
  refine z_aload_n C dX6_step_16 0 rfl ?_
  refine rw_g_X6_129_R_R C dX6_step_17 ?_
  refine z_aload_n C dX6_step_20 0 rfl ?_
  refine rw_g_X6_15_R_R C dX6_step_21 ?_
  refine z_icmp_ge C dX6_step_24 68 (by decide) h (fun h => ?_) (fun h => ?_)
  · exact kR_step_b68 C O  h
  · refine z_aload_n C dX6_step_27 0 rfl ?_
    refine rw_g_X6_9_R_R C dX6_step_28 ?_
    refine z_aload_n C dX6_step_31 0 rfl ?_
    refine rw_g_X6_129_R_R C dX6_step_32 ?_
    refine rw_l_R_R_0 C dX6_step_35 h (fun h => ?_)
    refine z_bipush C 32 dX6_step_36 (by decide) ?_
    refine z_icmp_eq C dX6_step_38 55 (by decide) h (fun h => ?_) (fun h => ?_)
    · exact kR_step_b55 C O hK16 h
    · refine z_aload_n C dX6_step_41 0 rfl ?_
      refine rw_g_X6_9_R_R C dX6_step_42 ?_
      refine z_aload_n C dX6_step_45 0 rfl ?_
      refine rw_g_X6_129_R_R C dX6_step_46 ?_
      refine rw_l_R_R_0 C dX6_step_49 h (fun h => ?_)
      refine z_bipush C 10 dX6_step_50 (by decide) ?_
      refine z_icmp_ne C dX6_step_52 68 (by decide) h (fun h => ?_) (fun h => ?_)
      · exact kR_step_b68 C O  h
      · exact kR_step_b55 C O hK16 h
set_option maxHeartbeats 4000000 in
set_option maxRecDepth 100000 in
theorem kR_step_l16 {x : zX} {G : zG} {qR : Nat → Nat}  {out : zSt} (C : zC x G RX6 cX6_step 1 none rmX6_step) (O : zO x G none (wdR G qR out) 0 0)  : ∀ (n : Nat) {sR : zSt} , fR_step_l16  n sR  = some out → zW x G 0 0 16 [(0, .ref (qR 0))] [] (wdR G qR sR) := by
  intro n
  induction n with
  | zero =>
    intro sR  h
    have h : (none : Option (zSt)) = some out := h
    cases h
  | succ n ih =>
    intro sR  h
    exact kR_step_l16b C O (K16 := fun v0 => fR_step_l16  n v0) (fun sR  h => ih h) h
set_option maxHeartbeats 4000000 in
set_option maxRecDepth 100000 in
theorem cR_step {l : Launch} {G : zG} {qR : Nat → Nat} {sR : zSt}  {out : zSt} (h : fR_step sR  = some out) : Ct l G yX6_step cX6_step 1 none rmX6_step [.ref (qR 0)] (wdR G qR sR) none (wdR G qR out) := by
  refine zMet (own := RX6) rfl (by decide) (Nat.le_of_ble_eq_true rfl) (fun x hl C O => ?_)
  show zW x G 0 0 0 [(0, .ref (qR 0))] [] _
  unfold fR_step at h
  refine z_aload_n C dX6_step_0 0 rfl ?_
  refine rw_g_X6_24_R_R C dX6_step_1 ?_
  refine z_if_eq C dX6_step_4 8 (by decide) h (fun h => ?_) (fun h => ?_)
  · refine z_aload_n C dX6_step_8 0 rfl ?_
    refine z_aload_n C dX6_step_9 0 rfl ?_
    refine rw_g_X6_30_R_R C dX6_step_10 ?_
    refine rw_p_X6_129_R_R C dX6_step_13 h (fun sR1 h => ?_)
    exact kR_step_l16 C O  zF h
  · replace h := Option.some.inj h
    subst h
    exact z_vret C O dX6_step_7 rfl rfl
set_option maxHeartbeats 4000000 in
set_option maxRecDepth 100000 in
theorem kR_isWord_l20b {x : zX} {G : zG} {qR : Nat → Nat} {sR : zSt} {out : Bool} (C : zC x G RX6 cX6_isWord 5 (some .boolean) rmX6_isWord) (O : zO x G (some (.int (zb out))) (wdR G qR sR) 0 0) {K20 : zSt → Nat → Int32 → Int32 → Int32 → Option (Bool)} (hK20 : ∀  (x1 : Nat) (x2 : Int32) (x3 : Int32) (x4 : Int32), K20 sR x1 x2 x3 x4 = some out → zW x G 0 0 20 [(0, .ref (qR 0)), (1, .ref (gK G x1)), (2, .int x2), (3, .int x3), (4, .int x4)] [] (wdR G qR sR))  {x1 : Nat} {x2 : Int32} {x3 : Int32} {x4 : Int32} (h : fR_isWord_l20b K20 sR x1 x2 x3 x4 = some out) : zW x G 0 0 20 [(0, .ref (qR 0)), (1, .ref (gK G x1)), (2, .int x2), (3, .int x3), (4, .int x4)] [] (wdR G qR sR) := by
  unfold fR_isWord_l20b at h
  refine z_iload C dX6_isWord_20 4 rfl ?_
  refine z_iload_n C dX6_isWord_22 3 rfl ?_
  refine z_icmp_ge C dX6_isWord_23 57 (by decide) h (fun h => ?_) (fun h => ?_)
  · refine z_iconst C 1 dX6_isWord_57 (by decide) ?_
    replace h := Option.some.inj h
    subst h
    exact z_zret C O dX6_isWord_58 (zb_nar true) rfl rfl
  · refine z_aload_n C dX6_isWord_26 1 rfl ?_
    refine z_iload C dX6_isWord_27 4 rfl ?_
    refine rw_schar_X6_137 C dX6_isWord_29 (Nat.le_of_ble_eq_true rfl) (zrm rfl) h (fun h => ?_)
    refine z_aload_n C dX6_isWord_32 0 rfl ?_
    refine rw_g_X6_9_R_R C dX6_isWord_33 ?_
    refine z_aload_n C dX6_isWord_36 0 rfl ?_
    refine rw_g_X6_129_R_R C dX6_isWord_37 ?_
    refine z_iload C dX6_isWord_40 4 rfl ?_
    refine z_iadd C dX6_isWord_42 ?_
    refine z_iload_n C dX6_isWord_43 2 rfl ?_
    refine z_isub C dX6_isWord_44 ?_
    refine rw_l_R_R_0 C dX6_isWord_45 h (fun h => ?_)
    refine z_icmp_eq C dX6_isWord_46 51 (by decide) h (fun h => ?_) (fun h => ?_)
    · refine z_iinc C dX6_isWord_51 4 rfl 1 (by decide) (by decide) (lvr := [(0, .ref (qR 0)), (1, .ref (gK G x1)), (2, .int x2), (3, .int x3)]) rfl h (fun x4_1 h => ?_)
      refine z_goto C dX6_isWord_54 20 (by decide) ?_
      refine z_perm [1, 2, 3, 4, 0] (lv' := [(0, .ref (qR 0)), (1, .ref (gK G x1)), (2, .int x2), (3, .int x3), (4, .int x4_1)]) rfl ?_
      exact hK20   _ _ _ _ h
    · refine z_iconst C 0 dX6_isWord_49 (by decide) ?_
      replace h := Option.some.inj h
      subst h
      exact z_zret C O dX6_isWord_50 (zb_nar false) rfl rfl
set_option maxHeartbeats 4000000 in
set_option maxRecDepth 100000 in
theorem kR_isWord_l20 {x : zX} {G : zG} {qR : Nat → Nat} {sR : zSt} {out : Bool} (C : zC x G RX6 cX6_isWord 5 (some .boolean) rmX6_isWord) (O : zO x G (some (.int (zb out))) (wdR G qR sR) 0 0)  : ∀ (n : Nat)  {x1 : Nat} {x2 : Int32} {x3 : Int32} {x4 : Int32}, fR_isWord_l20  n sR x1 x2 x3 x4 = some out → zW x G 0 0 20 [(0, .ref (qR 0)), (1, .ref (gK G x1)), (2, .int x2), (3, .int x3), (4, .int x4)] [] (wdR G qR sR) := by
  intro n
  induction n with
  | zero =>
    intro  x1 x2 x3 x4 h
    have h : (none : Option (Bool)) = some out := h
    cases h
  | succ n ih =>
    intro  x1 x2 x3 x4 h
    exact kR_isWord_l20b C O (K20 := fun v0 v1 v2 v3 v4 => fR_isWord_l20  n v0 v1 v2 v3 v4) (fun  x1 x2 x3 x4 h => ih h) h
set_option maxHeartbeats 4000000 in
set_option maxRecDepth 100000 in
theorem cR_isWord {l : Launch} {G : zG} {qR : Nat → Nat} {sR : zSt} {a0 : Nat} {a1 : Int32} {a2 : Int32} {out : Bool} (h : fR_isWord sR a0 a1 a2 = some out) : Ct l G yX6_isWord cX6_isWord 5 (some .boolean) rmX6_isWord [.ref (qR 0), .ref (gK G a0), .int a1, .int a2] (wdR G qR sR) (some (.int (zb out))) (wdR G qR sR) := by
  refine zMet (own := RX6) rfl (by decide) (Nat.le_of_ble_eq_true rfl) (fun x hl C O => ?_)
  show zW x G 0 0 0 [(0, .ref (qR 0)), (1, .ref (gK G a0)), (2, .int a1), (3, .int a2)] [] _
  unfold fR_isWord at h
  refine z_iload_n C dX6_isWord_0 3 rfl ?_
  refine z_iload_n C dX6_isWord_1 2 rfl ?_
  refine z_isub C dX6_isWord_2 ?_
  refine z_aload_n C dX6_isWord_3 0 rfl ?_
  refine rw_g_X6_30_R_R C dX6_isWord_4 ?_
  refine z_aload_n C dX6_isWord_7 0 rfl ?_
  refine rw_g_X6_129_R_R C dX6_isWord_8 ?_
  refine z_isub C dX6_isWord_11 ?_
  refine z_icmp_eq C dX6_isWord_12 17 (by decide) h (fun h => ?_) (fun h => ?_)
  · refine z_iload_n C dX6_isWord_17 2 rfl ?_
    refine z_istore C dX6_isWord_18 (by decide) (lvr := [(0, .ref (qR 0)), (1, .ref (gK G a0)), (2, .int a1), (3, .int a2)]) rfl ?_
    refine z_perm [1, 2, 3, 4, 0] (lv' := [(0, .ref (qR 0)), (1, .ref (gK G a0)), (2, .int a1), (3, .int a2), (4, .int a1)]) rfl ?_
    exact kR_isWord_l20 C O  zF h
  · refine z_iconst C 0 dX6_isWord_15 (by decide) ?_
    replace h := Option.some.inj h
    subst h
    exact z_zret C O dX6_isWord_16 (zb_nar false) rfl rfl
set_option maxHeartbeats 4000000 in
set_option maxRecDepth 100000 in
theorem kR_choice_b46 {x : zX} {G : zG} {qR : Nat → Nat} {sR : zSt} {out : Int32} (C : zC x G RX6 cX6_choice 5 (some .int) rmX6_choice) (O : zO x G (some (.int out)) (wdR G qR sR) 0 0) {K17 : zSt → Nat → Int32 → Int32 → Int32 → Option (Int32)} (hK17 : ∀  (x1 : Nat) (x2 : Int32) (x3 : Int32) (x4 : Int32), K17 sR x1 x2 x3 x4 = some out → zW x G 0 0 17 [(0, .ref (qR 0)), (1, .ref (gK G x1)), (2, .int x2), (3, .int x3), (4, .int x4)] [] (wdR G qR sR))  {x1 : Nat} {x2 : Int32} {x3 : Int32} {x4 : Int32} (h : fR_choice_b46 K17 sR x1 x2 x3 x4 = some out) : zW x G 0 0 46 [(0, .ref (qR 0)), (1, .ref (gK G x1)), (2, .int x2), (3, .int x3), (4, .int x4)] [] (wdR G qR sR) := by
  unfold fR_choice_b46 at h
  refine z_aload_n C dX6_choice_46 0 rfl ?_
  refine z_aload_n C dX6_choice_47 1 rfl ?_
  refine z_iload_n C dX6_choice_48 3 rfl ?_
  refine z_iload C dX6_choice_49 4 rfl ?_
  obtain ⟨y1, hy1, h⟩ := bind_o h
  refine rw_c_X6_141 C (cR_isWord hy1) 0 rfl dX6_choice_51 (Nat.le_of_ble_eq_true rfl) (zrm rfl) ?_
  refine z_ifb_eq C dX6_choice_54 59 (by decide) h (fun h => ?_) (fun h => ?_)
  · refine z_iinc C dX6_choice_59 2 rfl 1 (by decide) (by decide) (lvr := [(0, .ref (qR 0)), (1, .ref (gK G x1)), (3, .int x3), (4, .int x4)]) rfl h (fun x2_2 h => ?_)
    refine z_iload C dX6_choice_62 4 rfl ?_
    refine z_iconst C 1 dX6_choice_64 (by decide) ?_
    refine z_iadd C dX6_choice_65 ?_
    refine z_istore_nN C dX6_choice_66 (by decide) (lvr := [(2, .int x2_2), (0, .ref (qR 0)), (1, .ref (gK G x1)), (4, .int x4)]) rfl h (fun x3_3 h => ?_)
    refine z_iinc C dX6_choice_67 4 rfl 1 (by decide) (by decide) (lvr := [(3, .int x3_3), (2, .int x2_2), (0, .ref (qR 0)), (1, .ref (gK G x1))]) rfl h (fun x4_4 h => ?_)
    refine z_goto C dX6_choice_70 17 (by decide) ?_
    refine z_perm [3, 4, 2, 1, 0] (lv' := [(0, .ref (qR 0)), (1, .ref (gK G x1)), (2, .int x2_2), (3, .int x3_3), (4, .int x4_4)]) rfl ?_
    exact hK17   _ _ _ _ h
  · refine z_iload_n C dX6_choice_57 2 rfl ?_
    replace h := Option.some.inj h
    subst h
    exact z_iret C O dX6_choice_58 rfl rfl
set_option maxHeartbeats 4000000 in
set_option maxRecDepth 100000 in
theorem kR_choice_l17b {x : zX} {G : zG} {qR : Nat → Nat} {sR : zSt} {out : Int32} (C : zC x G RX6 cX6_choice 5 (some .int) rmX6_choice) (O : zO x G (some (.int out)) (wdR G qR sR) 0 0) {K17 : zSt → Nat → Int32 → Int32 → Int32 → Option (Int32)} (hK17 : ∀  (x1 : Nat) (x2 : Int32) (x3 : Int32) (x4 : Int32), K17 sR x1 x2 x3 x4 = some out → zW x G 0 0 17 [(0, .ref (qR 0)), (1, .ref (gK G x1)), (2, .int x2), (3, .int x3), (4, .int x4)] [] (wdR G qR sR))  {x1 : Nat} {x2 : Int32} {x3 : Int32} {x4 : Int32} (h : fR_choice_l17b K17 sR x1 x2 x3 x4 = some out) : zW x G 0 0 17 [(0, .ref (qR 0)), (1, .ref (gK G x1)), (2, .int x2), (3, .int x3), (4, .int x4)] [] (wdR G qR sR) := by
  unfold fR_choice_l17b at h
  refine z_iload C dX6_choice_17 4 rfl ?_
  refine z_aload_n C dX6_choice_19 1 rfl ?_
  refine rw_slen_X6_132 C dX6_choice_20 (Nat.le_of_ble_eq_true rfl) (zrm rfl) h (fun h => ?_)
  refine z_icmp_gt C dX6_choice_23 73 (by decide) h (fun h => ?_) (fun h => ?_)
  · refine z_iconst C (-1) dX6_choice_73 (by decide) ?_
    replace h := Option.some.inj h
    subst h
    exact z_iret C O dX6_choice_74 rfl rfl
  · refine z_iload C dX6_choice_26 4 rfl ?_
    refine z_aload_n C dX6_choice_28 1 rfl ?_
    refine rw_slen_X6_132 C dX6_choice_29 (Nat.le_of_ble_eq_true rfl) (zrm rfl) h (fun h => ?_)
    refine z_icmp_eq C dX6_choice_32 46 (by decide) h (fun h => ?_) (fun h => ?_)
    · exact kR_choice_b46 C O hK17 h
    · refine z_aload_n C dX6_choice_35 1 rfl ?_
      refine z_iload C dX6_choice_36 4 rfl ?_
      refine rw_schar_X6_137 C dX6_choice_38 (Nat.le_of_ble_eq_true rfl) (zrm rfl) h (fun h => ?_)
      refine z_bipush C 32 dX6_choice_41 (by decide) ?_
      refine z_icmp_ne C dX6_choice_43 67 (by decide) h (fun h => ?_) (fun h => ?_)
      · refine z_iinc C dX6_choice_67 4 rfl 1 (by decide) (by decide) (lvr := [(0, .ref (qR 0)), (1, .ref (gK G x1)), (2, .int x2), (3, .int x3)]) rfl h (fun x4_5 h => ?_)
        refine z_goto C dX6_choice_70 17 (by decide) ?_
        refine z_perm [1, 2, 3, 4, 0] (lv' := [(0, .ref (qR 0)), (1, .ref (gK G x1)), (2, .int x2), (3, .int x3), (4, .int x4_5)]) rfl ?_
        exact hK17   _ _ _ _ h
      · exact kR_choice_b46 C O hK17 h
set_option maxHeartbeats 4000000 in
set_option maxRecDepth 100000 in
theorem kR_choice_l17 {x : zX} {G : zG} {qR : Nat → Nat} {sR : zSt} {out : Int32} (C : zC x G RX6 cX6_choice 5 (some .int) rmX6_choice) (O : zO x G (some (.int out)) (wdR G qR sR) 0 0)  : ∀ (n : Nat)  {x1 : Nat} {x2 : Int32} {x3 : Int32} {x4 : Int32}, fR_choice_l17  n sR x1 x2 x3 x4 = some out → zW x G 0 0 17 [(0, .ref (qR 0)), (1, .ref (gK G x1)), (2, .int x2), (3, .int x3), (4, .int x4)] [] (wdR G qR sR) := by
  intro n
  induction n with
  | zero =>
    intro  x1 x2 x3 x4 h
    have h : (none : Option (Int32)) = some out := h
    cases h
  | succ n ih =>
    intro  x1 x2 x3 x4 h
    exact kR_choice_l17b C O (K17 := fun v0 v1 v2 v3 v4 => fR_choice_l17  n v0 v1 v2 v3 v4) (fun  x1 x2 x3 x4 h => ih h) h
set_option maxHeartbeats 4000000 in
set_option maxRecDepth 100000 in
theorem cR_choice {l : Launch} {G : zG} {qR : Nat → Nat} {sR : zSt} {a0 : Nat} {out : Int32} (h : fR_choice sR a0 = some out) : Ct l G yX6_choice cX6_choice 5 (some .int) rmX6_choice [.ref (qR 0), .ref (gK G a0)] (wdR G qR sR) (some (.int out)) (wdR G qR sR) := by
  refine zMet (own := RX6) rfl (by decide) (Nat.le_of_ble_eq_true rfl) (fun x hl C O => ?_)
  show zW x G 0 0 0 [(0, .ref (qR 0)), (1, .ref (gK G a0))] [] _
  unfold fR_choice at h
  refine z_aload_n C dX6_choice_0 0 rfl ?_
  refine rw_g_X6_94_R_R C dX6_choice_1 ?_
  refine z_iconst C 1 dX6_choice_4 (by decide) ?_
  refine z_icmp_eq C dX6_choice_5 10 (by decide) h (fun h => ?_) (fun h => ?_)
  · refine z_iconst C 0 dX6_choice_10 (by decide) ?_
    refine z_istore_n C dX6_choice_11 (by decide) (lvr := [(0, .ref (qR 0)), (1, .ref (gK G a0))]) rfl ?_
    refine z_iconst C 0 dX6_choice_12 (by decide) ?_
    refine z_istore_n C dX6_choice_13 (by decide) (lvr := [(2, .int 0), (0, .ref (qR 0)), (1, .ref (gK G a0))]) rfl ?_
    refine z_iconst C 0 dX6_choice_14 (by decide) ?_
    refine z_istore C dX6_choice_15 (by decide) (lvr := [(3, .int 0), (2, .int 0), (0, .ref (qR 0)), (1, .ref (gK G a0))]) rfl ?_
    refine z_perm [3, 4, 2, 1, 0] (lv' := [(0, .ref (qR 0)), (1, .ref (gK G a0)), (2, .int 0), (3, .int 0), (4, .int 0)]) rfl ?_
    exact kR_choice_l17 C O  zF h
  · refine z_iconst C (-1) dX6_choice_8 (by decide) ?_
    replace h := Option.some.inj h
    subst h
    exact z_iret C O dX6_choice_9 rfl rfl
set_option maxHeartbeats 4000000 in
set_option maxRecDepth 100000 in
theorem cR_fail {l : Launch} {G : zG} {qR : Nat → Nat} {sR : zSt} {a0 : Int32} {out : zSt} (h : fR_fail sR a0 = some out) : Ct l G yX6_fail cX6_fail 2 none rmX6_fail [.ref (qR 0), .int a0] (wdR G qR sR) none (wdR G qR out) := by
  refine zMet (own := RX6) rfl (by decide) (Nat.le_of_ble_eq_true rfl) (fun x hl C O => ?_)
  show zW x G 0 0 0 [(0, .ref (qR 0)), (1, .int a0)] [] _
  unfold fR_fail at h
  refine z_aload_n C dX6_fail_0 0 rfl ?_
  refine rw_g_X6_24_R_R C dX6_fail_1 ?_
  refine z_if_ne C dX6_fail_4 20 (by decide) h (fun h => ?_) (fun h => ?_)
  · replace h := Option.some.inj h
    subst h
    exact z_vret C O dX6_fail_20 rfl rfl
  · refine z_aload_n C dX6_fail_7 0 rfl ?_
    refine z_iload_n C dX6_fail_8 1 rfl ?_
    refine rw_p_X6_24_R_R C dX6_fail_9 h (fun sR1 h => ?_)
    refine z_aload_n C dX6_fail_12 0 rfl ?_
    refine z_aload_n C dX6_fail_13 0 rfl ?_
    refine rw_g_X6_129_R_R C dX6_fail_14 ?_
    refine rw_p_X6_27_R_R C dX6_fail_17 h (fun sR2 h => ?_)
    replace h := Option.some.inj h
    subst h
    exact z_vret C O dX6_fail_20 rfl rfl
set_option maxHeartbeats 4000000 in
set_option maxRecDepth 100000 in
theorem cR_word {l : Launch} {G : zG} {qR : Nat → Nat} {sR : zSt} {a0 : Nat} {out : Int32 × zSt} (h : fR_word sR a0 = some out) : Ct l G yX6_word cX6_word 3 (some .int) rmX6_word [.ref (qR 0), .ref (gK G a0)] (wdR G qR sR) (some (.int out.1)) (wdR G qR out.2) := by
  refine zMet (own := RX6) rfl (by decide) (Nat.le_of_ble_eq_true rfl) (fun x hl C O => ?_)
  show zW x G 0 0 0 [(0, .ref (qR 0)), (1, .ref (gK G a0))] [] _
  unfold fR_word at h
  refine z_aload_n C dX6_word_0 0 rfl ?_
  refine z_aload_n C dX6_word_1 1 rfl ?_
  obtain ⟨y1, hy1, h⟩ := bind_o h
  refine rw_c_X6_45 C (cR_choice hy1) 0 rfl dX6_word_2 (Nat.le_of_ble_eq_true rfl) (zrm rfl) ?_
  refine z_istore_n C dX6_word_5 (by decide) (lvr := [(0, .ref (qR 0)), (1, .ref (gK G a0))]) rfl ?_
  refine z_iload_n C dX6_word_6 0 rfl ?_
  refine z_if_ge C dX6_word_7 17 (by decide) h (fun h => ?_) (fun h => ?_)
  · refine z_aload_n C dX6_word_17 1 rfl ?_
    obtain ⟨y2, hy2, h⟩ := bind_o h
    refine rw_c_X6_33 C (cR_step hy2) 0 rfl dX6_word_18 (Nat.le_of_ble_eq_true rfl) (zrm rfl) ?_
    refine z_iload_n C dX6_word_21 0 rfl ?_
    replace h := Option.some.inj h
    subst h
    exact z_iret C O dX6_word_22 rfl rfl
  · refine z_aload_n C dX6_word_10 1 rfl ?_
    refine z_iconst C 1 dX6_word_11 (by decide) ?_
    obtain ⟨y3, hy3, h⟩ := bind_o h
    refine rw_c_X6_49 C (cR_fail hy3) 0 rfl dX6_word_12 (Nat.le_of_ble_eq_true rfl) (zrm rfl) ?_
    refine z_iconst C 0 dX6_word_15 (by decide) ?_
    replace h := Option.some.inj h
    subst h
    exact z_iret C O dX6_word_16 rfl rfl
set_option maxHeartbeats 4000000 in
set_option maxRecDepth 100000 in
theorem kR_number_b30 {x : zX} {G : zG} {qR : Nat → Nat}  {out : Int32 × zSt} (C : zC x G RX6 cX6_number 4 (some .int) rmX6_number) (O : zO x G (some (.int out.1)) (wdR G qR out.2) 0 0)  {sR : zSt}  (h : fR_number_b30  sR  = some out) : zW x G 0 0 30 [(0, .ref (qR 0))] [] (wdR G qR sR) := by
  unfold fR_number_b30 at h
  refine z_aload_n C dX6_number_30 0 rfl ?_
  refine z_iconst C 2 dX6_number_31 (by decide) ?_
  obtain ⟨y2, hy2, h⟩ := bind_o h
  refine rw_c_X6_49 C (cR_fail hy2) 0 rfl dX6_number_32 (Nat.le_of_ble_eq_true rfl) (zrm rfl) ?_
  refine z_iconst C 0 dX6_number_35 (by decide) ?_
  replace h := Option.some.inj h
  subst h
  exact z_iret C O dX6_number_36 rfl rfl
set_option maxHeartbeats 4000000 in
set_option maxRecDepth 100000 in
theorem cR_number {l : Launch} {G : zG} {qR : Nat → Nat} {sR : zSt} {a0 : Int32} {a1 : Int32} {out : Int32 × zSt} (h : fR_number sR a0 a1 = some out) : Ct l G yX6_number cX6_number 4 (some .int) rmX6_number [.ref (qR 0), .int a0, .int a1] (wdR G qR sR) (some (.int out.1)) (wdR G qR out.2) := by
  refine zMet (own := RX6) rfl (by decide) (Nat.le_of_ble_eq_true rfl) (fun x hl C O => ?_)
  show zW x G 0 0 0 [(0, .ref (qR 0)), (1, .int a0), (2, .int a1)] [] _
  unfold fR_number at h
  refine z_aload_n C dX6_number_0 0 rfl ?_
  refine rw_g_X6_126_R_R C dX6_number_1 ?_
  refine z_istore_nN C dX6_number_4 (by decide) (lvr := [(0, .ref (qR 0)), (1, .int a0), (2, .int a1)]) rfl h (fun x3_1 h => ?_)
  refine z_aload_n C dX6_number_5 1 rfl ?_
  refine rw_g_X6_94_R_R C dX6_number_6 ?_
  refine z_iconst C 2 dX6_number_9 (by decide) ?_
  refine z_icmp_eq C dX6_number_10 20 (by decide) h (fun h => ?_) (fun h => ?_)
  · refine z_iload_n C dX6_number_20 0 rfl ?_
    refine z_iload_n C dX6_number_21 2 rfl ?_
    refine z_icmp_lt C dX6_number_22 30 (by decide) h (fun h => ?_) (fun h => ?_)
    · refine z_perm [1] (lv' := [(0, .ref (qR 0))]) rfl ?_
      exact kR_number_b30 C O  h
    · refine z_iload_n C dX6_number_25 0 rfl ?_
      refine z_iload_n C dX6_number_26 3 rfl ?_
      refine z_icmp_le C dX6_number_27 37 (by decide) h (fun h => ?_) (fun h => ?_)
      · refine z_aload_n C dX6_number_37 1 rfl ?_
        obtain ⟨y3, hy3, h⟩ := bind_o h
        refine rw_c_X6_33 C (cR_step hy3) 0 rfl dX6_number_38 (Nat.le_of_ble_eq_true rfl) (zrm rfl) ?_
        refine z_iload_n C dX6_number_41 0 rfl ?_
        replace h := Option.some.inj h
        subst h
        exact z_iret C O dX6_number_42 rfl rfl
      · refine z_perm [1] (lv' := [(0, .ref (qR 0))]) rfl ?_
        exact kR_number_b30 C O  h
  · refine z_aload_n C dX6_number_13 1 rfl ?_
    refine z_iconst C 1 dX6_number_14 (by decide) ?_
    obtain ⟨y4, hy4, h⟩ := bind_o h
    refine rw_c_X6_49 C (cR_fail hy4) 0 rfl dX6_number_15 (Nat.le_of_ble_eq_true rfl) (zrm rfl) ?_
    refine z_iconst C 0 dX6_number_18 (by decide) ?_
    replace h := Option.some.inj h
    subst h
    exact z_iret C O dX6_number_19 rfl rfl
set_option maxHeartbeats 4000000 in
set_option maxRecDepth 100000 in
theorem cR_semicolon {l : Launch} {G : zG} {qR : Nat → Nat} {sR : zSt}  {out : zSt} (h : fR_semicolon sR  = some out) : Ct l G yX6_semicolon cX6_semicolon 1 none rmX6_semicolon [.ref (qR 0)] (wdR G qR sR) none (wdR G qR out) := by
  refine zMet (own := RX6) rfl (by decide) (Nat.le_of_ble_eq_true rfl) (fun x hl C O => ?_)
  show zW x G 0 0 0 [(0, .ref (qR 0))] [] _
  unfold fR_semicolon at h
  refine z_aload_n C dX6_semicolon_0 0 rfl ?_
  refine rw_g_X6_94_R_R C dX6_semicolon_1 ?_
  refine z_iconst C 3 dX6_semicolon_4 (by decide) ?_
  refine z_icmp_ne C dX6_semicolon_5 15 (by decide) h (fun h => ?_) (fun h => ?_)
  · refine z_aload_n C dX6_semicolon_15 0 rfl ?_
    refine z_iconst C 1 dX6_semicolon_16 (by decide) ?_
    obtain ⟨y1, hy1, h⟩ := bind_o h
    refine rw_c_X6_49 C (cR_fail hy1) 0 rfl dX6_semicolon_17 (Nat.le_of_ble_eq_true rfl) (zrm rfl) ?_
    replace h := Option.some.inj h
    subst h
    exact z_vret C O dX6_semicolon_20 rfl rfl
  · refine z_aload_n C dX6_semicolon_8 0 rfl ?_
    obtain ⟨y2, hy2, h⟩ := bind_o h
    refine rw_c_X6_33 C (cR_step hy2) 0 rfl dX6_semicolon_9 (Nat.le_of_ble_eq_true rfl) (zrm rfl) ?_
    refine z_goto C dX6_semicolon_12 20 (by decide) ?_
    replace h := Option.some.inj h
    subst h
    exact z_vret C O dX6_semicolon_20 rfl rfl
set_option maxHeartbeats 4000000 in
set_option maxRecDepth 100000 in
theorem kR_readLaw_l6b {x : zX} {G : zG} {qR qS : Nat → Nat}  {out : zSt × zSt} (C : zC x G RX6 cX6_readLaw 4 none rmX6_readLaw) (O : zO x G none (wdR G qR out.1 ++ (wdS G qS out.2)) 0 0) {K6 : zSt → zSt → Int32 → Int32 → Option (zSt × zSt)} (hK6 : ∀ (sR : zSt) (sS : zSt) (x2 : Int32) (x3 : Int32), K6 sR sS x2 x3 = some out → zW x G 0 0 6 [(0, .ref (qR 0)), (1, .ref (qS 0)), (2, .int x2), (3, .int x3)] [] (wdR G qR sR ++ (wdS G qS sS))) {sR : zSt} {sS : zSt} {x2 : Int32} {x3 : Int32} (h : fR_readLaw_l6b K6 sR sS x2 x3 = some out) : zW x G 0 0 6 [(0, .ref (qR 0)), (1, .ref (qS 0)), (2, .int x2), (3, .int x3)] [] (wdR G qR sR ++ (wdS G qS sS)) := by
  unfold fR_readLaw_l6b at h
  refine z_iload_n C dX6_readLaw_6 3 rfl ?_
  refine z_iconst C 4 dX6_readLaw_7 (by decide) ?_
  refine z_icmp_ge C dX6_readLaw_8 33 (by decide) h (fun h => ?_) (fun h => ?_)
  · refine z_aload_n C dX6_readLaw_33 1 rfl ?_
    refine rw_g_X6_69_RS_S C dX6_readLaw_34 ?_
    refine z_iload_n C dX6_readLaw_37 2 rfl ?_
    refine z_aload_n C dX6_readLaw_38 0 rfl ?_
    refine z_ldcS C 2 (by decide) dX6_readLaw_39 ?_
    obtain ⟨y2, hy2, h⟩ := bind_o h
    refine rw_c_X6_66 C (Ct.frame (cR_word hy2) (w := wdR G qR sR ++ (wdS G qS sS)) (w' := wdR G qR y2.2 ++ (wdS G qS sS)) (wr := wdS G qS sS) [0, 1] [2, 3, 4, 5, 6, 7, 8, 9, 10, 11, 12] [11, 12, 0, 1, 2, 3, 4, 5, 6, 7, 8, 9, 10] rfl rfl rfl rfl (by decide) rfl rfl) 0 rfl dX6_readLaw_41 (Nat.le_of_ble_eq_true rfl) (zrm rfl) ?_
    refine rw_s_RS_S_4 C dX6_readLaw_44 h (fun sS3 h => ?_)
    refine z_aload_n C dX6_readLaw_45 1 rfl ?_
    refine rw_g_X6_74_RS_S C dX6_readLaw_46 ?_
    refine z_iload_n C dX6_readLaw_49 2 rfl ?_
    refine z_aload_n C dX6_readLaw_50 0 rfl ?_
    refine z_ldcS C 3 (by decide) dX6_readLaw_51 ?_
    obtain ⟨y4, hy4, h⟩ := bind_o h
    refine rw_c_X6_66 C (Ct.frame (cR_word hy4) (w := wdR G qR y2.2 ++ (wdS G qS sS3)) (w' := wdR G qR y4.2 ++ (wdS G qS sS3)) (wr := wdS G qS sS3) [0, 1] [2, 3, 4, 5, 6, 7, 8, 9, 10, 11, 12] [11, 12, 0, 1, 2, 3, 4, 5, 6, 7, 8, 9, 10] rfl rfl rfl rfl (by decide) rfl rfl) 0 rfl dX6_readLaw_53 (Nat.le_of_ble_eq_true rfl) (zrm rfl) ?_
    refine rw_s_RS_S_5 C dX6_readLaw_56 h (fun sS5 h => ?_)
    refine z_aload_n C dX6_readLaw_57 1 rfl ?_
    refine rw_g_X6_79_RS_S C dX6_readLaw_58 ?_
    refine z_iload_n C dX6_readLaw_61 2 rfl ?_
    refine z_aload_n C dX6_readLaw_62 0 rfl ?_
    refine z_ldcS C 4 (by decide) dX6_readLaw_63 ?_
    obtain ⟨y6, hy6, h⟩ := bind_o h
    refine rw_c_X6_66 C (Ct.frame (cR_word hy6) (w := wdR G qR y4.2 ++ (wdS G qS sS5)) (w' := wdR G qR y6.2 ++ (wdS G qS sS5)) (wr := wdS G qS sS5) [0, 1] [2, 3, 4, 5, 6, 7, 8, 9, 10, 11, 12] [11, 12, 0, 1, 2, 3, 4, 5, 6, 7, 8, 9, 10] rfl rfl rfl rfl (by decide) rfl rfl) 0 rfl dX6_readLaw_65 (Nat.le_of_ble_eq_true rfl) (zrm rfl) ?_
    refine rw_s_RS_S_6 C dX6_readLaw_68 h (fun sS7 h => ?_)
    refine z_aload_n C dX6_readLaw_69 1 rfl ?_
    refine rw_g_X6_84_RS_S C dX6_readLaw_70 ?_
    refine z_iload_n C dX6_readLaw_73 2 rfl ?_
    refine z_aload_n C dX6_readLaw_74 0 rfl ?_
    refine z_iconst C 0 dX6_readLaw_75 (by decide) ?_
    refine z_bipush C 100 dX6_readLaw_76 (by decide) ?_
    obtain ⟨y8, hy8, h⟩ := bind_o h
    refine rw_c_X6_87 C (Ct.frame (cR_number hy8) (w := wdR G qR y6.2 ++ (wdS G qS sS7)) (w' := wdR G qR y8.2 ++ (wdS G qS sS7)) (wr := wdS G qS sS7) [0, 1] [2, 3, 4, 5, 6, 7, 8, 9, 10, 11, 12] [11, 12, 0, 1, 2, 3, 4, 5, 6, 7, 8, 9, 10] rfl rfl rfl rfl (by decide) rfl rfl) 0 rfl dX6_readLaw_78 (Nat.le_of_ble_eq_true rfl) (zrm rfl) ?_
    refine rw_s_RS_S_7 C dX6_readLaw_81 h (fun sS9 h => ?_)
    refine z_aload_n C dX6_readLaw_82 0 rfl ?_
    obtain ⟨y10, hy10, h⟩ := bind_o h
    refine rw_c_X6_91 C (Ct.frame (cR_semicolon hy10) (w := wdR G qR y8.2 ++ (wdS G qS sS9)) (w' := wdR G qR y10 ++ (wdS G qS sS9)) (wr := wdS G qS sS9) [0, 1] [2, 3, 4, 5, 6, 7, 8, 9, 10, 11, 12] [11, 12, 0, 1, 2, 3, 4, 5, 6, 7, 8, 9, 10] rfl rfl rfl rfl (by decide) rfl rfl) 0 rfl dX6_readLaw_83 (Nat.le_of_ble_eq_true rfl) (zrm rfl) ?_
    replace h := Option.some.inj h
    subst h
    exact z_vret C O dX6_readLaw_86 rfl rfl
  · refine z_aload_n C dX6_readLaw_11 1 rfl ?_
    refine rw_g_X6_60_RS_S C dX6_readLaw_12 ?_
    refine z_iload_n C dX6_readLaw_15 2 rfl ?_
    refine z_iconst C 4 dX6_readLaw_16 (by decide) ?_
    refine z_imul C dX6_readLaw_17 ?_
    refine z_iload_n C dX6_readLaw_18 3 rfl ?_
    refine z_iadd C dX6_readLaw_19 ?_
    refine z_aload_n C dX6_readLaw_20 0 rfl ?_
    refine z_ldcS C 1 (by decide) dX6_readLaw_21 ?_
    obtain ⟨y11, hy11, h⟩ := bind_o h
    refine rw_c_X6_66 C (Ct.frame (cR_word hy11) (w := wdR G qR sR ++ (wdS G qS sS)) (w' := wdR G qR y11.2 ++ (wdS G qS sS)) (wr := wdS G qS sS) [0, 1] [2, 3, 4, 5, 6, 7, 8, 9, 10, 11, 12] [11, 12, 0, 1, 2, 3, 4, 5, 6, 7, 8, 9, 10] rfl rfl rfl rfl (by decide) rfl rfl) 0 rfl dX6_readLaw_23 (Nat.le_of_ble_eq_true rfl) (zrm rfl) ?_
    refine rw_s_RS_S_3 C dX6_readLaw_26 h (fun sS12 h => ?_)
    refine z_iinc C dX6_readLaw_27 3 rfl 1 (by decide) (by decide) (lvr := [(0, .ref (qR 0)), (1, .ref (qS 0)), (2, .int x2)]) rfl h (fun x3_13 h => ?_)
    refine z_goto C dX6_readLaw_30 6 (by decide) ?_
    refine z_perm [1, 2, 3, 0] (lv' := [(0, .ref (qR 0)), (1, .ref (qS 0)), (2, .int x2), (3, .int x3_13)]) rfl ?_
    exact hK6 _ _  _ _ h
set_option maxHeartbeats 4000000 in
set_option maxRecDepth 100000 in
theorem kR_readLaw_l6 {x : zX} {G : zG} {qR qS : Nat → Nat}  {out : zSt × zSt} (C : zC x G RX6 cX6_readLaw 4 none rmX6_readLaw) (O : zO x G none (wdR G qR out.1 ++ (wdS G qS out.2)) 0 0)  : ∀ (n : Nat) {sR : zSt} {sS : zSt} {x2 : Int32} {x3 : Int32}, fR_readLaw_l6  n sR sS x2 x3 = some out → zW x G 0 0 6 [(0, .ref (qR 0)), (1, .ref (qS 0)), (2, .int x2), (3, .int x3)] [] (wdR G qR sR ++ (wdS G qS sS)) := by
  intro n
  induction n with
  | zero =>
    intro sR sS x2 x3 h
    have h : (none : Option (zSt × zSt)) = some out := h
    cases h
  | succ n ih =>
    intro sR sS x2 x3 h
    exact kR_readLaw_l6b C O (K6 := fun v0 v1 v2 v3 => fR_readLaw_l6  n v0 v1 v2 v3) (fun sR sS x2 x3 h => ih h) h
set_option maxHeartbeats 4000000 in
set_option maxRecDepth 100000 in
theorem cR_readLaw {l : Launch} {G : zG} {qR qS : Nat → Nat} {sR : zSt} {sS : zSt} {a1 : Int32} {out : zSt × zSt} (h : fR_readLaw sR sS a1 = some out) : Ct l G yX6_readLaw cX6_readLaw 4 none rmX6_readLaw [.ref (qR 0), .ref (qS 0), .int a1] (wdR G qR sR ++ (wdS G qS sS)) none (wdR G qR out.1 ++ (wdS G qS out.2)) := by
  refine zMet (own := RX6) rfl (by decide) (Nat.le_of_ble_eq_true rfl) (fun x hl C O => ?_)
  show zW x G 0 0 0 [(0, .ref (qR 0)), (1, .ref (qS 0)), (2, .int a1)] [] _
  unfold fR_readLaw at h
  refine z_aload_n C dX6_readLaw_0 0 rfl ?_
  obtain ⟨y1, hy1, h⟩ := bind_o h
  refine rw_c_X6_33 C (Ct.frame (cR_step hy1) (w := wdR G qR sR ++ (wdS G qS sS)) (w' := wdR G qR y1 ++ (wdS G qS sS)) (wr := wdS G qS sS) [0, 1] [2, 3, 4, 5, 6, 7, 8, 9, 10, 11, 12] [11, 12, 0, 1, 2, 3, 4, 5, 6, 7, 8, 9, 10] rfl rfl rfl rfl (by decide) rfl rfl) 0 rfl dX6_readLaw_1 (Nat.le_of_ble_eq_true rfl) (zrm rfl) ?_
  refine z_iconst C 0 dX6_readLaw_4 (by decide) ?_
  refine z_istore_n C dX6_readLaw_5 (by decide) (lvr := [(0, .ref (qR 0)), (1, .ref (qS 0)), (2, .int a1)]) rfl ?_
  refine z_perm [1, 2, 3, 0] (lv' := [(0, .ref (qR 0)), (1, .ref (qS 0)), (2, .int a1), (3, .int 0)]) rfl ?_
  exact kR_readLaw_l6 C O  zF h
set_option maxHeartbeats 4000000 in
set_option maxRecDepth 100000 in
theorem kR_readLaws_l16b {x : zX} {G : zG} {qR qS : Nat → Nat}  {out : zSt × zSt} (C : zC x G RX6 cX6_readLaws 3 none rmX6_readLaws) (O : zO x G none (wdR G qR out.1 ++ (wdS G qS out.2)) 0 0) {K16 : zSt → zSt → Int32 → Option (zSt × zSt)} (hK16 : ∀ (sR : zSt) (sS : zSt) (x2 : Int32), K16 sR sS x2 = some out → zW x G 0 0 16 [(0, .ref (qR 0)), (1, .ref (qS 0)), (2, .int x2)] [] (wdR G qR sR ++ (wdS G qS sS))) {sR : zSt} {sS : zSt} {x2 : Int32} (h : fR_readLaws_l16b K16 sR sS x2 = some out) : zW x G 0 0 16 [(0, .ref (qR 0)), (1, .ref (qS 0)), (2, .int x2)] [] (wdR G qR sR ++ (wdS G qS sS)) := by
  unfold fR_readLaws_l16b at h
  refine z_iload_n C dX6_readLaws_16 2 rfl ?_
  refine z_iconst C 4 dX6_readLaws_17 (by decide) ?_
  refine z_icmp_gt C dX6_readLaws_18 78 (by decide) h (fun h => ?_) (fun h => ?_)
  · replace h := Option.some.inj h
    subst h
    exact z_vret C O dX6_readLaws_78 rfl rfl
  · refine z_aload_n C dX6_readLaws_21 0 rfl ?_
    refine rw_g_X6_24_RS_R C dX6_readLaws_22 ?_
    refine z_if_ne C dX6_readLaws_25 78 (by decide) h (fun h => ?_) (fun h => ?_)
    · replace h := Option.some.inj h
      subst h
      exact z_vret C O dX6_readLaws_78 rfl rfl
    · refine z_aload_n C dX6_readLaws_28 0 rfl ?_
      refine z_ldcS C 0 (by decide) dX6_readLaws_29 ?_
      obtain ⟨y2, hy2, h⟩ := bind_o h
      refine rw_c_X6_45 C (Ct.frame (cR_choice hy2) (w := wdR G qR sR ++ (wdS G qS sS)) (w' := wdR G qR sR ++ (wdS G qS sS)) (wr := wdS G qS sS) [0, 1] [2, 3, 4, 5, 6, 7, 8, 9, 10, 11, 12] [11, 12, 0, 1, 2, 3, 4, 5, 6, 7, 8, 9, 10] rfl rfl rfl rfl (by decide) rfl rfl) 0 rfl dX6_readLaws_31 (Nat.le_of_ble_eq_true rfl) (zrm rfl) ?_
      refine z_if_ne C dX6_readLaws_34 78 (by decide) h (fun h => ?_) (fun h => ?_)
      · replace h := Option.some.inj h
        subst h
        exact z_vret C O dX6_readLaws_78 rfl rfl
      · refine z_aload_n C dX6_readLaws_37 1 rfl ?_
        refine rw_g_X6_53_RS_S C dX6_readLaws_38 ?_
        refine z_iconst C 4 dX6_readLaws_41 (by decide) ?_
        refine z_icmp_lt C dX6_readLaws_42 53 (by decide) h (fun h => ?_) (fun h => ?_)
        · refine z_aload_n C dX6_readLaws_53 0 rfl ?_
          refine z_aload_n C dX6_readLaws_54 1 rfl ?_
          refine z_aload_n C dX6_readLaws_55 1 rfl ?_
          refine rw_g_X6_53_RS_S C dX6_readLaws_56 ?_
          obtain ⟨y3, hy3, h⟩ := bind_o h
          refine rw_c_X6_56 C (cR_readLaw hy3) 0 rfl dX6_readLaws_59 (Nat.le_of_ble_eq_true rfl) (zrm rfl) ?_
          refine z_aload_n C dX6_readLaws_62 1 rfl ?_
          refine z_dup C dX6_readLaws_63 rfl ?_
          refine rw_g_X6_53_RS_S C dX6_readLaws_64 ?_
          refine z_iconst C 1 dX6_readLaws_67 (by decide) ?_
          refine z_iadd C dX6_readLaws_68 ?_
          refine rw_p_X6_53_RS_S C dX6_readLaws_69 h (fun sS4 h => ?_)
          refine z_iinc C dX6_readLaws_72 2 rfl 1 (by decide) (by decide) (lvr := [(0, .ref (qR 0)), (1, .ref (qS 0))]) rfl h (fun x2_5 h => ?_)
          refine z_goto C dX6_readLaws_75 16 (by decide) ?_
          refine z_perm [1, 2, 0] (lv' := [(0, .ref (qR 0)), (1, .ref (qS 0)), (2, .int x2_5)]) rfl ?_
          exact hK16 _ _  _ h
        · refine z_aload_n C dX6_readLaws_45 0 rfl ?_
          refine z_iconst C 3 dX6_readLaws_46 (by decide) ?_
          obtain ⟨y6, hy6, h⟩ := bind_o h
          refine rw_c_X6_49 C (Ct.frame (cR_fail hy6) (w := wdR G qR sR ++ (wdS G qS sS)) (w' := wdR G qR y6 ++ (wdS G qS sS)) (wr := wdS G qS sS) [0, 1] [2, 3, 4, 5, 6, 7, 8, 9, 10, 11, 12] [11, 12, 0, 1, 2, 3, 4, 5, 6, 7, 8, 9, 10] rfl rfl rfl rfl (by decide) rfl rfl) 0 rfl dX6_readLaws_47 (Nat.le_of_ble_eq_true rfl) (zrm rfl) ?_
          refine z_goto C dX6_readLaws_50 72 (by decide) ?_
          refine z_iinc C dX6_readLaws_72 2 rfl 1 (by decide) (by decide) (lvr := [(0, .ref (qR 0)), (1, .ref (qS 0))]) rfl h (fun x2_7 h => ?_)
          refine z_goto C dX6_readLaws_75 16 (by decide) ?_
          refine z_perm [1, 2, 0] (lv' := [(0, .ref (qR 0)), (1, .ref (qS 0)), (2, .int x2_7)]) rfl ?_
          exact hK16 _ _  _ h
set_option maxHeartbeats 4000000 in
set_option maxRecDepth 100000 in
theorem kR_readLaws_l16 {x : zX} {G : zG} {qR qS : Nat → Nat}  {out : zSt × zSt} (C : zC x G RX6 cX6_readLaws 3 none rmX6_readLaws) (O : zO x G none (wdR G qR out.1 ++ (wdS G qS out.2)) 0 0)  : ∀ (n : Nat) {sR : zSt} {sS : zSt} {x2 : Int32}, fR_readLaws_l16  n sR sS x2 = some out → zW x G 0 0 16 [(0, .ref (qR 0)), (1, .ref (qS 0)), (2, .int x2)] [] (wdR G qR sR ++ (wdS G qS sS)) := by
  intro n
  induction n with
  | zero =>
    intro sR sS x2 h
    have h : (none : Option (zSt × zSt)) = some out := h
    cases h
  | succ n ih =>
    intro sR sS x2 h
    exact kR_readLaws_l16b C O (K16 := fun v0 v1 v2 => fR_readLaws_l16  n v0 v1 v2) (fun sR sS x2 h => ih h) h
set_option maxHeartbeats 4000000 in
set_option maxRecDepth 100000 in
theorem cR_readLaws {l : Launch} {G : zG} {qR qS : Nat → Nat} {sR : zSt} {sS : zSt}  {out : zSt × zSt} (h : fR_readLaws sR sS  = some out) : Ct l G yX6_readLaws cX6_readLaws 3 none rmX6_readLaws [.ref (qR 0), .ref (qS 0)] (wdR G qR sR ++ (wdS G qS sS)) none (wdR G qR out.1 ++ (wdS G qS out.2)) := by
  refine zMet (own := RX6) rfl (by decide) (Nat.le_of_ble_eq_true rfl) (fun x hl C O => ?_)
  show zW x G 0 0 0 [(0, .ref (qR 0)), (1, .ref (qS 0))] [] _
  unfold fR_readLaws at h
  refine z_aload_n C dX6_readLaws_0 0 rfl ?_
  refine z_ldcS C 0 (by decide) dX6_readLaws_1 ?_
  obtain ⟨y1, hy1, h⟩ := bind_o h
  refine rw_c_X6_45 C (Ct.frame (cR_choice hy1) (w := wdR G qR sR ++ (wdS G qS sS)) (w' := wdR G qR sR ++ (wdS G qS sS)) (wr := wdS G qS sS) [0, 1] [2, 3, 4, 5, 6, 7, 8, 9, 10, 11, 12] [11, 12, 0, 1, 2, 3, 4, 5, 6, 7, 8, 9, 10] rfl rfl rfl rfl (by decide) rfl rfl) 0 rfl dX6_readLaws_3 (Nat.le_of_ble_eq_true rfl) (zrm rfl) ?_
  refine z_if_ge C dX6_readLaws_6 14 (by decide) h (fun h => ?_) (fun h => ?_)
  · refine z_iconst C 0 dX6_readLaws_14 (by decide) ?_
    refine z_istore_n C dX6_readLaws_15 (by decide) (lvr := [(0, .ref (qR 0)), (1, .ref (qS 0))]) rfl ?_
    refine z_perm [1, 2, 0] (lv' := [(0, .ref (qR 0)), (1, .ref (qS 0)), (2, .int 0)]) rfl ?_
    exact kR_readLaws_l16 C O  zF h
  · refine z_aload_n C dX6_readLaws_9 0 rfl ?_
    refine z_iconst C 1 dX6_readLaws_10 (by decide) ?_
    obtain ⟨y8, hy8, h⟩ := bind_o h
    refine rw_c_X6_49 C (Ct.frame (cR_fail hy8) (w := wdR G qR sR ++ (wdS G qS sS)) (w' := wdR G qR y8 ++ (wdS G qS sS)) (wr := wdS G qS sS) [0, 1] [2, 3, 4, 5, 6, 7, 8, 9, 10, 11, 12] [11, 12, 0, 1, 2, 3, 4, 5, 6, 7, 8, 9, 10] rfl rfl rfl rfl (by decide) rfl rfl) 0 rfl dX6_readLaws_11 (Nat.le_of_ble_eq_true rfl) (zrm rfl) ?_
    refine z_iconst C 0 dX6_readLaws_14 (by decide) ?_
    refine z_istore_n C dX6_readLaws_15 (by decide) (lvr := [(0, .ref (qR 0)), (1, .ref (qS 0))]) rfl ?_
    refine z_perm [1, 2, 0] (lv' := [(0, .ref (qR 0)), (1, .ref (qS 0)), (2, .int 0)]) rfl ?_
    exact kR_readLaws_l16 C O  zF h
set_option maxHeartbeats 4000000 in
set_option maxRecDepth 100000 in
theorem kR_readEvent_b187 {x : zX} {G : zG} {qR qS : Nat → Nat}  {out : zSt × zSt} (C : zC x G RX6 cX6_readEvent 5 none rmX6_readEvent) (O : zO x G none (wdR G qR out.1 ++ (wdS G qS out.2)) 0 0)  {sR : zSt} {sS : zSt} {t0 : Int32} {t2 : Int32} (h : fR_readEvent_b187  sR sS t0 t2 = some out) : zW x G 0 0 187 [(0, .ref (qR 0))] [.int t0, .ref (qR 0), .int t2, .ref (qS 13)] (wdR G qR sR ++ (wdS G qS sS)) := by
  unfold fR_readEvent_b187 at h
  refine z_bipush C 99 dX6_readEvent_187 (by decide) ?_
  obtain ⟨y16, hy16, h⟩ := bind_o h
  refine rw_c_X6_87 C (Ct.frame (cR_number hy16) (w := wdR G qR sR ++ (wdS G qS sS)) (w' := wdR G qR y16.2 ++ (wdS G qS sS)) (wr := wdS G qS sS) [0, 1] [2, 3, 4, 5, 6, 7, 8, 9, 10, 11, 12] [11, 12, 0, 1, 2, 3, 4, 5, 6, 7, 8, 9, 10] rfl rfl rfl rfl (by decide) rfl rfl) 0 rfl dX6_readEvent_189 (Nat.le_of_ble_eq_true rfl) (zrm rfl) ?_
  refine rw_s_RS_S_12 C dX6_readEvent_192 h (fun sS17 h => ?_)
  refine z_goto C dX6_readEvent_193 346 (by decide) ?_
  refine z_aload_n C dX6_readEvent_346 0 rfl ?_
  obtain ⟨y18, hy18, h⟩ := bind_o h
  refine rw_c_X6_91 C (Ct.frame (cR_semicolon hy18) (w := wdR G qR y16.2 ++ (wdS G qS sS17)) (w' := wdR G qR y18 ++ (wdS G qS sS17)) (wr := wdS G qS sS17) [0, 1] [2, 3, 4, 5, 6, 7, 8, 9, 10, 11, 12] [11, 12, 0, 1, 2, 3, 4, 5, 6, 7, 8, 9, 10] rfl rfl rfl rfl (by decide) rfl rfl) 0 rfl dX6_readEvent_347 (Nat.le_of_ble_eq_true rfl) (zrm rfl) ?_
  replace h := Option.some.inj h
  subst h
  exact z_vret C O dX6_readEvent_350 rfl rfl
set_option maxHeartbeats 4000000 in
set_option maxRecDepth 100000 in
theorem kR_readEvent_b169 {x : zX} {G : zG} {qR qS : Nat → Nat}  {out : zSt × zSt} (C : zC x G RX6 cX6_readEvent 5 none rmX6_readEvent) (O : zO x G none (wdR G qR out.1 ++ (wdS G qS out.2)) 0 0)  {sR : zSt} {sS : zSt} {x2 : Int32} {t0 : Int32} (h : fR_readEvent_b169  sR sS x2 t0 = some out) : zW x G 0 0 169 [(0, .ref (qR 0)), (1, .ref (qS 0)), (2, .int x2)] [.int t0] (wdR G qR sR ++ (wdS G qS sS)) := by
  unfold fR_readEvent_b169 at h
  refine z_istore C dX6_readEvent_169 (by decide) (lvr := [(0, .ref (qR 0)), (1, .ref (qS 0)), (2, .int x2)]) rfl ?_
  refine z_aload_n C dX6_readEvent_171 2 rfl ?_
  refine rw_g_X6_123_RS_S C dX6_readEvent_172 ?_
  refine z_iload_n C dX6_readEvent_175 3 rfl ?_
  refine z_aload_n C dX6_readEvent_176 1 rfl ?_
  refine z_iload C dX6_readEvent_177 0 rfl ?_
  refine z_if_eq C dX6_readEvent_179 186 (by decide) h (fun h => ?_) (fun h => ?_)
  · refine z_iconst C 0 dX6_readEvent_186 (by decide) ?_
    refine z_perm [1] (lv' := [(0, .ref (qR 0))]) rfl ?_
    exact kR_readEvent_b187 C O  h
  · refine z_iconst C 1 dX6_readEvent_182 (by decide) ?_
    refine z_goto C dX6_readEvent_183 187 (by decide) ?_
    refine z_perm [1] (lv' := [(0, .ref (qR 0))]) rfl ?_
    exact kR_readEvent_b187 C O  h
set_option maxHeartbeats 4000000 in
set_option maxRecDepth 100000 in
theorem kR_readEvent_b33 {x : zX} {G : zG} {qR qS : Nat → Nat}  {out : zSt × zSt} (C : zC x G RX6 cX6_readEvent 5 none rmX6_readEvent) (O : zO x G none (wdR G qR out.1 ++ (wdS G qS out.2)) 0 0)  {sR : zSt} {sS : zSt} {x2 : Int32} {x3 : Int32} {t0 : Int32} {t2 : Int32} (h : fR_readEvent_b33  sR sS x2 x3 t0 t2 = some out) : zW x G 0 0 33 [(0, .ref (qR 0)), (1, .ref (qS 0)), (2, .int x2), (3, .int x3)] [.int t0, .ref (qR 0), .int t2, .ref (qS 10)] (wdR G qR sR ++ (wdS G qS sS)) := by
  unfold fR_readEvent_b33 at h
  refine z_sipush C 999 dX6_readEvent_33 (by decide) ?_
  obtain ⟨y3, hy3, h⟩ := bind_o h
  refine rw_c_X6_87 C (Ct.frame (cR_number hy3) (w := wdR G qR sR ++ (wdS G qS sS)) (w' := wdR G qR y3.2 ++ (wdS G qS sS)) (wr := wdS G qS sS) [0, 1] [2, 3, 4, 5, 6, 7, 8, 9, 10, 11, 12] [11, 12, 0, 1, 2, 3, 4, 5, 6, 7, 8, 9, 10] rfl rfl rfl rfl (by decide) rfl rfl) 0 rfl dX6_readEvent_36 (Nat.le_of_ble_eq_true rfl) (zrm rfl) ?_
  refine rw_s_RS_S_9 C dX6_readEvent_39 h (fun sS4 h => ?_)
  refine z_iload_n C dX6_readEvent_40 3 rfl ?_
  by_cases hc0 : x3 = 0
  · refine z_tcase (off := 39) C dX6_readEvent_41 0 hc0 (by decide) (by decide) (by decide) 80 (by decide) ?_
    replace h := zite_t h hc0
    refine z_aload_n C dX6_readEvent_80 1 rfl ?_
    refine rw_g_X6_115_RS_S C dX6_readEvent_81 ?_
    refine z_iload_n C dX6_readEvent_84 2 rfl ?_
    refine z_aload_n C dX6_readEvent_85 0 rfl ?_
    refine z_ldcS C 6 (by decide) dX6_readEvent_86 ?_
    obtain ⟨y5, hy5, h⟩ := bind_o h
    refine rw_c_X6_66 C (Ct.frame (cR_word hy5) (w := wdR G qR y3.2 ++ (wdS G qS sS4)) (w' := wdR G qR y5.2 ++ (wdS G qS sS4)) (wr := wdS G qS sS4) [0, 1] [2, 3, 4, 5, 6, 7, 8, 9, 10, 11, 12] [11, 12, 0, 1, 2, 3, 4, 5, 6, 7, 8, 9, 10] rfl rfl rfl rfl (by decide) rfl rfl) 0 rfl dX6_readEvent_88 (Nat.le_of_ble_eq_true rfl) (zrm rfl) ?_
    refine rw_s_RS_S_10 C dX6_readEvent_91 h (fun sS6 h => ?_)
    refine z_aload_n C dX6_readEvent_92 1 rfl ?_
    refine rw_g_X6_120_RS_S C dX6_readEvent_93 ?_
    refine z_iload_n C dX6_readEvent_96 2 rfl ?_
    refine z_aload_n C dX6_readEvent_97 0 rfl ?_
    refine z_iconst C 0 dX6_readEvent_98 (by decide) ?_
    refine z_iconst C 1 dX6_readEvent_99 (by decide) ?_
    obtain ⟨y7, hy7, h⟩ := bind_o h
    refine rw_c_X6_87 C (Ct.frame (cR_number hy7) (w := wdR G qR y5.2 ++ (wdS G qS sS6)) (w' := wdR G qR y7.2 ++ (wdS G qS sS6)) (wr := wdS G qS sS6) [0, 1] [2, 3, 4, 5, 6, 7, 8, 9, 10, 11, 12] [11, 12, 0, 1, 2, 3, 4, 5, 6, 7, 8, 9, 10] rfl rfl rfl rfl (by decide) rfl rfl) 0 rfl dX6_readEvent_100 (Nat.le_of_ble_eq_true rfl) (zrm rfl) ?_
    refine rw_s_RS_S_11 C dX6_readEvent_103 h (fun sS8 h => ?_)
    refine z_aload_n C dX6_readEvent_104 1 rfl ?_
    refine rw_g_X6_123_RS_S C dX6_readEvent_105 ?_
    refine z_iload_n C dX6_readEvent_108 2 rfl ?_
    refine z_aload_n C dX6_readEvent_109 0 rfl ?_
    refine z_iconst C 1 dX6_readEvent_110 (by decide) ?_
    refine z_bipush C 99 dX6_readEvent_111 (by decide) ?_
    obtain ⟨y9, hy9, h⟩ := bind_o h
    refine rw_c_X6_87 C (Ct.frame (cR_number hy9) (w := wdR G qR y7.2 ++ (wdS G qS sS8)) (w' := wdR G qR y9.2 ++ (wdS G qS sS8)) (wr := wdS G qS sS8) [0, 1] [2, 3, 4, 5, 6, 7, 8, 9, 10, 11, 12] [11, 12, 0, 1, 2, 3, 4, 5, 6, 7, 8, 9, 10] rfl rfl rfl rfl (by decide) rfl rfl) 0 rfl dX6_readEvent_113 (Nat.le_of_ble_eq_true rfl) (zrm rfl) ?_
    refine rw_s_RS_S_12 C dX6_readEvent_116 h (fun sS10 h => ?_)
    refine z_goto C dX6_readEvent_117 346 (by decide) ?_
    refine z_aload_n C dX6_readEvent_346 0 rfl ?_
    obtain ⟨y11, hy11, h⟩ := bind_o h
    refine rw_c_X6_91 C (Ct.frame (cR_semicolon hy11) (w := wdR G qR y9.2 ++ (wdS G qS sS10)) (w' := wdR G qR y11 ++ (wdS G qS sS10)) (wr := wdS G qS sS10) [0, 1] [2, 3, 4, 5, 6, 7, 8, 9, 10, 11, 12] [11, 12, 0, 1, 2, 3, 4, 5, 6, 7, 8, 9, 10] rfl rfl rfl rfl (by decide) rfl rfl) 0 rfl dX6_readEvent_347 (Nat.le_of_ble_eq_true rfl) (zrm rfl) ?_
    replace h := Option.some.inj h
    subst h
    exact z_vret C O dX6_readEvent_350 rfl rfl
  · replace h := zite_f h hc0
    by_cases hc1 : x3 = 1
    · refine z_tcase (off := 79) C dX6_readEvent_41 1 hc1 (by decide) (by decide) (by decide) 120 (by decide) ?_
      replace h := zite_t h hc1
      refine z_aload_n C dX6_readEvent_120 1 rfl ?_
      refine rw_g_X6_115_RS_S C dX6_readEvent_121 ?_
      refine z_iload_n C dX6_readEvent_124 2 rfl ?_
      refine z_aload_n C dX6_readEvent_125 0 rfl ?_
      refine z_iconst C 0 dX6_readEvent_126 (by decide) ?_
      refine z_bipush C 99 dX6_readEvent_127 (by decide) ?_
      obtain ⟨y12, hy12, h⟩ := bind_o h
      refine rw_c_X6_87 C (Ct.frame (cR_number hy12) (w := wdR G qR y3.2 ++ (wdS G qS sS4)) (w' := wdR G qR y12.2 ++ (wdS G qS sS4)) (wr := wdS G qS sS4) [0, 1] [2, 3, 4, 5, 6, 7, 8, 9, 10, 11, 12] [11, 12, 0, 1, 2, 3, 4, 5, 6, 7, 8, 9, 10] rfl rfl rfl rfl (by decide) rfl rfl) 0 rfl dX6_readEvent_129 (Nat.le_of_ble_eq_true rfl) (zrm rfl) ?_
      refine rw_s_RS_S_10 C dX6_readEvent_132 h (fun sS13 h => ?_)
      refine z_aload_n C dX6_readEvent_133 1 rfl ?_
      refine rw_g_X6_120_RS_S C dX6_readEvent_134 ?_
      refine z_iload_n C dX6_readEvent_137 2 rfl ?_
      refine z_aload_n C dX6_readEvent_138 0 rfl ?_
      refine z_iconst C 0 dX6_readEvent_139 (by decide) ?_
      refine z_bipush C 99 dX6_readEvent_140 (by decide) ?_
      obtain ⟨y14, hy14, h⟩ := bind_o h
      refine rw_c_X6_87 C (Ct.frame (cR_number hy14) (w := wdR G qR y12.2 ++ (wdS G qS sS13)) (w' := wdR G qR y14.2 ++ (wdS G qS sS13)) (wr := wdS G qS sS13) [0, 1] [2, 3, 4, 5, 6, 7, 8, 9, 10, 11, 12] [11, 12, 0, 1, 2, 3, 4, 5, 6, 7, 8, 9, 10] rfl rfl rfl rfl (by decide) rfl rfl) 0 rfl dX6_readEvent_142 (Nat.le_of_ble_eq_true rfl) (zrm rfl) ?_
      refine rw_s_RS_S_11 C dX6_readEvent_145 h (fun sS15 h => ?_)
      refine z_aload_n C dX6_readEvent_146 1 rfl ?_
      refine rw_g_X6_115_RS_S C dX6_readEvent_147 ?_
      refine z_iload_n C dX6_readEvent_150 2 rfl ?_
      refine rw_l_RS_S_10 C dX6_readEvent_151 h (fun h => ?_)
      refine z_if_ne C dX6_readEvent_152 168 (by decide) h (fun h => ?_) (fun h => ?_)
      · refine z_iconst C 0 dX6_readEvent_168 (by decide) ?_
        refine z_perm [0, 1, 2] (lv' := [(0, .ref (qR 0)), (1, .ref (qS 0)), (2, .int x2)]) rfl ?_
        exact kR_readEvent_b169 C O  h
      · refine z_aload_n C dX6_readEvent_155 1 rfl ?_
        refine rw_g_X6_120_RS_S C dX6_readEvent_156 ?_
        refine z_iload_n C dX6_readEvent_159 2 rfl ?_
        refine rw_l_RS_S_11 C dX6_readEvent_160 h (fun h => ?_)
        refine z_if_ne C dX6_readEvent_161 168 (by decide) h (fun h => ?_) (fun h => ?_)
        · refine z_iconst C 0 dX6_readEvent_168 (by decide) ?_
          refine z_perm [0, 1, 2] (lv' := [(0, .ref (qR 0)), (1, .ref (qS 0)), (2, .int x2)]) rfl ?_
          exact kR_readEvent_b169 C O  h
        · refine z_iconst C 1 dX6_readEvent_164 (by decide) ?_
          refine z_goto C dX6_readEvent_165 169 (by decide) ?_
          refine z_perm [0, 1, 2] (lv' := [(0, .ref (qR 0)), (1, .ref (qS 0)), (2, .int x2)]) rfl ?_
          exact kR_readEvent_b169 C O  h
    · replace h := zite_f h hc1
      by_cases hc2 : x3 = 2
      · refine z_tcase (off := 155) C dX6_readEvent_41 2 hc2 (by decide) (by decide) (by decide) 196 (by decide) ?_
        replace h := zite_t h hc2
        refine z_aload_n C dX6_readEvent_196 1 rfl ?_
        refine rw_g_X6_115_RS_S C dX6_readEvent_197 ?_
        refine z_iload_n C dX6_readEvent_200 2 rfl ?_
        refine z_aload_n C dX6_readEvent_201 0 rfl ?_
        refine z_iconst C 0 dX6_readEvent_202 (by decide) ?_
        refine z_aload_n C dX6_readEvent_203 1 rfl ?_
        refine rw_g_X6_102_RS_S C dX6_readEvent_204 ?_
        refine z_iconst C 1 dX6_readEvent_207 (by decide) ?_
        refine z_isub C dX6_readEvent_208 ?_
        obtain ⟨y19, hy19, h⟩ := bind_o h
        refine rw_c_X6_87 C (Ct.frame (cR_number hy19) (w := wdR G qR y3.2 ++ (wdS G qS sS4)) (w' := wdR G qR y19.2 ++ (wdS G qS sS4)) (wr := wdS G qS sS4) [0, 1] [2, 3, 4, 5, 6, 7, 8, 9, 10, 11, 12] [11, 12, 0, 1, 2, 3, 4, 5, 6, 7, 8, 9, 10] rfl rfl rfl rfl (by decide) rfl rfl) 0 rfl dX6_readEvent_209 (Nat.le_of_ble_eq_true rfl) (zrm rfl) ?_
        refine rw_s_RS_S_10 C dX6_readEvent_212 h (fun sS20 h => ?_)
        refine z_aload_n C dX6_readEvent_213 1 rfl ?_
        refine rw_g_X6_120_RS_S C dX6_readEvent_214 ?_
        refine z_iload_n C dX6_readEvent_217 2 rfl ?_
        refine z_aload_n C dX6_readEvent_218 0 rfl ?_
        refine z_iconst C 0 dX6_readEvent_219 (by decide) ?_
        refine z_iconst C 2 dX6_readEvent_220 (by decide) ?_
        obtain ⟨y21, hy21, h⟩ := bind_o h
        refine rw_c_X6_87 C (Ct.frame (cR_number hy21) (w := wdR G qR y19.2 ++ (wdS G qS sS20)) (w' := wdR G qR y21.2 ++ (wdS G qS sS20)) (wr := wdS G qS sS20) [0, 1] [2, 3, 4, 5, 6, 7, 8, 9, 10, 11, 12] [11, 12, 0, 1, 2, 3, 4, 5, 6, 7, 8, 9, 10] rfl rfl rfl rfl (by decide) rfl rfl) 0 rfl dX6_readEvent_221 (Nat.le_of_ble_eq_true rfl) (zrm rfl) ?_
        refine rw_s_RS_S_11 C dX6_readEvent_224 h (fun sS22 h => ?_)
        refine z_aload_n C dX6_readEvent_225 1 rfl ?_
        refine rw_g_X6_123_RS_S C dX6_readEvent_226 ?_
        refine z_iload_n C dX6_readEvent_229 2 rfl ?_
        refine z_aload_n C dX6_readEvent_230 0 rfl ?_
        refine z_iconst C 1 dX6_readEvent_231 (by decide) ?_
        refine z_bipush C 99 dX6_readEvent_232 (by decide) ?_
        obtain ⟨y23, hy23, h⟩ := bind_o h
        refine rw_c_X6_87 C (Ct.frame (cR_number hy23) (w := wdR G qR y21.2 ++ (wdS G qS sS22)) (w' := wdR G qR y23.2 ++ (wdS G qS sS22)) (wr := wdS G qS sS22) [0, 1] [2, 3, 4, 5, 6, 7, 8, 9, 10, 11, 12] [11, 12, 0, 1, 2, 3, 4, 5, 6, 7, 8, 9, 10] rfl rfl rfl rfl (by decide) rfl rfl) 0 rfl dX6_readEvent_234 (Nat.le_of_ble_eq_true rfl) (zrm rfl) ?_
        refine rw_s_RS_S_12 C dX6_readEvent_237 h (fun sS24 h => ?_)
        refine z_goto C dX6_readEvent_238 346 (by decide) ?_
        refine z_aload_n C dX6_readEvent_346 0 rfl ?_
        obtain ⟨y25, hy25, h⟩ := bind_o h
        refine rw_c_X6_91 C (Ct.frame (cR_semicolon hy25) (w := wdR G qR y23.2 ++ (wdS G qS sS24)) (w' := wdR G qR y25 ++ (wdS G qS sS24)) (wr := wdS G qS sS24) [0, 1] [2, 3, 4, 5, 6, 7, 8, 9, 10, 11, 12] [11, 12, 0, 1, 2, 3, 4, 5, 6, 7, 8, 9, 10] rfl rfl rfl rfl (by decide) rfl rfl) 0 rfl dX6_readEvent_347 (Nat.le_of_ble_eq_true rfl) (zrm rfl) ?_
        replace h := Option.some.inj h
        subst h
        exact z_vret C O dX6_readEvent_350 rfl rfl
      · replace h := zite_f h hc2
        by_cases hc3 : x3 = 3
        · refine z_tcase (off := 200) C dX6_readEvent_41 3 hc3 (by decide) (by decide) (by decide) 241 (by decide) ?_
          replace h := zite_t h hc3
          refine z_aload_n C dX6_readEvent_241 1 rfl ?_
          refine rw_g_X6_115_RS_S C dX6_readEvent_242 ?_
          refine z_iload_n C dX6_readEvent_245 2 rfl ?_
          refine z_aload_n C dX6_readEvent_246 0 rfl ?_
          refine z_iconst C 0 dX6_readEvent_247 (by decide) ?_
          refine z_aload_n C dX6_readEvent_248 1 rfl ?_
          refine rw_g_X6_102_RS_S C dX6_readEvent_249 ?_
          refine z_iconst C 1 dX6_readEvent_252 (by decide) ?_
          refine z_isub C dX6_readEvent_253 ?_
          obtain ⟨y26, hy26, h⟩ := bind_o h
          refine rw_c_X6_87 C (Ct.frame (cR_number hy26) (w := wdR G qR y3.2 ++ (wdS G qS sS4)) (w' := wdR G qR y26.2 ++ (wdS G qS sS4)) (wr := wdS G qS sS4) [0, 1] [2, 3, 4, 5, 6, 7, 8, 9, 10, 11, 12] [11, 12, 0, 1, 2, 3, 4, 5, 6, 7, 8, 9, 10] rfl rfl rfl rfl (by decide) rfl rfl) 0 rfl dX6_readEvent_254 (Nat.le_of_ble_eq_true rfl) (zrm rfl) ?_
          refine rw_s_RS_S_10 C dX6_readEvent_257 h (fun sS27 h => ?_)
          refine z_aload_n C dX6_readEvent_258 1 rfl ?_
          refine rw_g_X6_120_RS_S C dX6_readEvent_259 ?_
          refine z_iload_n C dX6_readEvent_262 2 rfl ?_
          refine z_aload_n C dX6_readEvent_263 0 rfl ?_
          refine z_iconst C 0 dX6_readEvent_264 (by decide) ?_
          refine z_bipush C 99 dX6_readEvent_265 (by decide) ?_
          obtain ⟨y28, hy28, h⟩ := bind_o h
          refine rw_c_X6_87 C (Ct.frame (cR_number hy28) (w := wdR G qR y26.2 ++ (wdS G qS sS27)) (w' := wdR G qR y28.2 ++ (wdS G qS sS27)) (wr := wdS G qS sS27) [0, 1] [2, 3, 4, 5, 6, 7, 8, 9, 10, 11, 12] [11, 12, 0, 1, 2, 3, 4, 5, 6, 7, 8, 9, 10] rfl rfl rfl rfl (by decide) rfl rfl) 0 rfl dX6_readEvent_267 (Nat.le_of_ble_eq_true rfl) (zrm rfl) ?_
          refine rw_s_RS_S_11 C dX6_readEvent_270 h (fun sS29 h => ?_)
          refine z_goto C dX6_readEvent_271 346 (by decide) ?_
          refine z_aload_n C dX6_readEvent_346 0 rfl ?_
          obtain ⟨y30, hy30, h⟩ := bind_o h
          refine rw_c_X6_91 C (Ct.frame (cR_semicolon hy30) (w := wdR G qR y28.2 ++ (wdS G qS sS29)) (w' := wdR G qR y30 ++ (wdS G qS sS29)) (wr := wdS G qS sS29) [0, 1] [2, 3, 4, 5, 6, 7, 8, 9, 10, 11, 12] [11, 12, 0, 1, 2, 3, 4, 5, 6, 7, 8, 9, 10] rfl rfl rfl rfl (by decide) rfl rfl) 0 rfl dX6_readEvent_347 (Nat.le_of_ble_eq_true rfl) (zrm rfl) ?_
          replace h := Option.some.inj h
          subst h
          exact z_vret C O dX6_readEvent_350 rfl rfl
        · replace h := zite_f h hc3
          by_cases hc4 : x3 = 4
          · refine z_tcase (off := 233) C dX6_readEvent_41 4 hc4 (by decide) (by decide) (by decide) 274 (by decide) ?_
            replace h := zite_t h hc4
            refine z_aload_n C dX6_readEvent_274 1 rfl ?_
            refine rw_g_X6_115_RS_S C dX6_readEvent_275 ?_
            refine z_iload_n C dX6_readEvent_278 2 rfl ?_
            refine z_aload_n C dX6_readEvent_279 0 rfl ?_
            refine z_iconst C 0 dX6_readEvent_280 (by decide) ?_
            refine z_iconst C 2 dX6_readEvent_281 (by decide) ?_
            obtain ⟨y31, hy31, h⟩ := bind_o h
            refine rw_c_X6_87 C (Ct.frame (cR_number hy31) (w := wdR G qR y3.2 ++ (wdS G qS sS4)) (w' := wdR G qR y31.2 ++ (wdS G qS sS4)) (wr := wdS G qS sS4) [0, 1] [2, 3, 4, 5, 6, 7, 8, 9, 10, 11, 12] [11, 12, 0, 1, 2, 3, 4, 5, 6, 7, 8, 9, 10] rfl rfl rfl rfl (by decide) rfl rfl) 0 rfl dX6_readEvent_282 (Nat.le_of_ble_eq_true rfl) (zrm rfl) ?_
            refine rw_s_RS_S_10 C dX6_readEvent_285 h (fun sS32 h => ?_)
            refine z_aload_n C dX6_readEvent_286 1 rfl ?_
            refine rw_g_X6_120_RS_S C dX6_readEvent_287 ?_
            refine z_iload_n C dX6_readEvent_290 2 rfl ?_
            refine z_aload_n C dX6_readEvent_291 0 rfl ?_
            refine z_iconst C 1 dX6_readEvent_292 (by decide) ?_
            refine z_bipush C 99 dX6_readEvent_293 (by decide) ?_
            obtain ⟨y33, hy33, h⟩ := bind_o h
            refine rw_c_X6_87 C (Ct.frame (cR_number hy33) (w := wdR G qR y31.2 ++ (wdS G qS sS32)) (w' := wdR G qR y33.2 ++ (wdS G qS sS32)) (wr := wdS G qS sS32) [0, 1] [2, 3, 4, 5, 6, 7, 8, 9, 10, 11, 12] [11, 12, 0, 1, 2, 3, 4, 5, 6, 7, 8, 9, 10] rfl rfl rfl rfl (by decide) rfl rfl) 0 rfl dX6_readEvent_295 (Nat.le_of_ble_eq_true rfl) (zrm rfl) ?_
            refine rw_s_RS_S_11 C dX6_readEvent_298 h (fun sS34 h => ?_)
            refine z_goto C dX6_readEvent_299 346 (by decide) ?_
            refine z_aload_n C dX6_readEvent_346 0 rfl ?_
            obtain ⟨y35, hy35, h⟩ := bind_o h
            refine rw_c_X6_91 C (Ct.frame (cR_semicolon hy35) (w := wdR G qR y33.2 ++ (wdS G qS sS34)) (w' := wdR G qR y35 ++ (wdS G qS sS34)) (wr := wdS G qS sS34) [0, 1] [2, 3, 4, 5, 6, 7, 8, 9, 10, 11, 12] [11, 12, 0, 1, 2, 3, 4, 5, 6, 7, 8, 9, 10] rfl rfl rfl rfl (by decide) rfl rfl) 0 rfl dX6_readEvent_347 (Nat.le_of_ble_eq_true rfl) (zrm rfl) ?_
            replace h := Option.some.inj h
            subst h
            exact z_vret C O dX6_readEvent_350 rfl rfl
          · replace h := zite_f h hc4
            by_cases hc5 : x3 = 5
            · refine z_tcase (off := 261) C dX6_readEvent_41 5 hc5 (by decide) (by decide) (by decide) 302 (by decide) ?_
              replace h := zite_t h hc5
              refine z_aload_n C dX6_readEvent_302 1 rfl ?_
              refine rw_g_X6_115_RS_S C dX6_readEvent_303 ?_
              refine z_iload_n C dX6_readEvent_306 2 rfl ?_
              refine z_aload_n C dX6_readEvent_307 0 rfl ?_
              refine z_iconst C 0 dX6_readEvent_308 (by decide) ?_
              refine z_aload_n C dX6_readEvent_309 1 rfl ?_
              refine rw_g_X6_53_RS_S C dX6_readEvent_310 ?_
              refine z_iconst C 1 dX6_readEvent_313 (by decide) ?_
              refine z_isub C dX6_readEvent_314 ?_
              obtain ⟨y36, hy36, h⟩ := bind_o h
              refine rw_c_X6_87 C (Ct.frame (cR_number hy36) (w := wdR G qR y3.2 ++ (wdS G qS sS4)) (w' := wdR G qR y36.2 ++ (wdS G qS sS4)) (wr := wdS G qS sS4) [0, 1] [2, 3, 4, 5, 6, 7, 8, 9, 10, 11, 12] [11, 12, 0, 1, 2, 3, 4, 5, 6, 7, 8, 9, 10] rfl rfl rfl rfl (by decide) rfl rfl) 0 rfl dX6_readEvent_315 (Nat.le_of_ble_eq_true rfl) (zrm rfl) ?_
              refine rw_s_RS_S_10 C dX6_readEvent_318 h (fun sS37 h => ?_)
              refine z_goto C dX6_readEvent_319 346 (by decide) ?_
              refine z_aload_n C dX6_readEvent_346 0 rfl ?_
              obtain ⟨y38, hy38, h⟩ := bind_o h
              refine rw_c_X6_91 C (Ct.frame (cR_semicolon hy38) (w := wdR G qR y36.2 ++ (wdS G qS sS37)) (w' := wdR G qR y38 ++ (wdS G qS sS37)) (wr := wdS G qS sS37) [0, 1] [2, 3, 4, 5, 6, 7, 8, 9, 10, 11, 12] [11, 12, 0, 1, 2, 3, 4, 5, 6, 7, 8, 9, 10] rfl rfl rfl rfl (by decide) rfl rfl) 0 rfl dX6_readEvent_347 (Nat.le_of_ble_eq_true rfl) (zrm rfl) ?_
              replace h := Option.some.inj h
              subst h
              exact z_vret C O dX6_readEvent_350 rfl rfl
            · replace h := zite_f h hc5
              refine z_tout C dX6_readEvent_41 (ztoutL 6 (by decide) (by intro k hk; match k, hk with | 0, _ => exact hc0 | 1, _ => exact hc1 | 2, _ => exact hc2 | 3, _ => exact hc3 | 4, _ => exact hc4 | 5, _ => exact hc5 | k + 6, hk => exact absurd hk (by omega))) 322 (by decide) ?_
              refine z_aload_n C dX6_readEvent_322 1 rfl ?_
              refine rw_g_X6_115_RS_S C dX6_readEvent_323 ?_
              refine z_iload_n C dX6_readEvent_326 2 rfl ?_
              refine z_aload_n C dX6_readEvent_327 0 rfl ?_
              refine z_iconst C 0 dX6_readEvent_328 (by decide) ?_
              refine z_iconst C 4 dX6_readEvent_329 (by decide) ?_
              obtain ⟨y39, hy39, h⟩ := bind_o h
              refine rw_c_X6_87 C (Ct.frame (cR_number hy39) (w := wdR G qR y3.2 ++ (wdS G qS sS4)) (w' := wdR G qR y39.2 ++ (wdS G qS sS4)) (wr := wdS G qS sS4) [0, 1] [2, 3, 4, 5, 6, 7, 8, 9, 10, 11, 12] [11, 12, 0, 1, 2, 3, 4, 5, 6, 7, 8, 9, 10] rfl rfl rfl rfl (by decide) rfl rfl) 0 rfl dX6_readEvent_330 (Nat.le_of_ble_eq_true rfl) (zrm rfl) ?_
              refine rw_s_RS_S_10 C dX6_readEvent_333 h (fun sS40 h => ?_)
              refine z_aload_n C dX6_readEvent_334 1 rfl ?_
              refine rw_g_X6_120_RS_S C dX6_readEvent_335 ?_
              refine z_iload_n C dX6_readEvent_338 2 rfl ?_
              refine z_aload_n C dX6_readEvent_339 0 rfl ?_
              refine z_iconst C 0 dX6_readEvent_340 (by decide) ?_
              refine z_iconst C 2 dX6_readEvent_341 (by decide) ?_
              obtain ⟨y41, hy41, h⟩ := bind_o h
              refine rw_c_X6_87 C (Ct.frame (cR_number hy41) (w := wdR G qR y39.2 ++ (wdS G qS sS40)) (w' := wdR G qR y41.2 ++ (wdS G qS sS40)) (wr := wdS G qS sS40) [0, 1] [2, 3, 4, 5, 6, 7, 8, 9, 10, 11, 12] [11, 12, 0, 1, 2, 3, 4, 5, 6, 7, 8, 9, 10] rfl rfl rfl rfl (by decide) rfl rfl) 0 rfl dX6_readEvent_342 (Nat.le_of_ble_eq_true rfl) (zrm rfl) ?_
              refine rw_s_RS_S_11 C dX6_readEvent_345 h (fun sS42 h => ?_)
              refine z_aload_n C dX6_readEvent_346 0 rfl ?_
              obtain ⟨y43, hy43, h⟩ := bind_o h
              refine rw_c_X6_91 C (Ct.frame (cR_semicolon hy43) (w := wdR G qR y41.2 ++ (wdS G qS sS42)) (w' := wdR G qR y43 ++ (wdS G qS sS42)) (wr := wdS G qS sS42) [0, 1] [2, 3, 4, 5, 6, 7, 8, 9, 10, 11, 12] [11, 12, 0, 1, 2, 3, 4, 5, 6, 7, 8, 9, 10] rfl rfl rfl rfl (by decide) rfl rfl) 0 rfl dX6_readEvent_347 (Nat.le_of_ble_eq_true rfl) (zrm rfl) ?_
              replace h := Option.some.inj h
              subst h
              exact z_vret C O dX6_readEvent_350 rfl rfl
set_option maxHeartbeats 4000000 in
set_option maxRecDepth 100000 in
theorem cR_readEvent {l : Launch} {G : zG} {qR qS : Nat → Nat} {sR : zSt} {sS : zSt} {a1 : Int32} {a2 : Int32} {out : zSt × zSt} (h : fR_readEvent sR sS a1 a2 = some out) : Ct l G yX6_readEvent cX6_readEvent 5 none rmX6_readEvent [.ref (qR 0), .ref (qS 0), .int a1, .int a2] (wdR G qR sR ++ (wdS G qS sS)) none (wdR G qR out.1 ++ (wdS G qS out.2)) := by
  refine zMet (own := RX6) rfl (by decide) (Nat.le_of_ble_eq_true rfl) (fun x hl C O => ?_)
  show zW x G 0 0 0 [(0, .ref (qR 0)), (1, .ref (qS 0)), (2, .int a1), (3, .int a2)] [] _
  unfold fR_readEvent at h
  refine z_aload_n C dX6_readEvent_0 0 rfl ?_
  obtain ⟨y1, hy1, h⟩ := bind_o h
  refine rw_c_X6_33 C (Ct.frame (cR_step hy1) (w := wdR G qR sR ++ (wdS G qS sS)) (w' := wdR G qR y1 ++ (wdS G qS sS)) (wr := wdS G qS sS) [0, 1] [2, 3, 4, 5, 6, 7, 8, 9, 10, 11, 12] [11, 12, 0, 1, 2, 3, 4, 5, 6, 7, 8, 9, 10] rfl rfl rfl rfl (by decide) rfl rfl) 0 rfl dX6_readEvent_1 (Nat.le_of_ble_eq_true rfl) (zrm rfl) ?_
  refine z_aload_n C dX6_readEvent_4 1 rfl ?_
  refine rw_g_X6_109_RS_S C dX6_readEvent_5 ?_
  refine z_iload_n C dX6_readEvent_8 2 rfl ?_
  refine z_iload_n C dX6_readEvent_9 3 rfl ?_
  refine rw_s_RS_S_8 C dX6_readEvent_10 h (fun sS2 h => ?_)
  refine z_aload_n C dX6_readEvent_11 1 rfl ?_
  refine rw_g_X6_112_RS_S C dX6_readEvent_12 ?_
  refine z_iload_n C dX6_readEvent_15 2 rfl ?_
  refine z_aload_n C dX6_readEvent_16 0 rfl ?_
  refine z_iload_n C dX6_readEvent_17 2 rfl ?_
  refine z_if_ne C dX6_readEvent_18 25 (by decide) h (fun h => ?_) (fun h => ?_)
  · refine z_aload_n C dX6_readEvent_25 1 rfl ?_
    refine rw_g_X6_112_RS_S C dX6_readEvent_26 ?_
    refine z_iload_n C dX6_readEvent_29 2 rfl ?_
    refine z_iconst C 1 dX6_readEvent_30 (by decide) ?_
    refine z_isub C dX6_readEvent_31 ?_
    refine rw_l_RS_S_9 C dX6_readEvent_32 h (fun h => ?_)
    exact kR_readEvent_b33 C O  h
  · refine z_iconst C 0 dX6_readEvent_21 (by decide) ?_
    refine z_goto C dX6_readEvent_22 33 (by decide) ?_
    exact kR_readEvent_b33 C O  h
set_option maxHeartbeats 4000000 in
set_option maxRecDepth 100000 in
theorem kR_readEvents_b80 {x : zX} {G : zG} {qR qS : Nat → Nat}  {out : zSt × zSt} (C : zC x G RX6 cX6_readEvents 5 none rmX6_readEvents) (O : zO x G none (wdR G qR out.1 ++ (wdS G qS out.2)) 0 0) {K2 : zSt → zSt → Int32 → Option (zSt × zSt)} (hK2 : ∀ (sR : zSt) (sS : zSt) (x2 : Int32), K2 sR sS x2 = some out → zW x G 0 0 2 [(0, .ref (qR 0)), (1, .ref (qS 0)), (2, .int x2)] [] (wdR G qR sR ++ (wdS G qS sS))) {sR : zSt} {sS : zSt} {x2 : Int32} (h : fR_readEvents_b80 K2 sR sS x2 = some out) : zW x G 0 0 80 [(0, .ref (qR 0)), (1, .ref (qS 0)), (2, .int x2)] [] (wdR G qR sR ++ (wdS G qS sS)) := by
  unfold fR_readEvents_b80 at h
  refine z_aload_n C dX6_readEvents_80 0 rfl ?_
  refine z_iconst C 3 dX6_readEvents_81 (by decide) ?_
  obtain ⟨y2, hy2, h⟩ := bind_o h
  refine rw_c_X6_49 C (Ct.frame (cR_fail hy2) (w := wdR G qR sR ++ (wdS G qS sS)) (w' := wdR G qR y2 ++ (wdS G qS sS)) (wr := wdS G qS sS) [0, 1] [2, 3, 4, 5, 6, 7, 8, 9, 10, 11, 12] [11, 12, 0, 1, 2, 3, 4, 5, 6, 7, 8, 9, 10] rfl rfl rfl rfl (by decide) rfl rfl) 0 rfl dX6_readEvents_82 (Nat.le_of_ble_eq_true rfl) (zrm rfl) ?_
  refine z_goto C dX6_readEvents_85 127 (by decide) ?_
  refine z_iinc C dX6_readEvents_127 2 rfl 1 (by decide) (by decide) (lvr := [(0, .ref (qR 0)), (1, .ref (qS 0))]) rfl h (fun x2_3 h => ?_)
  refine z_goto C dX6_readEvents_130 2 (by decide) ?_
  refine z_perm [1, 2, 0] (lv' := [(0, .ref (qR 0)), (1, .ref (qS 0)), (2, .int x2_3)]) rfl ?_
  exact hK2 _ _  _ h
set_option maxHeartbeats 4000000 in
set_option maxRecDepth 100000 in
theorem kR_readEvents_b88 {x : zX} {G : zG} {qR qS : Nat → Nat}  {out : zSt × zSt} (C : zC x G RX6 cX6_readEvents 5 none rmX6_readEvents) (O : zO x G none (wdR G qR out.1 ++ (wdS G qS out.2)) 0 0) {K2 : zSt → zSt → Int32 → Option (zSt × zSt)} (hK2 : ∀ (sR : zSt) (sS : zSt) (x2 : Int32), K2 sR sS x2 = some out → zW x G 0 0 2 [(0, .ref (qR 0)), (1, .ref (qS 0)), (2, .int x2)] [] (wdR G qR sR ++ (wdS G qS sS))) {sR : zSt} {sS : zSt} {x2 : Int32} {x3 : Int32} {x4 : Int32} (h : fR_readEvents_b88 K2 sR sS x2 x3 x4 = some out) : zW x G 0 0 88 [(0, .ref (qR 0)), (1, .ref (qS 0)), (2, .int x2), (3, .int x3), (4, .int x4)] [] (wdR G qR sR ++ (wdS G qS sS)) := by
  unfold fR_readEvents_b88 at h
  refine z_aload_n C dX6_readEvents_88 0 rfl ?_
  refine z_aload_n C dX6_readEvents_89 1 rfl ?_
  refine z_aload_n C dX6_readEvents_90 1 rfl ?_
  refine rw_g_X6_99_RS_S C dX6_readEvents_91 ?_
  refine z_iload_n C dX6_readEvents_94 3 rfl ?_
  obtain ⟨y4, hy4, h⟩ := bind_o h
  refine rw_c_X6_105 C (cR_readEvent hy4) 0 rfl dX6_readEvents_95 (Nat.le_of_ble_eq_true rfl) (zrm rfl) ?_
  refine z_aload_n C dX6_readEvents_98 1 rfl ?_
  refine z_dup C dX6_readEvents_99 rfl ?_
  refine rw_g_X6_99_RS_S C dX6_readEvents_100 ?_
  refine z_iconst C 1 dX6_readEvents_103 (by decide) ?_
  refine z_iadd C dX6_readEvents_104 ?_
  refine rw_p_X6_99_RS_S C dX6_readEvents_105 h (fun sS5 h => ?_)
  refine z_aload_n C dX6_readEvents_108 1 rfl ?_
  refine z_dup C dX6_readEvents_109 rfl ?_
  refine rw_g_X6_102_RS_S C dX6_readEvents_110 ?_
  refine z_iload C dX6_readEvents_113 4 rfl ?_
  refine z_if_eq C dX6_readEvents_115 122 (by decide) h (fun h => ?_) (fun h => ?_)
  · refine z_iconst C 0 dX6_readEvents_122 (by decide) ?_
    refine z_iadd C dX6_readEvents_123 ?_
    refine rw_p_X6_102_RS_S C dX6_readEvents_124 h (fun sS6 h => ?_)
    refine z_iinc C dX6_readEvents_127 2 rfl 1 (by decide) (by decide) (lvr := [(0, .ref (qR 0)), (1, .ref (qS 0)), (3, .int x3), (4, .int x4)]) rfl h (fun x2_7 h => ?_)
    refine z_goto C dX6_readEvents_130 2 (by decide) ?_
    refine z_perm [1, 2, 0] (lv' := [(0, .ref (qR 0)), (1, .ref (qS 0)), (2, .int x2_7)]) rfl ?_
    exact hK2 _ _  _ h
  · refine z_iconst C 1 dX6_readEvents_118 (by decide) ?_
    refine z_goto C dX6_readEvents_119 123 (by decide) ?_
    refine z_iadd C dX6_readEvents_123 ?_
    refine rw_p_X6_102_RS_S C dX6_readEvents_124 h (fun sS8 h => ?_)
    refine z_iinc C dX6_readEvents_127 2 rfl 1 (by decide) (by decide) (lvr := [(0, .ref (qR 0)), (1, .ref (qS 0)), (3, .int x3), (4, .int x4)]) rfl h (fun x2_9 h => ?_)
    refine z_goto C dX6_readEvents_130 2 (by decide) ?_
    refine z_perm [1, 2, 0] (lv' := [(0, .ref (qR 0)), (1, .ref (qS 0)), (2, .int x2_9)]) rfl ?_
    exact hK2 _ _  _ h
set_option maxHeartbeats 4000000 in
set_option maxRecDepth 100000 in
theorem kR_readEvents_b43 {x : zX} {G : zG} {qR qS : Nat → Nat}  {out : zSt × zSt} (C : zC x G RX6 cX6_readEvents 5 none rmX6_readEvents) (O : zO x G none (wdR G qR out.1 ++ (wdS G qS out.2)) 0 0) {K2 : zSt → zSt → Int32 → Option (zSt × zSt)} (hK2 : ∀ (sR : zSt) (sS : zSt) (x2 : Int32), K2 sR sS x2 = some out → zW x G 0 0 2 [(0, .ref (qR 0)), (1, .ref (qS 0)), (2, .int x2)] [] (wdR G qR sR ++ (wdS G qS sS))) {sR : zSt} {sS : zSt} {x2 : Int32} {x3 : Int32} {t0 : Int32} (h : fR_readEvents_b43 K2 sR sS x2 x3 t0 = some out) : zW x G 0 0 43 [(0, .ref (qR 0)), (1, .ref (qS 0)), (2, .int x2), (3, .int x3)] [.int t0] (wdR G qR sR ++ (wdS G qS sS)) := by
  unfold fR_readEvents_b43 at h
  refine z_istore C dX6_readEvents_43 (by decide) (lvr := [(0, .ref (qR 0)), (1, .ref (qS 0)), (2, .int x2), (3, .int x3)]) rfl ?_
  refine z_iload_n C dX6_readEvents_45 4 rfl ?_
  refine z_if_ge C dX6_readEvents_46 57 (by decide) h (fun h => ?_) (fun h => ?_)
  · refine z_aload_n C dX6_readEvents_57 2 rfl ?_
    refine rw_g_X6_99_RS_S C dX6_readEvents_58 ?_
    refine z_bipush C 30 dX6_readEvents_61 (by decide) ?_
    refine z_icmp_ge C dX6_readEvents_63 80 (by decide) h (fun h => ?_) (fun h => ?_)
    · refine z_perm [1, 2, 3] (lv' := [(0, .ref (qR 0)), (1, .ref (qS 0)), (2, .int x2)]) rfl ?_
      exact kR_readEvents_b80 C O hK2 h
    · refine z_iload C dX6_readEvents_66 0 rfl ?_
      refine z_if_eq C dX6_readEvents_68 88 (by decide) h (fun h => ?_) (fun h => ?_)
      · refine z_perm [1, 2, 3, 4, 0] (lv' := [(0, .ref (qR 0)), (1, .ref (qS 0)), (2, .int x2), (3, .int x3), (4, .int t0)]) rfl ?_
        exact kR_readEvents_b88 C O hK2 h
      · refine z_aload_n C dX6_readEvents_71 2 rfl ?_
        refine rw_g_X6_102_RS_S C dX6_readEvents_72 ?_
        refine z_bipush C 10 dX6_readEvents_75 (by decide) ?_
        refine z_icmp_lt C dX6_readEvents_77 88 (by decide) h (fun h => ?_) (fun h => ?_)
        · refine z_perm [1, 2, 3, 4, 0] (lv' := [(0, .ref (qR 0)), (1, .ref (qS 0)), (2, .int x2), (3, .int x3), (4, .int t0)]) rfl ?_
          exact kR_readEvents_b88 C O hK2 h
        · refine z_perm [1, 2, 3] (lv' := [(0, .ref (qR 0)), (1, .ref (qS 0)), (2, .int x2)]) rfl ?_
          exact kR_readEvents_b80 C O hK2 h
  · refine z_aload_n C dX6_readEvents_49 1 rfl ?_
    refine z_iconst C 1 dX6_readEvents_50 (by decide) ?_
    obtain ⟨y10, hy10, h⟩ := bind_o h
    refine rw_c_X6_49 C (Ct.frame (cR_fail hy10) (w := wdR G qR sR ++ (wdS G qS sS)) (w' := wdR G qR y10 ++ (wdS G qS sS)) (wr := wdS G qS sS) [0, 1] [2, 3, 4, 5, 6, 7, 8, 9, 10, 11, 12] [11, 12, 0, 1, 2, 3, 4, 5, 6, 7, 8, 9, 10] rfl rfl rfl rfl (by decide) rfl rfl) 0 rfl dX6_readEvents_51 (Nat.le_of_ble_eq_true rfl) (zrm rfl) ?_
    refine z_goto C dX6_readEvents_54 127 (by decide) ?_
    refine z_iinc C dX6_readEvents_127 3 rfl 1 (by decide) (by decide) (lvr := [(4, .int t0), (0, .ref (qR 0)), (1, .ref (qS 0)), (3, .int x3)]) rfl h (fun x2_11 h => ?_)
    refine z_goto C dX6_readEvents_130 2 (by decide) ?_
    refine z_perm [2, 3, 0] (lv' := [(0, .ref (qR 0)), (1, .ref (qS 0)), (2, .int x2_11)]) rfl ?_
    exact hK2 _ _  _ h
set_option maxHeartbeats 4000000 in
set_option maxRecDepth 100000 in
theorem kR_readEvents_l2b {x : zX} {G : zG} {qR qS : Nat → Nat}  {out : zSt × zSt} (C : zC x G RX6 cX6_readEvents 5 none rmX6_readEvents) (O : zO x G none (wdR G qR out.1 ++ (wdS G qS out.2)) 0 0) {K2 : zSt → zSt → Int32 → Option (zSt × zSt)} (hK2 : ∀ (sR : zSt) (sS : zSt) (x2 : Int32), K2 sR sS x2 = some out → zW x G 0 0 2 [(0, .ref (qR 0)), (1, .ref (qS 0)), (2, .int x2)] [] (wdR G qR sR ++ (wdS G qS sS))) {sR : zSt} {sS : zSt} {x2 : Int32} (h : fR_readEvents_l2b K2 sR sS x2 = some out) : zW x G 0 0 2 [(0, .ref (qR 0)), (1, .ref (qS 0)), (2, .int x2)] [] (wdR G qR sR ++ (wdS G qS sS)) := by
  unfold fR_readEvents_l2b at h
  refine z_iload_n C dX6_readEvents_2 2 rfl ?_
  refine z_bipush C 30 dX6_readEvents_3 (by decide) ?_
  refine z_icmp_gt C dX6_readEvents_5 133 (by decide) h (fun h => ?_) (fun h => ?_)
  · replace h := Option.some.inj h
    subst h
    exact z_vret C O dX6_readEvents_133 rfl rfl
  · refine z_aload_n C dX6_readEvents_8 0 rfl ?_
    refine rw_g_X6_24_RS_R C dX6_readEvents_9 ?_
    refine z_if_ne C dX6_readEvents_12 133 (by decide) h (fun h => ?_) (fun h => ?_)
    · replace h := Option.some.inj h
      subst h
      exact z_vret C O dX6_readEvents_133 rfl rfl
    · refine z_aload_n C dX6_readEvents_15 0 rfl ?_
      refine rw_g_X6_94_RS_R C dX6_readEvents_16 ?_
      refine z_if_eq C dX6_readEvents_19 133 (by decide) h (fun h => ?_) (fun h => ?_)
      · replace h := Option.some.inj h
        subst h
        exact z_vret C O dX6_readEvents_133 rfl rfl
      · refine z_aload_n C dX6_readEvents_22 0 rfl ?_
        refine z_ldcS C 5 (by decide) dX6_readEvents_23 ?_
        obtain ⟨y1, hy1, h⟩ := bind_o h
        refine rw_c_X6_45 C (Ct.frame (cR_choice hy1) (w := wdR G qR sR ++ (wdS G qS sS)) (w' := wdR G qR sR ++ (wdS G qS sS)) (wr := wdS G qS sS) [0, 1] [2, 3, 4, 5, 6, 7, 8, 9, 10, 11, 12] [11, 12, 0, 1, 2, 3, 4, 5, 6, 7, 8, 9, 10] rfl rfl rfl rfl (by decide) rfl rfl) 0 rfl dX6_readEvents_25 (Nat.le_of_ble_eq_true rfl) (zrm rfl) ?_
        refine z_istore_n C dX6_readEvents_28 (by decide) (lvr := [(0, .ref (qR 0)), (1, .ref (qS 0)), (2, .int x2)]) rfl ?_
        refine z_iload_n C dX6_readEvents_29 0 rfl ?_
        refine z_if_eq C dX6_readEvents_30 38 (by decide) h (fun h => ?_) (fun h => ?_)
        · refine z_iconst C 1 dX6_readEvents_38 (by decide) ?_
          refine z_goto C dX6_readEvents_39 43 (by decide) ?_
          refine z_perm [1, 2, 3, 0] (lv' := [(0, .ref (qR 0)), (1, .ref (qS 0)), (2, .int x2), (3, .int y1)]) rfl ?_
          exact kR_readEvents_b43 C O hK2 h
        · refine z_iload_n C dX6_readEvents_33 0 rfl ?_
          refine z_iconst C 1 dX6_readEvents_34 (by decide) ?_
          refine z_icmp_ne C dX6_readEvents_35 42 (by decide) h (fun h => ?_) (fun h => ?_)
          · refine z_iconst C 0 dX6_readEvents_42 (by decide) ?_
            refine z_perm [1, 2, 3, 0] (lv' := [(0, .ref (qR 0)), (1, .ref (qS 0)), (2, .int x2), (3, .int y1)]) rfl ?_
            exact kR_readEvents_b43 C O hK2 h
          · refine z_iconst C 1 dX6_readEvents_38 (by decide) ?_
            refine z_goto C dX6_readEvents_39 43 (by decide) ?_
            refine z_perm [1, 2, 3, 0] (lv' := [(0, .ref (qR 0)), (1, .ref (qS 0)), (2, .int x2), (3, .int y1)]) rfl ?_
            exact kR_readEvents_b43 C O hK2 h
set_option maxHeartbeats 4000000 in
set_option maxRecDepth 100000 in
theorem kR_readEvents_l2 {x : zX} {G : zG} {qR qS : Nat → Nat}  {out : zSt × zSt} (C : zC x G RX6 cX6_readEvents 5 none rmX6_readEvents) (O : zO x G none (wdR G qR out.1 ++ (wdS G qS out.2)) 0 0)  : ∀ (n : Nat) {sR : zSt} {sS : zSt} {x2 : Int32}, fR_readEvents_l2  n sR sS x2 = some out → zW x G 0 0 2 [(0, .ref (qR 0)), (1, .ref (qS 0)), (2, .int x2)] [] (wdR G qR sR ++ (wdS G qS sS)) := by
  intro n
  induction n with
  | zero =>
    intro sR sS x2 h
    have h : (none : Option (zSt × zSt)) = some out := h
    cases h
  | succ n ih =>
    intro sR sS x2 h
    exact kR_readEvents_l2b C O (K2 := fun v0 v1 v2 => fR_readEvents_l2  n v0 v1 v2) (fun sR sS x2 h => ih h) h
set_option maxHeartbeats 4000000 in
set_option maxRecDepth 100000 in
theorem cR_readEvents {l : Launch} {G : zG} {qR qS : Nat → Nat} {sR : zSt} {sS : zSt}  {out : zSt × zSt} (h : fR_readEvents sR sS  = some out) : Ct l G yX6_readEvents cX6_readEvents 5 none rmX6_readEvents [.ref (qR 0), .ref (qS 0)] (wdR G qR sR ++ (wdS G qS sS)) none (wdR G qR out.1 ++ (wdS G qS out.2)) := by
  refine zMet (own := RX6) rfl (by decide) (Nat.le_of_ble_eq_true rfl) (fun x hl C O => ?_)
  show zW x G 0 0 0 [(0, .ref (qR 0)), (1, .ref (qS 0))] [] _
  unfold fR_readEvents at h
  refine z_iconst C 0 dX6_readEvents_0 (by decide) ?_
  refine z_istore_n C dX6_readEvents_1 (by decide) (lvr := [(0, .ref (qR 0)), (1, .ref (qS 0))]) rfl ?_
  refine z_perm [1, 2, 0] (lv' := [(0, .ref (qR 0)), (1, .ref (qS 0)), (2, .int 0)]) rfl ?_
  exact kR_readEvents_l2 C O  zF h
set_option maxHeartbeats 4000000 in
set_option maxRecDepth 100000 in
theorem cR_readInto {l : Launch} {G : zG} {qR qS : Nat → Nat} {sR : zSt} {sS : zSt}  {out : zSt × zSt} (h : fR_readInto sR sS  = some out) : Ct l G yX6_readInto cX6_readInto 2 none rmX6_readInto [.ref (qR 0), .ref (qS 0)] (wdR G qR sR ++ (wdS G qS sS)) none (wdR G qR out.1 ++ (wdS G qS out.2)) := by
  refine zMet (own := RX6) rfl (by decide) (Nat.le_of_ble_eq_true rfl) (fun x hl C O => ?_)
  show zW x G 0 0 0 [(0, .ref (qR 0)), (1, .ref (qS 0))] [] _
  unfold fR_readInto at h
  refine z_aload_n C dX6_readInto_0 1 rfl ?_
  obtain ⟨y1, hy1, h⟩ := bind_o h
  refine rw_c_X6_19 C (Ct.frame (cS_clear hy1) (w := wdR G qR sR ++ (wdS G qS sS)) (w' := wdR G qR sR ++ (wdS G qS y1)) (wr := wdR G qR sR) [2, 3, 4, 5, 6, 7, 8, 9, 10, 11, 12] [0, 1] [0, 1, 2, 3, 4, 5, 6, 7, 8, 9, 10, 11, 12] rfl rfl rfl rfl (by decide) rfl rfl) 2 rfl dX6_readInto_1 (Nat.le_of_ble_eq_true rfl) (zrm rfl) ?_
  refine z_aload_n C dX6_readInto_4 0 rfl ?_
  refine z_iconst C 0 dX6_readInto_5 (by decide) ?_
  refine rw_p_X6_24_RS_R C dX6_readInto_6 h (fun sR2 h => ?_)
  refine z_aload_n C dX6_readInto_9 0 rfl ?_
  refine z_iconst C 0 dX6_readInto_10 (by decide) ?_
  refine rw_p_X6_27_RS_R C dX6_readInto_11 h (fun sR3 h => ?_)
  refine z_aload_n C dX6_readInto_14 0 rfl ?_
  refine z_iconst C 0 dX6_readInto_15 (by decide) ?_
  refine rw_p_X6_30_RS_R C dX6_readInto_16 h (fun sR4 h => ?_)
  refine z_aload_n C dX6_readInto_19 0 rfl ?_
  obtain ⟨y5, hy5, h⟩ := bind_o h
  refine rw_c_X6_33 C (Ct.frame (cR_step hy5) (w := wdR G qR sR4 ++ (wdS G qS y1)) (w' := wdR G qR y5 ++ (wdS G qS y1)) (wr := wdS G qS y1) [0, 1] [2, 3, 4, 5, 6, 7, 8, 9, 10, 11, 12] [11, 12, 0, 1, 2, 3, 4, 5, 6, 7, 8, 9, 10] rfl rfl rfl rfl (by decide) rfl rfl) 0 rfl dX6_readInto_20 (Nat.le_of_ble_eq_true rfl) (zrm rfl) ?_
  refine z_aload_n C dX6_readInto_23 0 rfl ?_
  refine z_aload_n C dX6_readInto_24 1 rfl ?_
  obtain ⟨y6, hy6, h⟩ := bind_o h
  refine rw_c_X6_36 C (cR_readLaws hy6) 0 rfl dX6_readInto_25 (Nat.le_of_ble_eq_true rfl) (zrm rfl) ?_
  refine z_aload_n C dX6_readInto_28 0 rfl ?_
  refine z_aload_n C dX6_readInto_29 1 rfl ?_
  obtain ⟨y7, hy7, h⟩ := bind_o h
  refine rw_c_X6_40 C (cR_readEvents hy7) 0 rfl dX6_readInto_30 (Nat.le_of_ble_eq_true rfl) (zrm rfl) ?_
  refine z_aload_n C dX6_readInto_33 0 rfl ?_
  refine z_iconst C 0 dX6_readInto_34 (by decide) ?_
  refine rw_p_X6_15_RS_R C dX6_readInto_35 h (fun sR8 h => ?_)
  replace h := Option.some.inj h
  subst h
  exact z_vret C O dX6_readInto_38 rfl rfl

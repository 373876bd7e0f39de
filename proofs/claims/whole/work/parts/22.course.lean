theorem rw_u_210 : Cond.fieldLink RX2 12 "WhatWasHers$Course" "story" "LWhatWasHers$Story;" ∈ zU := zm 210 (by decide +kernel) rfl
theorem rw_u_212 : Cond.fieldLink RX2 61 "WhatWasHers$Course" "law" "I" ∈ zU := zm 212 (by decide +kernel) rfl
theorem rw_u_220 : Cond.fieldLink RX2 65 "WhatWasHers$Course" "things" "I" ∈ zU := zm 220 (by decide +kernel) rfl
theorem rw_u_244 : Cond.fieldLink RX2 68 "WhatWasHers$Course" "puts" "I" ∈ zU := zm 244 (by decide +kernel) rfl
theorem rw_u_215 : Cond.fieldLink RX2 18 "WhatWasHers$Course" "agreed" "[I" ∈ zU := zm 215 (by decide +kernel) rfl
theorem rw_u_575 : Cond.constant RX2 71 (-1000000) ∈ zU := zm 575 (by decide +kernel) rfl
theorem rw_u_352 : Cond.code yJ7_fill_53178 cJ7_fill_53178 4 none ∈ zU := zm 352 (by decide +kernel) rfl
theorem rw_u_77 : Cond.initialized yJ7_fill_53178.cls ∈ zU := zm 77 (by decide +kernel) rfl
theorem rw_u_576 : Cond.methodLink RX2 72 yJ7_fill_53178 ∈ zU := zm 576 (by decide +kernel) rfl
theorem rw_u_351 : Cond.static yJ7_fill_53178 ∈ zU := zm 351 (by decide +kernel) rfl
theorem rw_u_217 : Cond.fieldLink RX2 22 "WhatWasHers$Course" "debts" "[I" ∈ zU := zm 217 (by decide +kernel) rfl
theorem rw_u_223 : Cond.fieldLink RX2 25 "WhatWasHers$Course" "cameBy" "[I" ∈ zU := zm 223 (by decide +kernel) rfl
theorem rw_u_596 : Cond.code yX7_way cX7_way 2 (some .int) ∈ zU := zm 596 (by decide +kernel) rfl
theorem rw_u_593 : Cond.methodLink RX2 112 yX7_way ∈ zU := zm 593 (by decide +kernel) rfl
theorem rw_u_594 : Cond.instanceMethod yX7_way ∈ zU := zm 594 (by decide +kernel) rfl
theorem rw_u_595 : Cond.selects RX7 yX7_way yX7_way ∈ zU := zm 595 (by decide +kernel) rfl
theorem rw_u_235 : Cond.fieldLink RX2 40 "WhatWasHers$Course" "fellBy" "[I" ∈ zU := zm 235 (by decide +kernel) rfl
theorem rw_u_229 : Cond.fieldLink RX2 34 "WhatWasHers$Course" "inPurse" "[I" ∈ zU := zm 229 (by decide +kernel) rfl
theorem rw_u_607 : Cond.code yX7_purseOfComer cX7_purseOfComer 4 (some .int) ∈ zU := zm 607 (by decide +kernel) rfl
theorem rw_u_604 : Cond.methodLink RX2 120 yX7_purseOfComer ∈ zU := zm 604 (by decide +kernel) rfl
theorem rw_u_605 : Cond.instanceMethod yX7_purseOfComer ∈ zU := zm 605 (by decide +kernel) rfl
theorem rw_u_606 : Cond.selects RX7 yX7_purseOfComer yX7_purseOfComer ∈ zU := zm 606 (by decide +kernel) rfl
theorem rw_u_233 : Cond.fieldLink RX2 37 "WhatWasHers$Course" "reason" "[I" ∈ zU := zm 233 (by decide +kernel) rfl
theorem rw_u_600 : Cond.code yX7_purseOfPayers cX7_purseOfPayers 8 (some .int) ∈ zU := zm 600 (by decide +kernel) rfl
theorem rw_u_597 : Cond.methodLink RX2 116 yX7_purseOfPayers ∈ zU := zm 597 (by decide +kernel) rfl
theorem rw_u_598 : Cond.instanceMethod yX7_purseOfPayers ∈ zU := zm 598 (by decide +kernel) rfl
theorem rw_u_599 : Cond.selects RX7 yX7_purseOfPayers yX7_purseOfPayers ∈ zU := zm 599 (by decide +kernel) rfl
theorem rw_u_225 : Cond.fieldLink RX2 28 "WhatWasHers$Course" "cameWorth" "[I" ∈ zU := zm 225 (by decide +kernel) rfl
theorem rw_u_237 : Cond.fieldLink RX2 43 "WhatWasHers$Course" "worth" "[I" ∈ zU := zm 237 (by decide +kernel) rfl
theorem rw_u_241 : Cond.fieldLink RX2 46 "WhatWasHers$Course" "putsInto" "[I" ∈ zU := zm 241 (by decide +kernel) rfl
theorem rw_u_592 : Cond.code yX2_fall cX2_fall 6 none ∈ zU := zm 592 (by decide +kernel) rfl
theorem rw_u_74 : Cond.initialized yX2_fall.cls ∈ zU := zm 74 (by decide +kernel) rfl
theorem rw_u_589 : Cond.methodLink RX2 109 yX2_fall ∈ zU := zm 589 (by decide +kernel) rfl
theorem rw_u_591 : Cond.instanceMethod yX2_fall ∈ zU := zm 591 (by decide +kernel) rfl
theorem rw_u_19 : Cond.selects RX2 yX2_fall yX2_fall ∈ zU := zm 19 (by decide +kernel) rfl
theorem rw_u_227 : Cond.fieldLink RX2 31 "WhatWasHers$Course" "firstPurse" "[I" ∈ zU := zm 227 (by decide +kernel) rfl
theorem rw_u_247 : Cond.fieldLink RX2 49 "WhatWasHers$Course" "putThing" "[I" ∈ zU := zm 247 (by decide +kernel) rfl
theorem rw_u_249 : Cond.fieldLink RX2 52 "WhatWasHers$Course" "putPurse" "[I" ∈ zU := zm 249 (by decide +kernel) rfl
theorem rw_u_251 : Cond.fieldLink RX2 55 "WhatWasHers$Course" "putSum" "[I" ∈ zU := zm 251 (by decide +kernel) rfl
theorem rw_u_253 : Cond.fieldLink RX2 58 "WhatWasHers$Course" "putWeight" "[I" ∈ zU := zm 253 (by decide +kernel) rfl
theorem rw_u_619 : Cond.code yX7_movesAll cX7_movesAll 2 (some .boolean) ∈ zU := zm 619 (by decide +kernel) rfl
theorem rw_u_616 : Cond.methodLink RX2 105 yX7_movesAll ∈ zU := zm 616 (by decide +kernel) rfl
theorem rw_u_617 : Cond.instanceMethod yX7_movesAll ∈ zU := zm 617 (by decide +kernel) rfl
theorem rw_u_618 : Cond.selects RX7 yX7_movesAll yX7_movesAll ∈ zU := zm 618 (by decide +kernel) rfl
theorem rw_u_162 : Cond.fieldLink RX2 91 "WhatWasHers$Story" "what" "[I" ∈ zU := zm 162 (by decide +kernel) rfl
theorem rw_u_588 : Cond.code yX2_takeIn cX2_takeIn 5 none ∈ zU := zm 588 (by decide +kernel) rfl
theorem rw_u_585 : Cond.methodLink RX2 94 yX2_takeIn ∈ zU := zm 585 (by decide +kernel) rfl
theorem rw_u_587 : Cond.instanceMethod yX2_takeIn ∈ zU := zm 587 (by decide +kernel) rfl
theorem rw_u_18 : Cond.selects RX2 yX2_takeIn yX2_takeIn ∈ zU := zm 18 (by decide +kernel) rfl
theorem rw_u_611 : Cond.code yX2_notePut cX2_notePut 4 none ∈ zU := zm 611 (by decide +kernel) rfl
theorem rw_u_608 : Cond.methodLink RX2 98 yX2_notePut ∈ zU := zm 608 (by decide +kernel) rfl
theorem rw_u_610 : Cond.instanceMethod yX2_notePut ∈ zU := zm 610 (by decide +kernel) rfl
theorem rw_u_20 : Cond.selects RX2 yX2_notePut yX2_notePut ∈ zU := zm 20 (by decide +kernel) rfl
theorem rw_u_615 : Cond.code yX2_moveTo cX2_moveTo 4 none ∈ zU := zm 615 (by decide +kernel) rfl
theorem rw_u_612 : Cond.methodLink RX2 101 yX2_moveTo ∈ zU := zm 612 (by decide +kernel) rfl
theorem rw_u_613 : Cond.instanceMethod yX2_moveTo ∈ zU := zm 613 (by decide +kernel) rfl
theorem rw_u_614 : Cond.selects RX2 yX2_moveTo yX2_moveTo ∈ zU := zm 614 (by decide +kernel) rfl
theorem rw_u_167 : Cond.fieldLink RX2 78 "WhatWasHers$Story" "first" "[I" ∈ zU := zm 167 (by decide +kernel) rfl
theorem rw_u_170 : Cond.fieldLink RX2 81 "WhatWasHers$Story" "second" "[I" ∈ zU := zm 170 (by decide +kernel) rfl
theorem rw_u_173 : Cond.fieldLink RX2 84 "WhatWasHers$Story" "third" "[I" ∈ zU := zm 173 (by decide +kernel) rfl
theorem rw_u_584 : Cond.code yX2_goOn cX2_goOn 5 none ∈ zU := zm 584 (by decide +kernel) rfl
theorem rw_u_581 : Cond.methodLink RX2 87 yX2_goOn ∈ zU := zm 581 (by decide +kernel) rfl
theorem rw_u_583 : Cond.instanceMethod yX2_goOn ∈ zU := zm 583 (by decide +kernel) rfl
theorem rw_u_17 : Cond.selects RX2 yX2_goOn yX2_goOn ∈ zU := zm 17 (by decide +kernel) rfl
/-! WhatWasHers$Course.begin(LWhatWasHers$Story;)V -/
abbrev rmX2_begin : Room := { frames := 1, cells := 0, slots := 0, locals := 23 }
def fC_begin (sC : zSt)  : Option (zSt) :=
  zn (zsI sC 1 0) fun sC1 => zn (zsI sC1 4 0) fun sC2 => zn (zsI sC2 13 0) fun sC3 => zn (zsAf sC3 2 (zfill 5 (-1000000) (zA sC3 2))) fun sC4 => zn (zsAf sC4 3 (zfill 3 0 (zA sC4 3))) fun sC5 => some (sC5)
/-! WhatWasHers$Course.fall(III)V -/
abbrev rmX2_fall : Room := { frames := 2, cells := 0, slots := 0, locals := 48 }
def fC_fall_b99  (sC : zSt) (sS : zSt) (x1 : Int32) (x3 : Int32) (t0 : Int32) (t1 : Int32) : Option (zSt) :=
  zg (zix t1 10) <| zn (zsA sC 8 t1.toNatClampNeg t0) fun sC5 => zg (zix x1 10) <| zn (zsA sC5 9 x1.toNatClampNeg x3) fun sC6 => some (sC6)
def fC_fall (sC : zSt) (sS : zSt) (a0 : Int32) (a1 : Int32) (a2 : Int32) : Option (zSt) :=
  zg (zix a0 10) <| zn ((zA sC 5 a0.toNatClampNeg) : Int32) fun x4_1 => Option.bind (fS_way sS x4_1) fun y2 => zg (zix a0 10) <| zn (zsA sC 10 a0.toNatClampNeg a1) fun sC3 => zg (zix y2 5) <| if (zA sC3 2 y2.toNatClampNeg) = (-1000000) then (if y2 = 4 then (Option.bind (fS_purseOfPayers sS (zI sC3 1) x4_1) fun y7 => fC_fall_b99  sC3 sS a0 a2 y7 a0) else (Option.bind (fS_purseOfComer sS (zI sC3 1) x4_1) fun y4 => fC_fall_b99  sC3 sS a0 a2 y4 a0)) else (zg (zix y2 5) <| zg (zix a0 10) <| zn (zsA sC3 8 a0.toNatClampNeg (zA sC3 2 y2.toNatClampNeg)) fun sC8 => zg (zix a0 10) <| zn (zsA sC8 9 a0.toNatClampNeg 1) fun sC9 => some (sC9))
/-! WhatWasHers$Course.takeIn(III)V -/
abbrev rmX2_takeIn : Room := { frames := 3, cells := 0, slots := 0, locals := 73 }
def fC_takeIn (sC : zSt) (sS : zSt) (a0 : Int32) (a1 : Int32) (a2 : Int32) : Option (zSt) :=
  if (zI sC 4) < 10 then (zn ((zI sC 4) : Int32) fun x4_1 => zn (zsI sC 4 ((zI sC 4) + 1)) fun sC2 => zg (zix x4_1 10) <| zn (zsA sC2 5 x4_1.toNatClampNeg a0) fun sC3 => zg (zix x4_1 10) <| zn (zsA sC3 6 x4_1.toNatClampNeg a1) fun sC4 => zg (zix x4_1 10) <| zn (zsA sC4 11 x4_1.toNatClampNeg a2) fun sC5 => zg (zix x4_1 10) <| zn (zsA sC5 12 x4_1.toNatClampNeg 0) fun sC6 => Option.bind (fC_fall sC6 sS x4_1 a0 0) fun y7 => zg (zix x4_1 10) <| zg (zix x4_1 10) <| zn (zsA y7 7 x4_1.toNatClampNeg (zA y7 8 x4_1.toNatClampNeg)) fun sC8 => some (sC8)) else (some (sC))
/-! WhatWasHers$Course.notePut(III)V -/
abbrev rmX2_notePut : Room := { frames := 0, cells := 0, slots := 0, locals := 0 }
def fC_notePut (sC : zSt) (a0 : Int32) (a1 : Int32) (a2 : Int32) : Option (zSt) :=
  if a2 ≤ 0 then (some (sC)) else (if a0 < 0 then (some (sC)) else (if (zI sC 13) < 50 then (zg (zix (zI sC 13) 50) <| zn (zsA sC 14 (zI sC 13).toNatClampNeg a0) fun sC1 => zg (zix (zI sC1 13) 50) <| zn (zsA sC1 15 (zI sC1 13).toNatClampNeg a1) fun sC2 => zg (zix (zI sC2 13) 50) <| zn (zsA sC2 16 (zI sC2 13).toNatClampNeg a2) fun sC3 => zg (zix a0 10) <| zg (zix (zI sC3 13) 50) <| zn (zsA sC3 17 (zI sC3 13).toNatClampNeg (zA sC3 11 a0.toNatClampNeg)) fun sC4 => zn (zsI sC4 13 ((zI sC4 13) + 1)) fun sC5 => zg (zix a0 10) <| zg (zix a0 10) <| zn (zsA sC5 12 a0.toNatClampNeg ((zA sC5 12 a0.toNatClampNeg) + 1)) fun sC6 => some (sC6)) else (some (sC))))
/-! WhatWasHers$Course.moveTo(II)V -/
abbrev rmX2_moveTo : Room := { frames := 3, cells := 0, slots := 0, locals := 73 }
def fC_moveTo_l18b (K18 : zSt → zSt → Int32 → Int32 → Option (zSt)) (sC : zSt) (sS : zSt) (x2 : Int32) (x3 : Int32) : Option (zSt) :=
  if (zI sC 4) ≤ x3 then (some (sC)) else (Option.bind (fC_fall sC sS x3 x2 2) fun y3 => zn (x3 + 1 : Int32) fun x3_4 => K18 y3 sS x2 x3_4)
def fC_moveTo_l18  : Nat → zSt → zSt → Int32 → Int32 → Option (zSt)
  | 0, _, _, _, _ => none
  | n + 1, v0, v1, v2, v3 => fC_moveTo_l18b  (fun v0 v1 v2 v3 => fC_moveTo_l18  n v0 v1 v2 v3) v0 v1 v2 v3
def fC_moveTo (sC : zSt) (sS : zSt) (a0 : Int32) (a1 : Int32) : Option (zSt) :=
  zn (zsI sC 1 a0) fun sC1 => Option.bind (fS_movesAll sS a0) fun y2 => if y2 = true then (fC_moveTo_l18  zF sC1 sS a1 0) else (some (sC1))
/-! WhatWasHers$Course.goOn(IIII)V -/
abbrev rmX2_goOn : Room := { frames := 4, cells := 0, slots := 0, locals := 97 }
def fC_goOn (sC : zSt) (sS : zSt) (a0 : Int32) (a1 : Int32) (a2 : Int32) (a3 : Int32) : Option (zSt) :=
  zg (zix a0 30) <| if (zA sS 8 a0.toNatClampNeg) = 0 then (Option.bind (fC_takeIn sC sS a0 a3 a3) fun y1 => some (y1)) else (if (zA sS 8 a0.toNatClampNeg) = 1 then (Option.bind (fC_takeIn sC sS a0 0 ((a1 + a2) + a3)) fun y2 => Option.bind (fC_notePut y2 ((zI y2 4) - 1) 0 a1) fun y3 => Option.bind (fC_notePut y3 ((zI y3 4) - 1) 1 a2) fun y4 => Option.bind (fC_notePut y4 ((zI y4 4) - 1) 2 a3) fun y5 => some (y5)) else (if (zA sS 8 a0.toNatClampNeg) = 2 then (zg (zix a1 10) <| zg (zix a1 10) <| zn (zsA sC 11 a1.toNatClampNeg ((zA sC 11 a1.toNatClampNeg) + a3)) fun sC6 => Option.bind (fC_notePut sC6 a1 a2 a3) fun y7 => some (y7)) else (if (zA sS 8 a0.toNatClampNeg) = 3 then (zg (zix a1 10) <| zn (zsA sC 11 a1.toNatClampNeg a2) fun sC8 => some (sC8)) else (if (zA sS 8 a0.toNatClampNeg) = 4 then (zg (zix a1 3) <| zg (zix a1 3) <| zn (zsA sC 3 a1.toNatClampNeg ((zA sC 3 a1.toNatClampNeg) + a2)) fun sC9 => some (sC9)) else (if (zA sS 8 a0.toNatClampNeg) = 5 then (Option.bind (fC_moveTo sC sS a1 a0) fun y10 => some (y10)) else (zg (zix a1 5) <| zn (zsA sC 2 a1.toNatClampNeg a2) fun sC11 => some (sC11)))))))
/-! WhatWasHers$Course.goThrough(II)V -/
abbrev rmX2_goThrough : Room := { frames := 5, cells := 0, slots := 0, locals := 121 }
def fC_goThrough_l2b (K2 : zSt → zSt → Int32 → Int32 → Option (zSt)) (sC : zSt) (sS : zSt) (x2 : Int32) (x3 : Int32) : Option (zSt) :=
  if x2 ≤ x3 then (some (sC)) else (zg (zix x3 30) <| zg (zix x3 30) <| zg (zix x3 30) <| Option.bind (fC_goOn sC sS x3 (zA sS 10 x3.toNatClampNeg) (zA sS 11 x3.toNatClampNeg) (zA sS 12 x3.toNatClampNeg)) fun y1 => zn (x3 + 1 : Int32) fun x3_2 => K2 y1 sS x2 x3_2)
def fC_goThrough_l2  : Nat → zSt → zSt → Int32 → Int32 → Option (zSt)
  | 0, _, _, _, _ => none
  | n + 1, v0, v1, v2, v3 => fC_goThrough_l2b  (fun v0 v1 v2 v3 => fC_goThrough_l2  n v0 v1 v2 v3) v0 v1 v2 v3
def fC_goThrough (sC : zSt) (sS : zSt) (a0 : Int32) (a1 : Int32) : Option (zSt) :=
  fC_goThrough_l2  zF sC sS a1 a0
/-! WhatWasHers$Course.isFedByAnother(I)Z -/
abbrev rmX2_isFedByAnother : Room := { frames := 0, cells := 0, slots := 0, locals := 0 }
def fC_isFedByAnother_l2b (K2 : zSt → Int32 → Int32 → Option (Bool)) (sC : zSt) (x1 : Int32) (x2 : Int32) : Option (Bool) :=
  if (zI sC 13) ≤ x2 then (some (false)) else (zg (zix x2 50) <| if (zA sC 14 x2.toNatClampNeg) = x1 then (zg (zix x2 50) <| zg (zix x1 10) <| if (zA sC 15 x2.toNatClampNeg) = (zA sC 8 x1.toNatClampNeg) then (zn (x2 + 1 : Int32) fun x2_2 => K2 sC x1 x2_2) else (some (true))) else (zn (x2 + 1 : Int32) fun x2_1 => K2 sC x1 x2_1))
def fC_isFedByAnother_l2  : Nat → zSt → Int32 → Int32 → Option (Bool)
  | 0, _, _, _ => none
  | n + 1, v0, v1, v2 => fC_isFedByAnother_l2b  (fun v0 v1 v2 => fC_isFedByAnother_l2  n v0 v1 v2) v0 v1 v2
def fC_isFedByAnother (sC : zSt) (a0 : Int32) : Option (Bool) :=
  fC_isFedByAnother_l2  zF sC a0 0
theorem rw_pr_X2_12_C_C {x : zX} {G : zG} {ce sl pc : Nat} {lv : List (Nat × Value)} {st : List Value} {cc : ByteArray} {nL : Nat} {ret : Option FieldType} {rm : Room} {qC : Nat → Nat} {rC : Nat} {sC : zSt} {v : Nat} (C : zC x G RX2 cc nL ret rm) (hd : decode cc pc = .ok (.putfield 12, 3)) (K : zW x G ce sl (pc + 3) lv st (wdC G qC v sC)) : zW x G ce sl pc lv (.ref v :: .ref (qC 0) :: st) (wdC G qC rC sC) := z_put C (Cn := RX2) (T := TX2) (N := 18) (ci := 2) (k := 0) (ty := (.object "WhatWasHers$Story")) (w' := wdC G qC v sC) inzX2 tyX2 tyX2_ok nmX2 rfl (by decide) rw_u_210 (fun _ h => h) rfl 0 rfl (by decide +kernel) rfl rfl (Nat.le_of_ble_eq_true rfl) rfl hd K
theorem rw_p_X2_61_C_C {x : zX} {G : zG} {ce sl pc : Nat} {lv : List (Nat × Value)} {st : List Value} {cc : ByteArray} {nL : Nat} {ret : Option FieldType} {rm : Room} {qC : Nat → Nat} {rC : Nat} {sC : zSt} {v : Int32} {α : Type} {o : α} {kk : zSt → Option α} (C : zC x G RX2 cc nL ret rm) (hd : decode cc pc = .ok (.putfield 61, 3)) (h : zn (zsI sC 1 v) kk = some o) (K : ∀ s' : zSt, kk s' = some o → zW x G ce sl (pc + 3) lv st (wdC G qC rC s')) : zW x G ce sl pc lv (.int v :: .ref (qC 0) :: st) (wdC G qC rC sC) := z_put C (Cn := RX2) (T := TX2) (N := 18) (ci := 2) (k := 1) (ty := .int) (w' := wdC G qC rC (zsI sC 1 v)) inzX2 tyX2 tyX2_ok nmX2 rfl (by decide) rw_u_212 (fun _ h => h) rfl 0 rfl (by decide +kernel) rfl rfl (Nat.le_of_ble_eq_true rfl) rfl hd (K _ h)
theorem rw_p_X2_65_C_C {x : zX} {G : zG} {ce sl pc : Nat} {lv : List (Nat × Value)} {st : List Value} {cc : ByteArray} {nL : Nat} {ret : Option FieldType} {rm : Room} {qC : Nat → Nat} {rC : Nat} {sC : zSt} {v : Int32} {α : Type} {o : α} {kk : zSt → Option α} (C : zC x G RX2 cc nL ret rm) (hd : decode cc pc = .ok (.putfield 65, 3)) (h : zn (zsI sC 4 v) kk = some o) (K : ∀ s' : zSt, kk s' = some o → zW x G ce sl (pc + 3) lv st (wdC G qC rC s')) : zW x G ce sl pc lv (.int v :: .ref (qC 0) :: st) (wdC G qC rC sC) := z_put C (Cn := RX2) (T := TX2) (N := 18) (ci := 2) (k := 4) (ty := .int) (w' := wdC G qC rC (zsI sC 4 v)) inzX2 tyX2 tyX2_ok nmX2 rfl (by decide) rw_u_220 (fun _ h => h) rfl 0 rfl (by decide +kernel) rfl rfl (Nat.le_of_ble_eq_true rfl) rfl hd (K _ h)
theorem rw_p_X2_68_C_C {x : zX} {G : zG} {ce sl pc : Nat} {lv : List (Nat × Value)} {st : List Value} {cc : ByteArray} {nL : Nat} {ret : Option FieldType} {rm : Room} {qC : Nat → Nat} {rC : Nat} {sC : zSt} {v : Int32} {α : Type} {o : α} {kk : zSt → Option α} (C : zC x G RX2 cc nL ret rm) (hd : decode cc pc = .ok (.putfield 68, 3)) (h : zn (zsI sC 13 v) kk = some o) (K : ∀ s' : zSt, kk s' = some o → zW x G ce sl (pc + 3) lv st (wdC G qC rC s')) : zW x G ce sl pc lv (.int v :: .ref (qC 0) :: st) (wdC G qC rC sC) := z_put C (Cn := RX2) (T := TX2) (N := 18) (ci := 2) (k := 13) (ty := .int) (w' := wdC G qC rC (zsI sC 13 v)) inzX2 tyX2 tyX2_ok nmX2 rfl (by decide) rw_u_244 (fun _ h => h) rfl 0 rfl (by decide +kernel) rfl rfl (Nat.le_of_ble_eq_true rfl) rfl hd (K _ h)
theorem rw_g_X2_18_C_C {x : zX} {G : zG} {ce sl pc : Nat} {lv : List (Nat × Value)} {st : List Value} {cc : ByteArray} {nL : Nat} {ret : Option FieldType} {rm : Room} {qC : Nat → Nat} {rC : Nat} {sC : zSt} (C : zC x G RX2 cc nL ret rm) (hd : decode cc pc = .ok (.getfield 18, 3)) (K : zW x G ce sl (pc + 3) lv (.ref (qC 3) :: st) (wdC G qC rC sC)) : zW x G ce sl pc lv (.ref (qC 0) :: st) (wdC G qC rC sC) := z_get C (Cn := RX2) (T := TX2) (N := 18) (ci := 2) (k := 2) inzX2 rfl (by decide) rw_u_215 (fun _ h => h) 0 rfl rfl hd K
theorem rw_fill_X2_72_C_C_2 {x : zX} {G : zG} {ce sl pc : Nat} {lv : List (Nat × Value)} {st : List Value} {cc : ByteArray} {nL : Nat} {ret : Option FieldType} {rm : Room} {qC : Nat → Nat} {rC : Nat} {sC : zSt} {v : Int32} {α : Type} {o : α} {kk : zSt → Option α} (C : zC x G RX2 cc nL ret rm) (hd : decode cc pc = .ok (.invokestatic 72, 3)) (hcat : (st.map fun v => v.category).sum ≤ 8) (hrm : zRm rm rmJ7_fill_53178 4 ce sl) (h : zn (zsAf sC 2 (zfill 5 v (zA sC 2))) kk = some o) (K : ∀ s' : zSt, kk s' = some o → zW x G ce sl (pc + 3) lv st (wdC G qC rC s')) : zW x G ce sl pc lv (.int v :: .ref (qC 3) :: st) (wdC G qC rC sC) := z_callS C 2 (As := [.ref (qC 3), .int v]) (rest := st) rw_u_352 rw_u_77 rw_u_576 rw_u_351 ⟨by decide, by decide, by decide +kernel⟩ (Ct.cell (cJ_fillI (by decide)) (w' := wdC G qC rC (zsAf sC 2 (zfill 5 v (zA sC 2)))) 1 rfl rfl) rfl hd hcat hrm (K _ h)
theorem rw_g_X2_22_C_C {x : zX} {G : zG} {ce sl pc : Nat} {lv : List (Nat × Value)} {st : List Value} {cc : ByteArray} {nL : Nat} {ret : Option FieldType} {rm : Room} {qC : Nat → Nat} {rC : Nat} {sC : zSt} (C : zC x G RX2 cc nL ret rm) (hd : decode cc pc = .ok (.getfield 22, 3)) (K : zW x G ce sl (pc + 3) lv (.ref (qC 4) :: st) (wdC G qC rC sC)) : zW x G ce sl pc lv (.ref (qC 0) :: st) (wdC G qC rC sC) := z_get C (Cn := RX2) (T := TX2) (N := 18) (ci := 2) (k := 3) inzX2 rfl (by decide) rw_u_217 (fun _ h => h) 0 rfl rfl hd K
theorem rw_fill_X2_72_C_C_3 {x : zX} {G : zG} {ce sl pc : Nat} {lv : List (Nat × Value)} {st : List Value} {cc : ByteArray} {nL : Nat} {ret : Option FieldType} {rm : Room} {qC : Nat → Nat} {rC : Nat} {sC : zSt} {v : Int32} {α : Type} {o : α} {kk : zSt → Option α} (C : zC x G RX2 cc nL ret rm) (hd : decode cc pc = .ok (.invokestatic 72, 3)) (hcat : (st.map fun v => v.category).sum ≤ 8) (hrm : zRm rm rmJ7_fill_53178 4 ce sl) (h : zn (zsAf sC 3 (zfill 3 v (zA sC 3))) kk = some o) (K : ∀ s' : zSt, kk s' = some o → zW x G ce sl (pc + 3) lv st (wdC G qC rC s')) : zW x G ce sl pc lv (.int v :: .ref (qC 4) :: st) (wdC G qC rC sC) := z_callS C 2 (As := [.ref (qC 4), .int v]) (rest := st) rw_u_352 rw_u_77 rw_u_576 rw_u_351 ⟨by decide, by decide, by decide +kernel⟩ (Ct.cell (cJ_fillI (by decide)) (w' := wdC G qC rC (zsAf sC 3 (zfill 3 v (zA sC 3)))) 2 rfl rfl) rfl hd hcat hrm (K _ h)
theorem rw_g_X2_25_CS_C {x : zX} {G : zG} {ce sl pc : Nat} {lv : List (Nat × Value)} {st : List Value} {cc : ByteArray} {nL : Nat} {ret : Option FieldType} {rm : Room} {qC qS : Nat → Nat} {rC : Nat} {sC sS : zSt} (C : zC x G RX2 cc nL ret rm) (hd : decode cc pc = .ok (.getfield 25, 3)) (K : zW x G ce sl (pc + 3) lv (.ref (qC 6) :: st) (wdC G qC rC sC ++ (wdS G qS sS))) : zW x G ce sl pc lv (.ref (qC 0) :: st) (wdC G qC rC sC ++ (wdS G qS sS)) := z_get C (Cn := RX2) (T := TX2) (N := 18) (ci := 2) (k := 5) inzX2 rfl (by decide) rw_u_223 (fun _ h => h) 0 rfl rfl hd K
theorem rw_l_CS_C_5 {x : zX} {G : zG} {ce sl pc : Nat} {lv : List (Nat × Value)} {st : List Value} {cc : ByteArray} {nL : Nat} {ret : Option FieldType} {rm : Room} {own : String} {qC qS : Nat → Nat} {rC : Nat} {sC sS : zSt} {i : Int32} {α : Type} {o : α} {kk : Option α} (C : zC x G own cc nL ret rm) (hd : decode cc pc = .ok (.iaload, 1)) (h : zg (zix i 10) kk = some o) (K : kk = some o → zW x G ce sl (pc + 1) lv (.int (zA sC 5 i.toNatClampNeg) :: st) (wdC G qC rC sC ++ (wdS G qS sS))) : zW x G ce sl pc lv (.int i :: .ref (qC 6) :: st) (wdC G qC rC sC ++ (wdS G qS sS)) := z_iald C 3 rfl hd h K
theorem rw_g_X2_12_CS_C {x : zX} {G : zG} {ce sl pc : Nat} {lv : List (Nat × Value)} {st : List Value} {cc : ByteArray} {nL : Nat} {ret : Option FieldType} {rm : Room} {qC qS : Nat → Nat} {rC : Nat} {sC sS : zSt} (C : zC x G RX2 cc nL ret rm) (hd : decode cc pc = .ok (.getfield 12, 3)) (K : zW x G ce sl (pc + 3) lv (.ref rC :: st) (wdC G qC rC sC ++ (wdS G qS sS))) : zW x G ce sl pc lv (.ref (qC 0) :: st) (wdC G qC rC sC ++ (wdS G qS sS)) := z_get C (Cn := RX2) (T := TX2) (N := 18) (ci := 2) (k := 0) inzX2 rfl (by decide) rw_u_210 (fun _ h => h) 0 rfl rfl hd K
theorem rw_c_X2_112 {x : zX} {G : zG} {ce sl pc : Nat} {lv : List (Nat × Value)} {cc : ByteArray} {nL : Nat} {ret : Option FieldType} {rm : Room} {w w1 : va_W} {rest : List Value} {r : Option Value} {a0 : Int32} {b : Nat} {fs : List Value} (C : zC x G RX2 cc nL ret rm) (hc : Ct (xl x) G yX7_way cX7_way 2 (some .int) rmX7_way [.ref b, .int a0] w r w1) (q0 : Nat) (he : w[q0]? = some (b, .inr (7, fs))) (hd : decode cc pc = .ok (.invokevirtual 112, 3)) (hcat : (rest.map fun v => v.category).sum ≤ 8) (hrm : zRm rm rmX7_way 2 ce sl) (K : zW x G (ce + rmX7_way.cells) (sl + rmX7_way.slots) (pc + 3) lv (r.toList ++ rest) w1) : zW x G ce sl pc lv (.int a0 :: .ref b :: rest) w := z_callV C 1 rw_u_596 rw_u_73 rw_u_593 rw_u_594 rw_u_595 ⟨by decide, by decide, by decide +kernel⟩ (T := TX7) (N := 13) rfl hc rfl q0 he hd hcat hrm K
theorem rw_g_X2_40_CS_C {x : zX} {G : zG} {ce sl pc : Nat} {lv : List (Nat × Value)} {st : List Value} {cc : ByteArray} {nL : Nat} {ret : Option FieldType} {rm : Room} {qC qS : Nat → Nat} {rC : Nat} {sC sS : zSt} (C : zC x G RX2 cc nL ret rm) (hd : decode cc pc = .ok (.getfield 40, 3)) (K : zW x G ce sl (pc + 3) lv (.ref (qC 11) :: st) (wdC G qC rC sC ++ (wdS G qS sS))) : zW x G ce sl pc lv (.ref (qC 0) :: st) (wdC G qC rC sC ++ (wdS G qS sS)) := z_get C (Cn := RX2) (T := TX2) (N := 18) (ci := 2) (k := 10) inzX2 rfl (by decide) rw_u_235 (fun _ h => h) 0 rfl rfl hd K
theorem rw_s_CS_C_10 {x : zX} {G : zG} {ce sl pc : Nat} {lv : List (Nat × Value)} {st : List Value} {cc : ByteArray} {nL : Nat} {ret : Option FieldType} {rm : Room} {own : String} {qC qS : Nat → Nat} {rC : Nat} {sC sS : zSt} {i : Int32} {v : Int32} {α : Type} {o : α} {kk : zSt → Option α} (C : zC x G own cc nL ret rm) (hd : decode cc pc = .ok (.iastore, 1)) (h : zg (zix i 10) (zn (zsA sC 10 i.toNatClampNeg v) kk) = some o) (K : ∀ s' : zSt, kk s' = some o → zW x G ce sl (pc + 1) lv st (wdC G qC rC s' ++ (wdS G qS sS))) : zW x G ce sl pc lv (.int v :: .int i :: .ref (qC 11) :: st) (wdC G qC rC sC ++ (wdS G qS sS)) := z_iast C (w' := wdC G qC rC (zsA sC 10 i.toNatClampNeg v) ++ (wdS G qS sS)) 8 rfl rfl hd h (fun h => K _ h)
theorem rw_g_X2_18_CS_C {x : zX} {G : zG} {ce sl pc : Nat} {lv : List (Nat × Value)} {st : List Value} {cc : ByteArray} {nL : Nat} {ret : Option FieldType} {rm : Room} {qC qS : Nat → Nat} {rC : Nat} {sC sS : zSt} (C : zC x G RX2 cc nL ret rm) (hd : decode cc pc = .ok (.getfield 18, 3)) (K : zW x G ce sl (pc + 3) lv (.ref (qC 3) :: st) (wdC G qC rC sC ++ (wdS G qS sS))) : zW x G ce sl pc lv (.ref (qC 0) :: st) (wdC G qC rC sC ++ (wdS G qS sS)) := z_get C (Cn := RX2) (T := TX2) (N := 18) (ci := 2) (k := 2) inzX2 rfl (by decide) rw_u_215 (fun _ h => h) 0 rfl rfl hd K
theorem rw_l_CS_C_2 {x : zX} {G : zG} {ce sl pc : Nat} {lv : List (Nat × Value)} {st : List Value} {cc : ByteArray} {nL : Nat} {ret : Option FieldType} {rm : Room} {own : String} {qC qS : Nat → Nat} {rC : Nat} {sC sS : zSt} {i : Int32} {α : Type} {o : α} {kk : Option α} (C : zC x G own cc nL ret rm) (hd : decode cc pc = .ok (.iaload, 1)) (h : zg (zix i 5) kk = some o) (K : kk = some o → zW x G ce sl (pc + 1) lv (.int (zA sC 2 i.toNatClampNeg) :: st) (wdC G qC rC sC ++ (wdS G qS sS))) : zW x G ce sl pc lv (.int i :: .ref (qC 3) :: st) (wdC G qC rC sC ++ (wdS G qS sS)) := z_iald C 1 rfl hd h K
theorem rw_g_X2_34_CS_C {x : zX} {G : zG} {ce sl pc : Nat} {lv : List (Nat × Value)} {st : List Value} {cc : ByteArray} {nL : Nat} {ret : Option FieldType} {rm : Room} {qC qS : Nat → Nat} {rC : Nat} {sC sS : zSt} (C : zC x G RX2 cc nL ret rm) (hd : decode cc pc = .ok (.getfield 34, 3)) (K : zW x G ce sl (pc + 3) lv (.ref (qC 9) :: st) (wdC G qC rC sC ++ (wdS G qS sS))) : zW x G ce sl pc lv (.ref (qC 0) :: st) (wdC G qC rC sC ++ (wdS G qS sS)) := z_get C (Cn := RX2) (T := TX2) (N := 18) (ci := 2) (k := 8) inzX2 rfl (by decide) rw_u_229 (fun _ h => h) 0 rfl rfl hd K
theorem rw_g_X2_61_CS_C {x : zX} {G : zG} {ce sl pc : Nat} {lv : List (Nat × Value)} {st : List Value} {cc : ByteArray} {nL : Nat} {ret : Option FieldType} {rm : Room} {qC qS : Nat → Nat} {rC : Nat} {sC sS : zSt} (C : zC x G RX2 cc nL ret rm) (hd : decode cc pc = .ok (.getfield 61, 3)) (K : zW x G ce sl (pc + 3) lv (.int (zI sC 1) :: st) (wdC G qC rC sC ++ (wdS G qS sS))) : zW x G ce sl pc lv (.ref (qC 0) :: st) (wdC G qC rC sC ++ (wdS G qS sS)) := z_get C (Cn := RX2) (T := TX2) (N := 18) (ci := 2) (k := 1) inzX2 rfl (by decide) rw_u_212 (fun _ h => h) 0 rfl rfl hd K
theorem rw_c_X2_120 {x : zX} {G : zG} {ce sl pc : Nat} {lv : List (Nat × Value)} {cc : ByteArray} {nL : Nat} {ret : Option FieldType} {rm : Room} {w w1 : va_W} {rest : List Value} {r : Option Value} {a0 : Int32} {a1 : Int32} {b : Nat} {fs : List Value} (C : zC x G RX2 cc nL ret rm) (hc : Ct (xl x) G yX7_purseOfComer cX7_purseOfComer 4 (some .int) rmX7_purseOfComer [.ref b, .int a0, .int a1] w r w1) (q0 : Nat) (he : w[q0]? = some (b, .inr (7, fs))) (hd : decode cc pc = .ok (.invokevirtual 120, 3)) (hcat : (rest.map fun v => v.category).sum ≤ 8) (hrm : zRm rm rmX7_purseOfComer 4 ce sl) (K : zW x G (ce + rmX7_purseOfComer.cells) (sl + rmX7_purseOfComer.slots) (pc + 3) lv (r.toList ++ rest) w1) : zW x G ce sl pc lv (.int a1 :: .int a0 :: .ref b :: rest) w := z_callV C 2 rw_u_607 rw_u_73 rw_u_604 rw_u_605 rw_u_606 ⟨by decide, by decide, by decide +kernel⟩ (T := TX7) (N := 13) rfl hc rfl q0 he hd hcat hrm K
theorem rw_s_CS_C_8 {x : zX} {G : zG} {ce sl pc : Nat} {lv : List (Nat × Value)} {st : List Value} {cc : ByteArray} {nL : Nat} {ret : Option FieldType} {rm : Room} {own : String} {qC qS : Nat → Nat} {rC : Nat} {sC sS : zSt} {i : Int32} {v : Int32} {α : Type} {o : α} {kk : zSt → Option α} (C : zC x G own cc nL ret rm) (hd : decode cc pc = .ok (.iastore, 1)) (h : zg (zix i 10) (zn (zsA sC 8 i.toNatClampNeg v) kk) = some o) (K : ∀ s' : zSt, kk s' = some o → zW x G ce sl (pc + 1) lv st (wdC G qC rC s' ++ (wdS G qS sS))) : zW x G ce sl pc lv (.int v :: .int i :: .ref (qC 9) :: st) (wdC G qC rC sC ++ (wdS G qS sS)) := z_iast C (w' := wdC G qC rC (zsA sC 8 i.toNatClampNeg v) ++ (wdS G qS sS)) 6 rfl rfl hd h (fun h => K _ h)
theorem rw_g_X2_37_CS_C {x : zX} {G : zG} {ce sl pc : Nat} {lv : List (Nat × Value)} {st : List Value} {cc : ByteArray} {nL : Nat} {ret : Option FieldType} {rm : Room} {qC qS : Nat → Nat} {rC : Nat} {sC sS : zSt} (C : zC x G RX2 cc nL ret rm) (hd : decode cc pc = .ok (.getfield 37, 3)) (K : zW x G ce sl (pc + 3) lv (.ref (qC 10) :: st) (wdC G qC rC sC ++ (wdS G qS sS))) : zW x G ce sl pc lv (.ref (qC 0) :: st) (wdC G qC rC sC ++ (wdS G qS sS)) := z_get C (Cn := RX2) (T := TX2) (N := 18) (ci := 2) (k := 9) inzX2 rfl (by decide) rw_u_233 (fun _ h => h) 0 rfl rfl hd K
theorem rw_s_CS_C_9 {x : zX} {G : zG} {ce sl pc : Nat} {lv : List (Nat × Value)} {st : List Value} {cc : ByteArray} {nL : Nat} {ret : Option FieldType} {rm : Room} {own : String} {qC qS : Nat → Nat} {rC : Nat} {sC sS : zSt} {i : Int32} {v : Int32} {α : Type} {o : α} {kk : zSt → Option α} (C : zC x G own cc nL ret rm) (hd : decode cc pc = .ok (.iastore, 1)) (h : zg (zix i 10) (zn (zsA sC 9 i.toNatClampNeg v) kk) = some o) (K : ∀ s' : zSt, kk s' = some o → zW x G ce sl (pc + 1) lv st (wdC G qC rC s' ++ (wdS G qS sS))) : zW x G ce sl pc lv (.int v :: .int i :: .ref (qC 10) :: st) (wdC G qC rC sC ++ (wdS G qS sS)) := z_iast C (w' := wdC G qC rC (zsA sC 9 i.toNatClampNeg v) ++ (wdS G qS sS)) 7 rfl rfl hd h (fun h => K _ h)
theorem rw_c_X2_116 {x : zX} {G : zG} {ce sl pc : Nat} {lv : List (Nat × Value)} {cc : ByteArray} {nL : Nat} {ret : Option FieldType} {rm : Room} {w w1 : va_W} {rest : List Value} {r : Option Value} {a0 : Int32} {a1 : Int32} {b : Nat} {fs : List Value} (C : zC x G RX2 cc nL ret rm) (hc : Ct (xl x) G yX7_purseOfPayers cX7_purseOfPayers 8 (some .int) rmX7_purseOfPayers [.ref b, .int a0, .int a1] w r w1) (q0 : Nat) (he : w[q0]? = some (b, .inr (7, fs))) (hd : decode cc pc = .ok (.invokevirtual 116, 3)) (hcat : (rest.map fun v => v.category).sum ≤ 8) (hrm : zRm rm rmX7_purseOfPayers 8 ce sl) (K : zW x G (ce + rmX7_purseOfPayers.cells) (sl + rmX7_purseOfPayers.slots) (pc + 3) lv (r.toList ++ rest) w1) : zW x G ce sl pc lv (.int a1 :: .int a0 :: .ref b :: rest) w := z_callV C 2 rw_u_600 rw_u_73 rw_u_597 rw_u_598 rw_u_599 ⟨by decide, by decide, by decide +kernel⟩ (T := TX7) (N := 13) rfl hc rfl q0 he hd hcat hrm K
theorem rw_g_X2_65_CS_C {x : zX} {G : zG} {ce sl pc : Nat} {lv : List (Nat × Value)} {st : List Value} {cc : ByteArray} {nL : Nat} {ret : Option FieldType} {rm : Room} {qC qS : Nat → Nat} {rC : Nat} {sC sS : zSt} (C : zC x G RX2 cc nL ret rm) (hd : decode cc pc = .ok (.getfield 65, 3)) (K : zW x G ce sl (pc + 3) lv (.int (zI sC 4) :: st) (wdC G qC rC sC ++ (wdS G qS sS))) : zW x G ce sl pc lv (.ref (qC 0) :: st) (wdC G qC rC sC ++ (wdS G qS sS)) := z_get C (Cn := RX2) (T := TX2) (N := 18) (ci := 2) (k := 4) inzX2 rfl (by decide) rw_u_220 (fun _ h => h) 0 rfl rfl hd K
theorem rw_p_X2_65_CS_C {x : zX} {G : zG} {ce sl pc : Nat} {lv : List (Nat × Value)} {st : List Value} {cc : ByteArray} {nL : Nat} {ret : Option FieldType} {rm : Room} {qC qS : Nat → Nat} {rC : Nat} {sC sS : zSt} {v : Int32} {α : Type} {o : α} {kk : zSt → Option α} (C : zC x G RX2 cc nL ret rm) (hd : decode cc pc = .ok (.putfield 65, 3)) (h : zn (zsI sC 4 v) kk = some o) (K : ∀ s' : zSt, kk s' = some o → zW x G ce sl (pc + 3) lv st (wdC G qC rC s' ++ (wdS G qS sS))) : zW x G ce sl pc lv (.int v :: .ref (qC 0) :: st) (wdC G qC rC sC ++ (wdS G qS sS)) := z_put C (Cn := RX2) (T := TX2) (N := 18) (ci := 2) (k := 4) (ty := .int) (w' := wdC G qC rC (zsI sC 4 v) ++ (wdS G qS sS)) inzX2 tyX2 tyX2_ok nmX2 rfl (by decide) rw_u_220 (fun _ h => h) rfl 0 rfl (by decide +kernel) rfl rfl (Nat.le_of_ble_eq_true rfl) rfl hd (K _ h)
theorem rw_s_CS_C_5 {x : zX} {G : zG} {ce sl pc : Nat} {lv : List (Nat × Value)} {st : List Value} {cc : ByteArray} {nL : Nat} {ret : Option FieldType} {rm : Room} {own : String} {qC qS : Nat → Nat} {rC : Nat} {sC sS : zSt} {i : Int32} {v : Int32} {α : Type} {o : α} {kk : zSt → Option α} (C : zC x G own cc nL ret rm) (hd : decode cc pc = .ok (.iastore, 1)) (h : zg (zix i 10) (zn (zsA sC 5 i.toNatClampNeg v) kk) = some o) (K : ∀ s' : zSt, kk s' = some o → zW x G ce sl (pc + 1) lv st (wdC G qC rC s' ++ (wdS G qS sS))) : zW x G ce sl pc lv (.int v :: .int i :: .ref (qC 6) :: st) (wdC G qC rC sC ++ (wdS G qS sS)) := z_iast C (w' := wdC G qC rC (zsA sC 5 i.toNatClampNeg v) ++ (wdS G qS sS)) 3 rfl rfl hd h (fun h => K _ h)
theorem rw_g_X2_28_CS_C {x : zX} {G : zG} {ce sl pc : Nat} {lv : List (Nat × Value)} {st : List Value} {cc : ByteArray} {nL : Nat} {ret : Option FieldType} {rm : Room} {qC qS : Nat → Nat} {rC : Nat} {sC sS : zSt} (C : zC x G RX2 cc nL ret rm) (hd : decode cc pc = .ok (.getfield 28, 3)) (K : zW x G ce sl (pc + 3) lv (.ref (qC 7) :: st) (wdC G qC rC sC ++ (wdS G qS sS))) : zW x G ce sl pc lv (.ref (qC 0) :: st) (wdC G qC rC sC ++ (wdS G qS sS)) := z_get C (Cn := RX2) (T := TX2) (N := 18) (ci := 2) (k := 6) inzX2 rfl (by decide) rw_u_225 (fun _ h => h) 0 rfl rfl hd K
theorem rw_s_CS_C_6 {x : zX} {G : zG} {ce sl pc : Nat} {lv : List (Nat × Value)} {st : List Value} {cc : ByteArray} {nL : Nat} {ret : Option FieldType} {rm : Room} {own : String} {qC qS : Nat → Nat} {rC : Nat} {sC sS : zSt} {i : Int32} {v : Int32} {α : Type} {o : α} {kk : zSt → Option α} (C : zC x G own cc nL ret rm) (hd : decode cc pc = .ok (.iastore, 1)) (h : zg (zix i 10) (zn (zsA sC 6 i.toNatClampNeg v) kk) = some o) (K : ∀ s' : zSt, kk s' = some o → zW x G ce sl (pc + 1) lv st (wdC G qC rC s' ++ (wdS G qS sS))) : zW x G ce sl pc lv (.int v :: .int i :: .ref (qC 7) :: st) (wdC G qC rC sC ++ (wdS G qS sS)) := z_iast C (w' := wdC G qC rC (zsA sC 6 i.toNatClampNeg v) ++ (wdS G qS sS)) 4 rfl rfl hd h (fun h => K _ h)
theorem rw_g_X2_43_CS_C {x : zX} {G : zG} {ce sl pc : Nat} {lv : List (Nat × Value)} {st : List Value} {cc : ByteArray} {nL : Nat} {ret : Option FieldType} {rm : Room} {qC qS : Nat → Nat} {rC : Nat} {sC sS : zSt} (C : zC x G RX2 cc nL ret rm) (hd : decode cc pc = .ok (.getfield 43, 3)) (K : zW x G ce sl (pc + 3) lv (.ref (qC 12) :: st) (wdC G qC rC sC ++ (wdS G qS sS))) : zW x G ce sl pc lv (.ref (qC 0) :: st) (wdC G qC rC sC ++ (wdS G qS sS)) := z_get C (Cn := RX2) (T := TX2) (N := 18) (ci := 2) (k := 11) inzX2 rfl (by decide) rw_u_237 (fun _ h => h) 0 rfl rfl hd K
theorem rw_s_CS_C_11 {x : zX} {G : zG} {ce sl pc : Nat} {lv : List (Nat × Value)} {st : List Value} {cc : ByteArray} {nL : Nat} {ret : Option FieldType} {rm : Room} {own : String} {qC qS : Nat → Nat} {rC : Nat} {sC sS : zSt} {i : Int32} {v : Int32} {α : Type} {o : α} {kk : zSt → Option α} (C : zC x G own cc nL ret rm) (hd : decode cc pc = .ok (.iastore, 1)) (h : zg (zix i 10) (zn (zsA sC 11 i.toNatClampNeg v) kk) = some o) (K : ∀ s' : zSt, kk s' = some o → zW x G ce sl (pc + 1) lv st (wdC G qC rC s' ++ (wdS G qS sS))) : zW x G ce sl pc lv (.int v :: .int i :: .ref (qC 12) :: st) (wdC G qC rC sC ++ (wdS G qS sS)) := z_iast C (w' := wdC G qC rC (zsA sC 11 i.toNatClampNeg v) ++ (wdS G qS sS)) 9 rfl rfl hd h (fun h => K _ h)
theorem rw_g_X2_46_CS_C {x : zX} {G : zG} {ce sl pc : Nat} {lv : List (Nat × Value)} {st : List Value} {cc : ByteArray} {nL : Nat} {ret : Option FieldType} {rm : Room} {qC qS : Nat → Nat} {rC : Nat} {sC sS : zSt} (C : zC x G RX2 cc nL ret rm) (hd : decode cc pc = .ok (.getfield 46, 3)) (K : zW x G ce sl (pc + 3) lv (.ref (qC 13) :: st) (wdC G qC rC sC ++ (wdS G qS sS))) : zW x G ce sl pc lv (.ref (qC 0) :: st) (wdC G qC rC sC ++ (wdS G qS sS)) := z_get C (Cn := RX2) (T := TX2) (N := 18) (ci := 2) (k := 12) inzX2 rfl (by decide) rw_u_241 (fun _ h => h) 0 rfl rfl hd K
theorem rw_s_CS_C_12 {x : zX} {G : zG} {ce sl pc : Nat} {lv : List (Nat × Value)} {st : List Value} {cc : ByteArray} {nL : Nat} {ret : Option FieldType} {rm : Room} {own : String} {qC qS : Nat → Nat} {rC : Nat} {sC sS : zSt} {i : Int32} {v : Int32} {α : Type} {o : α} {kk : zSt → Option α} (C : zC x G own cc nL ret rm) (hd : decode cc pc = .ok (.iastore, 1)) (h : zg (zix i 10) (zn (zsA sC 12 i.toNatClampNeg v) kk) = some o) (K : ∀ s' : zSt, kk s' = some o → zW x G ce sl (pc + 1) lv st (wdC G qC rC s' ++ (wdS G qS sS))) : zW x G ce sl pc lv (.int v :: .int i :: .ref (qC 13) :: st) (wdC G qC rC sC ++ (wdS G qS sS)) := z_iast C (w' := wdC G qC rC (zsA sC 12 i.toNatClampNeg v) ++ (wdS G qS sS)) 10 rfl rfl hd h (fun h => K _ h)
theorem rw_c_X2_109 {x : zX} {G : zG} {ce sl pc : Nat} {lv : List (Nat × Value)} {cc : ByteArray} {nL : Nat} {ret : Option FieldType} {rm : Room} {w w1 : va_W} {rest : List Value} {r : Option Value} {a0 : Int32} {a1 : Int32} {a2 : Int32} {b : Nat} {fs : List Value} (C : zC x G RX2 cc nL ret rm) (hc : Ct (xl x) G yX2_fall cX2_fall 6 none rmX2_fall [.ref b, .int a0, .int a1, .int a2] w r w1) (q0 : Nat) (he : w[q0]? = some (b, .inr (2, fs))) (hd : decode cc pc = .ok (.invokevirtual 109, 3)) (hcat : (rest.map fun v => v.category).sum ≤ 8) (hrm : zRm rm rmX2_fall 6 ce sl) (K : zW x G (ce + rmX2_fall.cells) (sl + rmX2_fall.slots) (pc + 3) lv (r.toList ++ rest) w1) : zW x G ce sl pc lv (.int a2 :: .int a1 :: .int a0 :: .ref b :: rest) w := z_callV C 3 rw_u_592 rw_u_74 rw_u_589 rw_u_591 rw_u_19 ⟨by decide, by decide, by decide +kernel⟩ (T := TX2) (N := 18) rfl hc rfl q0 he hd hcat hrm K
theorem rw_g_X2_31_CS_C {x : zX} {G : zG} {ce sl pc : Nat} {lv : List (Nat × Value)} {st : List Value} {cc : ByteArray} {nL : Nat} {ret : Option FieldType} {rm : Room} {qC qS : Nat → Nat} {rC : Nat} {sC sS : zSt} (C : zC x G RX2 cc nL ret rm) (hd : decode cc pc = .ok (.getfield 31, 3)) (K : zW x G ce sl (pc + 3) lv (.ref (qC 8) :: st) (wdC G qC rC sC ++ (wdS G qS sS))) : zW x G ce sl pc lv (.ref (qC 0) :: st) (wdC G qC rC sC ++ (wdS G qS sS)) := z_get C (Cn := RX2) (T := TX2) (N := 18) (ci := 2) (k := 7) inzX2 rfl (by decide) rw_u_227 (fun _ h => h) 0 rfl rfl hd K
theorem rw_l_CS_C_8 {x : zX} {G : zG} {ce sl pc : Nat} {lv : List (Nat × Value)} {st : List Value} {cc : ByteArray} {nL : Nat} {ret : Option FieldType} {rm : Room} {own : String} {qC qS : Nat → Nat} {rC : Nat} {sC sS : zSt} {i : Int32} {α : Type} {o : α} {kk : Option α} (C : zC x G own cc nL ret rm) (hd : decode cc pc = .ok (.iaload, 1)) (h : zg (zix i 10) kk = some o) (K : kk = some o → zW x G ce sl (pc + 1) lv (.int (zA sC 8 i.toNatClampNeg) :: st) (wdC G qC rC sC ++ (wdS G qS sS))) : zW x G ce sl pc lv (.int i :: .ref (qC 9) :: st) (wdC G qC rC sC ++ (wdS G qS sS)) := z_iald C 6 rfl hd h K
theorem rw_s_CS_C_7 {x : zX} {G : zG} {ce sl pc : Nat} {lv : List (Nat × Value)} {st : List Value} {cc : ByteArray} {nL : Nat} {ret : Option FieldType} {rm : Room} {own : String} {qC qS : Nat → Nat} {rC : Nat} {sC sS : zSt} {i : Int32} {v : Int32} {α : Type} {o : α} {kk : zSt → Option α} (C : zC x G own cc nL ret rm) (hd : decode cc pc = .ok (.iastore, 1)) (h : zg (zix i 10) (zn (zsA sC 7 i.toNatClampNeg v) kk) = some o) (K : ∀ s' : zSt, kk s' = some o → zW x G ce sl (pc + 1) lv st (wdC G qC rC s' ++ (wdS G qS sS))) : zW x G ce sl pc lv (.int v :: .int i :: .ref (qC 8) :: st) (wdC G qC rC sC ++ (wdS G qS sS)) := z_iast C (w' := wdC G qC rC (zsA sC 7 i.toNatClampNeg v) ++ (wdS G qS sS)) 5 rfl rfl hd h (fun h => K _ h)
theorem rw_g_X2_68_C_C {x : zX} {G : zG} {ce sl pc : Nat} {lv : List (Nat × Value)} {st : List Value} {cc : ByteArray} {nL : Nat} {ret : Option FieldType} {rm : Room} {qC : Nat → Nat} {rC : Nat} {sC : zSt} (C : zC x G RX2 cc nL ret rm) (hd : decode cc pc = .ok (.getfield 68, 3)) (K : zW x G ce sl (pc + 3) lv (.int (zI sC 13) :: st) (wdC G qC rC sC)) : zW x G ce sl pc lv (.ref (qC 0) :: st) (wdC G qC rC sC) := z_get C (Cn := RX2) (T := TX2) (N := 18) (ci := 2) (k := 13) inzX2 rfl (by decide) rw_u_244 (fun _ h => h) 0 rfl rfl hd K
theorem rw_g_X2_49_C_C {x : zX} {G : zG} {ce sl pc : Nat} {lv : List (Nat × Value)} {st : List Value} {cc : ByteArray} {nL : Nat} {ret : Option FieldType} {rm : Room} {qC : Nat → Nat} {rC : Nat} {sC : zSt} (C : zC x G RX2 cc nL ret rm) (hd : decode cc pc = .ok (.getfield 49, 3)) (K : zW x G ce sl (pc + 3) lv (.ref (qC 15) :: st) (wdC G qC rC sC)) : zW x G ce sl pc lv (.ref (qC 0) :: st) (wdC G qC rC sC) := z_get C (Cn := RX2) (T := TX2) (N := 18) (ci := 2) (k := 14) inzX2 rfl (by decide) rw_u_247 (fun _ h => h) 0 rfl rfl hd K
theorem rw_s_C_C_14 {x : zX} {G : zG} {ce sl pc : Nat} {lv : List (Nat × Value)} {st : List Value} {cc : ByteArray} {nL : Nat} {ret : Option FieldType} {rm : Room} {own : String} {qC : Nat → Nat} {rC : Nat} {sC : zSt} {i : Int32} {v : Int32} {α : Type} {o : α} {kk : zSt → Option α} (C : zC x G own cc nL ret rm) (hd : decode cc pc = .ok (.iastore, 1)) (h : zg (zix i 50) (zn (zsA sC 14 i.toNatClampNeg v) kk) = some o) (K : ∀ s' : zSt, kk s' = some o → zW x G ce sl (pc + 1) lv st (wdC G qC rC s')) : zW x G ce sl pc lv (.int v :: .int i :: .ref (qC 15) :: st) (wdC G qC rC sC) := z_iast C (w' := wdC G qC rC (zsA sC 14 i.toNatClampNeg v)) 11 rfl rfl hd h (fun h => K _ h)
theorem rw_g_X2_52_C_C {x : zX} {G : zG} {ce sl pc : Nat} {lv : List (Nat × Value)} {st : List Value} {cc : ByteArray} {nL : Nat} {ret : Option FieldType} {rm : Room} {qC : Nat → Nat} {rC : Nat} {sC : zSt} (C : zC x G RX2 cc nL ret rm) (hd : decode cc pc = .ok (.getfield 52, 3)) (K : zW x G ce sl (pc + 3) lv (.ref (qC 16) :: st) (wdC G qC rC sC)) : zW x G ce sl pc lv (.ref (qC 0) :: st) (wdC G qC rC sC) := z_get C (Cn := RX2) (T := TX2) (N := 18) (ci := 2) (k := 15) inzX2 rfl (by decide) rw_u_249 (fun _ h => h) 0 rfl rfl hd K
theorem rw_s_C_C_15 {x : zX} {G : zG} {ce sl pc : Nat} {lv : List (Nat × Value)} {st : List Value} {cc : ByteArray} {nL : Nat} {ret : Option FieldType} {rm : Room} {own : String} {qC : Nat → Nat} {rC : Nat} {sC : zSt} {i : Int32} {v : Int32} {α : Type} {o : α} {kk : zSt → Option α} (C : zC x G own cc nL ret rm) (hd : decode cc pc = .ok (.iastore, 1)) (h : zg (zix i 50) (zn (zsA sC 15 i.toNatClampNeg v) kk) = some o) (K : ∀ s' : zSt, kk s' = some o → zW x G ce sl (pc + 1) lv st (wdC G qC rC s')) : zW x G ce sl pc lv (.int v :: .int i :: .ref (qC 16) :: st) (wdC G qC rC sC) := z_iast C (w' := wdC G qC rC (zsA sC 15 i.toNatClampNeg v)) 12 rfl rfl hd h (fun h => K _ h)
theorem rw_g_X2_55_C_C {x : zX} {G : zG} {ce sl pc : Nat} {lv : List (Nat × Value)} {st : List Value} {cc : ByteArray} {nL : Nat} {ret : Option FieldType} {rm : Room} {qC : Nat → Nat} {rC : Nat} {sC : zSt} (C : zC x G RX2 cc nL ret rm) (hd : decode cc pc = .ok (.getfield 55, 3)) (K : zW x G ce sl (pc + 3) lv (.ref (qC 17) :: st) (wdC G qC rC sC)) : zW x G ce sl pc lv (.ref (qC 0) :: st) (wdC G qC rC sC) := z_get C (Cn := RX2) (T := TX2) (N := 18) (ci := 2) (k := 16) inzX2 rfl (by decide) rw_u_251 (fun _ h => h) 0 rfl rfl hd K
theorem rw_s_C_C_16 {x : zX} {G : zG} {ce sl pc : Nat} {lv : List (Nat × Value)} {st : List Value} {cc : ByteArray} {nL : Nat} {ret : Option FieldType} {rm : Room} {own : String} {qC : Nat → Nat} {rC : Nat} {sC : zSt} {i : Int32} {v : Int32} {α : Type} {o : α} {kk : zSt → Option α} (C : zC x G own cc nL ret rm) (hd : decode cc pc = .ok (.iastore, 1)) (h : zg (zix i 50) (zn (zsA sC 16 i.toNatClampNeg v) kk) = some o) (K : ∀ s' : zSt, kk s' = some o → zW x G ce sl (pc + 1) lv st (wdC G qC rC s')) : zW x G ce sl pc lv (.int v :: .int i :: .ref (qC 17) :: st) (wdC G qC rC sC) := z_iast C (w' := wdC G qC rC (zsA sC 16 i.toNatClampNeg v)) 13 rfl rfl hd h (fun h => K _ h)
theorem rw_g_X2_58_C_C {x : zX} {G : zG} {ce sl pc : Nat} {lv : List (Nat × Value)} {st : List Value} {cc : ByteArray} {nL : Nat} {ret : Option FieldType} {rm : Room} {qC : Nat → Nat} {rC : Nat} {sC : zSt} (C : zC x G RX2 cc nL ret rm) (hd : decode cc pc = .ok (.getfield 58, 3)) (K : zW x G ce sl (pc + 3) lv (.ref (qC 18) :: st) (wdC G qC rC sC)) : zW x G ce sl pc lv (.ref (qC 0) :: st) (wdC G qC rC sC) := z_get C (Cn := RX2) (T := TX2) (N := 18) (ci := 2) (k := 17) inzX2 rfl (by decide) rw_u_253 (fun _ h => h) 0 rfl rfl hd K
theorem rw_g_X2_43_C_C {x : zX} {G : zG} {ce sl pc : Nat} {lv : List (Nat × Value)} {st : List Value} {cc : ByteArray} {nL : Nat} {ret : Option FieldType} {rm : Room} {qC : Nat → Nat} {rC : Nat} {sC : zSt} (C : zC x G RX2 cc nL ret rm) (hd : decode cc pc = .ok (.getfield 43, 3)) (K : zW x G ce sl (pc + 3) lv (.ref (qC 12) :: st) (wdC G qC rC sC)) : zW x G ce sl pc lv (.ref (qC 0) :: st) (wdC G qC rC sC) := z_get C (Cn := RX2) (T := TX2) (N := 18) (ci := 2) (k := 11) inzX2 rfl (by decide) rw_u_237 (fun _ h => h) 0 rfl rfl hd K
theorem rw_l_C_C_11 {x : zX} {G : zG} {ce sl pc : Nat} {lv : List (Nat × Value)} {st : List Value} {cc : ByteArray} {nL : Nat} {ret : Option FieldType} {rm : Room} {own : String} {qC : Nat → Nat} {rC : Nat} {sC : zSt} {i : Int32} {α : Type} {o : α} {kk : Option α} (C : zC x G own cc nL ret rm) (hd : decode cc pc = .ok (.iaload, 1)) (h : zg (zix i 10) kk = some o) (K : kk = some o → zW x G ce sl (pc + 1) lv (.int (zA sC 11 i.toNatClampNeg) :: st) (wdC G qC rC sC)) : zW x G ce sl pc lv (.int i :: .ref (qC 12) :: st) (wdC G qC rC sC) := z_iald C 9 rfl hd h K
theorem rw_s_C_C_17 {x : zX} {G : zG} {ce sl pc : Nat} {lv : List (Nat × Value)} {st : List Value} {cc : ByteArray} {nL : Nat} {ret : Option FieldType} {rm : Room} {own : String} {qC : Nat → Nat} {rC : Nat} {sC : zSt} {i : Int32} {v : Int32} {α : Type} {o : α} {kk : zSt → Option α} (C : zC x G own cc nL ret rm) (hd : decode cc pc = .ok (.iastore, 1)) (h : zg (zix i 50) (zn (zsA sC 17 i.toNatClampNeg v) kk) = some o) (K : ∀ s' : zSt, kk s' = some o → zW x G ce sl (pc + 1) lv st (wdC G qC rC s')) : zW x G ce sl pc lv (.int v :: .int i :: .ref (qC 18) :: st) (wdC G qC rC sC) := z_iast C (w' := wdC G qC rC (zsA sC 17 i.toNatClampNeg v)) 14 rfl rfl hd h (fun h => K _ h)
theorem rw_g_X2_46_C_C {x : zX} {G : zG} {ce sl pc : Nat} {lv : List (Nat × Value)} {st : List Value} {cc : ByteArray} {nL : Nat} {ret : Option FieldType} {rm : Room} {qC : Nat → Nat} {rC : Nat} {sC : zSt} (C : zC x G RX2 cc nL ret rm) (hd : decode cc pc = .ok (.getfield 46, 3)) (K : zW x G ce sl (pc + 3) lv (.ref (qC 13) :: st) (wdC G qC rC sC)) : zW x G ce sl pc lv (.ref (qC 0) :: st) (wdC G qC rC sC) := z_get C (Cn := RX2) (T := TX2) (N := 18) (ci := 2) (k := 12) inzX2 rfl (by decide) rw_u_241 (fun _ h => h) 0 rfl rfl hd K
theorem rw_l_C_C_12 {x : zX} {G : zG} {ce sl pc : Nat} {lv : List (Nat × Value)} {st : List Value} {cc : ByteArray} {nL : Nat} {ret : Option FieldType} {rm : Room} {own : String} {qC : Nat → Nat} {rC : Nat} {sC : zSt} {i : Int32} {α : Type} {o : α} {kk : Option α} (C : zC x G own cc nL ret rm) (hd : decode cc pc = .ok (.iaload, 1)) (h : zg (zix i 10) kk = some o) (K : kk = some o → zW x G ce sl (pc + 1) lv (.int (zA sC 12 i.toNatClampNeg) :: st) (wdC G qC rC sC)) : zW x G ce sl pc lv (.int i :: .ref (qC 13) :: st) (wdC G qC rC sC) := z_iald C 10 rfl hd h K
theorem rw_s_C_C_12 {x : zX} {G : zG} {ce sl pc : Nat} {lv : List (Nat × Value)} {st : List Value} {cc : ByteArray} {nL : Nat} {ret : Option FieldType} {rm : Room} {own : String} {qC : Nat → Nat} {rC : Nat} {sC : zSt} {i : Int32} {v : Int32} {α : Type} {o : α} {kk : zSt → Option α} (C : zC x G own cc nL ret rm) (hd : decode cc pc = .ok (.iastore, 1)) (h : zg (zix i 10) (zn (zsA sC 12 i.toNatClampNeg v) kk) = some o) (K : ∀ s' : zSt, kk s' = some o → zW x G ce sl (pc + 1) lv st (wdC G qC rC s')) : zW x G ce sl pc lv (.int v :: .int i :: .ref (qC 13) :: st) (wdC G qC rC sC) := z_iast C (w' := wdC G qC rC (zsA sC 12 i.toNatClampNeg v)) 10 rfl rfl hd h (fun h => K _ h)
theorem rw_p_X2_61_CS_C {x : zX} {G : zG} {ce sl pc : Nat} {lv : List (Nat × Value)} {st : List Value} {cc : ByteArray} {nL : Nat} {ret : Option FieldType} {rm : Room} {qC qS : Nat → Nat} {rC : Nat} {sC sS : zSt} {v : Int32} {α : Type} {o : α} {kk : zSt → Option α} (C : zC x G RX2 cc nL ret rm) (hd : decode cc pc = .ok (.putfield 61, 3)) (h : zn (zsI sC 1 v) kk = some o) (K : ∀ s' : zSt, kk s' = some o → zW x G ce sl (pc + 3) lv st (wdC G qC rC s' ++ (wdS G qS sS))) : zW x G ce sl pc lv (.int v :: .ref (qC 0) :: st) (wdC G qC rC sC ++ (wdS G qS sS)) := z_put C (Cn := RX2) (T := TX2) (N := 18) (ci := 2) (k := 1) (ty := .int) (w' := wdC G qC rC (zsI sC 1 v) ++ (wdS G qS sS)) inzX2 tyX2 tyX2_ok nmX2 rfl (by decide) rw_u_212 (fun _ h => h) rfl 0 rfl (by decide +kernel) rfl rfl (Nat.le_of_ble_eq_true rfl) rfl hd (K _ h)
theorem rw_c_X2_105 {x : zX} {G : zG} {ce sl pc : Nat} {lv : List (Nat × Value)} {cc : ByteArray} {nL : Nat} {ret : Option FieldType} {rm : Room} {w w1 : va_W} {rest : List Value} {r : Option Value} {a0 : Int32} {b : Nat} {fs : List Value} (C : zC x G RX2 cc nL ret rm) (hc : Ct (xl x) G yX7_movesAll cX7_movesAll 2 (some .boolean) rmX7_movesAll [.ref b, .int a0] w r w1) (q0 : Nat) (he : w[q0]? = some (b, .inr (7, fs))) (hd : decode cc pc = .ok (.invokevirtual 105, 3)) (hcat : (rest.map fun v => v.category).sum ≤ 8) (hrm : zRm rm rmX7_movesAll 2 ce sl) (K : zW x G (ce + rmX7_movesAll.cells) (sl + rmX7_movesAll.slots) (pc + 3) lv (r.toList ++ rest) w1) : zW x G ce sl pc lv (.int a0 :: .ref b :: rest) w := z_callV C 1 rw_u_619 rw_u_73 rw_u_616 rw_u_617 rw_u_618 ⟨by decide, by decide, by decide +kernel⟩ (T := TX7) (N := 13) rfl hc rfl q0 he hd hcat hrm K
theorem rw_g_X2_91_CS_S {x : zX} {G : zG} {ce sl pc : Nat} {lv : List (Nat × Value)} {st : List Value} {cc : ByteArray} {nL : Nat} {ret : Option FieldType} {rm : Room} {qC qS : Nat → Nat} {rC : Nat} {sC sS : zSt} (C : zC x G RX2 cc nL ret rm) (hd : decode cc pc = .ok (.getfield 91, 3)) (K : zW x G ce sl (pc + 3) lv (.ref (qS 9) :: st) (wdC G qC rC sC ++ (wdS G qS sS))) : zW x G ce sl pc lv (.ref (qS 0) :: st) (wdC G qC rC sC ++ (wdS G qS sS)) := z_get C (Cn := RX7) (T := TX7) (N := 13) (ci := 7) (k := 8) inzX7 rfl (by decide) rw_u_162 (fun _ h => h) 15 rfl rfl hd K
theorem rw_l_CS_S_8 {x : zX} {G : zG} {ce sl pc : Nat} {lv : List (Nat × Value)} {st : List Value} {cc : ByteArray} {nL : Nat} {ret : Option FieldType} {rm : Room} {own : String} {qC qS : Nat → Nat} {rC : Nat} {sC sS : zSt} {i : Int32} {α : Type} {o : α} {kk : Option α} (C : zC x G own cc nL ret rm) (hd : decode cc pc = .ok (.iaload, 1)) (h : zg (zix i 30) kk = some o) (K : kk = some o → zW x G ce sl (pc + 1) lv (.int (zA sS 8 i.toNatClampNeg) :: st) (wdC G qC rC sC ++ (wdS G qS sS))) : zW x G ce sl pc lv (.int i :: .ref (qS 9) :: st) (wdC G qC rC sC ++ (wdS G qS sS)) := z_iald C 21 rfl hd h K
theorem rw_c_X2_94 {x : zX} {G : zG} {ce sl pc : Nat} {lv : List (Nat × Value)} {cc : ByteArray} {nL : Nat} {ret : Option FieldType} {rm : Room} {w w1 : va_W} {rest : List Value} {r : Option Value} {a0 : Int32} {a1 : Int32} {a2 : Int32} {b : Nat} {fs : List Value} (C : zC x G RX2 cc nL ret rm) (hc : Ct (xl x) G yX2_takeIn cX2_takeIn 5 none rmX2_takeIn [.ref b, .int a0, .int a1, .int a2] w r w1) (q0 : Nat) (he : w[q0]? = some (b, .inr (2, fs))) (hd : decode cc pc = .ok (.invokevirtual 94, 3)) (hcat : (rest.map fun v => v.category).sum ≤ 8) (hrm : zRm rm rmX2_takeIn 5 ce sl) (K : zW x G (ce + rmX2_takeIn.cells) (sl + rmX2_takeIn.slots) (pc + 3) lv (r.toList ++ rest) w1) : zW x G ce sl pc lv (.int a2 :: .int a1 :: .int a0 :: .ref b :: rest) w := z_callV C 3 rw_u_588 rw_u_74 rw_u_585 rw_u_587 rw_u_18 ⟨by decide, by decide, by decide +kernel⟩ (T := TX2) (N := 18) rfl hc rfl q0 he hd hcat hrm K
theorem rw_c_X2_98 {x : zX} {G : zG} {ce sl pc : Nat} {lv : List (Nat × Value)} {cc : ByteArray} {nL : Nat} {ret : Option FieldType} {rm : Room} {w w1 : va_W} {rest : List Value} {r : Option Value} {a0 : Int32} {a1 : Int32} {a2 : Int32} {b : Nat} {fs : List Value} (C : zC x G RX2 cc nL ret rm) (hc : Ct (xl x) G yX2_notePut cX2_notePut 4 none rmX2_notePut [.ref b, .int a0, .int a1, .int a2] w r w1) (q0 : Nat) (he : w[q0]? = some (b, .inr (2, fs))) (hd : decode cc pc = .ok (.invokevirtual 98, 3)) (hcat : (rest.map fun v => v.category).sum ≤ 8) (hrm : zRm rm rmX2_notePut 4 ce sl) (K : zW x G (ce + rmX2_notePut.cells) (sl + rmX2_notePut.slots) (pc + 3) lv (r.toList ++ rest) w1) : zW x G ce sl pc lv (.int a2 :: .int a1 :: .int a0 :: .ref b :: rest) w := z_callV C 3 rw_u_611 rw_u_74 rw_u_608 rw_u_610 rw_u_20 ⟨by decide, by decide, by decide +kernel⟩ (T := TX2) (N := 18) rfl hc rfl q0 he hd hcat hrm K
theorem rw_l_CS_C_11 {x : zX} {G : zG} {ce sl pc : Nat} {lv : List (Nat × Value)} {st : List Value} {cc : ByteArray} {nL : Nat} {ret : Option FieldType} {rm : Room} {own : String} {qC qS : Nat → Nat} {rC : Nat} {sC sS : zSt} {i : Int32} {α : Type} {o : α} {kk : Option α} (C : zC x G own cc nL ret rm) (hd : decode cc pc = .ok (.iaload, 1)) (h : zg (zix i 10) kk = some o) (K : kk = some o → zW x G ce sl (pc + 1) lv (.int (zA sC 11 i.toNatClampNeg) :: st) (wdC G qC rC sC ++ (wdS G qS sS))) : zW x G ce sl pc lv (.int i :: .ref (qC 12) :: st) (wdC G qC rC sC ++ (wdS G qS sS)) := z_iald C 9 rfl hd h K
theorem rw_g_X2_22_CS_C {x : zX} {G : zG} {ce sl pc : Nat} {lv : List (Nat × Value)} {st : List Value} {cc : ByteArray} {nL : Nat} {ret : Option FieldType} {rm : Room} {qC qS : Nat → Nat} {rC : Nat} {sC sS : zSt} (C : zC x G RX2 cc nL ret rm) (hd : decode cc pc = .ok (.getfield 22, 3)) (K : zW x G ce sl (pc + 3) lv (.ref (qC 4) :: st) (wdC G qC rC sC ++ (wdS G qS sS))) : zW x G ce sl pc lv (.ref (qC 0) :: st) (wdC G qC rC sC ++ (wdS G qS sS)) := z_get C (Cn := RX2) (T := TX2) (N := 18) (ci := 2) (k := 3) inzX2 rfl (by decide) rw_u_217 (fun _ h => h) 0 rfl rfl hd K
theorem rw_l_CS_C_3 {x : zX} {G : zG} {ce sl pc : Nat} {lv : List (Nat × Value)} {st : List Value} {cc : ByteArray} {nL : Nat} {ret : Option FieldType} {rm : Room} {own : String} {qC qS : Nat → Nat} {rC : Nat} {sC sS : zSt} {i : Int32} {α : Type} {o : α} {kk : Option α} (C : zC x G own cc nL ret rm) (hd : decode cc pc = .ok (.iaload, 1)) (h : zg (zix i 3) kk = some o) (K : kk = some o → zW x G ce sl (pc + 1) lv (.int (zA sC 3 i.toNatClampNeg) :: st) (wdC G qC rC sC ++ (wdS G qS sS))) : zW x G ce sl pc lv (.int i :: .ref (qC 4) :: st) (wdC G qC rC sC ++ (wdS G qS sS)) := z_iald C 2 rfl hd h K
theorem rw_s_CS_C_3 {x : zX} {G : zG} {ce sl pc : Nat} {lv : List (Nat × Value)} {st : List Value} {cc : ByteArray} {nL : Nat} {ret : Option FieldType} {rm : Room} {own : String} {qC qS : Nat → Nat} {rC : Nat} {sC sS : zSt} {i : Int32} {v : Int32} {α : Type} {o : α} {kk : zSt → Option α} (C : zC x G own cc nL ret rm) (hd : decode cc pc = .ok (.iastore, 1)) (h : zg (zix i 3) (zn (zsA sC 3 i.toNatClampNeg v) kk) = some o) (K : ∀ s' : zSt, kk s' = some o → zW x G ce sl (pc + 1) lv st (wdC G qC rC s' ++ (wdS G qS sS))) : zW x G ce sl pc lv (.int v :: .int i :: .ref (qC 4) :: st) (wdC G qC rC sC ++ (wdS G qS sS)) := z_iast C (w' := wdC G qC rC (zsA sC 3 i.toNatClampNeg v) ++ (wdS G qS sS)) 2 rfl rfl hd h (fun h => K _ h)
theorem rw_c_X2_101 {x : zX} {G : zG} {ce sl pc : Nat} {lv : List (Nat × Value)} {cc : ByteArray} {nL : Nat} {ret : Option FieldType} {rm : Room} {w w1 : va_W} {rest : List Value} {r : Option Value} {a0 : Int32} {a1 : Int32} {b : Nat} {fs : List Value} (C : zC x G RX2 cc nL ret rm) (hc : Ct (xl x) G yX2_moveTo cX2_moveTo 4 none rmX2_moveTo [.ref b, .int a0, .int a1] w r w1) (q0 : Nat) (he : w[q0]? = some (b, .inr (2, fs))) (hd : decode cc pc = .ok (.invokevirtual 101, 3)) (hcat : (rest.map fun v => v.category).sum ≤ 8) (hrm : zRm rm rmX2_moveTo 4 ce sl) (K : zW x G (ce + rmX2_moveTo.cells) (sl + rmX2_moveTo.slots) (pc + 3) lv (r.toList ++ rest) w1) : zW x G ce sl pc lv (.int a1 :: .int a0 :: .ref b :: rest) w := z_callV C 2 rw_u_615 rw_u_74 rw_u_612 rw_u_613 rw_u_614 ⟨by decide, by decide, by decide +kernel⟩ (T := TX2) (N := 18) rfl hc rfl q0 he hd hcat hrm K
theorem rw_s_CS_C_2 {x : zX} {G : zG} {ce sl pc : Nat} {lv : List (Nat × Value)} {st : List Value} {cc : ByteArray} {nL : Nat} {ret : Option FieldType} {rm : Room} {own : String} {qC qS : Nat → Nat} {rC : Nat} {sC sS : zSt} {i : Int32} {v : Int32} {α : Type} {o : α} {kk : zSt → Option α} (C : zC x G own cc nL ret rm) (hd : decode cc pc = .ok (.iastore, 1)) (h : zg (zix i 5) (zn (zsA sC 2 i.toNatClampNeg v) kk) = some o) (K : ∀ s' : zSt, kk s' = some o → zW x G ce sl (pc + 1) lv st (wdC G qC rC s' ++ (wdS G qS sS))) : zW x G ce sl pc lv (.int v :: .int i :: .ref (qC 3) :: st) (wdC G qC rC sC ++ (wdS G qS sS)) := z_iast C (w' := wdC G qC rC (zsA sC 2 i.toNatClampNeg v) ++ (wdS G qS sS)) 1 rfl rfl hd h (fun h => K _ h)
theorem rw_g_X2_78_CS_S {x : zX} {G : zG} {ce sl pc : Nat} {lv : List (Nat × Value)} {st : List Value} {cc : ByteArray} {nL : Nat} {ret : Option FieldType} {rm : Room} {qC qS : Nat → Nat} {rC : Nat} {sC sS : zSt} (C : zC x G RX2 cc nL ret rm) (hd : decode cc pc = .ok (.getfield 78, 3)) (K : zW x G ce sl (pc + 3) lv (.ref (qS 11) :: st) (wdC G qC rC sC ++ (wdS G qS sS))) : zW x G ce sl pc lv (.ref (qS 0) :: st) (wdC G qC rC sC ++ (wdS G qS sS)) := z_get C (Cn := RX7) (T := TX7) (N := 13) (ci := 7) (k := 10) inzX7 rfl (by decide) rw_u_167 (fun _ h => h) 15 rfl rfl hd K
theorem rw_l_CS_S_10 {x : zX} {G : zG} {ce sl pc : Nat} {lv : List (Nat × Value)} {st : List Value} {cc : ByteArray} {nL : Nat} {ret : Option FieldType} {rm : Room} {own : String} {qC qS : Nat → Nat} {rC : Nat} {sC sS : zSt} {i : Int32} {α : Type} {o : α} {kk : Option α} (C : zC x G own cc nL ret rm) (hd : decode cc pc = .ok (.iaload, 1)) (h : zg (zix i 30) kk = some o) (K : kk = some o → zW x G ce sl (pc + 1) lv (.int (zA sS 10 i.toNatClampNeg) :: st) (wdC G qC rC sC ++ (wdS G qS sS))) : zW x G ce sl pc lv (.int i :: .ref (qS 11) :: st) (wdC G qC rC sC ++ (wdS G qS sS)) := z_iald C 23 rfl hd h K
theorem rw_g_X2_81_CS_S {x : zX} {G : zG} {ce sl pc : Nat} {lv : List (Nat × Value)} {st : List Value} {cc : ByteArray} {nL : Nat} {ret : Option FieldType} {rm : Room} {qC qS : Nat → Nat} {rC : Nat} {sC sS : zSt} (C : zC x G RX2 cc nL ret rm) (hd : decode cc pc = .ok (.getfield 81, 3)) (K : zW x G ce sl (pc + 3) lv (.ref (qS 12) :: st) (wdC G qC rC sC ++ (wdS G qS sS))) : zW x G ce sl pc lv (.ref (qS 0) :: st) (wdC G qC rC sC ++ (wdS G qS sS)) := z_get C (Cn := RX7) (T := TX7) (N := 13) (ci := 7) (k := 11) inzX7 rfl (by decide) rw_u_170 (fun _ h => h) 15 rfl rfl hd K
theorem rw_l_CS_S_11 {x : zX} {G : zG} {ce sl pc : Nat} {lv : List (Nat × Value)} {st : List Value} {cc : ByteArray} {nL : Nat} {ret : Option FieldType} {rm : Room} {own : String} {qC qS : Nat → Nat} {rC : Nat} {sC sS : zSt} {i : Int32} {α : Type} {o : α} {kk : Option α} (C : zC x G own cc nL ret rm) (hd : decode cc pc = .ok (.iaload, 1)) (h : zg (zix i 30) kk = some o) (K : kk = some o → zW x G ce sl (pc + 1) lv (.int (zA sS 11 i.toNatClampNeg) :: st) (wdC G qC rC sC ++ (wdS G qS sS))) : zW x G ce sl pc lv (.int i :: .ref (qS 12) :: st) (wdC G qC rC sC ++ (wdS G qS sS)) := z_iald C 24 rfl hd h K
theorem rw_g_X2_84_CS_S {x : zX} {G : zG} {ce sl pc : Nat} {lv : List (Nat × Value)} {st : List Value} {cc : ByteArray} {nL : Nat} {ret : Option FieldType} {rm : Room} {qC qS : Nat → Nat} {rC : Nat} {sC sS : zSt} (C : zC x G RX2 cc nL ret rm) (hd : decode cc pc = .ok (.getfield 84, 3)) (K : zW x G ce sl (pc + 3) lv (.ref (qS 13) :: st) (wdC G qC rC sC ++ (wdS G qS sS))) : zW x G ce sl pc lv (.ref (qS 0) :: st) (wdC G qC rC sC ++ (wdS G qS sS)) := z_get C (Cn := RX7) (T := TX7) (N := 13) (ci := 7) (k := 12) inzX7 rfl (by decide) rw_u_173 (fun _ h => h) 15 rfl rfl hd K
theorem rw_l_CS_S_12 {x : zX} {G : zG} {ce sl pc : Nat} {lv : List (Nat × Value)} {st : List Value} {cc : ByteArray} {nL : Nat} {ret : Option FieldType} {rm : Room} {own : String} {qC qS : Nat → Nat} {rC : Nat} {sC sS : zSt} {i : Int32} {α : Type} {o : α} {kk : Option α} (C : zC x G own cc nL ret rm) (hd : decode cc pc = .ok (.iaload, 1)) (h : zg (zix i 30) kk = some o) (K : kk = some o → zW x G ce sl (pc + 1) lv (.int (zA sS 12 i.toNatClampNeg) :: st) (wdC G qC rC sC ++ (wdS G qS sS))) : zW x G ce sl pc lv (.int i :: .ref (qS 13) :: st) (wdC G qC rC sC ++ (wdS G qS sS)) := z_iald C 25 rfl hd h K
theorem rw_c_X2_87 {x : zX} {G : zG} {ce sl pc : Nat} {lv : List (Nat × Value)} {cc : ByteArray} {nL : Nat} {ret : Option FieldType} {rm : Room} {w w1 : va_W} {rest : List Value} {r : Option Value} {a0 : Int32} {a1 : Int32} {a2 : Int32} {a3 : Int32} {b : Nat} {fs : List Value} (C : zC x G RX2 cc nL ret rm) (hc : Ct (xl x) G yX2_goOn cX2_goOn 5 none rmX2_goOn [.ref b, .int a0, .int a1, .int a2, .int a3] w r w1) (q0 : Nat) (he : w[q0]? = some (b, .inr (2, fs))) (hd : decode cc pc = .ok (.invokevirtual 87, 3)) (hcat : (rest.map fun v => v.category).sum ≤ 8) (hrm : zRm rm rmX2_goOn 5 ce sl) (K : zW x G (ce + rmX2_goOn.cells) (sl + rmX2_goOn.slots) (pc + 3) lv (r.toList ++ rest) w1) : zW x G ce sl pc lv (.int a3 :: .int a2 :: .int a1 :: .int a0 :: .ref b :: rest) w := z_callV C 4 rw_u_584 rw_u_74 rw_u_581 rw_u_583 rw_u_17 ⟨by decide, by decide, by decide +kernel⟩ (T := TX2) (N := 18) rfl hc rfl q0 he hd hcat hrm K
theorem rw_l_C_C_14 {x : zX} {G : zG} {ce sl pc : Nat} {lv : List (Nat × Value)} {st : List Value} {cc : ByteArray} {nL : Nat} {ret : Option FieldType} {rm : Room} {own : String} {qC : Nat → Nat} {rC : Nat} {sC : zSt} {i : Int32} {α : Type} {o : α} {kk : Option α} (C : zC x G own cc nL ret rm) (hd : decode cc pc = .ok (.iaload, 1)) (h : zg (zix i 50) kk = some o) (K : kk = some o → zW x G ce sl (pc + 1) lv (.int (zA sC 14 i.toNatClampNeg) :: st) (wdC G qC rC sC)) : zW x G ce sl pc lv (.int i :: .ref (qC 15) :: st) (wdC G qC rC sC) := z_iald C 11 rfl hd h K
theorem rw_l_C_C_15 {x : zX} {G : zG} {ce sl pc : Nat} {lv : List (Nat × Value)} {st : List Value} {cc : ByteArray} {nL : Nat} {ret : Option FieldType} {rm : Room} {own : String} {qC : Nat → Nat} {rC : Nat} {sC : zSt} {i : Int32} {α : Type} {o : α} {kk : Option α} (C : zC x G own cc nL ret rm) (hd : decode cc pc = .ok (.iaload, 1)) (h : zg (zix i 50) kk = some o) (K : kk = some o → zW x G ce sl (pc + 1) lv (.int (zA sC 15 i.toNatClampNeg) :: st) (wdC G qC rC sC)) : zW x G ce sl pc lv (.int i :: .ref (qC 16) :: st) (wdC G qC rC sC) := z_iald C 12 rfl hd h K
theorem rw_g_X2_34_C_C {x : zX} {G : zG} {ce sl pc : Nat} {lv : List (Nat × Value)} {st : List Value} {cc : ByteArray} {nL : Nat} {ret : Option FieldType} {rm : Room} {qC : Nat → Nat} {rC : Nat} {sC : zSt} (C : zC x G RX2 cc nL ret rm) (hd : decode cc pc = .ok (.getfield 34, 3)) (K : zW x G ce sl (pc + 3) lv (.ref (qC 9) :: st) (wdC G qC rC sC)) : zW x G ce sl pc lv (.ref (qC 0) :: st) (wdC G qC rC sC) := z_get C (Cn := RX2) (T := TX2) (N := 18) (ci := 2) (k := 8) inzX2 rfl (by decide) rw_u_229 (fun _ h => h) 0 rfl rfl hd K
theorem rw_l_C_C_8 {x : zX} {G : zG} {ce sl pc : Nat} {lv : List (Nat × Value)} {st : List Value} {cc : ByteArray} {nL : Nat} {ret : Option FieldType} {rm : Room} {own : String} {qC : Nat → Nat} {rC : Nat} {sC : zSt} {i : Int32} {α : Type} {o : α} {kk : Option α} (C : zC x G own cc nL ret rm) (hd : decode cc pc = .ok (.iaload, 1)) (h : zg (zix i 10) kk = some o) (K : kk = some o → zW x G ce sl (pc + 1) lv (.int (zA sC 8 i.toNatClampNeg) :: st) (wdC G qC rC sC)) : zW x G ce sl pc lv (.int i :: .ref (qC 9) :: st) (wdC G qC rC sC) := z_iald C 6 rfl hd h K
set_option maxHeartbeats 4000000 in
set_option maxRecDepth 100000 in
theorem cC_begin {l : Launch} {G : zG} {qC : Nat → Nat} {rC : Nat} {a0 : Nat} {sC : zSt}  {out : zSt} (h : fC_begin sC  = some out) : Ct l G yX2_begin cX2_begin 2 none rmX2_begin [.ref (qC 0), .ref a0] (wdC G qC rC sC) none (wdC G qC a0 out) := by
  refine zMet (own := RX2) rfl (by decide) (Nat.le_of_ble_eq_true rfl) (fun x hl C O => ?_)
  show zW x G 0 0 0 [(0, .ref (qC 0)), (1, .ref a0)] [] _
  unfold fC_begin at h
  refine z_aload_n C dX2_begin_0 0 rfl ?_
  refine z_aload_n C dX2_begin_1 1 rfl ?_
  refine rw_pr_X2_12_C_C C dX2_begin_2 ?_
  refine z_aload_n C dX2_begin_5 0 rfl ?_
  refine z_iconst C 0 dX2_begin_6 (by decide) ?_
  refine rw_p_X2_61_C_C C dX2_begin_7 h (fun sC1 h => ?_)
  refine z_aload_n C dX2_begin_10 0 rfl ?_
  refine z_iconst C 0 dX2_begin_11 (by decide) ?_
  refine rw_p_X2_65_C_C C dX2_begin_12 h (fun sC2 h => ?_)
  refine z_aload_n C dX2_begin_15 0 rfl ?_
  refine z_iconst C 0 dX2_begin_16 (by decide) ?_
  refine rw_p_X2_68_C_C C dX2_begin_17 h (fun sC3 h => ?_)
  refine z_aload_n C dX2_begin_20 0 rfl ?_
  refine rw_g_X2_18_C_C C dX2_begin_21 ?_
  refine z_ldc C rw_u_575 dX2_begin_24 ?_
  refine rw_fill_X2_72_C_C_2 C dX2_begin_26 (Nat.le_of_ble_eq_true rfl) (zrm rfl) h (fun sC4 h => ?_)
  refine z_aload_n C dX2_begin_29 0 rfl ?_
  refine rw_g_X2_22_C_C C dX2_begin_30 ?_
  refine z_iconst C 0 dX2_begin_33 (by decide) ?_
  refine rw_fill_X2_72_C_C_3 C dX2_begin_34 (Nat.le_of_ble_eq_true rfl) (zrm rfl) h (fun sC5 h => ?_)
  replace h := Option.some.inj h
  subst h
  exact z_vret C O dX2_begin_37 rfl rfl
set_option maxHeartbeats 4000000 in
set_option maxRecDepth 100000 in
theorem kC_fall_b99 {x : zX} {G : zG} {qC qS : Nat → Nat} {sS : zSt} {out : zSt} (C : zC x G RX2 cX2_fall 6 none rmX2_fall) (O : zO x G none (wdC G qC (qS 0) out ++ (wdS G qS sS)) 0 0)  {sC : zSt} {x1 : Int32} {x3 : Int32} {t0 : Int32} {t1 : Int32} (h : fC_fall_b99  sC sS x1 x3 t0 t1 = some out) : zW x G 0 0 99 [(0, .ref (qC 0)), (1, .int x1), (3, .int x3)] [.int t0, .int t1, .ref (qC 9)] (wdC G qC (qS 0) sC ++ (wdS G qS sS)) := by
  unfold fC_fall_b99 at h
  refine rw_s_CS_C_8 C dX2_fall_99 h (fun sC5 h => ?_)
  refine z_aload_n C dX2_fall_100 0 rfl ?_
  refine rw_g_X2_37_CS_C C dX2_fall_101 ?_
  refine z_iload_n C dX2_fall_104 1 rfl ?_
  refine z_iload_n C dX2_fall_105 2 rfl ?_
  refine rw_s_CS_C_9 C dX2_fall_106 h (fun sC6 h => ?_)
  replace h := Option.some.inj h
  subst h
  exact z_vret C O dX2_fall_107 rfl rfl
set_option maxHeartbeats 4000000 in
set_option maxRecDepth 100000 in
theorem cC_fall {l : Launch} {G : zG} {qC qS : Nat → Nat} {sC : zSt} {sS : zSt} {a0 : Int32} {a1 : Int32} {a2 : Int32} {out : zSt} (h : fC_fall sC sS a0 a1 a2 = some out) : Ct l G yX2_fall cX2_fall 6 none rmX2_fall [.ref (qC 0), .int a0, .int a1, .int a2] (wdC G qC (qS 0) sC ++ (wdS G qS sS)) none (wdC G qC (qS 0) out ++ (wdS G qS sS)) := by
  refine zMet (own := RX2) rfl (by decide) (Nat.le_of_ble_eq_true rfl) (fun x hl C O => ?_)
  show zW x G 0 0 0 [(0, .ref (qC 0)), (1, .int a0), (2, .int a1), (3, .int a2)] [] _
  unfold fC_fall at h
  refine z_aload_n C dX2_fall_0 0 rfl ?_
  refine rw_g_X2_25_CS_C C dX2_fall_1 ?_
  refine z_iload_n C dX2_fall_4 1 rfl ?_
  refine rw_l_CS_C_5 C dX2_fall_5 h (fun h => ?_)
  refine z_istoreN C dX2_fall_6 (by decide) (lvr := [(0, .ref (qC 0)), (1, .int a0), (2, .int a1), (3, .int a2)]) rfl h (fun x4_1 h => ?_)
  refine z_aload_n C dX2_fall_8 1 rfl ?_
  refine rw_g_X2_12_CS_C C dX2_fall_9 ?_
  refine z_iload C dX2_fall_12 0 rfl ?_
  obtain ⟨y2, hy2, h⟩ := bind_o h
  refine rw_c_X2_112 C (Ct.frame (cS_way hy2) (w := wdC G qC (qS 0) sC ++ (wdS G qS sS)) (w' := wdC G qC (qS 0) sC ++ (wdS G qS sS)) (wr := wdC G qC (qS 0) sC) [15, 16, 17, 18, 19, 20, 21, 22, 23, 24, 25] [0, 1, 2, 3, 4, 5, 6, 7, 8, 9, 10, 11, 12, 13, 14] [0, 1, 2, 3, 4, 5, 6, 7, 8, 9, 10, 11, 12, 13, 14, 15, 16, 17, 18, 19, 20, 21, 22, 23, 24, 25] rfl rfl rfl rfl (by decide) rfl rfl) 15 rfl dX2_fall_14 (Nat.le_of_ble_eq_true rfl) (zrm rfl) ?_
  refine z_istore C dX2_fall_17 (by decide) (lvr := [(4, .int x4_1), (0, .ref (qC 0)), (1, .int a0), (2, .int a1), (3, .int a2)]) rfl ?_
  refine z_aload_n C dX2_fall_19 2 rfl ?_
  refine rw_g_X2_40_CS_C C dX2_fall_20 ?_
  refine z_iload_n C dX2_fall_23 3 rfl ?_
  refine z_iload_n C dX2_fall_24 4 rfl ?_
  refine rw_s_CS_C_10 C dX2_fall_25 h (fun sC3 h => ?_)
  refine z_aload_n C dX2_fall_26 2 rfl ?_
  refine rw_g_X2_18_CS_C C dX2_fall_27 ?_
  refine z_iload C dX2_fall_30 0 rfl ?_
  refine rw_l_CS_C_2 C dX2_fall_32 h (fun h => ?_)
  refine z_ldc C rw_u_575 dX2_fall_33 ?_
  refine z_icmp_eq C dX2_fall_35 59 (by decide) h (fun h => ?_) (fun h => ?_)
  · refine z_aload_n C dX2_fall_59 2 rfl ?_
    refine rw_g_X2_34_CS_C C dX2_fall_60 ?_
    refine z_iload_n C dX2_fall_63 3 rfl ?_
    refine z_iload C dX2_fall_64 0 rfl ?_
    refine z_iconst C 4 dX2_fall_66 (by decide) ?_
    refine z_icmp_ne C dX2_fall_67 86 (by decide) h (fun h => ?_) (fun h => ?_)
    · refine z_aload_n C dX2_fall_86 2 rfl ?_
      refine rw_g_X2_12_CS_C C dX2_fall_87 ?_
      refine z_aload_n C dX2_fall_90 2 rfl ?_
      refine rw_g_X2_61_CS_C C dX2_fall_91 ?_
      refine z_iload C dX2_fall_94 1 rfl ?_
      obtain ⟨y4, hy4, h⟩ := bind_o h
      refine rw_c_X2_120 C (Ct.frame (cS_purseOfComer hy4) (w := wdC G qC (qS 0) sC3 ++ (wdS G qS sS)) (w' := wdC G qC (qS 0) sC3 ++ (wdS G qS sS)) (wr := wdC G qC (qS 0) sC3) [15, 16, 17, 18, 19, 20, 21, 22, 23, 24, 25] [0, 1, 2, 3, 4, 5, 6, 7, 8, 9, 10, 11, 12, 13, 14] [0, 1, 2, 3, 4, 5, 6, 7, 8, 9, 10, 11, 12, 13, 14, 15, 16, 17, 18, 19, 20, 21, 22, 23, 24, 25] rfl rfl rfl rfl (by decide) rfl rfl) 15 rfl dX2_fall_96 (Nat.le_of_ble_eq_true rfl) (zrm rfl) ?_
      refine z_perm [2, 3, 5] (lv' := [(0, .ref (qC 0)), (1, .int a0), (3, .int a2)]) rfl ?_
      exact kC_fall_b99 C O  h
    · refine z_aload_n C dX2_fall_70 2 rfl ?_
      refine rw_g_X2_12_CS_C C dX2_fall_71 ?_
      refine z_aload_n C dX2_fall_74 2 rfl ?_
      refine rw_g_X2_61_CS_C C dX2_fall_75 ?_
      refine z_iload C dX2_fall_78 1 rfl ?_
      obtain ⟨y7, hy7, h⟩ := bind_o h
      refine rw_c_X2_116 C (Ct.frame (cS_purseOfPayers hy7) (w := wdC G qC (qS 0) sC3 ++ (wdS G qS sS)) (w' := wdC G qC (qS 0) sC3 ++ (wdS G qS sS)) (wr := wdC G qC (qS 0) sC3) [15, 16, 17, 18, 19, 20, 21, 22, 23, 24, 25] [0, 1, 2, 3, 4, 5, 6, 7, 8, 9, 10, 11, 12, 13, 14] [0, 1, 2, 3, 4, 5, 6, 7, 8, 9, 10, 11, 12, 13, 14, 15, 16, 17, 18, 19, 20, 21, 22, 23, 24, 25] rfl rfl rfl rfl (by decide) rfl rfl) 15 rfl dX2_fall_80 (Nat.le_of_ble_eq_true rfl) (zrm rfl) ?_
      refine z_goto C dX2_fall_83 99 (by decide) ?_
      refine z_perm [2, 3, 5] (lv' := [(0, .ref (qC 0)), (1, .int a0), (3, .int a2)]) rfl ?_
      exact kC_fall_b99 C O  h
  · refine z_aload_n C dX2_fall_38 2 rfl ?_
    refine rw_g_X2_34_CS_C C dX2_fall_39 ?_
    refine z_iload_n C dX2_fall_42 3 rfl ?_
    refine z_aload_n C dX2_fall_43 2 rfl ?_
    refine rw_g_X2_18_CS_C C dX2_fall_44 ?_
    refine z_iload C dX2_fall_47 0 rfl ?_
    refine rw_l_CS_C_2 C dX2_fall_49 h (fun h => ?_)
    refine rw_s_CS_C_8 C dX2_fall_50 h (fun sC8 h => ?_)
    refine z_aload_n C dX2_fall_51 2 rfl ?_
    refine rw_g_X2_37_CS_C C dX2_fall_52 ?_
    refine z_iload_n C dX2_fall_55 3 rfl ?_
    refine z_iconst C 1 dX2_fall_56 (by decide) ?_
    refine rw_s_CS_C_9 C dX2_fall_57 h (fun sC9 h => ?_)
    replace h := Option.some.inj h
    subst h
    exact z_vret C O dX2_fall_58 rfl rfl
set_option maxHeartbeats 4000000 in
set_option maxRecDepth 100000 in
theorem cC_takeIn {l : Launch} {G : zG} {qC qS : Nat → Nat} {sC : zSt} {sS : zSt} {a0 : Int32} {a1 : Int32} {a2 : Int32} {out : zSt} (h : fC_takeIn sC sS a0 a1 a2 = some out) : Ct l G yX2_takeIn cX2_takeIn 5 none rmX2_takeIn [.ref (qC 0), .int a0, .int a1, .int a2] (wdC G qC (qS 0) sC ++ (wdS G qS sS)) none (wdC G qC (qS 0) out ++ (wdS G qS sS)) := by
  refine zMet (own := RX2) rfl (by decide) (Nat.le_of_ble_eq_true rfl) (fun x hl C O => ?_)
  show zW x G 0 0 0 [(0, .ref (qC 0)), (1, .int a0), (2, .int a1), (3, .int a2)] [] _
  unfold fC_takeIn at h
  refine z_aload_n C dX2_takeIn_0 0 rfl ?_
  refine rw_g_X2_65_CS_C C dX2_takeIn_1 ?_
  refine z_bipush C 10 dX2_takeIn_4 (by decide) ?_
  refine z_icmp_lt C dX2_takeIn_6 10 (by decide) h (fun h => ?_) (fun h => ?_)
  · refine z_aload_n C dX2_takeIn_10 0 rfl ?_
    refine rw_g_X2_65_CS_C C dX2_takeIn_11 ?_
    refine z_istoreN C dX2_takeIn_14 (by decide) (lvr := [(0, .ref (qC 0)), (1, .int a0), (2, .int a1), (3, .int a2)]) rfl h (fun x4_1 h => ?_)
    refine z_aload_n C dX2_takeIn_16 1 rfl ?_
    refine z_dup C dX2_takeIn_17 rfl ?_
    refine rw_g_X2_65_CS_C C dX2_takeIn_18 ?_
    refine z_iconst C 1 dX2_takeIn_21 (by decide) ?_
    refine z_iadd C dX2_takeIn_22 ?_
    refine rw_p_X2_65_CS_C C dX2_takeIn_23 h (fun sC2 h => ?_)
    refine z_aload_n C dX2_takeIn_26 1 rfl ?_
    refine rw_g_X2_25_CS_C C dX2_takeIn_27 ?_
    refine z_iload C dX2_takeIn_30 0 rfl ?_
    refine z_iload_n C dX2_takeIn_32 2 rfl ?_
    refine rw_s_CS_C_5 C dX2_takeIn_33 h (fun sC3 h => ?_)
    refine z_aload_n C dX2_takeIn_34 1 rfl ?_
    refine rw_g_X2_28_CS_C C dX2_takeIn_35 ?_
    refine z_iload C dX2_takeIn_38 0 rfl ?_
    refine z_iload_n C dX2_takeIn_40 3 rfl ?_
    refine rw_s_CS_C_6 C dX2_takeIn_41 h (fun sC4 h => ?_)
    refine z_aload_n C dX2_takeIn_42 1 rfl ?_
    refine rw_g_X2_43_CS_C C dX2_takeIn_43 ?_
    refine z_iload C dX2_takeIn_46 0 rfl ?_
    refine z_iload_n C dX2_takeIn_48 4 rfl ?_
    refine rw_s_CS_C_11 C dX2_takeIn_49 h (fun sC5 h => ?_)
    refine z_aload_n C dX2_takeIn_50 1 rfl ?_
    refine rw_g_X2_46_CS_C C dX2_takeIn_51 ?_
    refine z_iload C dX2_takeIn_54 0 rfl ?_
    refine z_iconst C 0 dX2_takeIn_56 (by decide) ?_
    refine rw_s_CS_C_12 C dX2_takeIn_57 h (fun sC6 h => ?_)
    refine z_aload_n C dX2_takeIn_58 1 rfl ?_
    refine z_iload C dX2_takeIn_59 0 rfl ?_
    refine z_iload_n C dX2_takeIn_61 2 rfl ?_
    refine z_iconst C 0 dX2_takeIn_62 (by decide) ?_
    obtain ⟨y7, hy7, h⟩ := bind_o h
    refine rw_c_X2_109 C (cC_fall hy7) 0 rfl dX2_takeIn_63 (Nat.le_of_ble_eq_true rfl) (zrm rfl) ?_
    refine z_aload_n C dX2_takeIn_66 1 rfl ?_
    refine rw_g_X2_31_CS_C C dX2_takeIn_67 ?_
    refine z_iload C dX2_takeIn_70 0 rfl ?_
    refine z_aload_n C dX2_takeIn_72 1 rfl ?_
    refine rw_g_X2_34_CS_C C dX2_takeIn_73 ?_
    refine z_iload C dX2_takeIn_76 0 rfl ?_
    refine rw_l_CS_C_8 C dX2_takeIn_78 h (fun h => ?_)
    refine rw_s_CS_C_7 C dX2_takeIn_79 h (fun sC8 h => ?_)
    replace h := Option.some.inj h
    subst h
    exact z_vret C O dX2_takeIn_80 rfl rfl
  · replace h := Option.some.inj h
    subst h
    exact z_vret C O dX2_takeIn_9 rfl rfl
set_option maxHeartbeats 4000000 in
set_option maxRecDepth 100000 in
theorem cC_notePut {l : Launch} {G : zG} {qC : Nat → Nat} {rC : Nat} {sC : zSt} {a0 : Int32} {a1 : Int32} {a2 : Int32} {out : zSt} (h : fC_notePut sC a0 a1 a2 = some out) : Ct l G yX2_notePut cX2_notePut 4 none rmX2_notePut [.ref (qC 0), .int a0, .int a1, .int a2] (wdC G qC rC sC) none (wdC G qC rC out) := by
  refine zMet (own := RX2) rfl (by decide) (Nat.le_of_ble_eq_true rfl) (fun x hl C O => ?_)
  show zW x G 0 0 0 [(0, .ref (qC 0)), (1, .int a0), (2, .int a1), (3, .int a2)] [] _
  unfold fC_notePut at h
  refine z_iload_n C dX2_notePut_0 3 rfl ?_
  refine z_if_le C dX2_notePut_1 17 (by decide) h (fun h => ?_) (fun h => ?_)
  · replace h := Option.some.inj h
    subst h
    exact z_vret C O dX2_notePut_17 rfl rfl
  · refine z_iload_n C dX2_notePut_4 1 rfl ?_
    refine z_if_lt C dX2_notePut_5 17 (by decide) h (fun h => ?_) (fun h => ?_)
    · replace h := Option.some.inj h
      subst h
      exact z_vret C O dX2_notePut_17 rfl rfl
    · refine z_aload_n C dX2_notePut_8 0 rfl ?_
      refine rw_g_X2_68_C_C C dX2_notePut_9 ?_
      refine z_bipush C 50 dX2_notePut_12 (by decide) ?_
      refine z_icmp_lt C dX2_notePut_14 18 (by decide) h (fun h => ?_) (fun h => ?_)
      · refine z_aload_n C dX2_notePut_18 0 rfl ?_
        refine rw_g_X2_49_C_C C dX2_notePut_19 ?_
        refine z_aload_n C dX2_notePut_22 0 rfl ?_
        refine rw_g_X2_68_C_C C dX2_notePut_23 ?_
        refine z_iload_n C dX2_notePut_26 1 rfl ?_
        refine rw_s_C_C_14 C dX2_notePut_27 h (fun sC1 h => ?_)
        refine z_aload_n C dX2_notePut_28 0 rfl ?_
        refine rw_g_X2_52_C_C C dX2_notePut_29 ?_
        refine z_aload_n C dX2_notePut_32 0 rfl ?_
        refine rw_g_X2_68_C_C C dX2_notePut_33 ?_
        refine z_iload_n C dX2_notePut_36 2 rfl ?_
        refine rw_s_C_C_15 C dX2_notePut_37 h (fun sC2 h => ?_)
        refine z_aload_n C dX2_notePut_38 0 rfl ?_
        refine rw_g_X2_55_C_C C dX2_notePut_39 ?_
        refine z_aload_n C dX2_notePut_42 0 rfl ?_
        refine rw_g_X2_68_C_C C dX2_notePut_43 ?_
        refine z_iload_n C dX2_notePut_46 3 rfl ?_
        refine rw_s_C_C_16 C dX2_notePut_47 h (fun sC3 h => ?_)
        refine z_aload_n C dX2_notePut_48 0 rfl ?_
        refine rw_g_X2_58_C_C C dX2_notePut_49 ?_
        refine z_aload_n C dX2_notePut_52 0 rfl ?_
        refine rw_g_X2_68_C_C C dX2_notePut_53 ?_
        refine z_aload_n C dX2_notePut_56 0 rfl ?_
        refine rw_g_X2_43_C_C C dX2_notePut_57 ?_
        refine z_iload_n C dX2_notePut_60 1 rfl ?_
        refine rw_l_C_C_11 C dX2_notePut_61 h (fun h => ?_)
        refine rw_s_C_C_17 C dX2_notePut_62 h (fun sC4 h => ?_)
        refine z_aload_n C dX2_notePut_63 0 rfl ?_
        refine z_dup C dX2_notePut_64 rfl ?_
        refine rw_g_X2_68_C_C C dX2_notePut_65 ?_
        refine z_iconst C 1 dX2_notePut_68 (by decide) ?_
        refine z_iadd C dX2_notePut_69 ?_
        refine rw_p_X2_68_C_C C dX2_notePut_70 h (fun sC5 h => ?_)
        refine z_aload_n C dX2_notePut_73 0 rfl ?_
        refine rw_g_X2_46_C_C C dX2_notePut_74 ?_
        refine z_iload_n C dX2_notePut_77 1 rfl ?_
        refine z_dup2 C dX2_notePut_78 rfl rfl ?_
        refine rw_l_C_C_12 C dX2_notePut_79 h (fun h => ?_)
        refine z_iconst C 1 dX2_notePut_80 (by decide) ?_
        refine z_iadd C dX2_notePut_81 ?_
        refine rw_s_C_C_12 C dX2_notePut_82 h (fun sC6 h => ?_)
        replace h := Option.some.inj h
        subst h
        exact z_vret C O dX2_notePut_83 rfl rfl
      · replace h := Option.some.inj h
        subst h
        exact z_vret C O dX2_notePut_17 rfl rfl
set_option maxHeartbeats 4000000 in
set_option maxRecDepth 100000 in
theorem kC_moveTo_l18b {x : zX} {G : zG} {qC qS : Nat → Nat} {sS : zSt} {out : zSt} (C : zC x G RX2 cX2_moveTo 4 none rmX2_moveTo) (O : zO x G none (wdC G qC (qS 0) out ++ (wdS G qS sS)) 0 0) {K18 : zSt → zSt → Int32 → Int32 → Option (zSt)} (hK18 : ∀ (sC : zSt) (x2 : Int32) (x3 : Int32), K18 sC sS x2 x3 = some out → zW x G 0 0 18 [(0, .ref (qC 0)), (2, .int x2), (3, .int x3)] [] (wdC G qC (qS 0) sC ++ (wdS G qS sS))) {sC : zSt} {x2 : Int32} {x3 : Int32} (h : fC_moveTo_l18b K18 sC sS x2 x3 = some out) : zW x G 0 0 18 [(0, .ref (qC 0)), (2, .int x2), (3, .int x3)] [] (wdC G qC (qS 0) sC ++ (wdS G qS sS)) := by
  unfold fC_moveTo_l18b at h
  refine z_iload_n C dX2_moveTo_18 2 rfl ?_
  refine z_aload_n C dX2_moveTo_19 0 rfl ?_
  refine rw_g_X2_65_CS_C C dX2_moveTo_20 ?_
  refine z_icmp_ge C dX2_moveTo_23 39 (by decide) h (fun h => ?_) (fun h => ?_)
  · replace h := Option.some.inj h
    subst h
    exact z_vret C O dX2_moveTo_39 rfl rfl
  · refine z_aload_n C dX2_moveTo_26 0 rfl ?_
    refine z_iload_n C dX2_moveTo_27 2 rfl ?_
    refine z_iload_n C dX2_moveTo_28 1 rfl ?_
    refine z_iconst C 2 dX2_moveTo_29 (by decide) ?_
    obtain ⟨y3, hy3, h⟩ := bind_o h
    refine rw_c_X2_109 C (cC_fall hy3) 0 rfl dX2_moveTo_30 (Nat.le_of_ble_eq_true rfl) (zrm rfl) ?_
    refine z_iinc C dX2_moveTo_33 2 rfl 1 (by decide) (by decide) (lvr := [(0, .ref (qC 0)), (2, .int x2)]) rfl h (fun x3_4 h => ?_)
    refine z_goto C dX2_moveTo_36 18 (by decide) ?_
    refine z_perm [1, 2, 0] (lv' := [(0, .ref (qC 0)), (2, .int x2), (3, .int x3_4)]) rfl ?_
    exact hK18 _  _ _ h
set_option maxHeartbeats 4000000 in
set_option maxRecDepth 100000 in
theorem kC_moveTo_l18 {x : zX} {G : zG} {qC qS : Nat → Nat} {sS : zSt} {out : zSt} (C : zC x G RX2 cX2_moveTo 4 none rmX2_moveTo) (O : zO x G none (wdC G qC (qS 0) out ++ (wdS G qS sS)) 0 0)  : ∀ (n : Nat) {sC : zSt} {x2 : Int32} {x3 : Int32}, fC_moveTo_l18  n sC sS x2 x3 = some out → zW x G 0 0 18 [(0, .ref (qC 0)), (2, .int x2), (3, .int x3)] [] (wdC G qC (qS 0) sC ++ (wdS G qS sS)) := by
  intro n
  induction n with
  | zero =>
    intro sC x2 x3 h
    have h : (none : Option (zSt)) = some out := h
    cases h
  | succ n ih =>
    intro sC x2 x3 h
    exact kC_moveTo_l18b C O (K18 := fun v0 v1 v2 v3 => fC_moveTo_l18  n v0 v1 v2 v3) (fun sC x2 x3 h => ih h) h
set_option maxHeartbeats 4000000 in
set_option maxRecDepth 100000 in
theorem cC_moveTo {l : Launch} {G : zG} {qC qS : Nat → Nat} {sC : zSt} {sS : zSt} {a0 : Int32} {a1 : Int32} {out : zSt} (h : fC_moveTo sC sS a0 a1 = some out) : Ct l G yX2_moveTo cX2_moveTo 4 none rmX2_moveTo [.ref (qC 0), .int a0, .int a1] (wdC G qC (qS 0) sC ++ (wdS G qS sS)) none (wdC G qC (qS 0) out ++ (wdS G qS sS)) := by
  refine zMet (own := RX2) rfl (by decide) (Nat.le_of_ble_eq_true rfl) (fun x hl C O => ?_)
  show zW x G 0 0 0 [(0, .ref (qC 0)), (1, .int a0), (2, .int a1)] [] _
  unfold fC_moveTo at h
  refine z_aload_n C dX2_moveTo_0 0 rfl ?_
  refine z_iload_n C dX2_moveTo_1 1 rfl ?_
  refine rw_p_X2_61_CS_C C dX2_moveTo_2 h (fun sC1 h => ?_)
  refine z_aload_n C dX2_moveTo_5 0 rfl ?_
  refine rw_g_X2_12_CS_C C dX2_moveTo_6 ?_
  refine z_iload_n C dX2_moveTo_9 1 rfl ?_
  obtain ⟨y2, hy2, h⟩ := bind_o h
  refine rw_c_X2_105 C (Ct.frame (cS_movesAll hy2) (w := wdC G qC (qS 0) sC1 ++ (wdS G qS sS)) (w' := wdC G qC (qS 0) sC1 ++ (wdS G qS sS)) (wr := wdC G qC (qS 0) sC1) [15, 16, 17, 18, 19, 20, 21, 22, 23, 24, 25] [0, 1, 2, 3, 4, 5, 6, 7, 8, 9, 10, 11, 12, 13, 14] [0, 1, 2, 3, 4, 5, 6, 7, 8, 9, 10, 11, 12, 13, 14, 15, 16, 17, 18, 19, 20, 21, 22, 23, 24, 25] rfl rfl rfl rfl (by decide) rfl rfl) 15 rfl dX2_moveTo_10 (Nat.le_of_ble_eq_true rfl) (zrm rfl) ?_
  refine z_ifb_eq C dX2_moveTo_13 39 (by decide) h (fun h => ?_) (fun h => ?_)
  · replace h := Option.some.inj h
    subst h
    exact z_vret C O dX2_moveTo_39 rfl rfl
  · refine z_iconst C 0 dX2_moveTo_16 (by decide) ?_
    refine z_istore_n C dX2_moveTo_17 (by decide) (lvr := [(0, .ref (qC 0)), (1, .int a0), (2, .int a1)]) rfl ?_
    refine z_perm [1, 3, 0] (lv' := [(0, .ref (qC 0)), (2, .int a1), (3, .int 0)]) rfl ?_
    exact kC_moveTo_l18 C O  zF h
set_option maxHeartbeats 4000000 in
set_option maxRecDepth 100000 in
theorem cC_goOn {l : Launch} {G : zG} {qC qS : Nat → Nat} {sC : zSt} {sS : zSt} {a0 : Int32} {a1 : Int32} {a2 : Int32} {a3 : Int32} {out : zSt} (h : fC_goOn sC sS a0 a1 a2 a3 = some out) : Ct l G yX2_goOn cX2_goOn 5 none rmX2_goOn [.ref (qC 0), .int a0, .int a1, .int a2, .int a3] (wdC G qC (qS 0) sC ++ (wdS G qS sS)) none (wdC G qC (qS 0) out ++ (wdS G qS sS)) := by
  refine zMet (own := RX2) rfl (by decide) (Nat.le_of_ble_eq_true rfl) (fun x hl C O => ?_)
  show zW x G 0 0 0 [(0, .ref (qC 0)), (1, .int a0), (2, .int a1), (3, .int a2), (4, .int a3)] [] _
  unfold fC_goOn at h
  refine z_aload_n C dX2_goOn_0 0 rfl ?_
  refine rw_g_X2_12_CS_C C dX2_goOn_1 ?_
  refine rw_g_X2_91_CS_S C dX2_goOn_4 ?_
  refine z_iload_n C dX2_goOn_7 1 rfl ?_
  refine rw_l_CS_S_8 C dX2_goOn_8 h (fun h => ?_)
  by_cases hc0 : (zA sS 8 a0.toNatClampNeg) = 0
  · refine z_tcase (off := 39) C dX2_goOn_9 0 hc0 (by decide) (by decide) (by decide) 48 (by decide) ?_
    replace h := zite_t h hc0
    refine z_aload_n C dX2_goOn_48 0 rfl ?_
    refine z_iload_n C dX2_goOn_49 1 rfl ?_
    refine z_iload C dX2_goOn_50 4 rfl ?_
    refine z_iload C dX2_goOn_52 4 rfl ?_
    obtain ⟨y1, hy1, h⟩ := bind_o h
    refine rw_c_X2_94 C (cC_takeIn hy1) 0 rfl dX2_goOn_54 (Nat.le_of_ble_eq_true rfl) (zrm rfl) ?_
    refine z_goto C dX2_goOn_57 173 (by decide) ?_
    replace h := Option.some.inj h
    subst h
    exact z_vret C O dX2_goOn_173 rfl rfl
  · replace h := zite_f h hc0
    by_cases hc1 : (zA sS 8 a0.toNatClampNeg) = 1
    · refine z_tcase (off := 51) C dX2_goOn_9 1 hc1 (by decide) (by decide) (by decide) 60 (by decide) ?_
      replace h := zite_t h hc1
      refine z_aload_n C dX2_goOn_60 0 rfl ?_
      refine z_iload_n C dX2_goOn_61 1 rfl ?_
      refine z_iconst C 0 dX2_goOn_62 (by decide) ?_
      refine z_iload_n C dX2_goOn_63 2 rfl ?_
      refine z_iload_n C dX2_goOn_64 3 rfl ?_
      refine z_iadd C dX2_goOn_65 ?_
      refine z_iload C dX2_goOn_66 4 rfl ?_
      refine z_iadd C dX2_goOn_68 ?_
      obtain ⟨y2, hy2, h⟩ := bind_o h
      refine rw_c_X2_94 C (cC_takeIn hy2) 0 rfl dX2_goOn_69 (Nat.le_of_ble_eq_true rfl) (zrm rfl) ?_
      refine z_aload_n C dX2_goOn_72 0 rfl ?_
      refine z_aload_n C dX2_goOn_73 0 rfl ?_
      refine rw_g_X2_65_CS_C C dX2_goOn_74 ?_
      refine z_iconst C 1 dX2_goOn_77 (by decide) ?_
      refine z_isub C dX2_goOn_78 ?_
      refine z_iconst C 0 dX2_goOn_79 (by decide) ?_
      refine z_iload_n C dX2_goOn_80 2 rfl ?_
      obtain ⟨y3, hy3, h⟩ := bind_o h
      refine rw_c_X2_98 C (Ct.frame (cC_notePut hy3) (w := wdC G qC (qS 0) y2 ++ (wdS G qS sS)) (w' := wdC G qC (qS 0) y3 ++ (wdS G qS sS)) (wr := wdS G qS sS) [0, 1, 2, 3, 4, 5, 6, 7, 8, 9, 10, 11, 12, 13, 14] [15, 16, 17, 18, 19, 20, 21, 22, 23, 24, 25] [11, 12, 13, 14, 15, 16, 17, 18, 19, 20, 21, 22, 23, 24, 25, 0, 1, 2, 3, 4, 5, 6, 7, 8, 9, 10] rfl rfl rfl rfl (by decide) rfl rfl) 0 rfl dX2_goOn_81 (Nat.le_of_ble_eq_true rfl) (zrm rfl) ?_
      refine z_aload_n C dX2_goOn_84 0 rfl ?_
      refine z_aload_n C dX2_goOn_85 0 rfl ?_
      refine rw_g_X2_65_CS_C C dX2_goOn_86 ?_
      refine z_iconst C 1 dX2_goOn_89 (by decide) ?_
      refine z_isub C dX2_goOn_90 ?_
      refine z_iconst C 1 dX2_goOn_91 (by decide) ?_
      refine z_iload_n C dX2_goOn_92 3 rfl ?_
      obtain ⟨y4, hy4, h⟩ := bind_o h
      refine rw_c_X2_98 C (Ct.frame (cC_notePut hy4) (w := wdC G qC (qS 0) y3 ++ (wdS G qS sS)) (w' := wdC G qC (qS 0) y4 ++ (wdS G qS sS)) (wr := wdS G qS sS) [0, 1, 2, 3, 4, 5, 6, 7, 8, 9, 10, 11, 12, 13, 14] [15, 16, 17, 18, 19, 20, 21, 22, 23, 24, 25] [11, 12, 13, 14, 15, 16, 17, 18, 19, 20, 21, 22, 23, 24, 25, 0, 1, 2, 3, 4, 5, 6, 7, 8, 9, 10] rfl rfl rfl rfl (by decide) rfl rfl) 0 rfl dX2_goOn_93 (Nat.le_of_ble_eq_true rfl) (zrm rfl) ?_
      refine z_aload_n C dX2_goOn_96 0 rfl ?_
      refine z_aload_n C dX2_goOn_97 0 rfl ?_
      refine rw_g_X2_65_CS_C C dX2_goOn_98 ?_
      refine z_iconst C 1 dX2_goOn_101 (by decide) ?_
      refine z_isub C dX2_goOn_102 ?_
      refine z_iconst C 2 dX2_goOn_103 (by decide) ?_
      refine z_iload C dX2_goOn_104 4 rfl ?_
      obtain ⟨y5, hy5, h⟩ := bind_o h
      refine rw_c_X2_98 C (Ct.frame (cC_notePut hy5) (w := wdC G qC (qS 0) y4 ++ (wdS G qS sS)) (w' := wdC G qC (qS 0) y5 ++ (wdS G qS sS)) (wr := wdS G qS sS) [0, 1, 2, 3, 4, 5, 6, 7, 8, 9, 10, 11, 12, 13, 14] [15, 16, 17, 18, 19, 20, 21, 22, 23, 24, 25] [11, 12, 13, 14, 15, 16, 17, 18, 19, 20, 21, 22, 23, 24, 25, 0, 1, 2, 3, 4, 5, 6, 7, 8, 9, 10] rfl rfl rfl rfl (by decide) rfl rfl) 0 rfl dX2_goOn_106 (Nat.le_of_ble_eq_true rfl) (zrm rfl) ?_
      refine z_goto C dX2_goOn_109 173 (by decide) ?_
      replace h := Option.some.inj h
      subst h
      exact z_vret C O dX2_goOn_173 rfl rfl
    · replace h := zite_f h hc1
      by_cases hc2 : (zA sS 8 a0.toNatClampNeg) = 2
      · refine z_tcase (off := 103) C dX2_goOn_9 2 hc2 (by decide) (by decide) (by decide) 112 (by decide) ?_
        replace h := zite_t h hc2
        refine z_aload_n C dX2_goOn_112 0 rfl ?_
        refine rw_g_X2_43_CS_C C dX2_goOn_113 ?_
        refine z_iload_n C dX2_goOn_116 2 rfl ?_
        refine z_dup2 C dX2_goOn_117 rfl rfl ?_
        refine rw_l_CS_C_11 C dX2_goOn_118 h (fun h => ?_)
        refine z_iload C dX2_goOn_119 4 rfl ?_
        refine z_iadd C dX2_goOn_121 ?_
        refine rw_s_CS_C_11 C dX2_goOn_122 h (fun sC6 h => ?_)
        refine z_aload_n C dX2_goOn_123 0 rfl ?_
        refine z_iload_n C dX2_goOn_124 2 rfl ?_
        refine z_iload_n C dX2_goOn_125 3 rfl ?_
        refine z_iload C dX2_goOn_126 4 rfl ?_
        obtain ⟨y7, hy7, h⟩ := bind_o h
        refine rw_c_X2_98 C (Ct.frame (cC_notePut hy7) (w := wdC G qC (qS 0) sC6 ++ (wdS G qS sS)) (w' := wdC G qC (qS 0) y7 ++ (wdS G qS sS)) (wr := wdS G qS sS) [0, 1, 2, 3, 4, 5, 6, 7, 8, 9, 10, 11, 12, 13, 14] [15, 16, 17, 18, 19, 20, 21, 22, 23, 24, 25] [11, 12, 13, 14, 15, 16, 17, 18, 19, 20, 21, 22, 23, 24, 25, 0, 1, 2, 3, 4, 5, 6, 7, 8, 9, 10] rfl rfl rfl rfl (by decide) rfl rfl) 0 rfl dX2_goOn_128 (Nat.le_of_ble_eq_true rfl) (zrm rfl) ?_
        refine z_goto C dX2_goOn_131 173 (by decide) ?_
        replace h := Option.some.inj h
        subst h
        exact z_vret C O dX2_goOn_173 rfl rfl
      · replace h := zite_f h hc2
        by_cases hc3 : (zA sS 8 a0.toNatClampNeg) = 3
        · refine z_tcase (off := 125) C dX2_goOn_9 3 hc3 (by decide) (by decide) (by decide) 134 (by decide) ?_
          replace h := zite_t h hc3
          refine z_aload_n C dX2_goOn_134 0 rfl ?_
          refine rw_g_X2_43_CS_C C dX2_goOn_135 ?_
          refine z_iload_n C dX2_goOn_138 2 rfl ?_
          refine z_iload_n C dX2_goOn_139 3 rfl ?_
          refine rw_s_CS_C_11 C dX2_goOn_140 h (fun sC8 h => ?_)
          refine z_goto C dX2_goOn_141 173 (by decide) ?_
          replace h := Option.some.inj h
          subst h
          exact z_vret C O dX2_goOn_173 rfl rfl
        · replace h := zite_f h hc3
          by_cases hc4 : (zA sS 8 a0.toNatClampNeg) = 4
          · refine z_tcase (off := 135) C dX2_goOn_9 4 hc4 (by decide) (by decide) (by decide) 144 (by decide) ?_
            replace h := zite_t h hc4
            refine z_aload_n C dX2_goOn_144 0 rfl ?_
            refine rw_g_X2_22_CS_C C dX2_goOn_145 ?_
            refine z_iload_n C dX2_goOn_148 2 rfl ?_
            refine z_dup2 C dX2_goOn_149 rfl rfl ?_
            refine rw_l_CS_C_3 C dX2_goOn_150 h (fun h => ?_)
            refine z_iload_n C dX2_goOn_151 3 rfl ?_
            refine z_iadd C dX2_goOn_152 ?_
            refine rw_s_CS_C_3 C dX2_goOn_153 h (fun sC9 h => ?_)
            refine z_goto C dX2_goOn_154 173 (by decide) ?_
            replace h := Option.some.inj h
            subst h
            exact z_vret C O dX2_goOn_173 rfl rfl
          · replace h := zite_f h hc4
            by_cases hc5 : (zA sS 8 a0.toNatClampNeg) = 5
            · refine z_tcase (off := 148) C dX2_goOn_9 5 hc5 (by decide) (by decide) (by decide) 157 (by decide) ?_
              replace h := zite_t h hc5
              refine z_aload_n C dX2_goOn_157 0 rfl ?_
              refine z_iload_n C dX2_goOn_158 2 rfl ?_
              refine z_iload_n C dX2_goOn_159 1 rfl ?_
              obtain ⟨y10, hy10, h⟩ := bind_o h
              refine rw_c_X2_101 C (cC_moveTo hy10) 0 rfl dX2_goOn_160 (Nat.le_of_ble_eq_true rfl) (zrm rfl) ?_
              refine z_goto C dX2_goOn_163 173 (by decide) ?_
              replace h := Option.some.inj h
              subst h
              exact z_vret C O dX2_goOn_173 rfl rfl
            · replace h := zite_f h hc5
              refine z_tout C dX2_goOn_9 (ztoutL 6 (by decide) (by intro k hk; match k, hk with | 0, _ => exact hc0 | 1, _ => exact hc1 | 2, _ => exact hc2 | 3, _ => exact hc3 | 4, _ => exact hc4 | 5, _ => exact hc5 | k + 6, hk => exact absurd hk (by omega))) 166 (by decide) ?_
              refine z_aload_n C dX2_goOn_166 0 rfl ?_
              refine rw_g_X2_18_CS_C C dX2_goOn_167 ?_
              refine z_iload_n C dX2_goOn_170 2 rfl ?_
              refine z_iload_n C dX2_goOn_171 3 rfl ?_
              refine rw_s_CS_C_2 C dX2_goOn_172 h (fun sC11 h => ?_)
              replace h := Option.some.inj h
              subst h
              exact z_vret C O dX2_goOn_173 rfl rfl
set_option maxHeartbeats 4000000 in
set_option maxRecDepth 100000 in
theorem kC_goThrough_l2b {x : zX} {G : zG} {qC qS : Nat → Nat} {sS : zSt} {out : zSt} (C : zC x G RX2 cX2_goThrough 4 none rmX2_goThrough) (O : zO x G none (wdC G qC (qS 0) out ++ (wdS G qS sS)) 0 0) {K2 : zSt → zSt → Int32 → Int32 → Option (zSt)} (hK2 : ∀ (sC : zSt) (x2 : Int32) (x3 : Int32), K2 sC sS x2 x3 = some out → zW x G 0 0 2 [(0, .ref (qC 0)), (2, .int x2), (3, .int x3)] [] (wdC G qC (qS 0) sC ++ (wdS G qS sS))) {sC : zSt} {x2 : Int32} {x3 : Int32} (h : fC_goThrough_l2b K2 sC sS x2 x3 = some out) : zW x G 0 0 2 [(0, .ref (qC 0)), (2, .int x2), (3, .int x3)] [] (wdC G qC (qS 0) sC ++ (wdS G qS sS)) := by
  unfold fC_goThrough_l2b at h
  refine z_iload_n C dX2_goThrough_2 2 rfl ?_
  refine z_iload_n C dX2_goThrough_3 1 rfl ?_
  refine z_icmp_ge C dX2_goThrough_4 45 (by decide) h (fun h => ?_) (fun h => ?_)
  · replace h := Option.some.inj h
    subst h
    exact z_vret C O dX2_goThrough_45 rfl rfl
  · refine z_aload_n C dX2_goThrough_7 0 rfl ?_
    refine z_iload_n C dX2_goThrough_8 2 rfl ?_
    refine z_aload_n C dX2_goThrough_9 0 rfl ?_
    refine rw_g_X2_12_CS_C C dX2_goThrough_10 ?_
    refine rw_g_X2_78_CS_S C dX2_goThrough_13 ?_
    refine z_iload_n C dX2_goThrough_16 2 rfl ?_
    refine rw_l_CS_S_10 C dX2_goThrough_17 h (fun h => ?_)
    refine z_aload_n C dX2_goThrough_18 0 rfl ?_
    refine rw_g_X2_12_CS_C C dX2_goThrough_19 ?_
    refine rw_g_X2_81_CS_S C dX2_goThrough_22 ?_
    refine z_iload_n C dX2_goThrough_25 2 rfl ?_
    refine rw_l_CS_S_11 C dX2_goThrough_26 h (fun h => ?_)
    refine z_aload_n C dX2_goThrough_27 0 rfl ?_
    refine rw_g_X2_12_CS_C C dX2_goThrough_28 ?_
    refine rw_g_X2_84_CS_S C dX2_goThrough_31 ?_
    refine z_iload_n C dX2_goThrough_34 2 rfl ?_
    refine rw_l_CS_S_12 C dX2_goThrough_35 h (fun h => ?_)
    obtain ⟨y1, hy1, h⟩ := bind_o h
    refine rw_c_X2_87 C (cC_goOn hy1) 0 rfl dX2_goThrough_36 (Nat.le_of_ble_eq_true rfl) (zrm rfl) ?_
    refine z_iinc C dX2_goThrough_39 2 rfl 1 (by decide) (by decide) (lvr := [(0, .ref (qC 0)), (2, .int x2)]) rfl h (fun x3_2 h => ?_)
    refine z_goto C dX2_goThrough_42 2 (by decide) ?_
    refine z_perm [1, 2, 0] (lv' := [(0, .ref (qC 0)), (2, .int x2), (3, .int x3_2)]) rfl ?_
    exact hK2 _  _ _ h
set_option maxHeartbeats 4000000 in
set_option maxRecDepth 100000 in
theorem kC_goThrough_l2 {x : zX} {G : zG} {qC qS : Nat → Nat} {sS : zSt} {out : zSt} (C : zC x G RX2 cX2_goThrough 4 none rmX2_goThrough) (O : zO x G none (wdC G qC (qS 0) out ++ (wdS G qS sS)) 0 0)  : ∀ (n : Nat) {sC : zSt} {x2 : Int32} {x3 : Int32}, fC_goThrough_l2  n sC sS x2 x3 = some out → zW x G 0 0 2 [(0, .ref (qC 0)), (2, .int x2), (3, .int x3)] [] (wdC G qC (qS 0) sC ++ (wdS G qS sS)) := by
  intro n
  induction n with
  | zero =>
    intro sC x2 x3 h
    have h : (none : Option (zSt)) = some out := h
    cases h
  | succ n ih =>
    intro sC x2 x3 h
    exact kC_goThrough_l2b C O (K2 := fun v0 v1 v2 v3 => fC_goThrough_l2  n v0 v1 v2 v3) (fun sC x2 x3 h => ih h) h
set_option maxHeartbeats 4000000 in
set_option maxRecDepth 100000 in
theorem cC_goThrough {l : Launch} {G : zG} {qC qS : Nat → Nat} {sC : zSt} {sS : zSt} {a0 : Int32} {a1 : Int32} {out : zSt} (h : fC_goThrough sC sS a0 a1 = some out) : Ct l G yX2_goThrough cX2_goThrough 4 none rmX2_goThrough [.ref (qC 0), .int a0, .int a1] (wdC G qC (qS 0) sC ++ (wdS G qS sS)) none (wdC G qC (qS 0) out ++ (wdS G qS sS)) := by
  refine zMet (own := RX2) rfl (by decide) (Nat.le_of_ble_eq_true rfl) (fun x hl C O => ?_)
  show zW x G 0 0 0 [(0, .ref (qC 0)), (1, .int a0), (2, .int a1)] [] _
  unfold fC_goThrough at h
  refine z_iload_n C dX2_goThrough_0 1 rfl ?_
  refine z_istore_n C dX2_goThrough_1 (by decide) (lvr := [(0, .ref (qC 0)), (1, .int a0), (2, .int a1)]) rfl ?_
  refine z_perm [1, 3, 0] (lv' := [(0, .ref (qC 0)), (2, .int a1), (3, .int a0)]) rfl ?_
  exact kC_goThrough_l2 C O  zF h
set_option maxHeartbeats 4000000 in
set_option maxRecDepth 100000 in
theorem kC_isFedByAnother_l2b {x : zX} {G : zG} {qC : Nat → Nat} {rC : Nat} {sC : zSt} {out : Bool} (C : zC x G RX2 cX2_isFedByAnother 3 (some .boolean) rmX2_isFedByAnother) (O : zO x G (some (.int (zb out))) (wdC G qC rC sC) 0 0) {K2 : zSt → Int32 → Int32 → Option (Bool)} (hK2 : ∀  (x1 : Int32) (x2 : Int32), K2 sC x1 x2 = some out → zW x G 0 0 2 [(0, .ref (qC 0)), (1, .int x1), (2, .int x2)] [] (wdC G qC rC sC))  {x1 : Int32} {x2 : Int32} (h : fC_isFedByAnother_l2b K2 sC x1 x2 = some out) : zW x G 0 0 2 [(0, .ref (qC 0)), (1, .int x1), (2, .int x2)] [] (wdC G qC rC sC) := by
  unfold fC_isFedByAnother_l2b at h
  refine z_iload_n C dX2_isFedByAnother_2 2 rfl ?_
  refine z_aload_n C dX2_isFedByAnother_3 0 rfl ?_
  refine rw_g_X2_68_C_C C dX2_isFedByAnother_4 ?_
  refine z_icmp_ge C dX2_isFedByAnother_7 43 (by decide) h (fun h => ?_) (fun h => ?_)
  · refine z_iconst C 0 dX2_isFedByAnother_43 (by decide) ?_
    replace h := Option.some.inj h
    subst h
    exact z_zret C O dX2_isFedByAnother_44 (zb_nar false) rfl rfl
  · refine z_aload_n C dX2_isFedByAnother_10 0 rfl ?_
    refine rw_g_X2_49_C_C C dX2_isFedByAnother_11 ?_
    refine z_iload_n C dX2_isFedByAnother_14 2 rfl ?_
    refine rw_l_C_C_14 C dX2_isFedByAnother_15 h (fun h => ?_)
    refine z_iload_n C dX2_isFedByAnother_16 1 rfl ?_
    refine z_icmp_ne C dX2_isFedByAnother_17 37 (by decide) h (fun h => ?_) (fun h => ?_)
    · refine z_iinc C dX2_isFedByAnother_37 2 rfl 1 (by decide) (by decide) (lvr := [(0, .ref (qC 0)), (1, .int x1)]) rfl h (fun x2_1 h => ?_)
      refine z_goto C dX2_isFedByAnother_40 2 (by decide) ?_
      refine z_perm [1, 2, 0] (lv' := [(0, .ref (qC 0)), (1, .int x1), (2, .int x2_1)]) rfl ?_
      exact hK2   _ _ h
    · refine z_aload_n C dX2_isFedByAnother_20 0 rfl ?_
      refine rw_g_X2_52_C_C C dX2_isFedByAnother_21 ?_
      refine z_iload_n C dX2_isFedByAnother_24 2 rfl ?_
      refine rw_l_C_C_15 C dX2_isFedByAnother_25 h (fun h => ?_)
      refine z_aload_n C dX2_isFedByAnother_26 0 rfl ?_
      refine rw_g_X2_34_C_C C dX2_isFedByAnother_27 ?_
      refine z_iload_n C dX2_isFedByAnother_30 1 rfl ?_
      refine rw_l_C_C_8 C dX2_isFedByAnother_31 h (fun h => ?_)
      refine z_icmp_eq C dX2_isFedByAnother_32 37 (by decide) h (fun h => ?_) (fun h => ?_)
      · refine z_iinc C dX2_isFedByAnother_37 2 rfl 1 (by decide) (by decide) (lvr := [(0, .ref (qC 0)), (1, .int x1)]) rfl h (fun x2_2 h => ?_)
        refine z_goto C dX2_isFedByAnother_40 2 (by decide) ?_
        refine z_perm [1, 2, 0] (lv' := [(0, .ref (qC 0)), (1, .int x1), (2, .int x2_2)]) rfl ?_
        exact hK2   _ _ h
      · refine z_iconst C 1 dX2_isFedByAnother_35 (by decide) ?_
        replace h := Option.some.inj h
        subst h
        exact z_zret C O dX2_isFedByAnother_36 (zb_nar true) rfl rfl
set_option maxHeartbeats 4000000 in
set_option maxRecDepth 100000 in
theorem kC_isFedByAnother_l2 {x : zX} {G : zG} {qC : Nat → Nat} {rC : Nat} {sC : zSt} {out : Bool} (C : zC x G RX2 cX2_isFedByAnother 3 (some .boolean) rmX2_isFedByAnother) (O : zO x G (some (.int (zb out))) (wdC G qC rC sC) 0 0)  : ∀ (n : Nat)  {x1 : Int32} {x2 : Int32}, fC_isFedByAnother_l2  n sC x1 x2 = some out → zW x G 0 0 2 [(0, .ref (qC 0)), (1, .int x1), (2, .int x2)] [] (wdC G qC rC sC) := by
  intro n
  induction n with
  | zero =>
    intro  x1 x2 h
    have h : (none : Option (Bool)) = some out := h
    cases h
  | succ n ih =>
    intro  x1 x2 h
    exact kC_isFedByAnother_l2b C O (K2 := fun v0 v1 v2 => fC_isFedByAnother_l2  n v0 v1 v2) (fun  x1 x2 h => ih h) h
set_option maxHeartbeats 4000000 in
set_option maxRecDepth 100000 in
theorem cC_isFedByAnother {l : Launch} {G : zG} {qC : Nat → Nat} {rC : Nat} {sC : zSt} {a0 : Int32} {out : Bool} (h : fC_isFedByAnother sC a0 = some out) : Ct l G yX2_isFedByAnother cX2_isFedByAnother 3 (some .boolean) rmX2_isFedByAnother [.ref (qC 0), .int a0] (wdC G qC rC sC) (some (.int (zb out))) (wdC G qC rC sC) := by
  refine zMet (own := RX2) rfl (by decide) (Nat.le_of_ble_eq_true rfl) (fun x hl C O => ?_)
  show zW x G 0 0 0 [(0, .ref (qC 0)), (1, .int a0)] [] _
  unfold fC_isFedByAnother at h
  refine z_iconst C 0 dX2_isFedByAnother_0 (by decide) ?_
  refine z_istore_n C dX2_isFedByAnother_1 (by decide) (lvr := [(0, .ref (qC 0)), (1, .int a0)]) rfl ?_
  refine z_perm [1, 2, 0] (lv' := [(0, .ref (qC 0)), (1, .int a0), (2, .int 0)]) rfl ?_
  exact kC_isFedByAnother_l2 C O  zF h

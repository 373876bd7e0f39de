theorem rw_u_221 : Cond.fieldLink RX8 82 "WhatWasHers$Course" "things" "I" ∈ zU := zm 221 (by decide +kernel) rfl
theorem rw_u_231 : Cond.fieldLink RX8 85 "WhatWasHers$Course" "inPurse" "[I" ∈ zU := zm 231 (by decide +kernel) rfl
theorem rw_u_298 : Cond.fieldLink RX8 9 "WhatWasHers$Sums" "has" "[J" ∈ zU := zm 298 (by decide +kernel) rfl
theorem rw_u_239 : Cond.fieldLink RX8 88 "WhatWasHers$Course" "worth" "[I" ∈ zU := zm 239 (by decide +kernel) rfl
theorem rw_u_300 : Cond.fieldLink RX8 15 "WhatWasHers$Sums" "came" "[J" ∈ zU := zm 300 (by decide +kernel) rfl
theorem rw_u_226 : Cond.fieldLink RX8 91 "WhatWasHers$Course" "cameWorth" "[I" ∈ zU := zm 226 (by decide +kernel) rfl
theorem rw_u_302 : Cond.fieldLink RX8 18 "WhatWasHers$Sums" "thingsIn" "[I" ∈ zU := zm 302 (by decide +kernel) rfl
theorem rw_u_218 : Cond.fieldLink RX8 79 "WhatWasHers$Course" "debts" "[I" ∈ zU := zm 218 (by decide +kernel) rfl
theorem rw_u_641 : Cond.methodLink RX8 125 Lib.Math.max.name ∈ zU := zm 641 (by decide +kernel) rfl
theorem rw_u_638 : Cond.methodLink RX8 119 Lib.Math.min.name ∈ zU := zm 638 (by decide +kernel) rfl
theorem rw_u_639 : Cond.static Lib.Math.min.name ∈ zU := zm 639 (by decide +kernel) rfl
theorem rw_u_640 : Cond.code Lib.Math.min.name Lib.Math.min.code 2 (some .int) ∈ zU := zm 640 (by decide +kernel) rfl
theorem rw_u_304 : Cond.fieldLink RX8 22 "WhatWasHers$Sums" "fedInto" "[J" ∈ zU := zm 304 (by decide +kernel) rfl
theorem rw_u_634 : Cond.code yJ7_fill_d0a16 cJ7_fill_d0a16 5 none ∈ zU := zm 634 (by decide +kernel) rfl
theorem rw_u_632 : Cond.methodLink RX8 94 yJ7_fill_d0a16 ∈ zU := zm 632 (by decide +kernel) rfl
theorem rw_u_633 : Cond.static yJ7_fill_d0a16 ∈ zU := zm 633 (by decide +kernel) rfl
theorem rw_u_306 : Cond.fieldLink RX8 25 "WhatWasHers$Sums" "owedTop" "[J" ∈ zU := zm 306 (by decide +kernel) rfl
theorem rw_u_245 : Cond.fieldLink RX8 100 "WhatWasHers$Course" "puts" "I" ∈ zU := zm 245 (by decide +kernel) rfl
theorem rw_u_252 : Cond.fieldLink RX8 103 "WhatWasHers$Course" "putSum" "[I" ∈ zU := zm 252 (by decide +kernel) rfl
theorem rw_u_248 : Cond.fieldLink RX8 106 "WhatWasHers$Course" "putThing" "[I" ∈ zU := zm 248 (by decide +kernel) rfl
theorem rw_u_250 : Cond.fieldLink RX8 109 "WhatWasHers$Course" "putPurse" "[I" ∈ zU := zm 250 (by decide +kernel) rfl
theorem rw_u_254 : Cond.fieldLink RX8 112 "WhatWasHers$Course" "putWeight" "[I" ∈ zU := zm 254 (by decide +kernel) rfl
theorem rw_u_637 : Cond.code yX8_claim cX8_claim 5 (some .int) ∈ zU := zm 637 (by decide +kernel) rfl
theorem rw_u_75 : Cond.initialized yX8_claim.cls ∈ zU := zm 75 (by decide +kernel) rfl
theorem rw_u_635 : Cond.methodLink RX8 115 yX8_claim ∈ zU := zm 635 (by decide +kernel) rfl
theorem rw_u_636 : Cond.static yX8_claim ∈ zU := zm 636 (by decide +kernel) rfl
theorem rw_u_314 : Cond.fieldLink RX8 38 "WhatWasHers$Sums" "matrix" "[J" ∈ zU := zm 314 (by decide +kernel) rfl
theorem rw_u_658 : Cond.code yX8_cell cX8_cell 4 (some .long) ∈ zU := zm 658 (by decide +kernel) rfl
theorem rw_u_655 : Cond.methodLink RX8 136 yX8_cell ∈ zU := zm 655 (by decide +kernel) rfl
theorem rw_u_657 : Cond.instanceMethod yX8_cell ∈ zU := zm 657 (by decide +kernel) rfl
theorem rw_u_26 : Cond.selects RX8 yX8_cell yX8_cell ∈ zU := zm 26 (by decide +kernel) rfl
theorem rw_u_662 : Cond.code yX8_minor cX8_minor 4 (some .long) ∈ zU := zm 662 (by decide +kernel) rfl
theorem rw_u_659 : Cond.methodLink RX8 140 yX8_minor ∈ zU := zm 659 (by decide +kernel) rfl
theorem rw_u_661 : Cond.instanceMethod yX8_minor ∈ zU := zm 661 (by decide +kernel) rfl
theorem rw_u_27 : Cond.selects RX8 yX8_minor yX8_minor ∈ zU := zm 27 (by decide +kernel) rfl
theorem rw_u_650 : Cond.constant RX8 132 (-1000000) ∈ zU := zm 650 (by decide +kernel) rfl
theorem rw_u_654 : Cond.code yX8_determinant cX8_determinant 2 (some .long) ∈ zU := zm 654 (by decide +kernel) rfl
theorem rw_u_651 : Cond.methodLink RX8 133 yX8_determinant ∈ zU := zm 651 (by decide +kernel) rfl
theorem rw_u_653 : Cond.instanceMethod yX8_determinant ∈ zU := zm 653 (by decide +kernel) rfl
theorem rw_u_25 : Cond.selects RX8 yX8_determinant yX8_determinant ∈ zU := zm 25 (by decide +kernel) rfl
theorem rw_u_312 : Cond.fieldLink RX8 34 "WhatWasHers$Sums" "bottom" "J" ∈ zU := zm 312 (by decide +kernel) rfl
theorem rw_u_308 : Cond.fieldLink RX8 28 "WhatWasHers$Sums" "netTop" "[J" ∈ zU := zm 308 (by decide +kernel) rfl
theorem rw_u_649 : Cond.code yX8_cameOrOne cX8_cameOrOne 2 (some .long) ∈ zU := zm 649 (by decide +kernel) rfl
theorem rw_u_646 : Cond.methodLink RX8 128 yX8_cameOrOne ∈ zU := zm 646 (by decide +kernel) rfl
theorem rw_u_648 : Cond.instanceMethod yX8_cameOrOne ∈ zU := zm 648 (by decide +kernel) rfl
theorem rw_u_24 : Cond.selects RX8 yX8_cameOrOne yX8_cameOrOne ∈ zU := zm 24 (by decide +kernel) rfl
theorem rw_u_211 : Cond.fieldLink RX8 41 "WhatWasHers$Course" "story" "LWhatWasHers$Story;" ∈ zU := zm 211 (by decide +kernel) rfl
theorem rw_u_154 : Cond.fieldLink RX8 47 "WhatWasHers$Story" "owe" "[I" ∈ zU := zm 154 (by decide +kernel) rfl
theorem rw_u_213 : Cond.fieldLink RX8 52 "WhatWasHers$Course" "law" "I" ∈ zU := zm 213 (by decide +kernel) rfl
theorem rw_u_627 : Cond.code yX8_addThings cX8_addThings 4 none ∈ zU := zm 627 (by decide +kernel) rfl
theorem rw_u_624 : Cond.methodLink RX8 56 yX8_addThings ∈ zU := zm 624 (by decide +kernel) rfl
theorem rw_u_626 : Cond.instanceMethod yX8_addThings ∈ zU := zm 626 (by decide +kernel) rfl
theorem rw_u_21 : Cond.selects RX8 yX8_addThings yX8_addThings ∈ zU := zm 21 (by decide +kernel) rfl
theorem rw_u_631 : Cond.code yX8_addPuts cX8_addPuts 8 none ∈ zU := zm 631 (by decide +kernel) rfl
theorem rw_u_628 : Cond.methodLink RX8 60 yX8_addPuts ∈ zU := zm 628 (by decide +kernel) rfl
theorem rw_u_630 : Cond.instanceMethod yX8_addPuts ∈ zU := zm 630 (by decide +kernel) rfl
theorem rw_u_22 : Cond.selects RX8 yX8_addPuts yX8_addPuts ∈ zU := zm 22 (by decide +kernel) rfl
theorem rw_u_666 : Cond.code yX8_addNets cX8_addNets 3 none ∈ zU := zm 666 (by decide +kernel) rfl
theorem rw_u_663 : Cond.methodLink RX8 67 yX8_addNets ∈ zU := zm 663 (by decide +kernel) rfl
theorem rw_u_665 : Cond.instanceMethod yX8_addNets ∈ zU := zm 665 (by decide +kernel) rfl
theorem rw_u_28 : Cond.selects RX8 yX8_addNets yX8_addNets ∈ zU := zm 28 (by decide +kernel) rfl
theorem rw_u_159 : Cond.fieldLink RX8 70 "WhatWasHers$Story" "hundredths" "[I" ∈ zU := zm 159 (by decide +kernel) rfl
theorem rw_u_310 : Cond.fieldLink RX8 31 "WhatWasHers$Sums" "endTop" "[J" ∈ zU := zm 310 (by decide +kernel) rfl
theorem rw_u_667 : Cond.constantLong RX8 73 100 ∈ zU := zm 667 (by decide +kernel) rfl
theorem rw_u_645 : Cond.code yX8_solveParts cX8_solveParts 5 none ∈ zU := zm 645 (by decide +kernel) rfl
theorem rw_u_642 : Cond.methodLink RX8 64 yX8_solveParts ∈ zU := zm 642 (by decide +kernel) rfl
theorem rw_u_644 : Cond.instanceMethod yX8_solveParts ∈ zU := zm 644 (by decide +kernel) rfl
theorem rw_u_23 : Cond.selects RX8 yX8_solveParts yX8_solveParts ∈ zU := zm 23 (by decide +kernel) rfl
theorem rw_u_739 : Cond.code yX8_endBottom cX8_endBottom 1 (some .long) ∈ zU := zm 739 (by decide +kernel) rfl
theorem rw_u_754 : Cond.methodLink RX8 75 yX8_endBottom ∈ zU := zm 754 (by decide +kernel) rfl
theorem rw_u_737 : Cond.instanceMethod yX8_endBottom ∈ zU := zm 737 (by decide +kernel) rfl
theorem rw_u_738 : Cond.selects RX8 yX8_endBottom yX8_endBottom ∈ zU := zm 738 (by decide +kernel) rfl
/-! WhatWasHers$Sums.addThings(LWhatWasHers$Course;)V -/
abbrev rmX8_addThings : Room := { frames := 0, cells := 0, slots := 0, locals := 0 }
def fU_addThings_l43b (K43 : zSt → zSt → Int32 → Option (zSt)) (sU : zSt) (sC : zSt) (x2 : Int32) : Option (zSt) :=
  if (zI sC 4) ≤ x2 then (some (sU)) else (zg (zix x2 10) <| zn ((zA sC 8 x2.toNatClampNeg) : Int32) fun x3_1 => zg (zix x3_1 3) <| zg (zix x2 10) <| zg (zix x3_1 3) <| zn (zsL sU 0 x3_1.toNatClampNeg ((zL sU 0 x3_1.toNatClampNeg) + ((zA sC 11 x2.toNatClampNeg).toInt64))) fun sU2 => zg (zix x3_1 3) <| zg (zix x2 10) <| zg (zix x3_1 3) <| zn (zsL sU2 1 x3_1.toNatClampNeg ((zL sU2 1 x3_1.toNatClampNeg) + ((zA sC 6 x2.toNatClampNeg).toInt64))) fun sU3 => zg (zix x3_1 3) <| zg (zix x3_1 3) <| zn (zsA sU3 2 x3_1.toNatClampNeg ((zA sU3 2 x3_1.toNatClampNeg) + 1)) fun sU4 => zn (x2 + 1 : Int32) fun x2_5 => K43 sU4 sC x2_5)
def fU_addThings_l43  : Nat → zSt → zSt → Int32 → Option (zSt)
  | 0, _, _, _ => none
  | n + 1, v0, v1, v2 => fU_addThings_l43b  (fun v0 v1 v2 => fU_addThings_l43  n v0 v1 v2) v0 v1 v2
def fU_addThings_l2b (K2 : zSt → zSt → Int32 → Option (zSt)) (sU : zSt) (sC : zSt) (x2 : Int32) : Option (zSt) :=
  if 3 ≤ x2 then (fU_addThings_l43  zF sU sC 0) else (zg (zix x2 3) <| zg (zix x2 3) <| zn (zsL sU 0 x2.toNatClampNeg ((-(zA sC 3 x2.toNatClampNeg)).toInt64)) fun sU6 => zg (zix x2 3) <| zn (zsL sU6 1 x2.toNatClampNeg 0) fun sU7 => zg (zix x2 3) <| zn (zsA sU7 2 x2.toNatClampNeg 0) fun sU8 => zn (x2 + 1 : Int32) fun x2_9 => K2 sU8 sC x2_9)
def fU_addThings_l2  : Nat → zSt → zSt → Int32 → Option (zSt)
  | 0, _, _, _ => none
  | n + 1, v0, v1, v2 => fU_addThings_l2b  (fun v0 v1 v2 => fU_addThings_l2  n v0 v1 v2) v0 v1 v2
def fU_addThings (sU : zSt) (sC : zSt)  : Option (zSt) :=
  fU_addThings_l2  zF sU sC 0
/-! WhatWasHers$Sums.claim(IIII)I -/
abbrev rmX8_claim : Room := { frames := 1, cells := 0, slots := 0, locals := 21 }
def fU_claim  (a0 : Int32) (a1 : Int32) (a2 : Int32) (a3 : Int32) : Option (Int32) :=
  if a0 = 0 then (some (a1)) else (if a0 = 1 then (some (a1)) else (if 0 < a3 then (zg (znz a3) <| zn (((a1 * a2) / a3) : Int32) fun x4_1 => if a0 = 2 then (some (x4_1)) else (if a0 = 3 then (some ((if x4_1 < a1 then x4_1 else a1))) else (some ((if a1 < x4_1 then x4_1 else a1))))) else (some (a1))))
/-! WhatWasHers$Sums.addPuts(LWhatWasHers$Course;I)V -/
abbrev rmX8_addPuts : Room := { frames := 2, cells := 0, slots := 0, locals := 45 }
def fU_addPuts_l18b (K18 : zSt → zSt → Int32 → Int32 → Option (zSt)) (sU : zSt) (sC : zSt) (x2 : Int32) (x3 : Int32) : Option (zSt) :=
  if (zI sC 13) ≤ x3 then (some (sU)) else (zg (zix x3 50) <| zn ((zA sC 16 x3.toNatClampNeg) : Int32) fun x4_3 => zg (zix x3 50) <| zn ((zA sC 14 x3.toNatClampNeg) : Int32) fun x5_4 => zg (zix x3 50) <| zn ((zA sC 15 x3.toNatClampNeg) : Int32) fun x6_5 => zg (zix x5_4 10) <| zn ((zA sC 8 x5_4.toNatClampNeg) : Int32) fun x7_6 => zg (zix x7_6 3) <| zg (zix x7_6 3) <| zn (zsL sU 1 x7_6.toNatClampNeg ((zL sU 1 x7_6.toNatClampNeg) + (x4_3.toInt64))) fun sU7 => if x6_5 = x7_6 then (zn (x3 + 1 : Int32) fun x3_8 => K18 sU7 sC x2 x3_8) else (zg (zix ((x6_5 * 3) + x7_6) 9) <| zg (zix ((x6_5 * 3) + x7_6) 9) <| zn (zsL sU7 3 ((x6_5 * 3) + x7_6).toNatClampNeg ((zL sU7 3 ((x6_5 * 3) + x7_6).toNatClampNeg) + (x4_3.toInt64))) fun sU9 => zg (zix ((x6_5 * 3) + x7_6) 9) <| zg (zix x5_4 10) <| zg (zix x3 50) <| Option.bind (fU_claim x2 x4_3 (zA sC 11 x5_4.toNatClampNeg) (zA sC 17 x3.toNatClampNeg)) fun y10 => zg (zix ((x6_5 * 3) + x7_6) 9) <| zn (zsL sU9 4 ((x6_5 * 3) + x7_6).toNatClampNeg ((zL sU9 4 ((x6_5 * 3) + x7_6).toNatClampNeg) + (y10.toInt64))) fun sU11 => zn (x3 + 1 : Int32) fun x3_12 => K18 sU11 sC x2 x3_12))
def fU_addPuts_l18  : Nat → zSt → zSt → Int32 → Int32 → Option (zSt)
  | 0, _, _, _, _ => none
  | n + 1, v0, v1, v2, v3 => fU_addPuts_l18b  (fun v0 v1 v2 v3 => fU_addPuts_l18  n v0 v1 v2 v3) v0 v1 v2 v3
def fU_addPuts (sU : zSt) (sC : zSt) (a1 : Int32) : Option (zSt) :=
  zn (zsLf sU 3 (zfillL 9 0 (zL sU 3))) fun sU1 => zn (zsLf sU1 4 (zfillL 9 0 (zL sU1 4))) fun sU2 => fU_addPuts_l18  zF sU2 sC a1 0
/-! WhatWasHers$Sums.cameOrOne(I)J -/
abbrev rmX8_cameOrOne : Room := { frames := 0, cells := 0, slots := 0, locals := 0 }
def fU_cameOrOne (sU : zSt) (a0 : Int32) : Option (Int64) :=
  zg (zix a0 3) <| if (zL sU 1 a0.toNatClampNeg) = 0 then (some (1)) else (zg (zix a0 3) <| some ((zL sU 1 a0.toNatClampNeg)))
/-! WhatWasHers$Sums.cell(III)J -/
abbrev rmX8_cell : Room := { frames := 0, cells := 0, slots := 0, locals := 0 }
def fU_cell (sU : zSt) (a0 : Int32) (a1 : Int32) (a2 : Int32) : Option (Int64) :=
  if a1 = a2 then (zg (zix a0 3) <| some ((zL sU 0 a0.toNatClampNeg))) else (zg (zix ((a0 * 3) + a1) 9) <| some ((zL sU 8 ((a0 * 3) + a1).toNatClampNeg)))
/-! WhatWasHers$Sums.minor(III)J -/
abbrev rmX8_minor : Room := { frames := 1, cells := 0, slots := 0, locals := 23 }
def fU_minor (sU : zSt) (a0 : Int32) (a1 : Int32) (a2 : Int32) : Option (Int64) :=
  Option.bind (fU_cell sU 1 a0 a2) fun y1 => Option.bind (fU_cell sU 2 a1 a2) fun y2 => Option.bind (fU_cell sU 1 a1 a2) fun y3 => Option.bind (fU_cell sU 2 a0 a2) fun y4 => some (((y1 * y2) - (y3 * y4)))
/-! WhatWasHers$Sums.determinant(I)J -/
abbrev rmX8_determinant : Room := { frames := 2, cells := 0, slots := 0, locals := 46 }
def fU_determinant (sU : zSt) (a0 : Int32) : Option (Int64) :=
  Option.bind (fU_cell sU 0 0 a0) fun y1 => Option.bind (fU_minor sU 1 2 a0) fun y2 => Option.bind (fU_cell sU 0 1 a0) fun y3 => Option.bind (fU_minor sU 0 2 a0) fun y4 => Option.bind (fU_cell sU 0 2 a0) fun y5 => Option.bind (fU_minor sU 0 1 a0) fun y6 => some ((((y1 * y2) - (y3 * y4)) + (y5 * y6)))
/-! WhatWasHers$Sums.solveParts()V -/
abbrev rmX8_solveParts : Room := { frames := 3, cells := 0, slots := 0, locals := 67 }
def fU_solveParts_l121b (K94 : zSt → Int32 → Option (zSt)) (K121 : zSt → Int32 → Int64 → Int32 → Option (zSt)) (sU : zSt) (x1 : Int32) (x2 : Int64) (x4 : Int32) : Option (zSt) :=
  if 3 ≤ x4 then (zn (x1 + 1 : Int32) fun x1_6 => K94 sU x1_6) else (zg (zix ((x4 * 3) + x1) 9) <| zg (zix ((x4 * 3) + x1) 9) <| zn (zsL sU 4 ((x4 * 3) + x1).toNatClampNeg ((zL sU 3 ((x4 * 3) + x1).toNatClampNeg) * x2)) fun sU7 => zn (x4 + 1 : Int32) fun x4_8 => K121 sU7 x1 x2 x4_8)
def fU_solveParts_l121 (K94 : zSt → Int32 → Option (zSt)) : Nat → zSt → Int32 → Int64 → Int32 → Option (zSt)
  | 0, _, _, _, _ => none
  | n + 1, v0, v1, v2, v3 => fU_solveParts_l121b K94 (fun v0 v1 v2 v3 => fU_solveParts_l121 K94 n v0 v1 v2 v3) v0 v1 v2 v3
def fU_solveParts_l94b (K94 : zSt → Int32 → Option (zSt)) (sU : zSt) (x1 : Int32) : Option (zSt) :=
  if 3 ≤ x1 then (some (sU)) else (Option.bind (fU_determinant sU x1) fun y3 => Option.bind (fU_cameOrOne sU x1) fun y4 => zg (zix x1 3) <| zn (zsL sU 5 x1.toNatClampNeg (y4 * y3)) fun sU5 => fU_solveParts_l121 K94 zF sU5 x1 y3 0)
def fU_solveParts_l94  : Nat → zSt → Int32 → Option (zSt)
  | 0, _, _ => none
  | n + 1, v0, v1 => fU_solveParts_l94b  (fun v0 v1 => fU_solveParts_l94  n v0 v1) v0 v1
def fU_solveParts_l16b (K2 : zSt → Int32 → Option (zSt)) (K16 : zSt → Int32 → Int64 → Int32 → Option (zSt)) (sU : zSt) (x1 : Int32) (x2 : Int64) (x4 : Int32) : Option (zSt) :=
  if 3 ≤ x4 then (zg (zix ((x1 * 3) + x1) 9) <| zn (zsL sU 8 ((x1 * 3) + x1).toNatClampNeg x2) fun sU10 => zn (x1 + 1 : Int32) fun x1_11 => K2 sU10 x1_11) else (zg (zix ((x4 * 3) + x1) 9) <| zn ((x2 + (zL sU 3 ((x4 * 3) + x1).toNatClampNeg)) : Int64) fun x2_12 => zg (zix ((x1 * 3) + x4) 9) <| zg (zix ((x1 * 3) + x4) 9) <| zn (zsL sU 8 ((x1 * 3) + x4).toNatClampNeg (-(zL sU 3 ((x1 * 3) + x4).toNatClampNeg))) fun sU13 => zn (x4 + 1 : Int32) fun x4_14 => K16 sU13 x1 x2_12 x4_14)
def fU_solveParts_l16 (K2 : zSt → Int32 → Option (zSt)) : Nat → zSt → Int32 → Int64 → Int32 → Option (zSt)
  | 0, _, _, _, _ => none
  | n + 1, v0, v1, v2, v3 => fU_solveParts_l16b K2 (fun v0 v1 v2 v3 => fU_solveParts_l16 K2 n v0 v1 v2 v3) v0 v1 v2 v3
def fU_solveParts_l2b (K2 : zSt → Int32 → Option (zSt)) (sU : zSt) (x1 : Int32) : Option (zSt) :=
  if 3 ≤ x1 then (Option.bind (fU_determinant sU (-1000000)) fun y1 => zn (zsJ sU 7 y1) fun sU2 => fU_solveParts_l94  zF sU2 0) else (Option.bind (fU_cameOrOne sU x1) fun y9 => fU_solveParts_l16 K2 zF sU x1 y9 0)
def fU_solveParts_l2  : Nat → zSt → Int32 → Option (zSt)
  | 0, _, _ => none
  | n + 1, v0, v1 => fU_solveParts_l2b  (fun v0 v1 => fU_solveParts_l2  n v0 v1) v0 v1
def fU_solveParts (sU : zSt)  : Option (zSt) :=
  fU_solveParts_l2  zF sU 0
/-! WhatWasHers$Sums.addNets()V -/
abbrev rmX8_addNets : Room := { frames := 0, cells := 0, slots := 0, locals := 0 }
def fU_addNets_l21b (K2 : zSt → Int32 → Option (zSt)) (K21 : zSt → Int32 → Int32 → Option (zSt)) (sU : zSt) (x1 : Int32) (x2 : Int32) : Option (zSt) :=
  if 3 ≤ x2 then (zn (x1 + 1 : Int32) fun x1_2 => K2 sU x1_2) else (zg (zix x1 3) <| zg (zix ((x1 * 3) + x2) 9) <| zg (zix ((x2 * 3) + x1) 9) <| zg (zix x1 3) <| zn (zsL sU 5 x1.toNatClampNeg ((zL sU 5 x1.toNatClampNeg) + ((zL sU 4 ((x1 * 3) + x2).toNatClampNeg) - (zL sU 4 ((x2 * 3) + x1).toNatClampNeg)))) fun sU3 => zn (x2 + 1 : Int32) fun x2_4 => K21 sU3 x1 x2_4)
def fU_addNets_l21 (K2 : zSt → Int32 → Option (zSt)) : Nat → zSt → Int32 → Int32 → Option (zSt)
  | 0, _, _, _ => none
  | n + 1, v0, v1, v2 => fU_addNets_l21b K2 (fun v0 v1 v2 => fU_addNets_l21 K2 n v0 v1 v2) v0 v1 v2
def fU_addNets_l2b (K2 : zSt → Int32 → Option (zSt)) (sU : zSt) (x1 : Int32) : Option (zSt) :=
  if 3 ≤ x1 then (some (sU)) else (zg (zix x1 3) <| zg (zix x1 3) <| zn (zsL sU 5 x1.toNatClampNeg (zL sU 0 x1.toNatClampNeg)) fun sU1 => fU_addNets_l21 K2 zF sU1 x1 0)
def fU_addNets_l2  : Nat → zSt → Int32 → Option (zSt)
  | 0, _, _ => none
  | n + 1, v0, v1 => fU_addNets_l2b  (fun v0 v1 => fU_addNets_l2  n v0 v1) v0 v1
def fU_addNets (sU : zSt)  : Option (zSt) :=
  fU_addNets_l2  zF sU 0
/-! WhatWasHers$Sums.reckon(LWhatWasHers$Course;)V -/
abbrev rmX8_reckon : Room := { frames := 4, cells := 0, slots := 0, locals := 91 }
def fU_reckon_b47  (sU : zSt) (sC : zSt) (sS : zSt)  : Option (zSt) :=
  zg (zix (zI sC 1) 4) <| zn ((zA sS 7 (zI sC 1).toNatClampNeg) : Int32) fun x4_6 => zg (zix 0 3) <| zg (zix 2 3) <| zg (zix 0 2) <| zn (zsL sU 6 (0 : Int32).toNatClampNeg ((100 * (zL sU 5 (0 : Int32).toNatClampNeg)) + ((x4_6.toInt64) * (zL sU 5 (2 : Int32).toNatClampNeg)))) fun sU7 => zg (zix 1 3) <| zg (zix 2 3) <| zg (zix 1 2) <| zn (zsL sU7 6 (1 : Int32).toNatClampNeg ((100 * (zL sU7 5 (1 : Int32).toNatClampNeg)) + (((100 - x4_6).toInt64) * (zL sU7 5 (2 : Int32).toNatClampNeg)))) fun sU8 => some (sU8)
def fU_reckon (sU : zSt) (sC : zSt) (sS : zSt)  : Option (zSt) :=
  zg (zix (zI sC 1) 4) <| zn ((zA sS 5 (zI sC 1).toNatClampNeg) : Int32) fun x3_1 => Option.bind (fU_addThings sU sC) fun y2 => Option.bind (fU_addPuts y2 sC x3_1) fun y3 => zn (zsJ y3 7 1) fun sU4 => if x3_1 = 1 then (Option.bind (fU_solveParts sU4) fun y9 => fU_reckon_b47  y9 sC sS) else (Option.bind (fU_addNets sU4) fun y5 => fU_reckon_b47  y5 sC sS)
/-! WhatWasHers$Sums.endBottom()J -/
abbrev rmX8_endBottom : Room := { frames := 0, cells := 0, slots := 0, locals := 0 }
def fU_endBottom (sU : zSt)  : Option (Int64) :=
  some ((100 * (zJ sU 7)))
/-! WhatWasHers$Sums.herEndCut()J -/
abbrev rmX8_herEndCut : Room := { frames := 1, cells := 0, slots := 0, locals := 20 }
def fU_herEndCut (sU : zSt)  : Option (Int64) :=
  Option.bind (fU_endBottom sU) fun y1 => if y1 ≤ 0 then (some (0)) else (zg (zix 0 2) <| Option.bind (fU_endBottom sU) fun y2 => zg (zlz y2) <| some (((zL sU 6 (0 : Int32).toNatClampNeg) / y2)))
/-! WhatWasHers$Sums.grants(II)Z -/
abbrev rmX8_grants : Room := { frames := 1, cells := 0, slots := 0, locals := 20 }
def fU_grants (sU : zSt) (a0 : Int32) (a1 : Int32) : Option (Bool) :=
  zg (zix 0 2) <| Option.bind (fU_endBottom sU) fun y1 => if (zL sU 6 (0 : Int32).toNatClampNeg) < ((a0.toInt64) * y1) then (some (false)) else (zg (zix 1 2) <| Option.bind (fU_endBottom sU) fun y2 => if (zL sU 6 (1 : Int32).toNatClampNeg) < ((a1.toInt64) * y2) then (some (false)) else (some (true)))
theorem rw_g_X8_82_UC_C {x : zX} {G : zG} {ce sl pc : Nat} {lv : List (Nat × Value)} {st : List Value} {cc : ByteArray} {nL : Nat} {ret : Option FieldType} {rm : Room} {qU qC : Nat → Nat} {rC : Nat} {sU sC : zSt} (C : zC x G RX8 cc nL ret rm) (hd : decode cc pc = .ok (.getfield 82, 3)) (K : zW x G ce sl (pc + 3) lv (.int (zI sC 4) :: st) (wdU G qU sU ++ (wdC G qC rC sC))) : zW x G ce sl pc lv (.ref (qC 0) :: st) (wdU G qU sU ++ (wdC G qC rC sC)) := z_get C (Cn := RX2) (T := TX2) (N := 18) (ci := 2) (k := 4) inzX2 rfl (by decide) rw_u_221 (fun _ h => h) 9 rfl rfl hd K
theorem rw_g_X8_85_UC_C {x : zX} {G : zG} {ce sl pc : Nat} {lv : List (Nat × Value)} {st : List Value} {cc : ByteArray} {nL : Nat} {ret : Option FieldType} {rm : Room} {qU qC : Nat → Nat} {rC : Nat} {sU sC : zSt} (C : zC x G RX8 cc nL ret rm) (hd : decode cc pc = .ok (.getfield 85, 3)) (K : zW x G ce sl (pc + 3) lv (.ref (qC 9) :: st) (wdU G qU sU ++ (wdC G qC rC sC))) : zW x G ce sl pc lv (.ref (qC 0) :: st) (wdU G qU sU ++ (wdC G qC rC sC)) := z_get C (Cn := RX2) (T := TX2) (N := 18) (ci := 2) (k := 8) inzX2 rfl (by decide) rw_u_231 (fun _ h => h) 9 rfl rfl hd K
theorem rw_l_UC_C_8 {x : zX} {G : zG} {ce sl pc : Nat} {lv : List (Nat × Value)} {st : List Value} {cc : ByteArray} {nL : Nat} {ret : Option FieldType} {rm : Room} {own : String} {qU qC : Nat → Nat} {rC : Nat} {sU sC : zSt} {i : Int32} {α : Type} {o : α} {kk : Option α} (C : zC x G own cc nL ret rm) (hd : decode cc pc = .ok (.iaload, 1)) (h : zg (zix i 10) kk = some o) (K : kk = some o → zW x G ce sl (pc + 1) lv (.int (zA sC 8 i.toNatClampNeg) :: st) (wdU G qU sU ++ (wdC G qC rC sC))) : zW x G ce sl pc lv (.int i :: .ref (qC 9) :: st) (wdU G qU sU ++ (wdC G qC rC sC)) := z_iald C 15 rfl hd h K
theorem rw_g_X8_9_UC_U {x : zX} {G : zG} {ce sl pc : Nat} {lv : List (Nat × Value)} {st : List Value} {cc : ByteArray} {nL : Nat} {ret : Option FieldType} {rm : Room} {qU qC : Nat → Nat} {rC : Nat} {sU sC : zSt} (C : zC x G RX8 cc nL ret rm) (hd : decode cc pc = .ok (.getfield 9, 3)) (K : zW x G ce sl (pc + 3) lv (.ref (qU 1) :: st) (wdU G qU sU ++ (wdC G qC rC sC))) : zW x G ce sl pc lv (.ref (qU 0) :: st) (wdU G qU sU ++ (wdC G qC rC sC)) := z_get C (Cn := RX8) (T := TX8) (N := 9) (ci := 8) (k := 0) inzX8 rfl (by decide) rw_u_298 (fun _ h => h) 0 rfl rfl hd K
theorem rw_l_UC_U_0 {x : zX} {G : zG} {ce sl pc : Nat} {lv : List (Nat × Value)} {st : List Value} {cc : ByteArray} {nL : Nat} {ret : Option FieldType} {rm : Room} {own : String} {qU qC : Nat → Nat} {rC : Nat} {sU sC : zSt} {i : Int32} {α : Type} {o : α} {kk : Option α} (C : zC x G own cc nL ret rm) (hd : decode cc pc = .ok (.laload, 1)) (h : zg (zix i 3) kk = some o) (K : kk = some o → zW x G ce sl (pc + 1) lv (.long (zL sU 0 i.toNatClampNeg) :: st) (wdU G qU sU ++ (wdC G qC rC sC))) : zW x G ce sl pc lv (.int i :: .ref (qU 1) :: st) (wdU G qU sU ++ (wdC G qC rC sC)) := z_lald C 1 rfl hd h K
theorem rw_g_X8_88_UC_C {x : zX} {G : zG} {ce sl pc : Nat} {lv : List (Nat × Value)} {st : List Value} {cc : ByteArray} {nL : Nat} {ret : Option FieldType} {rm : Room} {qU qC : Nat → Nat} {rC : Nat} {sU sC : zSt} (C : zC x G RX8 cc nL ret rm) (hd : decode cc pc = .ok (.getfield 88, 3)) (K : zW x G ce sl (pc + 3) lv (.ref (qC 12) :: st) (wdU G qU sU ++ (wdC G qC rC sC))) : zW x G ce sl pc lv (.ref (qC 0) :: st) (wdU G qU sU ++ (wdC G qC rC sC)) := z_get C (Cn := RX2) (T := TX2) (N := 18) (ci := 2) (k := 11) inzX2 rfl (by decide) rw_u_239 (fun _ h => h) 9 rfl rfl hd K
theorem rw_l_UC_C_11 {x : zX} {G : zG} {ce sl pc : Nat} {lv : List (Nat × Value)} {st : List Value} {cc : ByteArray} {nL : Nat} {ret : Option FieldType} {rm : Room} {own : String} {qU qC : Nat → Nat} {rC : Nat} {sU sC : zSt} {i : Int32} {α : Type} {o : α} {kk : Option α} (C : zC x G own cc nL ret rm) (hd : decode cc pc = .ok (.iaload, 1)) (h : zg (zix i 10) kk = some o) (K : kk = some o → zW x G ce sl (pc + 1) lv (.int (zA sC 11 i.toNatClampNeg) :: st) (wdU G qU sU ++ (wdC G qC rC sC))) : zW x G ce sl pc lv (.int i :: .ref (qC 12) :: st) (wdU G qU sU ++ (wdC G qC rC sC)) := z_iald C 18 rfl hd h K
theorem rw_s_UC_U_0 {x : zX} {G : zG} {ce sl pc : Nat} {lv : List (Nat × Value)} {st : List Value} {cc : ByteArray} {nL : Nat} {ret : Option FieldType} {rm : Room} {own : String} {qU qC : Nat → Nat} {rC : Nat} {sU sC : zSt} {i : Int32} {v : Int64} {α : Type} {o : α} {kk : zSt → Option α} (C : zC x G own cc nL ret rm) (hd : decode cc pc = .ok (.lastore, 1)) (h : zg (zix i 3) (zn (zsL sU 0 i.toNatClampNeg v) kk) = some o) (K : ∀ s' : zSt, kk s' = some o → zW x G ce sl (pc + 1) lv st (wdU G qU s' ++ (wdC G qC rC sC))) : zW x G ce sl pc lv (.long v :: .int i :: .ref (qU 1) :: st) (wdU G qU sU ++ (wdC G qC rC sC)) := z_last C (w' := wdU G qU (zsL sU 0 i.toNatClampNeg v) ++ (wdC G qC rC sC)) 1 rfl rfl hd h (fun h => K _ h)
theorem rw_g_X8_15_UC_U {x : zX} {G : zG} {ce sl pc : Nat} {lv : List (Nat × Value)} {st : List Value} {cc : ByteArray} {nL : Nat} {ret : Option FieldType} {rm : Room} {qU qC : Nat → Nat} {rC : Nat} {sU sC : zSt} (C : zC x G RX8 cc nL ret rm) (hd : decode cc pc = .ok (.getfield 15, 3)) (K : zW x G ce sl (pc + 3) lv (.ref (qU 2) :: st) (wdU G qU sU ++ (wdC G qC rC sC))) : zW x G ce sl pc lv (.ref (qU 0) :: st) (wdU G qU sU ++ (wdC G qC rC sC)) := z_get C (Cn := RX8) (T := TX8) (N := 9) (ci := 8) (k := 1) inzX8 rfl (by decide) rw_u_300 (fun _ h => h) 0 rfl rfl hd K
theorem rw_l_UC_U_1 {x : zX} {G : zG} {ce sl pc : Nat} {lv : List (Nat × Value)} {st : List Value} {cc : ByteArray} {nL : Nat} {ret : Option FieldType} {rm : Room} {own : String} {qU qC : Nat → Nat} {rC : Nat} {sU sC : zSt} {i : Int32} {α : Type} {o : α} {kk : Option α} (C : zC x G own cc nL ret rm) (hd : decode cc pc = .ok (.laload, 1)) (h : zg (zix i 3) kk = some o) (K : kk = some o → zW x G ce sl (pc + 1) lv (.long (zL sU 1 i.toNatClampNeg) :: st) (wdU G qU sU ++ (wdC G qC rC sC))) : zW x G ce sl pc lv (.int i :: .ref (qU 2) :: st) (wdU G qU sU ++ (wdC G qC rC sC)) := z_lald C 2 rfl hd h K
theorem rw_g_X8_91_UC_C {x : zX} {G : zG} {ce sl pc : Nat} {lv : List (Nat × Value)} {st : List Value} {cc : ByteArray} {nL : Nat} {ret : Option FieldType} {rm : Room} {qU qC : Nat → Nat} {rC : Nat} {sU sC : zSt} (C : zC x G RX8 cc nL ret rm) (hd : decode cc pc = .ok (.getfield 91, 3)) (K : zW x G ce sl (pc + 3) lv (.ref (qC 7) :: st) (wdU G qU sU ++ (wdC G qC rC sC))) : zW x G ce sl pc lv (.ref (qC 0) :: st) (wdU G qU sU ++ (wdC G qC rC sC)) := z_get C (Cn := RX2) (T := TX2) (N := 18) (ci := 2) (k := 6) inzX2 rfl (by decide) rw_u_226 (fun _ h => h) 9 rfl rfl hd K
theorem rw_l_UC_C_6 {x : zX} {G : zG} {ce sl pc : Nat} {lv : List (Nat × Value)} {st : List Value} {cc : ByteArray} {nL : Nat} {ret : Option FieldType} {rm : Room} {own : String} {qU qC : Nat → Nat} {rC : Nat} {sU sC : zSt} {i : Int32} {α : Type} {o : α} {kk : Option α} (C : zC x G own cc nL ret rm) (hd : decode cc pc = .ok (.iaload, 1)) (h : zg (zix i 10) kk = some o) (K : kk = some o → zW x G ce sl (pc + 1) lv (.int (zA sC 6 i.toNatClampNeg) :: st) (wdU G qU sU ++ (wdC G qC rC sC))) : zW x G ce sl pc lv (.int i :: .ref (qC 7) :: st) (wdU G qU sU ++ (wdC G qC rC sC)) := z_iald C 13 rfl hd h K
theorem rw_s_UC_U_1 {x : zX} {G : zG} {ce sl pc : Nat} {lv : List (Nat × Value)} {st : List Value} {cc : ByteArray} {nL : Nat} {ret : Option FieldType} {rm : Room} {own : String} {qU qC : Nat → Nat} {rC : Nat} {sU sC : zSt} {i : Int32} {v : Int64} {α : Type} {o : α} {kk : zSt → Option α} (C : zC x G own cc nL ret rm) (hd : decode cc pc = .ok (.lastore, 1)) (h : zg (zix i 3) (zn (zsL sU 1 i.toNatClampNeg v) kk) = some o) (K : ∀ s' : zSt, kk s' = some o → zW x G ce sl (pc + 1) lv st (wdU G qU s' ++ (wdC G qC rC sC))) : zW x G ce sl pc lv (.long v :: .int i :: .ref (qU 2) :: st) (wdU G qU sU ++ (wdC G qC rC sC)) := z_last C (w' := wdU G qU (zsL sU 1 i.toNatClampNeg v) ++ (wdC G qC rC sC)) 2 rfl rfl hd h (fun h => K _ h)
theorem rw_g_X8_18_UC_U {x : zX} {G : zG} {ce sl pc : Nat} {lv : List (Nat × Value)} {st : List Value} {cc : ByteArray} {nL : Nat} {ret : Option FieldType} {rm : Room} {qU qC : Nat → Nat} {rC : Nat} {sU sC : zSt} (C : zC x G RX8 cc nL ret rm) (hd : decode cc pc = .ok (.getfield 18, 3)) (K : zW x G ce sl (pc + 3) lv (.ref (qU 3) :: st) (wdU G qU sU ++ (wdC G qC rC sC))) : zW x G ce sl pc lv (.ref (qU 0) :: st) (wdU G qU sU ++ (wdC G qC rC sC)) := z_get C (Cn := RX8) (T := TX8) (N := 9) (ci := 8) (k := 2) inzX8 rfl (by decide) rw_u_302 (fun _ h => h) 0 rfl rfl hd K
theorem rw_l_UC_U_2 {x : zX} {G : zG} {ce sl pc : Nat} {lv : List (Nat × Value)} {st : List Value} {cc : ByteArray} {nL : Nat} {ret : Option FieldType} {rm : Room} {own : String} {qU qC : Nat → Nat} {rC : Nat} {sU sC : zSt} {i : Int32} {α : Type} {o : α} {kk : Option α} (C : zC x G own cc nL ret rm) (hd : decode cc pc = .ok (.iaload, 1)) (h : zg (zix i 3) kk = some o) (K : kk = some o → zW x G ce sl (pc + 1) lv (.int (zA sU 2 i.toNatClampNeg) :: st) (wdU G qU sU ++ (wdC G qC rC sC))) : zW x G ce sl pc lv (.int i :: .ref (qU 3) :: st) (wdU G qU sU ++ (wdC G qC rC sC)) := z_iald C 3 rfl hd h K
theorem rw_s_UC_U_2 {x : zX} {G : zG} {ce sl pc : Nat} {lv : List (Nat × Value)} {st : List Value} {cc : ByteArray} {nL : Nat} {ret : Option FieldType} {rm : Room} {own : String} {qU qC : Nat → Nat} {rC : Nat} {sU sC : zSt} {i : Int32} {v : Int32} {α : Type} {o : α} {kk : zSt → Option α} (C : zC x G own cc nL ret rm) (hd : decode cc pc = .ok (.iastore, 1)) (h : zg (zix i 3) (zn (zsA sU 2 i.toNatClampNeg v) kk) = some o) (K : ∀ s' : zSt, kk s' = some o → zW x G ce sl (pc + 1) lv st (wdU G qU s' ++ (wdC G qC rC sC))) : zW x G ce sl pc lv (.int v :: .int i :: .ref (qU 3) :: st) (wdU G qU sU ++ (wdC G qC rC sC)) := z_iast C (w' := wdU G qU (zsA sU 2 i.toNatClampNeg v) ++ (wdC G qC rC sC)) 3 rfl rfl hd h (fun h => K _ h)
theorem rw_g_X8_79_UC_C {x : zX} {G : zG} {ce sl pc : Nat} {lv : List (Nat × Value)} {st : List Value} {cc : ByteArray} {nL : Nat} {ret : Option FieldType} {rm : Room} {qU qC : Nat → Nat} {rC : Nat} {sU sC : zSt} (C : zC x G RX8 cc nL ret rm) (hd : decode cc pc = .ok (.getfield 79, 3)) (K : zW x G ce sl (pc + 3) lv (.ref (qC 4) :: st) (wdU G qU sU ++ (wdC G qC rC sC))) : zW x G ce sl pc lv (.ref (qC 0) :: st) (wdU G qU sU ++ (wdC G qC rC sC)) := z_get C (Cn := RX2) (T := TX2) (N := 18) (ci := 2) (k := 3) inzX2 rfl (by decide) rw_u_218 (fun _ h => h) 9 rfl rfl hd K
theorem rw_l_UC_C_3 {x : zX} {G : zG} {ce sl pc : Nat} {lv : List (Nat × Value)} {st : List Value} {cc : ByteArray} {nL : Nat} {ret : Option FieldType} {rm : Room} {own : String} {qU qC : Nat → Nat} {rC : Nat} {sU sC : zSt} {i : Int32} {α : Type} {o : α} {kk : Option α} (C : zC x G own cc nL ret rm) (hd : decode cc pc = .ok (.iaload, 1)) (h : zg (zix i 3) kk = some o) (K : kk = some o → zW x G ce sl (pc + 1) lv (.int (zA sC 3 i.toNatClampNeg) :: st) (wdU G qU sU ++ (wdC G qC rC sC))) : zW x G ce sl pc lv (.int i :: .ref (qC 4) :: st) (wdU G qU sU ++ (wdC G qC rC sC)) := z_iald C 11 rfl hd h K
theorem rw_math_X8_125 {x : zX} {G : zG} {ce sl pc : Nat} {lv : List (Nat × Value)} {st : List Value} {cc : ByteArray} {nL : Nat} {ret : Option FieldType} {rm : Room} {w : va_W} {a b : Int32} (C : zC x G RX8 cc nL ret rm) (hd : decode cc pc = .ok (.invokestatic 125, 3)) (hfr : 1 ≤ rm.frames) (hlo : (st.map fun v => v.category).sum + 13 ≤ rm.locals) (hc : ce ≤ rm.cells) (hs : sl ≤ rm.slots) (K : zW x G ce sl (pc + 3) lv (.int (if a < b then b else a) :: st) w) : zW x G ce sl pc lv (.int b :: .int a :: st) w := fun H locs ls hP hD hS hl => va_mmax C.1 C.2.1 hl.1.symm C.2.2.2.1 (C.2.2.2.2.1 _ rw_u_641) (C.2.2.2.2.1 _ rw_u_602) (C.2.2.2.2.1 _ rw_u_84) (C.2.2.2.2.1 _ rw_u_603) (by rw [C.2.2.2.2.2.2.2.2.2.1]; exact hfr) (by rw [C.2.2.2.2.2.2.2.2.2.1]; exact hlo) (by rw [C.2.2.2.2.2.2.2.2.2.1]; exact hc) (by rw [C.2.2.2.2.2.2.2.2.2.1]; exact hs) hd (K H locs ls hP hD hS hl)
theorem rw_math_X8_119 {x : zX} {G : zG} {ce sl pc : Nat} {lv : List (Nat × Value)} {st : List Value} {cc : ByteArray} {nL : Nat} {ret : Option FieldType} {rm : Room} {w : va_W} {a b : Int32} (C : zC x G RX8 cc nL ret rm) (hd : decode cc pc = .ok (.invokestatic 119, 3)) (hfr : 1 ≤ rm.frames) (hlo : (st.map fun v => v.category).sum + 13 ≤ rm.locals) (hc : ce ≤ rm.cells) (hs : sl ≤ rm.slots) (K : zW x G ce sl (pc + 3) lv (.int (if b < a then b else a) :: st) w) : zW x G ce sl pc lv (.int b :: .int a :: st) w := fun H locs ls hP hD hS hl => va_mmin C.1 C.2.1 hl.1.symm C.2.2.2.1 (C.2.2.2.2.1 _ rw_u_638) (C.2.2.2.2.1 _ rw_u_639) (C.2.2.2.2.1 _ rw_u_84) (C.2.2.2.2.1 _ rw_u_640) (by rw [C.2.2.2.2.2.2.2.2.2.1]; exact hfr) (by rw [C.2.2.2.2.2.2.2.2.2.1]; exact hlo) (by rw [C.2.2.2.2.2.2.2.2.2.1]; exact hc) (by rw [C.2.2.2.2.2.2.2.2.2.1]; exact hs) hd (K H locs ls hP hD hS hl)
theorem rw_g_X8_22_UC_U {x : zX} {G : zG} {ce sl pc : Nat} {lv : List (Nat × Value)} {st : List Value} {cc : ByteArray} {nL : Nat} {ret : Option FieldType} {rm : Room} {qU qC : Nat → Nat} {rC : Nat} {sU sC : zSt} (C : zC x G RX8 cc nL ret rm) (hd : decode cc pc = .ok (.getfield 22, 3)) (K : zW x G ce sl (pc + 3) lv (.ref (qU 4) :: st) (wdU G qU sU ++ (wdC G qC rC sC))) : zW x G ce sl pc lv (.ref (qU 0) :: st) (wdU G qU sU ++ (wdC G qC rC sC)) := z_get C (Cn := RX8) (T := TX8) (N := 9) (ci := 8) (k := 3) inzX8 rfl (by decide) rw_u_304 (fun _ h => h) 0 rfl rfl hd K
theorem rw_fill_X8_94_UC_U_3 {x : zX} {G : zG} {ce sl pc : Nat} {lv : List (Nat × Value)} {st : List Value} {cc : ByteArray} {nL : Nat} {ret : Option FieldType} {rm : Room} {qU qC : Nat → Nat} {rC : Nat} {sU sC : zSt} {v : Int64} {α : Type} {o : α} {kk : zSt → Option α} (C : zC x G RX8 cc nL ret rm) (hd : decode cc pc = .ok (.invokestatic 94, 3)) (hcat : (st.map fun v => v.category).sum ≤ 8) (hrm : zRm rm rmJ7_fill_d0a16 5 ce sl) (h : zn (zsLf sU 3 (zfillL 9 v (zL sU 3))) kk = some o) (K : ∀ s' : zSt, kk s' = some o → zW x G ce sl (pc + 3) lv st (wdU G qU s' ++ (wdC G qC rC sC))) : zW x G ce sl pc lv (.long v :: .ref (qU 4) :: st) (wdU G qU sU ++ (wdC G qC rC sC)) := z_callS C 2 (As := [.ref (qU 4), .long v]) (rest := st) rw_u_634 rw_u_77 rw_u_632 rw_u_633 ⟨by decide, by decide, by decide +kernel⟩ (Ct.cell (cJ_fillJ (by decide)) (w' := wdU G qU (zsLf sU 3 (zfillL 9 v (zL sU 3))) ++ (wdC G qC rC sC)) 4 rfl rfl) rfl hd hcat hrm (K _ h)
theorem rw_g_X8_25_UC_U {x : zX} {G : zG} {ce sl pc : Nat} {lv : List (Nat × Value)} {st : List Value} {cc : ByteArray} {nL : Nat} {ret : Option FieldType} {rm : Room} {qU qC : Nat → Nat} {rC : Nat} {sU sC : zSt} (C : zC x G RX8 cc nL ret rm) (hd : decode cc pc = .ok (.getfield 25, 3)) (K : zW x G ce sl (pc + 3) lv (.ref (qU 5) :: st) (wdU G qU sU ++ (wdC G qC rC sC))) : zW x G ce sl pc lv (.ref (qU 0) :: st) (wdU G qU sU ++ (wdC G qC rC sC)) := z_get C (Cn := RX8) (T := TX8) (N := 9) (ci := 8) (k := 4) inzX8 rfl (by decide) rw_u_306 (fun _ h => h) 0 rfl rfl hd K
theorem rw_fill_X8_94_UC_U_4 {x : zX} {G : zG} {ce sl pc : Nat} {lv : List (Nat × Value)} {st : List Value} {cc : ByteArray} {nL : Nat} {ret : Option FieldType} {rm : Room} {qU qC : Nat → Nat} {rC : Nat} {sU sC : zSt} {v : Int64} {α : Type} {o : α} {kk : zSt → Option α} (C : zC x G RX8 cc nL ret rm) (hd : decode cc pc = .ok (.invokestatic 94, 3)) (hcat : (st.map fun v => v.category).sum ≤ 8) (hrm : zRm rm rmJ7_fill_d0a16 5 ce sl) (h : zn (zsLf sU 4 (zfillL 9 v (zL sU 4))) kk = some o) (K : ∀ s' : zSt, kk s' = some o → zW x G ce sl (pc + 3) lv st (wdU G qU s' ++ (wdC G qC rC sC))) : zW x G ce sl pc lv (.long v :: .ref (qU 5) :: st) (wdU G qU sU ++ (wdC G qC rC sC)) := z_callS C 2 (As := [.ref (qU 5), .long v]) (rest := st) rw_u_634 rw_u_77 rw_u_632 rw_u_633 ⟨by decide, by decide, by decide +kernel⟩ (Ct.cell (cJ_fillJ (by decide)) (w' := wdU G qU (zsLf sU 4 (zfillL 9 v (zL sU 4))) ++ (wdC G qC rC sC)) 5 rfl rfl) rfl hd hcat hrm (K _ h)
theorem rw_g_X8_100_UC_C {x : zX} {G : zG} {ce sl pc : Nat} {lv : List (Nat × Value)} {st : List Value} {cc : ByteArray} {nL : Nat} {ret : Option FieldType} {rm : Room} {qU qC : Nat → Nat} {rC : Nat} {sU sC : zSt} (C : zC x G RX8 cc nL ret rm) (hd : decode cc pc = .ok (.getfield 100, 3)) (K : zW x G ce sl (pc + 3) lv (.int (zI sC 13) :: st) (wdU G qU sU ++ (wdC G qC rC sC))) : zW x G ce sl pc lv (.ref (qC 0) :: st) (wdU G qU sU ++ (wdC G qC rC sC)) := z_get C (Cn := RX2) (T := TX2) (N := 18) (ci := 2) (k := 13) inzX2 rfl (by decide) rw_u_245 (fun _ h => h) 9 rfl rfl hd K
theorem rw_g_X8_103_UC_C {x : zX} {G : zG} {ce sl pc : Nat} {lv : List (Nat × Value)} {st : List Value} {cc : ByteArray} {nL : Nat} {ret : Option FieldType} {rm : Room} {qU qC : Nat → Nat} {rC : Nat} {sU sC : zSt} (C : zC x G RX8 cc nL ret rm) (hd : decode cc pc = .ok (.getfield 103, 3)) (K : zW x G ce sl (pc + 3) lv (.ref (qC 17) :: st) (wdU G qU sU ++ (wdC G qC rC sC))) : zW x G ce sl pc lv (.ref (qC 0) :: st) (wdU G qU sU ++ (wdC G qC rC sC)) := z_get C (Cn := RX2) (T := TX2) (N := 18) (ci := 2) (k := 16) inzX2 rfl (by decide) rw_u_252 (fun _ h => h) 9 rfl rfl hd K
theorem rw_l_UC_C_16 {x : zX} {G : zG} {ce sl pc : Nat} {lv : List (Nat × Value)} {st : List Value} {cc : ByteArray} {nL : Nat} {ret : Option FieldType} {rm : Room} {own : String} {qU qC : Nat → Nat} {rC : Nat} {sU sC : zSt} {i : Int32} {α : Type} {o : α} {kk : Option α} (C : zC x G own cc nL ret rm) (hd : decode cc pc = .ok (.iaload, 1)) (h : zg (zix i 50) kk = some o) (K : kk = some o → zW x G ce sl (pc + 1) lv (.int (zA sC 16 i.toNatClampNeg) :: st) (wdU G qU sU ++ (wdC G qC rC sC))) : zW x G ce sl pc lv (.int i :: .ref (qC 17) :: st) (wdU G qU sU ++ (wdC G qC rC sC)) := z_iald C 22 rfl hd h K
theorem rw_g_X8_106_UC_C {x : zX} {G : zG} {ce sl pc : Nat} {lv : List (Nat × Value)} {st : List Value} {cc : ByteArray} {nL : Nat} {ret : Option FieldType} {rm : Room} {qU qC : Nat → Nat} {rC : Nat} {sU sC : zSt} (C : zC x G RX8 cc nL ret rm) (hd : decode cc pc = .ok (.getfield 106, 3)) (K : zW x G ce sl (pc + 3) lv (.ref (qC 15) :: st) (wdU G qU sU ++ (wdC G qC rC sC))) : zW x G ce sl pc lv (.ref (qC 0) :: st) (wdU G qU sU ++ (wdC G qC rC sC)) := z_get C (Cn := RX2) (T := TX2) (N := 18) (ci := 2) (k := 14) inzX2 rfl (by decide) rw_u_248 (fun _ h => h) 9 rfl rfl hd K
theorem rw_l_UC_C_14 {x : zX} {G : zG} {ce sl pc : Nat} {lv : List (Nat × Value)} {st : List Value} {cc : ByteArray} {nL : Nat} {ret : Option FieldType} {rm : Room} {own : String} {qU qC : Nat → Nat} {rC : Nat} {sU sC : zSt} {i : Int32} {α : Type} {o : α} {kk : Option α} (C : zC x G own cc nL ret rm) (hd : decode cc pc = .ok (.iaload, 1)) (h : zg (zix i 50) kk = some o) (K : kk = some o → zW x G ce sl (pc + 1) lv (.int (zA sC 14 i.toNatClampNeg) :: st) (wdU G qU sU ++ (wdC G qC rC sC))) : zW x G ce sl pc lv (.int i :: .ref (qC 15) :: st) (wdU G qU sU ++ (wdC G qC rC sC)) := z_iald C 20 rfl hd h K
theorem rw_g_X8_109_UC_C {x : zX} {G : zG} {ce sl pc : Nat} {lv : List (Nat × Value)} {st : List Value} {cc : ByteArray} {nL : Nat} {ret : Option FieldType} {rm : Room} {qU qC : Nat → Nat} {rC : Nat} {sU sC : zSt} (C : zC x G RX8 cc nL ret rm) (hd : decode cc pc = .ok (.getfield 109, 3)) (K : zW x G ce sl (pc + 3) lv (.ref (qC 16) :: st) (wdU G qU sU ++ (wdC G qC rC sC))) : zW x G ce sl pc lv (.ref (qC 0) :: st) (wdU G qU sU ++ (wdC G qC rC sC)) := z_get C (Cn := RX2) (T := TX2) (N := 18) (ci := 2) (k := 15) inzX2 rfl (by decide) rw_u_250 (fun _ h => h) 9 rfl rfl hd K
theorem rw_l_UC_C_15 {x : zX} {G : zG} {ce sl pc : Nat} {lv : List (Nat × Value)} {st : List Value} {cc : ByteArray} {nL : Nat} {ret : Option FieldType} {rm : Room} {own : String} {qU qC : Nat → Nat} {rC : Nat} {sU sC : zSt} {i : Int32} {α : Type} {o : α} {kk : Option α} (C : zC x G own cc nL ret rm) (hd : decode cc pc = .ok (.iaload, 1)) (h : zg (zix i 50) kk = some o) (K : kk = some o → zW x G ce sl (pc + 1) lv (.int (zA sC 15 i.toNatClampNeg) :: st) (wdU G qU sU ++ (wdC G qC rC sC))) : zW x G ce sl pc lv (.int i :: .ref (qC 16) :: st) (wdU G qU sU ++ (wdC G qC rC sC)) := z_iald C 21 rfl hd h K
theorem rw_l_UC_U_3 {x : zX} {G : zG} {ce sl pc : Nat} {lv : List (Nat × Value)} {st : List Value} {cc : ByteArray} {nL : Nat} {ret : Option FieldType} {rm : Room} {own : String} {qU qC : Nat → Nat} {rC : Nat} {sU sC : zSt} {i : Int32} {α : Type} {o : α} {kk : Option α} (C : zC x G own cc nL ret rm) (hd : decode cc pc = .ok (.laload, 1)) (h : zg (zix i 9) kk = some o) (K : kk = some o → zW x G ce sl (pc + 1) lv (.long (zL sU 3 i.toNatClampNeg) :: st) (wdU G qU sU ++ (wdC G qC rC sC))) : zW x G ce sl pc lv (.int i :: .ref (qU 4) :: st) (wdU G qU sU ++ (wdC G qC rC sC)) := z_lald C 4 rfl hd h K
theorem rw_s_UC_U_3 {x : zX} {G : zG} {ce sl pc : Nat} {lv : List (Nat × Value)} {st : List Value} {cc : ByteArray} {nL : Nat} {ret : Option FieldType} {rm : Room} {own : String} {qU qC : Nat → Nat} {rC : Nat} {sU sC : zSt} {i : Int32} {v : Int64} {α : Type} {o : α} {kk : zSt → Option α} (C : zC x G own cc nL ret rm) (hd : decode cc pc = .ok (.lastore, 1)) (h : zg (zix i 9) (zn (zsL sU 3 i.toNatClampNeg v) kk) = some o) (K : ∀ s' : zSt, kk s' = some o → zW x G ce sl (pc + 1) lv st (wdU G qU s' ++ (wdC G qC rC sC))) : zW x G ce sl pc lv (.long v :: .int i :: .ref (qU 4) :: st) (wdU G qU sU ++ (wdC G qC rC sC)) := z_last C (w' := wdU G qU (zsL sU 3 i.toNatClampNeg v) ++ (wdC G qC rC sC)) 4 rfl rfl hd h (fun h => K _ h)
theorem rw_l_UC_U_4 {x : zX} {G : zG} {ce sl pc : Nat} {lv : List (Nat × Value)} {st : List Value} {cc : ByteArray} {nL : Nat} {ret : Option FieldType} {rm : Room} {own : String} {qU qC : Nat → Nat} {rC : Nat} {sU sC : zSt} {i : Int32} {α : Type} {o : α} {kk : Option α} (C : zC x G own cc nL ret rm) (hd : decode cc pc = .ok (.laload, 1)) (h : zg (zix i 9) kk = some o) (K : kk = some o → zW x G ce sl (pc + 1) lv (.long (zL sU 4 i.toNatClampNeg) :: st) (wdU G qU sU ++ (wdC G qC rC sC))) : zW x G ce sl pc lv (.int i :: .ref (qU 5) :: st) (wdU G qU sU ++ (wdC G qC rC sC)) := z_lald C 5 rfl hd h K
theorem rw_g_X8_112_UC_C {x : zX} {G : zG} {ce sl pc : Nat} {lv : List (Nat × Value)} {st : List Value} {cc : ByteArray} {nL : Nat} {ret : Option FieldType} {rm : Room} {qU qC : Nat → Nat} {rC : Nat} {sU sC : zSt} (C : zC x G RX8 cc nL ret rm) (hd : decode cc pc = .ok (.getfield 112, 3)) (K : zW x G ce sl (pc + 3) lv (.ref (qC 18) :: st) (wdU G qU sU ++ (wdC G qC rC sC))) : zW x G ce sl pc lv (.ref (qC 0) :: st) (wdU G qU sU ++ (wdC G qC rC sC)) := z_get C (Cn := RX2) (T := TX2) (N := 18) (ci := 2) (k := 17) inzX2 rfl (by decide) rw_u_254 (fun _ h => h) 9 rfl rfl hd K
theorem rw_l_UC_C_17 {x : zX} {G : zG} {ce sl pc : Nat} {lv : List (Nat × Value)} {st : List Value} {cc : ByteArray} {nL : Nat} {ret : Option FieldType} {rm : Room} {own : String} {qU qC : Nat → Nat} {rC : Nat} {sU sC : zSt} {i : Int32} {α : Type} {o : α} {kk : Option α} (C : zC x G own cc nL ret rm) (hd : decode cc pc = .ok (.iaload, 1)) (h : zg (zix i 50) kk = some o) (K : kk = some o → zW x G ce sl (pc + 1) lv (.int (zA sC 17 i.toNatClampNeg) :: st) (wdU G qU sU ++ (wdC G qC rC sC))) : zW x G ce sl pc lv (.int i :: .ref (qC 18) :: st) (wdU G qU sU ++ (wdC G qC rC sC)) := z_iald C 23 rfl hd h K
theorem rw_c_X8_115 {x : zX} {G : zG} {ce sl pc : Nat} {lv : List (Nat × Value)} {cc : ByteArray} {nL : Nat} {ret : Option FieldType} {rm : Room} {w w1 : va_W} {rest : List Value} {r : Option Value} {a0 : Int32} {a1 : Int32} {a2 : Int32} {a3 : Int32} (C : zC x G RX8 cc nL ret rm) (hc : Ct (xl x) G yX8_claim cX8_claim 5 (some .int) rmX8_claim [.int a0, .int a1, .int a2, .int a3] w r w1) (hd : decode cc pc = .ok (.invokestatic 115, 3)) (hcat : (rest.map fun v => v.category).sum ≤ 8) (hrm : zRm rm rmX8_claim 5 ce sl) (K : zW x G (ce + rmX8_claim.cells) (sl + rmX8_claim.slots) (pc + 3) lv (r.toList ++ rest) w1) : zW x G ce sl pc lv (.int a3 :: .int a2 :: .int a1 :: .int a0 :: rest) w := z_callS C 4 rw_u_637 rw_u_75 rw_u_635 rw_u_636 ⟨by decide, by decide, by decide +kernel⟩ hc rfl hd hcat hrm K
theorem rw_s_UC_U_4 {x : zX} {G : zG} {ce sl pc : Nat} {lv : List (Nat × Value)} {st : List Value} {cc : ByteArray} {nL : Nat} {ret : Option FieldType} {rm : Room} {own : String} {qU qC : Nat → Nat} {rC : Nat} {sU sC : zSt} {i : Int32} {v : Int64} {α : Type} {o : α} {kk : zSt → Option α} (C : zC x G own cc nL ret rm) (hd : decode cc pc = .ok (.lastore, 1)) (h : zg (zix i 9) (zn (zsL sU 4 i.toNatClampNeg v) kk) = some o) (K : ∀ s' : zSt, kk s' = some o → zW x G ce sl (pc + 1) lv st (wdU G qU s' ++ (wdC G qC rC sC))) : zW x G ce sl pc lv (.long v :: .int i :: .ref (qU 5) :: st) (wdU G qU sU ++ (wdC G qC rC sC)) := z_last C (w' := wdU G qU (zsL sU 4 i.toNatClampNeg v) ++ (wdC G qC rC sC)) 5 rfl rfl hd h (fun h => K _ h)
theorem rw_g_X8_15_U_U {x : zX} {G : zG} {ce sl pc : Nat} {lv : List (Nat × Value)} {st : List Value} {cc : ByteArray} {nL : Nat} {ret : Option FieldType} {rm : Room} {qU : Nat → Nat} {sU : zSt} (C : zC x G RX8 cc nL ret rm) (hd : decode cc pc = .ok (.getfield 15, 3)) (K : zW x G ce sl (pc + 3) lv (.ref (qU 2) :: st) (wdU G qU sU)) : zW x G ce sl pc lv (.ref (qU 0) :: st) (wdU G qU sU) := z_get C (Cn := RX8) (T := TX8) (N := 9) (ci := 8) (k := 1) inzX8 rfl (by decide) rw_u_300 (fun _ h => h) 0 rfl rfl hd K
theorem rw_l_U_U_1 {x : zX} {G : zG} {ce sl pc : Nat} {lv : List (Nat × Value)} {st : List Value} {cc : ByteArray} {nL : Nat} {ret : Option FieldType} {rm : Room} {own : String} {qU : Nat → Nat} {sU : zSt} {i : Int32} {α : Type} {o : α} {kk : Option α} (C : zC x G own cc nL ret rm) (hd : decode cc pc = .ok (.laload, 1)) (h : zg (zix i 3) kk = some o) (K : kk = some o → zW x G ce sl (pc + 1) lv (.long (zL sU 1 i.toNatClampNeg) :: st) (wdU G qU sU)) : zW x G ce sl pc lv (.int i :: .ref (qU 2) :: st) (wdU G qU sU) := z_lald C 2 rfl hd h K
theorem rw_g_X8_38_U_U {x : zX} {G : zG} {ce sl pc : Nat} {lv : List (Nat × Value)} {st : List Value} {cc : ByteArray} {nL : Nat} {ret : Option FieldType} {rm : Room} {qU : Nat → Nat} {sU : zSt} (C : zC x G RX8 cc nL ret rm) (hd : decode cc pc = .ok (.getfield 38, 3)) (K : zW x G ce sl (pc + 3) lv (.ref (qU 9) :: st) (wdU G qU sU)) : zW x G ce sl pc lv (.ref (qU 0) :: st) (wdU G qU sU) := z_get C (Cn := RX8) (T := TX8) (N := 9) (ci := 8) (k := 8) inzX8 rfl (by decide) rw_u_314 (fun _ h => h) 0 rfl rfl hd K
theorem rw_l_U_U_8 {x : zX} {G : zG} {ce sl pc : Nat} {lv : List (Nat × Value)} {st : List Value} {cc : ByteArray} {nL : Nat} {ret : Option FieldType} {rm : Room} {own : String} {qU : Nat → Nat} {sU : zSt} {i : Int32} {α : Type} {o : α} {kk : Option α} (C : zC x G own cc nL ret rm) (hd : decode cc pc = .ok (.laload, 1)) (h : zg (zix i 9) kk = some o) (K : kk = some o → zW x G ce sl (pc + 1) lv (.long (zL sU 8 i.toNatClampNeg) :: st) (wdU G qU sU)) : zW x G ce sl pc lv (.int i :: .ref (qU 9) :: st) (wdU G qU sU) := z_lald C 8 rfl hd h K
theorem rw_g_X8_9_U_U {x : zX} {G : zG} {ce sl pc : Nat} {lv : List (Nat × Value)} {st : List Value} {cc : ByteArray} {nL : Nat} {ret : Option FieldType} {rm : Room} {qU : Nat → Nat} {sU : zSt} (C : zC x G RX8 cc nL ret rm) (hd : decode cc pc = .ok (.getfield 9, 3)) (K : zW x G ce sl (pc + 3) lv (.ref (qU 1) :: st) (wdU G qU sU)) : zW x G ce sl pc lv (.ref (qU 0) :: st) (wdU G qU sU) := z_get C (Cn := RX8) (T := TX8) (N := 9) (ci := 8) (k := 0) inzX8 rfl (by decide) rw_u_298 (fun _ h => h) 0 rfl rfl hd K
theorem rw_l_U_U_0 {x : zX} {G : zG} {ce sl pc : Nat} {lv : List (Nat × Value)} {st : List Value} {cc : ByteArray} {nL : Nat} {ret : Option FieldType} {rm : Room} {own : String} {qU : Nat → Nat} {sU : zSt} {i : Int32} {α : Type} {o : α} {kk : Option α} (C : zC x G own cc nL ret rm) (hd : decode cc pc = .ok (.laload, 1)) (h : zg (zix i 3) kk = some o) (K : kk = some o → zW x G ce sl (pc + 1) lv (.long (zL sU 0 i.toNatClampNeg) :: st) (wdU G qU sU)) : zW x G ce sl pc lv (.int i :: .ref (qU 1) :: st) (wdU G qU sU) := z_lald C 1 rfl hd h K
theorem rw_c_X8_136 {x : zX} {G : zG} {ce sl pc : Nat} {lv : List (Nat × Value)} {cc : ByteArray} {nL : Nat} {ret : Option FieldType} {rm : Room} {w w1 : va_W} {rest : List Value} {r : Option Value} {a0 : Int32} {a1 : Int32} {a2 : Int32} {b : Nat} {fs : List Value} (C : zC x G RX8 cc nL ret rm) (hc : Ct (xl x) G yX8_cell cX8_cell 4 (some .long) rmX8_cell [.ref b, .int a0, .int a1, .int a2] w r w1) (q0 : Nat) (he : w[q0]? = some (b, .inr (8, fs))) (hd : decode cc pc = .ok (.invokevirtual 136, 3)) (hcat : (rest.map fun v => v.category).sum ≤ 8) (hrm : zRm rm rmX8_cell 4 ce sl) (K : zW x G (ce + rmX8_cell.cells) (sl + rmX8_cell.slots) (pc + 3) lv (r.toList ++ rest) w1) : zW x G ce sl pc lv (.int a2 :: .int a1 :: .int a0 :: .ref b :: rest) w := z_callV C 3 rw_u_658 rw_u_75 rw_u_655 rw_u_657 rw_u_26 ⟨by decide, by decide, by decide +kernel⟩ (T := TX8) (N := 9) rfl hc rfl q0 he hd hcat hrm K
theorem rw_c_X8_140 {x : zX} {G : zG} {ce sl pc : Nat} {lv : List (Nat × Value)} {cc : ByteArray} {nL : Nat} {ret : Option FieldType} {rm : Room} {w w1 : va_W} {rest : List Value} {r : Option Value} {a0 : Int32} {a1 : Int32} {a2 : Int32} {b : Nat} {fs : List Value} (C : zC x G RX8 cc nL ret rm) (hc : Ct (xl x) G yX8_minor cX8_minor 4 (some .long) rmX8_minor [.ref b, .int a0, .int a1, .int a2] w r w1) (q0 : Nat) (he : w[q0]? = some (b, .inr (8, fs))) (hd : decode cc pc = .ok (.invokevirtual 140, 3)) (hcat : (rest.map fun v => v.category).sum ≤ 8) (hrm : zRm rm rmX8_minor 4 ce sl) (K : zW x G (ce + rmX8_minor.cells) (sl + rmX8_minor.slots) (pc + 3) lv (r.toList ++ rest) w1) : zW x G ce sl pc lv (.int a2 :: .int a1 :: .int a0 :: .ref b :: rest) w := z_callV C 3 rw_u_662 rw_u_75 rw_u_659 rw_u_661 rw_u_27 ⟨by decide, by decide, by decide +kernel⟩ (T := TX8) (N := 9) rfl hc rfl q0 he hd hcat hrm K
theorem rw_c_X8_133 {x : zX} {G : zG} {ce sl pc : Nat} {lv : List (Nat × Value)} {cc : ByteArray} {nL : Nat} {ret : Option FieldType} {rm : Room} {w w1 : va_W} {rest : List Value} {r : Option Value} {a0 : Int32} {b : Nat} {fs : List Value} (C : zC x G RX8 cc nL ret rm) (hc : Ct (xl x) G yX8_determinant cX8_determinant 2 (some .long) rmX8_determinant [.ref b, .int a0] w r w1) (q0 : Nat) (he : w[q0]? = some (b, .inr (8, fs))) (hd : decode cc pc = .ok (.invokevirtual 133, 3)) (hcat : (rest.map fun v => v.category).sum ≤ 8) (hrm : zRm rm rmX8_determinant 2 ce sl) (K : zW x G (ce + rmX8_determinant.cells) (sl + rmX8_determinant.slots) (pc + 3) lv (r.toList ++ rest) w1) : zW x G ce sl pc lv (.int a0 :: .ref b :: rest) w := z_callV C 1 rw_u_654 rw_u_75 rw_u_651 rw_u_653 rw_u_25 ⟨by decide, by decide, by decide +kernel⟩ (T := TX8) (N := 9) rfl hc rfl q0 he hd hcat hrm K
theorem rw_p_X8_34_U_U {x : zX} {G : zG} {ce sl pc : Nat} {lv : List (Nat × Value)} {st : List Value} {cc : ByteArray} {nL : Nat} {ret : Option FieldType} {rm : Room} {qU : Nat → Nat} {sU : zSt} {v : Int64} {α : Type} {o : α} {kk : zSt → Option α} (C : zC x G RX8 cc nL ret rm) (hd : decode cc pc = .ok (.putfield 34, 3)) (h : zn (zsJ sU 7 v) kk = some o) (K : ∀ s' : zSt, kk s' = some o → zW x G ce sl (pc + 3) lv st (wdU G qU s')) : zW x G ce sl pc lv (.long v :: .ref (qU 0) :: st) (wdU G qU sU) := z_put C (Cn := RX8) (T := TX8) (N := 9) (ci := 8) (k := 7) (ty := .long) (w' := wdU G qU (zsJ sU 7 v)) inzX8 tyX8 tyX8_ok nmX8 rfl (by decide) rw_u_312 (fun _ h => h) rfl 0 rfl (by decide +kernel) rfl rfl (Nat.le_of_ble_eq_true rfl) rfl hd (K _ h)
theorem rw_g_X8_28_U_U {x : zX} {G : zG} {ce sl pc : Nat} {lv : List (Nat × Value)} {st : List Value} {cc : ByteArray} {nL : Nat} {ret : Option FieldType} {rm : Room} {qU : Nat → Nat} {sU : zSt} (C : zC x G RX8 cc nL ret rm) (hd : decode cc pc = .ok (.getfield 28, 3)) (K : zW x G ce sl (pc + 3) lv (.ref (qU 6) :: st) (wdU G qU sU)) : zW x G ce sl pc lv (.ref (qU 0) :: st) (wdU G qU sU) := z_get C (Cn := RX8) (T := TX8) (N := 9) (ci := 8) (k := 5) inzX8 rfl (by decide) rw_u_308 (fun _ h => h) 0 rfl rfl hd K
theorem rw_c_X8_128 {x : zX} {G : zG} {ce sl pc : Nat} {lv : List (Nat × Value)} {cc : ByteArray} {nL : Nat} {ret : Option FieldType} {rm : Room} {w w1 : va_W} {rest : List Value} {r : Option Value} {a0 : Int32} {b : Nat} {fs : List Value} (C : zC x G RX8 cc nL ret rm) (hc : Ct (xl x) G yX8_cameOrOne cX8_cameOrOne 2 (some .long) rmX8_cameOrOne [.ref b, .int a0] w r w1) (q0 : Nat) (he : w[q0]? = some (b, .inr (8, fs))) (hd : decode cc pc = .ok (.invokevirtual 128, 3)) (hcat : (rest.map fun v => v.category).sum ≤ 8) (hrm : zRm rm rmX8_cameOrOne 2 ce sl) (K : zW x G (ce + rmX8_cameOrOne.cells) (sl + rmX8_cameOrOne.slots) (pc + 3) lv (r.toList ++ rest) w1) : zW x G ce sl pc lv (.int a0 :: .ref b :: rest) w := z_callV C 1 rw_u_649 rw_u_75 rw_u_646 rw_u_648 rw_u_24 ⟨by decide, by decide, by decide +kernel⟩ (T := TX8) (N := 9) rfl hc rfl q0 he hd hcat hrm K
theorem rw_s_U_U_5 {x : zX} {G : zG} {ce sl pc : Nat} {lv : List (Nat × Value)} {st : List Value} {cc : ByteArray} {nL : Nat} {ret : Option FieldType} {rm : Room} {own : String} {qU : Nat → Nat} {sU : zSt} {i : Int32} {v : Int64} {α : Type} {o : α} {kk : zSt → Option α} (C : zC x G own cc nL ret rm) (hd : decode cc pc = .ok (.lastore, 1)) (h : zg (zix i 3) (zn (zsL sU 5 i.toNatClampNeg v) kk) = some o) (K : ∀ s' : zSt, kk s' = some o → zW x G ce sl (pc + 1) lv st (wdU G qU s')) : zW x G ce sl pc lv (.long v :: .int i :: .ref (qU 6) :: st) (wdU G qU sU) := z_last C (w' := wdU G qU (zsL sU 5 i.toNatClampNeg v)) 6 rfl rfl hd h (fun h => K _ h)
theorem rw_g_X8_25_U_U {x : zX} {G : zG} {ce sl pc : Nat} {lv : List (Nat × Value)} {st : List Value} {cc : ByteArray} {nL : Nat} {ret : Option FieldType} {rm : Room} {qU : Nat → Nat} {sU : zSt} (C : zC x G RX8 cc nL ret rm) (hd : decode cc pc = .ok (.getfield 25, 3)) (K : zW x G ce sl (pc + 3) lv (.ref (qU 5) :: st) (wdU G qU sU)) : zW x G ce sl pc lv (.ref (qU 0) :: st) (wdU G qU sU) := z_get C (Cn := RX8) (T := TX8) (N := 9) (ci := 8) (k := 4) inzX8 rfl (by decide) rw_u_306 (fun _ h => h) 0 rfl rfl hd K
theorem rw_g_X8_22_U_U {x : zX} {G : zG} {ce sl pc : Nat} {lv : List (Nat × Value)} {st : List Value} {cc : ByteArray} {nL : Nat} {ret : Option FieldType} {rm : Room} {qU : Nat → Nat} {sU : zSt} (C : zC x G RX8 cc nL ret rm) (hd : decode cc pc = .ok (.getfield 22, 3)) (K : zW x G ce sl (pc + 3) lv (.ref (qU 4) :: st) (wdU G qU sU)) : zW x G ce sl pc lv (.ref (qU 0) :: st) (wdU G qU sU) := z_get C (Cn := RX8) (T := TX8) (N := 9) (ci := 8) (k := 3) inzX8 rfl (by decide) rw_u_304 (fun _ h => h) 0 rfl rfl hd K
theorem rw_l_U_U_3 {x : zX} {G : zG} {ce sl pc : Nat} {lv : List (Nat × Value)} {st : List Value} {cc : ByteArray} {nL : Nat} {ret : Option FieldType} {rm : Room} {own : String} {qU : Nat → Nat} {sU : zSt} {i : Int32} {α : Type} {o : α} {kk : Option α} (C : zC x G own cc nL ret rm) (hd : decode cc pc = .ok (.laload, 1)) (h : zg (zix i 9) kk = some o) (K : kk = some o → zW x G ce sl (pc + 1) lv (.long (zL sU 3 i.toNatClampNeg) :: st) (wdU G qU sU)) : zW x G ce sl pc lv (.int i :: .ref (qU 4) :: st) (wdU G qU sU) := z_lald C 4 rfl hd h K
theorem rw_s_U_U_4 {x : zX} {G : zG} {ce sl pc : Nat} {lv : List (Nat × Value)} {st : List Value} {cc : ByteArray} {nL : Nat} {ret : Option FieldType} {rm : Room} {own : String} {qU : Nat → Nat} {sU : zSt} {i : Int32} {v : Int64} {α : Type} {o : α} {kk : zSt → Option α} (C : zC x G own cc nL ret rm) (hd : decode cc pc = .ok (.lastore, 1)) (h : zg (zix i 9) (zn (zsL sU 4 i.toNatClampNeg v) kk) = some o) (K : ∀ s' : zSt, kk s' = some o → zW x G ce sl (pc + 1) lv st (wdU G qU s')) : zW x G ce sl pc lv (.long v :: .int i :: .ref (qU 5) :: st) (wdU G qU sU) := z_last C (w' := wdU G qU (zsL sU 4 i.toNatClampNeg v)) 5 rfl rfl hd h (fun h => K _ h)
theorem rw_s_U_U_8 {x : zX} {G : zG} {ce sl pc : Nat} {lv : List (Nat × Value)} {st : List Value} {cc : ByteArray} {nL : Nat} {ret : Option FieldType} {rm : Room} {own : String} {qU : Nat → Nat} {sU : zSt} {i : Int32} {v : Int64} {α : Type} {o : α} {kk : zSt → Option α} (C : zC x G own cc nL ret rm) (hd : decode cc pc = .ok (.lastore, 1)) (h : zg (zix i 9) (zn (zsL sU 8 i.toNatClampNeg v) kk) = some o) (K : ∀ s' : zSt, kk s' = some o → zW x G ce sl (pc + 1) lv st (wdU G qU s')) : zW x G ce sl pc lv (.long v :: .int i :: .ref (qU 9) :: st) (wdU G qU sU) := z_last C (w' := wdU G qU (zsL sU 8 i.toNatClampNeg v)) 8 rfl rfl hd h (fun h => K _ h)
theorem rw_l_U_U_5 {x : zX} {G : zG} {ce sl pc : Nat} {lv : List (Nat × Value)} {st : List Value} {cc : ByteArray} {nL : Nat} {ret : Option FieldType} {rm : Room} {own : String} {qU : Nat → Nat} {sU : zSt} {i : Int32} {α : Type} {o : α} {kk : Option α} (C : zC x G own cc nL ret rm) (hd : decode cc pc = .ok (.laload, 1)) (h : zg (zix i 3) kk = some o) (K : kk = some o → zW x G ce sl (pc + 1) lv (.long (zL sU 5 i.toNatClampNeg) :: st) (wdU G qU sU)) : zW x G ce sl pc lv (.int i :: .ref (qU 6) :: st) (wdU G qU sU) := z_lald C 6 rfl hd h K
theorem rw_l_U_U_4 {x : zX} {G : zG} {ce sl pc : Nat} {lv : List (Nat × Value)} {st : List Value} {cc : ByteArray} {nL : Nat} {ret : Option FieldType} {rm : Room} {own : String} {qU : Nat → Nat} {sU : zSt} {i : Int32} {α : Type} {o : α} {kk : Option α} (C : zC x G own cc nL ret rm) (hd : decode cc pc = .ok (.laload, 1)) (h : zg (zix i 9) kk = some o) (K : kk = some o → zW x G ce sl (pc + 1) lv (.long (zL sU 4 i.toNatClampNeg) :: st) (wdU G qU sU)) : zW x G ce sl pc lv (.int i :: .ref (qU 5) :: st) (wdU G qU sU) := z_lald C 5 rfl hd h K
theorem rw_g_X8_41_UCS_C {x : zX} {G : zG} {ce sl pc : Nat} {lv : List (Nat × Value)} {st : List Value} {cc : ByteArray} {nL : Nat} {ret : Option FieldType} {rm : Room} {qU qC qS : Nat → Nat} {rC : Nat} {sU sC sS : zSt} (C : zC x G RX8 cc nL ret rm) (hd : decode cc pc = .ok (.getfield 41, 3)) (K : zW x G ce sl (pc + 3) lv (.ref rC :: st) (wdU G qU sU ++ (wdC G qC rC sC ++ (wdS G qS sS)))) : zW x G ce sl pc lv (.ref (qC 0) :: st) (wdU G qU sU ++ (wdC G qC rC sC ++ (wdS G qS sS))) := z_get C (Cn := RX2) (T := TX2) (N := 18) (ci := 2) (k := 0) inzX2 rfl (by decide) rw_u_211 (fun _ h => h) 9 rfl rfl hd K
theorem rw_g_X8_47_UCS_S {x : zX} {G : zG} {ce sl pc : Nat} {lv : List (Nat × Value)} {st : List Value} {cc : ByteArray} {nL : Nat} {ret : Option FieldType} {rm : Room} {qU qC qS : Nat → Nat} {rC : Nat} {sU sC sS : zSt} (C : zC x G RX8 cc nL ret rm) (hd : decode cc pc = .ok (.getfield 47, 3)) (K : zW x G ce sl (pc + 3) lv (.ref (qS 6) :: st) (wdU G qU sU ++ (wdC G qC rC sC ++ (wdS G qS sS)))) : zW x G ce sl pc lv (.ref (qS 0) :: st) (wdU G qU sU ++ (wdC G qC rC sC ++ (wdS G qS sS))) := z_get C (Cn := RX7) (T := TX7) (N := 13) (ci := 7) (k := 5) inzX7 rfl (by decide) rw_u_154 (fun _ h => h) 24 rfl rfl hd K
theorem rw_g_X8_52_UCS_C {x : zX} {G : zG} {ce sl pc : Nat} {lv : List (Nat × Value)} {st : List Value} {cc : ByteArray} {nL : Nat} {ret : Option FieldType} {rm : Room} {qU qC qS : Nat → Nat} {rC : Nat} {sU sC sS : zSt} (C : zC x G RX8 cc nL ret rm) (hd : decode cc pc = .ok (.getfield 52, 3)) (K : zW x G ce sl (pc + 3) lv (.int (zI sC 1) :: st) (wdU G qU sU ++ (wdC G qC rC sC ++ (wdS G qS sS)))) : zW x G ce sl pc lv (.ref (qC 0) :: st) (wdU G qU sU ++ (wdC G qC rC sC ++ (wdS G qS sS))) := z_get C (Cn := RX2) (T := TX2) (N := 18) (ci := 2) (k := 1) inzX2 rfl (by decide) rw_u_213 (fun _ h => h) 9 rfl rfl hd K
theorem rw_l_UCS_S_5 {x : zX} {G : zG} {ce sl pc : Nat} {lv : List (Nat × Value)} {st : List Value} {cc : ByteArray} {nL : Nat} {ret : Option FieldType} {rm : Room} {own : String} {qU qC qS : Nat → Nat} {rC : Nat} {sU sC sS : zSt} {i : Int32} {α : Type} {o : α} {kk : Option α} (C : zC x G own cc nL ret rm) (hd : decode cc pc = .ok (.iaload, 1)) (h : zg (zix i 4) kk = some o) (K : kk = some o → zW x G ce sl (pc + 1) lv (.int (zA sS 5 i.toNatClampNeg) :: st) (wdU G qU sU ++ (wdC G qC rC sC ++ (wdS G qS sS)))) : zW x G ce sl pc lv (.int i :: .ref (qS 6) :: st) (wdU G qU sU ++ (wdC G qC rC sC ++ (wdS G qS sS))) := z_iald C 27 rfl hd h K
theorem rw_c_X8_56 {x : zX} {G : zG} {ce sl pc : Nat} {lv : List (Nat × Value)} {cc : ByteArray} {nL : Nat} {ret : Option FieldType} {rm : Room} {w w1 : va_W} {rest : List Value} {r : Option Value} {a0 : Nat} {b : Nat} {fs : List Value} (C : zC x G RX8 cc nL ret rm) (hc : Ct (xl x) G yX8_addThings cX8_addThings 4 none rmX8_addThings [.ref b, .ref a0] w r w1) (q0 : Nat) (he : w[q0]? = some (b, .inr (8, fs))) (hd : decode cc pc = .ok (.invokevirtual 56, 3)) (hcat : (rest.map fun v => v.category).sum ≤ 8) (hrm : zRm rm rmX8_addThings 4 ce sl) (K : zW x G (ce + rmX8_addThings.cells) (sl + rmX8_addThings.slots) (pc + 3) lv (r.toList ++ rest) w1) : zW x G ce sl pc lv (.ref a0 :: .ref b :: rest) w := z_callV C 1 rw_u_627 rw_u_75 rw_u_624 rw_u_626 rw_u_21 ⟨by decide, by decide, by decide +kernel⟩ (T := TX8) (N := 9) rfl hc rfl q0 he hd hcat hrm K
theorem rw_c_X8_60 {x : zX} {G : zG} {ce sl pc : Nat} {lv : List (Nat × Value)} {cc : ByteArray} {nL : Nat} {ret : Option FieldType} {rm : Room} {w w1 : va_W} {rest : List Value} {r : Option Value} {a0 : Nat} {a1 : Int32} {b : Nat} {fs : List Value} (C : zC x G RX8 cc nL ret rm) (hc : Ct (xl x) G yX8_addPuts cX8_addPuts 8 none rmX8_addPuts [.ref b, .ref a0, .int a1] w r w1) (q0 : Nat) (he : w[q0]? = some (b, .inr (8, fs))) (hd : decode cc pc = .ok (.invokevirtual 60, 3)) (hcat : (rest.map fun v => v.category).sum ≤ 8) (hrm : zRm rm rmX8_addPuts 8 ce sl) (K : zW x G (ce + rmX8_addPuts.cells) (sl + rmX8_addPuts.slots) (pc + 3) lv (r.toList ++ rest) w1) : zW x G ce sl pc lv (.int a1 :: .ref a0 :: .ref b :: rest) w := z_callV C 2 rw_u_631 rw_u_75 rw_u_628 rw_u_630 rw_u_22 ⟨by decide, by decide, by decide +kernel⟩ (T := TX8) (N := 9) rfl hc rfl q0 he hd hcat hrm K
theorem rw_p_X8_34_UCS_U {x : zX} {G : zG} {ce sl pc : Nat} {lv : List (Nat × Value)} {st : List Value} {cc : ByteArray} {nL : Nat} {ret : Option FieldType} {rm : Room} {qU qC qS : Nat → Nat} {rC : Nat} {sU sC sS : zSt} {v : Int64} {α : Type} {o : α} {kk : zSt → Option α} (C : zC x G RX8 cc nL ret rm) (hd : decode cc pc = .ok (.putfield 34, 3)) (h : zn (zsJ sU 7 v) kk = some o) (K : ∀ s' : zSt, kk s' = some o → zW x G ce sl (pc + 3) lv st (wdU G qU s' ++ (wdC G qC rC sC ++ (wdS G qS sS)))) : zW x G ce sl pc lv (.long v :: .ref (qU 0) :: st) (wdU G qU sU ++ (wdC G qC rC sC ++ (wdS G qS sS))) := z_put C (Cn := RX8) (T := TX8) (N := 9) (ci := 8) (k := 7) (ty := .long) (w' := wdU G qU (zsJ sU 7 v) ++ (wdC G qC rC sC ++ (wdS G qS sS))) inzX8 tyX8 tyX8_ok nmX8 rfl (by decide) rw_u_312 (fun _ h => h) rfl 0 rfl (by decide +kernel) rfl rfl (Nat.le_of_ble_eq_true rfl) rfl hd (K _ h)
theorem rw_c_X8_67 {x : zX} {G : zG} {ce sl pc : Nat} {lv : List (Nat × Value)} {cc : ByteArray} {nL : Nat} {ret : Option FieldType} {rm : Room} {w w1 : va_W} {rest : List Value} {r : Option Value}  {b : Nat} {fs : List Value} (C : zC x G RX8 cc nL ret rm) (hc : Ct (xl x) G yX8_addNets cX8_addNets 3 none rmX8_addNets [.ref b] w r w1) (q0 : Nat) (he : w[q0]? = some (b, .inr (8, fs))) (hd : decode cc pc = .ok (.invokevirtual 67, 3)) (hcat : (rest.map fun v => v.category).sum ≤ 8) (hrm : zRm rm rmX8_addNets 3 ce sl) (K : zW x G (ce + rmX8_addNets.cells) (sl + rmX8_addNets.slots) (pc + 3) lv (r.toList ++ rest) w1) : zW x G ce sl pc lv (.ref b :: rest) w := z_callV C 0 rw_u_666 rw_u_75 rw_u_663 rw_u_665 rw_u_28 ⟨by decide, by decide, by decide +kernel⟩ (T := TX8) (N := 9) rfl hc rfl q0 he hd hcat hrm K
theorem rw_g_X8_70_UCS_S {x : zX} {G : zG} {ce sl pc : Nat} {lv : List (Nat × Value)} {st : List Value} {cc : ByteArray} {nL : Nat} {ret : Option FieldType} {rm : Room} {qU qC qS : Nat → Nat} {rC : Nat} {sU sC sS : zSt} (C : zC x G RX8 cc nL ret rm) (hd : decode cc pc = .ok (.getfield 70, 3)) (K : zW x G ce sl (pc + 3) lv (.ref (qS 8) :: st) (wdU G qU sU ++ (wdC G qC rC sC ++ (wdS G qS sS)))) : zW x G ce sl pc lv (.ref (qS 0) :: st) (wdU G qU sU ++ (wdC G qC rC sC ++ (wdS G qS sS))) := z_get C (Cn := RX7) (T := TX7) (N := 13) (ci := 7) (k := 7) inzX7 rfl (by decide) rw_u_159 (fun _ h => h) 24 rfl rfl hd K
theorem rw_l_UCS_S_7 {x : zX} {G : zG} {ce sl pc : Nat} {lv : List (Nat × Value)} {st : List Value} {cc : ByteArray} {nL : Nat} {ret : Option FieldType} {rm : Room} {own : String} {qU qC qS : Nat → Nat} {rC : Nat} {sU sC sS : zSt} {i : Int32} {α : Type} {o : α} {kk : Option α} (C : zC x G own cc nL ret rm) (hd : decode cc pc = .ok (.iaload, 1)) (h : zg (zix i 4) kk = some o) (K : kk = some o → zW x G ce sl (pc + 1) lv (.int (zA sS 7 i.toNatClampNeg) :: st) (wdU G qU sU ++ (wdC G qC rC sC ++ (wdS G qS sS)))) : zW x G ce sl pc lv (.int i :: .ref (qS 8) :: st) (wdU G qU sU ++ (wdC G qC rC sC ++ (wdS G qS sS))) := z_iald C 29 rfl hd h K
theorem rw_g_X8_31_UCS_U {x : zX} {G : zG} {ce sl pc : Nat} {lv : List (Nat × Value)} {st : List Value} {cc : ByteArray} {nL : Nat} {ret : Option FieldType} {rm : Room} {qU qC qS : Nat → Nat} {rC : Nat} {sU sC sS : zSt} (C : zC x G RX8 cc nL ret rm) (hd : decode cc pc = .ok (.getfield 31, 3)) (K : zW x G ce sl (pc + 3) lv (.ref (qU 7) :: st) (wdU G qU sU ++ (wdC G qC rC sC ++ (wdS G qS sS)))) : zW x G ce sl pc lv (.ref (qU 0) :: st) (wdU G qU sU ++ (wdC G qC rC sC ++ (wdS G qS sS))) := z_get C (Cn := RX8) (T := TX8) (N := 9) (ci := 8) (k := 6) inzX8 rfl (by decide) rw_u_310 (fun _ h => h) 0 rfl rfl hd K
theorem rw_g_X8_28_UCS_U {x : zX} {G : zG} {ce sl pc : Nat} {lv : List (Nat × Value)} {st : List Value} {cc : ByteArray} {nL : Nat} {ret : Option FieldType} {rm : Room} {qU qC qS : Nat → Nat} {rC : Nat} {sU sC sS : zSt} (C : zC x G RX8 cc nL ret rm) (hd : decode cc pc = .ok (.getfield 28, 3)) (K : zW x G ce sl (pc + 3) lv (.ref (qU 6) :: st) (wdU G qU sU ++ (wdC G qC rC sC ++ (wdS G qS sS)))) : zW x G ce sl pc lv (.ref (qU 0) :: st) (wdU G qU sU ++ (wdC G qC rC sC ++ (wdS G qS sS))) := z_get C (Cn := RX8) (T := TX8) (N := 9) (ci := 8) (k := 5) inzX8 rfl (by decide) rw_u_308 (fun _ h => h) 0 rfl rfl hd K
theorem rw_l_UCS_U_5 {x : zX} {G : zG} {ce sl pc : Nat} {lv : List (Nat × Value)} {st : List Value} {cc : ByteArray} {nL : Nat} {ret : Option FieldType} {rm : Room} {own : String} {qU qC qS : Nat → Nat} {rC : Nat} {sU sC sS : zSt} {i : Int32} {α : Type} {o : α} {kk : Option α} (C : zC x G own cc nL ret rm) (hd : decode cc pc = .ok (.laload, 1)) (h : zg (zix i 3) kk = some o) (K : kk = some o → zW x G ce sl (pc + 1) lv (.long (zL sU 5 i.toNatClampNeg) :: st) (wdU G qU sU ++ (wdC G qC rC sC ++ (wdS G qS sS)))) : zW x G ce sl pc lv (.int i :: .ref (qU 6) :: st) (wdU G qU sU ++ (wdC G qC rC sC ++ (wdS G qS sS))) := z_lald C 6 rfl hd h K
theorem rw_s_UCS_U_6 {x : zX} {G : zG} {ce sl pc : Nat} {lv : List (Nat × Value)} {st : List Value} {cc : ByteArray} {nL : Nat} {ret : Option FieldType} {rm : Room} {own : String} {qU qC qS : Nat → Nat} {rC : Nat} {sU sC sS : zSt} {i : Int32} {v : Int64} {α : Type} {o : α} {kk : zSt → Option α} (C : zC x G own cc nL ret rm) (hd : decode cc pc = .ok (.lastore, 1)) (h : zg (zix i 2) (zn (zsL sU 6 i.toNatClampNeg v) kk) = some o) (K : ∀ s' : zSt, kk s' = some o → zW x G ce sl (pc + 1) lv st (wdU G qU s' ++ (wdC G qC rC sC ++ (wdS G qS sS)))) : zW x G ce sl pc lv (.long v :: .int i :: .ref (qU 7) :: st) (wdU G qU sU ++ (wdC G qC rC sC ++ (wdS G qS sS))) := z_last C (w' := wdU G qU (zsL sU 6 i.toNatClampNeg v) ++ (wdC G qC rC sC ++ (wdS G qS sS))) 7 rfl rfl hd h (fun h => K _ h)
theorem rw_c_X8_64 {x : zX} {G : zG} {ce sl pc : Nat} {lv : List (Nat × Value)} {cc : ByteArray} {nL : Nat} {ret : Option FieldType} {rm : Room} {w w1 : va_W} {rest : List Value} {r : Option Value}  {b : Nat} {fs : List Value} (C : zC x G RX8 cc nL ret rm) (hc : Ct (xl x) G yX8_solveParts cX8_solveParts 5 none rmX8_solveParts [.ref b] w r w1) (q0 : Nat) (he : w[q0]? = some (b, .inr (8, fs))) (hd : decode cc pc = .ok (.invokevirtual 64, 3)) (hcat : (rest.map fun v => v.category).sum ≤ 8) (hrm : zRm rm rmX8_solveParts 5 ce sl) (K : zW x G (ce + rmX8_solveParts.cells) (sl + rmX8_solveParts.slots) (pc + 3) lv (r.toList ++ rest) w1) : zW x G ce sl pc lv (.ref b :: rest) w := z_callV C 0 rw_u_645 rw_u_75 rw_u_642 rw_u_644 rw_u_23 ⟨by decide, by decide, by decide +kernel⟩ (T := TX8) (N := 9) rfl hc rfl q0 he hd hcat hrm K
theorem rw_g_X8_34_U_U {x : zX} {G : zG} {ce sl pc : Nat} {lv : List (Nat × Value)} {st : List Value} {cc : ByteArray} {nL : Nat} {ret : Option FieldType} {rm : Room} {qU : Nat → Nat} {sU : zSt} (C : zC x G RX8 cc nL ret rm) (hd : decode cc pc = .ok (.getfield 34, 3)) (K : zW x G ce sl (pc + 3) lv (.long (zJ sU 7) :: st) (wdU G qU sU)) : zW x G ce sl pc lv (.ref (qU 0) :: st) (wdU G qU sU) := z_get C (Cn := RX8) (T := TX8) (N := 9) (ci := 8) (k := 7) inzX8 rfl (by decide) rw_u_312 (fun _ h => h) 0 rfl rfl hd K
theorem rw_c_X8_75 {x : zX} {G : zG} {ce sl pc : Nat} {lv : List (Nat × Value)} {cc : ByteArray} {nL : Nat} {ret : Option FieldType} {rm : Room} {w w1 : va_W} {rest : List Value} {r : Option Value}  {b : Nat} {fs : List Value} (C : zC x G RX8 cc nL ret rm) (hc : Ct (xl x) G yX8_endBottom cX8_endBottom 1 (some .long) rmX8_endBottom [.ref b] w r w1) (q0 : Nat) (he : w[q0]? = some (b, .inr (8, fs))) (hd : decode cc pc = .ok (.invokevirtual 75, 3)) (hcat : (rest.map fun v => v.category).sum ≤ 8) (hrm : zRm rm rmX8_endBottom 1 ce sl) (K : zW x G (ce + rmX8_endBottom.cells) (sl + rmX8_endBottom.slots) (pc + 3) lv (r.toList ++ rest) w1) : zW x G ce sl pc lv (.ref b :: rest) w := z_callV C 0 rw_u_739 rw_u_75 rw_u_754 rw_u_737 rw_u_738 ⟨by decide, by decide, by decide +kernel⟩ (T := TX8) (N := 9) rfl hc rfl q0 he hd hcat hrm K
theorem rw_g_X8_31_U_U {x : zX} {G : zG} {ce sl pc : Nat} {lv : List (Nat × Value)} {st : List Value} {cc : ByteArray} {nL : Nat} {ret : Option FieldType} {rm : Room} {qU : Nat → Nat} {sU : zSt} (C : zC x G RX8 cc nL ret rm) (hd : decode cc pc = .ok (.getfield 31, 3)) (K : zW x G ce sl (pc + 3) lv (.ref (qU 7) :: st) (wdU G qU sU)) : zW x G ce sl pc lv (.ref (qU 0) :: st) (wdU G qU sU) := z_get C (Cn := RX8) (T := TX8) (N := 9) (ci := 8) (k := 6) inzX8 rfl (by decide) rw_u_310 (fun _ h => h) 0 rfl rfl hd K
theorem rw_l_U_U_6 {x : zX} {G : zG} {ce sl pc : Nat} {lv : List (Nat × Value)} {st : List Value} {cc : ByteArray} {nL : Nat} {ret : Option FieldType} {rm : Room} {own : String} {qU : Nat → Nat} {sU : zSt} {i : Int32} {α : Type} {o : α} {kk : Option α} (C : zC x G own cc nL ret rm) (hd : decode cc pc = .ok (.laload, 1)) (h : zg (zix i 2) kk = some o) (K : kk = some o → zW x G ce sl (pc + 1) lv (.long (zL sU 6 i.toNatClampNeg) :: st) (wdU G qU sU)) : zW x G ce sl pc lv (.int i :: .ref (qU 7) :: st) (wdU G qU sU) := z_lald C 7 rfl hd h K
set_option maxHeartbeats 4000000 in
set_option maxRecDepth 100000 in
theorem kU_addThings_l43b {x : zX} {G : zG} {qU qC : Nat → Nat} {rC : Nat} {sC : zSt} {out : zSt} (C : zC x G RX8 cX8_addThings 4 none rmX8_addThings) (O : zO x G none (wdU G qU out ++ (wdC G qC rC sC)) 0 0) {K43 : zSt → zSt → Int32 → Option (zSt)} (hK43 : ∀ (sU : zSt) (x2 : Int32), K43 sU sC x2 = some out → zW x G 0 0 43 [(0, .ref (qU 0)), (1, .ref (qC 0)), (2, .int x2)] [] (wdU G qU sU ++ (wdC G qC rC sC))) {sU : zSt} {x2 : Int32} (h : fU_addThings_l43b K43 sU sC x2 = some out) : zW x G 0 0 43 [(0, .ref (qU 0)), (1, .ref (qC 0)), (2, .int x2)] [] (wdU G qU sU ++ (wdC G qC rC sC)) := by
  unfold fU_addThings_l43b at h
  refine z_iload_n C dX8_addThings_43 2 rfl ?_
  refine z_aload_n C dX8_addThings_44 1 rfl ?_
  refine rw_g_X8_82_UC_C C dX8_addThings_45 ?_
  refine z_icmp_ge C dX8_addThings_48 106 (by decide) h (fun h => ?_) (fun h => ?_)
  · replace h := Option.some.inj h
    subst h
    exact z_vret C O dX8_addThings_106 rfl rfl
  · refine z_aload_n C dX8_addThings_51 1 rfl ?_
    refine rw_g_X8_85_UC_C C dX8_addThings_52 ?_
    refine z_iload_n C dX8_addThings_55 2 rfl ?_
    refine rw_l_UC_C_8 C dX8_addThings_56 h (fun h => ?_)
    refine z_istore_nN C dX8_addThings_57 (by decide) (lvr := [(0, .ref (qU 0)), (1, .ref (qC 0)), (2, .int x2)]) rfl h (fun x3_1 h => ?_)
    refine z_aload_n C dX8_addThings_58 1 rfl ?_
    refine rw_g_X8_9_UC_U C dX8_addThings_59 ?_
    refine z_iload_n C dX8_addThings_62 0 rfl ?_
    refine z_dup2 C dX8_addThings_63 rfl rfl ?_
    refine rw_l_UC_U_0 C dX8_addThings_64 h (fun h => ?_)
    refine z_aload_n C dX8_addThings_65 2 rfl ?_
    refine rw_g_X8_88_UC_C C dX8_addThings_66 ?_
    refine z_iload_n C dX8_addThings_69 3 rfl ?_
    refine rw_l_UC_C_11 C dX8_addThings_70 h (fun h => ?_)
    refine z_i2l C dX8_addThings_71 ?_
    refine z_ladd C dX8_addThings_72 ?_
    refine rw_s_UC_U_0 C dX8_addThings_73 h (fun sU2 h => ?_)
    refine z_aload_n C dX8_addThings_74 1 rfl ?_
    refine rw_g_X8_15_UC_U C dX8_addThings_75 ?_
    refine z_iload_n C dX8_addThings_78 0 rfl ?_
    refine z_dup2 C dX8_addThings_79 rfl rfl ?_
    refine rw_l_UC_U_1 C dX8_addThings_80 h (fun h => ?_)
    refine z_aload_n C dX8_addThings_81 2 rfl ?_
    refine rw_g_X8_91_UC_C C dX8_addThings_82 ?_
    refine z_iload_n C dX8_addThings_85 3 rfl ?_
    refine rw_l_UC_C_6 C dX8_addThings_86 h (fun h => ?_)
    refine z_i2l C dX8_addThings_87 ?_
    refine z_ladd C dX8_addThings_88 ?_
    refine rw_s_UC_U_1 C dX8_addThings_89 h (fun sU3 h => ?_)
    refine z_aload_n C dX8_addThings_90 1 rfl ?_
    refine rw_g_X8_18_UC_U C dX8_addThings_91 ?_
    refine z_iload_n C dX8_addThings_94 0 rfl ?_
    refine z_dup2 C dX8_addThings_95 rfl rfl ?_
    refine rw_l_UC_U_2 C dX8_addThings_96 h (fun h => ?_)
    refine z_iconst C 1 dX8_addThings_97 (by decide) ?_
    refine z_iadd C dX8_addThings_98 ?_
    refine rw_s_UC_U_2 C dX8_addThings_99 h (fun sU4 h => ?_)
    refine z_iinc C dX8_addThings_100 3 rfl 1 (by decide) (by decide) (lvr := [(3, .int x3_1), (0, .ref (qU 0)), (1, .ref (qC 0))]) rfl h (fun x2_5 h => ?_)
    refine z_goto C dX8_addThings_103 43 (by decide) ?_
    refine z_perm [2, 3, 0] (lv' := [(0, .ref (qU 0)), (1, .ref (qC 0)), (2, .int x2_5)]) rfl ?_
    exact hK43 _  _ h
set_option maxHeartbeats 4000000 in
set_option maxRecDepth 100000 in
theorem kU_addThings_l43 {x : zX} {G : zG} {qU qC : Nat → Nat} {rC : Nat} {sC : zSt} {out : zSt} (C : zC x G RX8 cX8_addThings 4 none rmX8_addThings) (O : zO x G none (wdU G qU out ++ (wdC G qC rC sC)) 0 0)  : ∀ (n : Nat) {sU : zSt} {x2 : Int32}, fU_addThings_l43  n sU sC x2 = some out → zW x G 0 0 43 [(0, .ref (qU 0)), (1, .ref (qC 0)), (2, .int x2)] [] (wdU G qU sU ++ (wdC G qC rC sC)) := by
  intro n
  induction n with
  | zero =>
    intro sU x2 h
    have h : (none : Option (zSt)) = some out := h
    cases h
  | succ n ih =>
    intro sU x2 h
    exact kU_addThings_l43b C O (K43 := fun v0 v1 v2 => fU_addThings_l43  n v0 v1 v2) (fun sU x2 h => ih h) h
set_option maxHeartbeats 4000000 in
set_option maxRecDepth 100000 in
theorem kU_addThings_l2b {x : zX} {G : zG} {qU qC : Nat → Nat} {rC : Nat} {sC : zSt} {out : zSt} (C : zC x G RX8 cX8_addThings 4 none rmX8_addThings) (O : zO x G none (wdU G qU out ++ (wdC G qC rC sC)) 0 0) {K2 : zSt → zSt → Int32 → Option (zSt)} (hK2 : ∀ (sU : zSt) (x2 : Int32), K2 sU sC x2 = some out → zW x G 0 0 2 [(0, .ref (qU 0)), (1, .ref (qC 0)), (2, .int x2)] [] (wdU G qU sU ++ (wdC G qC rC sC))) {sU : zSt} {x2 : Int32} (h : fU_addThings_l2b K2 sU sC x2 = some out) : zW x G 0 0 2 [(0, .ref (qU 0)), (1, .ref (qC 0)), (2, .int x2)] [] (wdU G qU sU ++ (wdC G qC rC sC)) := by
  unfold fU_addThings_l2b at h
  refine z_iload_n C dX8_addThings_2 2 rfl ?_
  refine z_iconst C 3 dX8_addThings_3 (by decide) ?_
  refine z_icmp_ge C dX8_addThings_4 41 (by decide) h (fun h => ?_) (fun h => ?_)
  · refine z_iconst C 0 dX8_addThings_41 (by decide) ?_
    refine z_istore_n C dX8_addThings_42 (by decide) (lvr := [(0, .ref (qU 0)), (1, .ref (qC 0))]) rfl ?_
    refine z_perm [1, 2, 0] (lv' := [(0, .ref (qU 0)), (1, .ref (qC 0)), (2, .int 0)]) rfl ?_
    exact kU_addThings_l43 C O  zF h
  · refine z_aload_n C dX8_addThings_7 0 rfl ?_
    refine rw_g_X8_9_UC_U C dX8_addThings_8 ?_
    refine z_iload_n C dX8_addThings_11 2 rfl ?_
    refine z_aload_n C dX8_addThings_12 1 rfl ?_
    refine rw_g_X8_79_UC_C C dX8_addThings_13 ?_
    refine z_iload_n C dX8_addThings_16 2 rfl ?_
    refine rw_l_UC_C_3 C dX8_addThings_17 h (fun h => ?_)
    refine z_ineg C dX8_addThings_18 ?_
    refine z_i2l C dX8_addThings_19 ?_
    refine rw_s_UC_U_0 C dX8_addThings_20 h (fun sU6 h => ?_)
    refine z_aload_n C dX8_addThings_21 0 rfl ?_
    refine rw_g_X8_15_UC_U C dX8_addThings_22 ?_
    refine z_iload_n C dX8_addThings_25 2 rfl ?_
    refine z_lconst C 0 dX8_addThings_26 (by decide) ?_
    refine rw_s_UC_U_1 C dX8_addThings_27 h (fun sU7 h => ?_)
    refine z_aload_n C dX8_addThings_28 0 rfl ?_
    refine rw_g_X8_18_UC_U C dX8_addThings_29 ?_
    refine z_iload_n C dX8_addThings_32 2 rfl ?_
    refine z_iconst C 0 dX8_addThings_33 (by decide) ?_
    refine rw_s_UC_U_2 C dX8_addThings_34 h (fun sU8 h => ?_)
    refine z_iinc C dX8_addThings_35 2 rfl 1 (by decide) (by decide) (lvr := [(0, .ref (qU 0)), (1, .ref (qC 0))]) rfl h (fun x2_9 h => ?_)
    refine z_goto C dX8_addThings_38 2 (by decide) ?_
    refine z_perm [1, 2, 0] (lv' := [(0, .ref (qU 0)), (1, .ref (qC 0)), (2, .int x2_9)]) rfl ?_
    exact hK2 _  _ h
set_option maxHeartbeats 4000000 in
set_option maxRecDepth 100000 in
theorem kU_addThings_l2 {x : zX} {G : zG} {qU qC : Nat → Nat} {rC : Nat} {sC : zSt} {out : zSt} (C : zC x G RX8 cX8_addThings 4 none rmX8_addThings) (O : zO x G none (wdU G qU out ++ (wdC G qC rC sC)) 0 0)  : ∀ (n : Nat) {sU : zSt} {x2 : Int32}, fU_addThings_l2  n sU sC x2 = some out → zW x G 0 0 2 [(0, .ref (qU 0)), (1, .ref (qC 0)), (2, .int x2)] [] (wdU G qU sU ++ (wdC G qC rC sC)) := by
  intro n
  induction n with
  | zero =>
    intro sU x2 h
    have h : (none : Option (zSt)) = some out := h
    cases h
  | succ n ih =>
    intro sU x2 h
    exact kU_addThings_l2b C O (K2 := fun v0 v1 v2 => fU_addThings_l2  n v0 v1 v2) (fun sU x2 h => ih h) h
set_option maxHeartbeats 4000000 in
set_option maxRecDepth 100000 in
theorem cU_addThings {l : Launch} {G : zG} {qU qC : Nat → Nat} {rC : Nat} {sU : zSt} {sC : zSt}  {out : zSt} (h : fU_addThings sU sC  = some out) : Ct l G yX8_addThings cX8_addThings 4 none rmX8_addThings [.ref (qU 0), .ref (qC 0)] (wdU G qU sU ++ (wdC G qC rC sC)) none (wdU G qU out ++ (wdC G qC rC sC)) := by
  refine zMet (own := RX8) rfl (by decide) (Nat.le_of_ble_eq_true rfl) (fun x hl C O => ?_)
  show zW x G 0 0 0 [(0, .ref (qU 0)), (1, .ref (qC 0))] [] _
  unfold fU_addThings at h
  refine z_iconst C 0 dX8_addThings_0 (by decide) ?_
  refine z_istore_n C dX8_addThings_1 (by decide) (lvr := [(0, .ref (qU 0)), (1, .ref (qC 0))]) rfl ?_
  refine z_perm [1, 2, 0] (lv' := [(0, .ref (qU 0)), (1, .ref (qC 0)), (2, .int 0)]) rfl ?_
  exact kU_addThings_l2 C O  zF h
set_option maxHeartbeats 4000000 in
set_option maxRecDepth 100000 in
theorem cU_claim {l : Launch} {G : zG}   {a0 : Int32} {a1 : Int32} {a2 : Int32} {a3 : Int32} {out : Int32} (h : fU_claim  a0 a1 a2 a3 = some out) : Ct l G yX8_claim cX8_claim 5 (some .int) rmX8_claim [.int a0, .int a1, .int a2, .int a3] ([]) (some (.int out)) ([]) := by
  refine zMet (own := RX8) rfl (by decide) (Nat.le_of_ble_eq_true rfl) (fun x hl C O => ?_)
  show zW x G 0 0 0 [(0, .int a0), (1, .int a1), (2, .int a2), (3, .int a3)] [] _
  unfold fU_claim at h
  refine z_iload_n C dX8_claim_0 0 rfl ?_
  refine z_if_eq C dX8_claim_1 13 (by decide) h (fun h => ?_) (fun h => ?_)
  · refine z_iload_n C dX8_claim_13 1 rfl ?_
    replace h := Option.some.inj h
    subst h
    exact z_iret C O dX8_claim_14 rfl rfl
  · refine z_iload_n C dX8_claim_4 0 rfl ?_
    refine z_iconst C 1 dX8_claim_5 (by decide) ?_
    refine z_icmp_eq C dX8_claim_6 13 (by decide) h (fun h => ?_) (fun h => ?_)
    · refine z_iload_n C dX8_claim_13 1 rfl ?_
      replace h := Option.some.inj h
      subst h
      exact z_iret C O dX8_claim_14 rfl rfl
    · refine z_iload_n C dX8_claim_9 3 rfl ?_
      refine z_if_gt C dX8_claim_10 15 (by decide) h (fun h => ?_) (fun h => ?_)
      · refine z_iload_n C dX8_claim_15 1 rfl ?_
        refine z_iload_n C dX8_claim_16 2 rfl ?_
        refine z_imul C dX8_claim_17 ?_
        refine z_iload_n C dX8_claim_18 3 rfl ?_
        refine z_idiv C dX8_claim_19 h (fun h => ?_)
        refine z_istoreN C dX8_claim_20 (by decide) (lvr := [(0, .int a0), (1, .int a1), (2, .int a2), (3, .int a3)]) rfl h (fun x4_1 h => ?_)
        refine z_iload_n C dX8_claim_22 1 rfl ?_
        refine z_iconst C 2 dX8_claim_23 (by decide) ?_
        refine z_icmp_ne C dX8_claim_24 30 (by decide) h (fun h => ?_) (fun h => ?_)
        · refine z_iload_n C dX8_claim_30 1 rfl ?_
          refine z_iconst C 3 dX8_claim_31 (by decide) ?_
          refine z_icmp_ne C dX8_claim_32 44 (by decide) h (fun h => ?_) (fun h => ?_)
          · refine z_iload_n C dX8_claim_44 2 rfl ?_
            refine z_iload C dX8_claim_45 0 rfl ?_
            refine rw_math_X8_125 C dX8_claim_47 (Nat.le_of_ble_eq_true rfl) (Nat.le_of_ble_eq_true rfl) (Nat.zero_le _) (Nat.zero_le _) ?_
            replace h := Option.some.inj h
            subst h
            exact z_iret C O dX8_claim_50 rfl rfl
          · refine z_iload_n C dX8_claim_35 2 rfl ?_
            refine z_iload C dX8_claim_36 0 rfl ?_
            refine rw_math_X8_119 C dX8_claim_38 (Nat.le_of_ble_eq_true rfl) (Nat.le_of_ble_eq_true rfl) (Nat.zero_le _) (Nat.zero_le _) ?_
            refine z_goto C dX8_claim_41 50 (by decide) ?_
            replace h := Option.some.inj h
            subst h
            exact z_iret C O dX8_claim_50 rfl rfl
        · refine z_iload C dX8_claim_27 0 rfl ?_
          replace h := Option.some.inj h
          subst h
          exact z_iret C O dX8_claim_29 rfl rfl
      · refine z_iload_n C dX8_claim_13 1 rfl ?_
        replace h := Option.some.inj h
        subst h
        exact z_iret C O dX8_claim_14 rfl rfl
set_option maxHeartbeats 4000000 in
set_option maxRecDepth 100000 in
theorem kU_addPuts_l18b {x : zX} {G : zG} {qU qC : Nat → Nat} {rC : Nat} {sC : zSt} {out : zSt} (C : zC x G RX8 cX8_addPuts 8 none rmX8_addPuts) (O : zO x G none (wdU G qU out ++ (wdC G qC rC sC)) 0 0) {K18 : zSt → zSt → Int32 → Int32 → Option (zSt)} (hK18 : ∀ (sU : zSt) (x2 : Int32) (x3 : Int32), K18 sU sC x2 x3 = some out → zW x G 0 0 18 [(0, .ref (qU 0)), (1, .ref (qC 0)), (2, .int x2), (3, .int x3)] [] (wdU G qU sU ++ (wdC G qC rC sC))) {sU : zSt} {x2 : Int32} {x3 : Int32} (h : fU_addPuts_l18b K18 sU sC x2 x3 = some out) : zW x G 0 0 18 [(0, .ref (qU 0)), (1, .ref (qC 0)), (2, .int x2), (3, .int x3)] [] (wdU G qU sU ++ (wdC G qC rC sC)) := by
  unfold fU_addPuts_l18b at h
  refine z_iload_n C dX8_addPuts_18 3 rfl ?_
  refine z_aload_n C dX8_addPuts_19 1 rfl ?_
  refine rw_g_X8_100_UC_C C dX8_addPuts_20 ?_
  refine z_icmp_ge C dX8_addPuts_23 138 (by decide) h (fun h => ?_) (fun h => ?_)
  · replace h := Option.some.inj h
    subst h
    exact z_vret C O dX8_addPuts_138 rfl rfl
  · refine z_aload_n C dX8_addPuts_26 1 rfl ?_
    refine rw_g_X8_103_UC_C C dX8_addPuts_27 ?_
    refine z_iload_n C dX8_addPuts_30 3 rfl ?_
    refine rw_l_UC_C_16 C dX8_addPuts_31 h (fun h => ?_)
    refine z_istoreN C dX8_addPuts_32 (by decide) (lvr := [(0, .ref (qU 0)), (1, .ref (qC 0)), (2, .int x2), (3, .int x3)]) rfl h (fun x4_3 h => ?_)
    refine z_aload_n C dX8_addPuts_34 2 rfl ?_
    refine rw_g_X8_106_UC_C C dX8_addPuts_35 ?_
    refine z_iload_n C dX8_addPuts_38 4 rfl ?_
    refine rw_l_UC_C_14 C dX8_addPuts_39 h (fun h => ?_)
    refine z_istoreN C dX8_addPuts_40 (by decide) (lvr := [(4, .int x4_3), (0, .ref (qU 0)), (1, .ref (qC 0)), (2, .int x2), (3, .int x3)]) rfl h (fun x5_4 h => ?_)
    refine z_aload_n C dX8_addPuts_42 3 rfl ?_
    refine rw_g_X8_109_UC_C C dX8_addPuts_43 ?_
    refine z_iload_n C dX8_addPuts_46 5 rfl ?_
    refine rw_l_UC_C_15 C dX8_addPuts_47 h (fun h => ?_)
    refine z_istoreN C dX8_addPuts_48 (by decide) (lvr := [(5, .int x5_4), (4, .int x4_3), (0, .ref (qU 0)), (1, .ref (qC 0)), (2, .int x2), (3, .int x3)]) rfl h (fun x6_5 h => ?_)
    refine z_aload_n C dX8_addPuts_50 4 rfl ?_
    refine rw_g_X8_85_UC_C C dX8_addPuts_51 ?_
    refine z_iload C dX8_addPuts_54 1 rfl ?_
    refine rw_l_UC_C_8 C dX8_addPuts_56 h (fun h => ?_)
    refine z_istoreN C dX8_addPuts_57 (by decide) (lvr := [(6, .int x6_5), (5, .int x5_4), (4, .int x4_3), (0, .ref (qU 0)), (1, .ref (qC 0)), (2, .int x2), (3, .int x3)]) rfl h (fun x7_6 h => ?_)
    refine z_aload_n C dX8_addPuts_59 4 rfl ?_
    refine rw_g_X8_15_UC_U C dX8_addPuts_60 ?_
    refine z_iload C dX8_addPuts_63 0 rfl ?_
    refine z_dup2 C dX8_addPuts_65 rfl rfl ?_
    refine rw_l_UC_U_1 C dX8_addPuts_66 h (fun h => ?_)
    refine z_iload C dX8_addPuts_67 3 rfl ?_
    refine z_i2l C dX8_addPuts_69 ?_
    refine z_ladd C dX8_addPuts_70 ?_
    refine rw_s_UC_U_1 C dX8_addPuts_71 h (fun sU7 h => ?_)
    refine z_iload C dX8_addPuts_72 1 rfl ?_
    refine z_iload C dX8_addPuts_74 0 rfl ?_
    refine z_icmp_eq C dX8_addPuts_76 132 (by decide) h (fun h => ?_) (fun h => ?_)
    · refine z_iinc C dX8_addPuts_132 7 rfl 1 (by decide) (by decide) (lvr := [(7, .int x7_6), (6, .int x6_5), (5, .int x5_4), (4, .int x4_3), (0, .ref (qU 0)), (1, .ref (qC 0)), (2, .int x2)]) rfl h (fun x3_8 h => ?_)
      refine z_goto C dX8_addPuts_135 18 (by decide) ?_
      refine z_perm [5, 6, 7, 0] (lv' := [(0, .ref (qU 0)), (1, .ref (qC 0)), (2, .int x2), (3, .int x3_8)]) rfl ?_
      exact hK18 _  _ _ h
    · refine z_aload_n C dX8_addPuts_79 4 rfl ?_
      refine rw_g_X8_22_UC_U C dX8_addPuts_80 ?_
      refine z_iload C dX8_addPuts_83 1 rfl ?_
      refine z_iconst C 3 dX8_addPuts_85 (by decide) ?_
      refine z_imul C dX8_addPuts_86 ?_
      refine z_iload C dX8_addPuts_87 0 rfl ?_
      refine z_iadd C dX8_addPuts_89 ?_
      refine z_dup2 C dX8_addPuts_90 rfl rfl ?_
      refine rw_l_UC_U_3 C dX8_addPuts_91 h (fun h => ?_)
      refine z_iload C dX8_addPuts_92 3 rfl ?_
      refine z_i2l C dX8_addPuts_94 ?_
      refine z_ladd C dX8_addPuts_95 ?_
      refine rw_s_UC_U_3 C dX8_addPuts_96 h (fun sU9 h => ?_)
      refine z_aload_n C dX8_addPuts_97 4 rfl ?_
      refine rw_g_X8_25_UC_U C dX8_addPuts_98 ?_
      refine z_iload C dX8_addPuts_101 1 rfl ?_
      refine z_iconst C 3 dX8_addPuts_103 (by decide) ?_
      refine z_imul C dX8_addPuts_104 ?_
      refine z_iload C dX8_addPuts_105 0 rfl ?_
      refine z_iadd C dX8_addPuts_107 ?_
      refine z_dup2 C dX8_addPuts_108 rfl rfl ?_
      refine rw_l_UC_U_4 C dX8_addPuts_109 h (fun h => ?_)
      refine z_iload_n C dX8_addPuts_110 6 rfl ?_
      refine z_iload C dX8_addPuts_111 3 rfl ?_
      refine z_aload_n C dX8_addPuts_113 5 rfl ?_
      refine rw_g_X8_88_UC_C C dX8_addPuts_114 ?_
      refine z_iload C dX8_addPuts_117 2 rfl ?_
      refine rw_l_UC_C_11 C dX8_addPuts_119 h (fun h => ?_)
      refine z_aload_n C dX8_addPuts_120 5 rfl ?_
      refine rw_g_X8_112_UC_C C dX8_addPuts_121 ?_
      refine z_iload_n C dX8_addPuts_124 7 rfl ?_
      refine rw_l_UC_C_17 C dX8_addPuts_125 h (fun h => ?_)
      obtain ⟨y10, hy10, h⟩ := bind_o h
      refine rw_c_X8_115 C (Ct.frame0 (cU_claim hy10)) dX8_addPuts_126 (Nat.le_of_ble_eq_true rfl) (zrm rfl) ?_
      refine z_i2l C dX8_addPuts_129 ?_
      refine z_ladd C dX8_addPuts_130 ?_
      refine rw_s_UC_U_4 C dX8_addPuts_131 h (fun sU11 h => ?_)
      refine z_iinc C dX8_addPuts_132 7 rfl 1 (by decide) (by decide) (lvr := [(7, .int x7_6), (6, .int x6_5), (5, .int x5_4), (4, .int x4_3), (0, .ref (qU 0)), (1, .ref (qC 0)), (2, .int x2)]) rfl h (fun x3_12 h => ?_)
      refine z_goto C dX8_addPuts_135 18 (by decide) ?_
      refine z_perm [5, 6, 7, 0] (lv' := [(0, .ref (qU 0)), (1, .ref (qC 0)), (2, .int x2), (3, .int x3_12)]) rfl ?_
      exact hK18 _  _ _ h
set_option maxHeartbeats 4000000 in
set_option maxRecDepth 100000 in
theorem kU_addPuts_l18 {x : zX} {G : zG} {qU qC : Nat → Nat} {rC : Nat} {sC : zSt} {out : zSt} (C : zC x G RX8 cX8_addPuts 8 none rmX8_addPuts) (O : zO x G none (wdU G qU out ++ (wdC G qC rC sC)) 0 0)  : ∀ (n : Nat) {sU : zSt} {x2 : Int32} {x3 : Int32}, fU_addPuts_l18  n sU sC x2 x3 = some out → zW x G 0 0 18 [(0, .ref (qU 0)), (1, .ref (qC 0)), (2, .int x2), (3, .int x3)] [] (wdU G qU sU ++ (wdC G qC rC sC)) := by
  intro n
  induction n with
  | zero =>
    intro sU x2 x3 h
    have h : (none : Option (zSt)) = some out := h
    cases h
  | succ n ih =>
    intro sU x2 x3 h
    exact kU_addPuts_l18b C O (K18 := fun v0 v1 v2 v3 => fU_addPuts_l18  n v0 v1 v2 v3) (fun sU x2 x3 h => ih h) h
set_option maxHeartbeats 4000000 in
set_option maxRecDepth 100000 in
theorem cU_addPuts {l : Launch} {G : zG} {qU qC : Nat → Nat} {rC : Nat} {sU : zSt} {sC : zSt} {a1 : Int32} {out : zSt} (h : fU_addPuts sU sC a1 = some out) : Ct l G yX8_addPuts cX8_addPuts 8 none rmX8_addPuts [.ref (qU 0), .ref (qC 0), .int a1] (wdU G qU sU ++ (wdC G qC rC sC)) none (wdU G qU out ++ (wdC G qC rC sC)) := by
  refine zMet (own := RX8) rfl (by decide) (Nat.le_of_ble_eq_true rfl) (fun x hl C O => ?_)
  show zW x G 0 0 0 [(0, .ref (qU 0)), (1, .ref (qC 0)), (2, .int a1)] [] _
  unfold fU_addPuts at h
  refine z_aload_n C dX8_addPuts_0 0 rfl ?_
  refine rw_g_X8_22_UC_U C dX8_addPuts_1 ?_
  refine z_lconst C 0 dX8_addPuts_4 (by decide) ?_
  refine rw_fill_X8_94_UC_U_3 C dX8_addPuts_5 (Nat.le_of_ble_eq_true rfl) (zrm rfl) h (fun sU1 h => ?_)
  refine z_aload_n C dX8_addPuts_8 0 rfl ?_
  refine rw_g_X8_25_UC_U C dX8_addPuts_9 ?_
  refine z_lconst C 0 dX8_addPuts_12 (by decide) ?_
  refine rw_fill_X8_94_UC_U_4 C dX8_addPuts_13 (Nat.le_of_ble_eq_true rfl) (zrm rfl) h (fun sU2 h => ?_)
  refine z_iconst C 0 dX8_addPuts_16 (by decide) ?_
  refine z_istore_n C dX8_addPuts_17 (by decide) (lvr := [(0, .ref (qU 0)), (1, .ref (qC 0)), (2, .int a1)]) rfl ?_
  refine z_perm [1, 2, 3, 0] (lv' := [(0, .ref (qU 0)), (1, .ref (qC 0)), (2, .int a1), (3, .int 0)]) rfl ?_
  exact kU_addPuts_l18 C O  zF h
set_option maxHeartbeats 4000000 in
set_option maxRecDepth 100000 in
theorem cU_cameOrOne {l : Launch} {G : zG} {qU : Nat → Nat} {sU : zSt} {a0 : Int32} {out : Int64} (h : fU_cameOrOne sU a0 = some out) : Ct l G yX8_cameOrOne cX8_cameOrOne 2 (some .long) rmX8_cameOrOne [.ref (qU 0), .int a0] (wdU G qU sU) (some (.long out)) (wdU G qU sU) := by
  refine zMet (own := RX8) rfl (by decide) (Nat.le_of_ble_eq_true rfl) (fun x hl C O => ?_)
  show zW x G 0 0 0 [(0, .ref (qU 0)), (1, .int a0)] [] _
  unfold fU_cameOrOne at h
  refine z_aload_n C dX8_cameOrOne_0 0 rfl ?_
  refine rw_g_X8_15_U_U C dX8_cameOrOne_1 ?_
  refine z_iload_n C dX8_cameOrOne_4 1 rfl ?_
  refine rw_l_U_U_1 C dX8_cameOrOne_5 h (fun h => ?_)
  refine z_lconst C 0 dX8_cameOrOne_6 (by decide) ?_
  refine z_lcmp_ne C dX8_cameOrOne_7 dX8_cameOrOne_8 15 (by decide) h (fun h => ?_) (fun h => ?_)
  · refine z_aload_n C dX8_cameOrOne_15 0 rfl ?_
    refine rw_g_X8_15_U_U C dX8_cameOrOne_16 ?_
    refine z_iload_n C dX8_cameOrOne_19 1 rfl ?_
    refine rw_l_U_U_1 C dX8_cameOrOne_20 h (fun h => ?_)
    replace h := Option.some.inj h
    subst h
    exact z_lret C O dX8_cameOrOne_21 rfl rfl
  · refine z_lconst C 1 dX8_cameOrOne_11 (by decide) ?_
    refine z_goto C dX8_cameOrOne_12 21 (by decide) ?_
    replace h := Option.some.inj h
    subst h
    exact z_lret C O dX8_cameOrOne_21 rfl rfl
set_option maxHeartbeats 4000000 in
set_option maxRecDepth 100000 in
theorem cU_cell {l : Launch} {G : zG} {qU : Nat → Nat} {sU : zSt} {a0 : Int32} {a1 : Int32} {a2 : Int32} {out : Int64} (h : fU_cell sU a0 a1 a2 = some out) : Ct l G yX8_cell cX8_cell 4 (some .long) rmX8_cell [.ref (qU 0), .int a0, .int a1, .int a2] (wdU G qU sU) (some (.long out)) (wdU G qU sU) := by
  refine zMet (own := RX8) rfl (by decide) (Nat.le_of_ble_eq_true rfl) (fun x hl C O => ?_)
  show zW x G 0 0 0 [(0, .ref (qU 0)), (1, .int a0), (2, .int a1), (3, .int a2)] [] _
  unfold fU_cell at h
  refine z_iload_n C dX8_cell_0 2 rfl ?_
  refine z_iload_n C dX8_cell_1 3 rfl ?_
  refine z_icmp_ne C dX8_cell_2 14 (by decide) h (fun h => ?_) (fun h => ?_)
  · refine z_aload_n C dX8_cell_14 0 rfl ?_
    refine rw_g_X8_38_U_U C dX8_cell_15 ?_
    refine z_iload_n C dX8_cell_18 1 rfl ?_
    refine z_iconst C 3 dX8_cell_19 (by decide) ?_
    refine z_imul C dX8_cell_20 ?_
    refine z_iload_n C dX8_cell_21 2 rfl ?_
    refine z_iadd C dX8_cell_22 ?_
    refine rw_l_U_U_8 C dX8_cell_23 h (fun h => ?_)
    replace h := Option.some.inj h
    subst h
    exact z_lret C O dX8_cell_24 rfl rfl
  · refine z_aload_n C dX8_cell_5 0 rfl ?_
    refine rw_g_X8_9_U_U C dX8_cell_6 ?_
    refine z_iload_n C dX8_cell_9 1 rfl ?_
    refine rw_l_U_U_0 C dX8_cell_10 h (fun h => ?_)
    refine z_goto C dX8_cell_11 24 (by decide) ?_
    replace h := Option.some.inj h
    subst h
    exact z_lret C O dX8_cell_24 rfl rfl
set_option maxHeartbeats 4000000 in
set_option maxRecDepth 100000 in
theorem cU_minor {l : Launch} {G : zG} {qU : Nat → Nat} {sU : zSt} {a0 : Int32} {a1 : Int32} {a2 : Int32} {out : Int64} (h : fU_minor sU a0 a1 a2 = some out) : Ct l G yX8_minor cX8_minor 4 (some .long) rmX8_minor [.ref (qU 0), .int a0, .int a1, .int a2] (wdU G qU sU) (some (.long out)) (wdU G qU sU) := by
  refine zMet (own := RX8) rfl (by decide) (Nat.le_of_ble_eq_true rfl) (fun x hl C O => ?_)
  show zW x G 0 0 0 [(0, .ref (qU 0)), (1, .int a0), (2, .int a1), (3, .int a2)] [] _
  unfold fU_minor at h
  refine z_aload_n C dX8_minor_0 0 rfl ?_
  refine z_iconst C 1 dX8_minor_1 (by decide) ?_
  refine z_iload_n C dX8_minor_2 1 rfl ?_
  refine z_iload_n C dX8_minor_3 3 rfl ?_
  obtain ⟨y1, hy1, h⟩ := bind_o h
  refine rw_c_X8_136 C (cU_cell hy1) 0 rfl dX8_minor_4 (Nat.le_of_ble_eq_true rfl) (zrm rfl) ?_
  refine z_aload_n C dX8_minor_7 0 rfl ?_
  refine z_iconst C 2 dX8_minor_8 (by decide) ?_
  refine z_iload_n C dX8_minor_9 2 rfl ?_
  refine z_iload_n C dX8_minor_10 3 rfl ?_
  obtain ⟨y2, hy2, h⟩ := bind_o h
  refine rw_c_X8_136 C (cU_cell hy2) 0 rfl dX8_minor_11 (Nat.le_of_ble_eq_true rfl) (zrm rfl) ?_
  refine z_lmul C dX8_minor_14 ?_
  refine z_aload_n C dX8_minor_15 0 rfl ?_
  refine z_iconst C 1 dX8_minor_16 (by decide) ?_
  refine z_iload_n C dX8_minor_17 2 rfl ?_
  refine z_iload_n C dX8_minor_18 3 rfl ?_
  obtain ⟨y3, hy3, h⟩ := bind_o h
  refine rw_c_X8_136 C (cU_cell hy3) 0 rfl dX8_minor_19 (Nat.le_of_ble_eq_true rfl) (zrm rfl) ?_
  refine z_aload_n C dX8_minor_22 0 rfl ?_
  refine z_iconst C 2 dX8_minor_23 (by decide) ?_
  refine z_iload_n C dX8_minor_24 1 rfl ?_
  refine z_iload_n C dX8_minor_25 3 rfl ?_
  obtain ⟨y4, hy4, h⟩ := bind_o h
  refine rw_c_X8_136 C (cU_cell hy4) 0 rfl dX8_minor_26 (Nat.le_of_ble_eq_true rfl) (zrm rfl) ?_
  refine z_lmul C dX8_minor_29 ?_
  refine z_lsub C dX8_minor_30 ?_
  replace h := Option.some.inj h
  subst h
  exact z_lret C O dX8_minor_31 rfl rfl
set_option maxHeartbeats 4000000 in
set_option maxRecDepth 100000 in
theorem cU_determinant {l : Launch} {G : zG} {qU : Nat → Nat} {sU : zSt} {a0 : Int32} {out : Int64} (h : fU_determinant sU a0 = some out) : Ct l G yX8_determinant cX8_determinant 2 (some .long) rmX8_determinant [.ref (qU 0), .int a0] (wdU G qU sU) (some (.long out)) (wdU G qU sU) := by
  refine zMet (own := RX8) rfl (by decide) (Nat.le_of_ble_eq_true rfl) (fun x hl C O => ?_)
  show zW x G 0 0 0 [(0, .ref (qU 0)), (1, .int a0)] [] _
  unfold fU_determinant at h
  refine z_aload_n C dX8_determinant_0 0 rfl ?_
  refine z_iconst C 0 dX8_determinant_1 (by decide) ?_
  refine z_iconst C 0 dX8_determinant_2 (by decide) ?_
  refine z_iload_n C dX8_determinant_3 1 rfl ?_
  obtain ⟨y1, hy1, h⟩ := bind_o h
  refine rw_c_X8_136 C (cU_cell hy1) 0 rfl dX8_determinant_4 (Nat.le_of_ble_eq_true rfl) (zrm rfl) ?_
  refine z_aload_n C dX8_determinant_7 0 rfl ?_
  refine z_iconst C 1 dX8_determinant_8 (by decide) ?_
  refine z_iconst C 2 dX8_determinant_9 (by decide) ?_
  refine z_iload_n C dX8_determinant_10 1 rfl ?_
  obtain ⟨y2, hy2, h⟩ := bind_o h
  refine rw_c_X8_140 C (cU_minor hy2) 0 rfl dX8_determinant_11 (Nat.le_of_ble_eq_true rfl) (zrm rfl) ?_
  refine z_lmul C dX8_determinant_14 ?_
  refine z_aload_n C dX8_determinant_15 0 rfl ?_
  refine z_iconst C 0 dX8_determinant_16 (by decide) ?_
  refine z_iconst C 1 dX8_determinant_17 (by decide) ?_
  refine z_iload_n C dX8_determinant_18 1 rfl ?_
  obtain ⟨y3, hy3, h⟩ := bind_o h
  refine rw_c_X8_136 C (cU_cell hy3) 0 rfl dX8_determinant_19 (Nat.le_of_ble_eq_true rfl) (zrm rfl) ?_
  refine z_aload_n C dX8_determinant_22 0 rfl ?_
  refine z_iconst C 0 dX8_determinant_23 (by decide) ?_
  refine z_iconst C 2 dX8_determinant_24 (by decide) ?_
  refine z_iload_n C dX8_determinant_25 1 rfl ?_
  obtain ⟨y4, hy4, h⟩ := bind_o h
  refine rw_c_X8_140 C (cU_minor hy4) 0 rfl dX8_determinant_26 (Nat.le_of_ble_eq_true rfl) (zrm rfl) ?_
  refine z_lmul C dX8_determinant_29 ?_
  refine z_lsub C dX8_determinant_30 ?_
  refine z_aload_n C dX8_determinant_31 0 rfl ?_
  refine z_iconst C 0 dX8_determinant_32 (by decide) ?_
  refine z_iconst C 2 dX8_determinant_33 (by decide) ?_
  refine z_iload_n C dX8_determinant_34 1 rfl ?_
  obtain ⟨y5, hy5, h⟩ := bind_o h
  refine rw_c_X8_136 C (cU_cell hy5) 0 rfl dX8_determinant_35 (Nat.le_of_ble_eq_true rfl) (zrm rfl) ?_
  refine z_aload_n C dX8_determinant_38 0 rfl ?_
  refine z_iconst C 0 dX8_determinant_39 (by decide) ?_
  refine z_iconst C 1 dX8_determinant_40 (by decide) ?_
  refine z_iload_n C dX8_determinant_41 1 rfl ?_
  obtain ⟨y6, hy6, h⟩ := bind_o h
  refine rw_c_X8_140 C (cU_minor hy6) 0 rfl dX8_determinant_42 (Nat.le_of_ble_eq_true rfl) (zrm rfl) ?_
  refine z_lmul C dX8_determinant_45 ?_
  refine z_ladd C dX8_determinant_46 ?_
  replace h := Option.some.inj h
  subst h
  exact z_lret C O dX8_determinant_47 rfl rfl
set_option maxHeartbeats 4000000 in
set_option maxRecDepth 100000 in
theorem kU_solveParts_l121b {x : zX} {G : zG} {qU : Nat → Nat}  {out : zSt} (C : zC x G RX8 cX8_solveParts 5 none rmX8_solveParts) (O : zO x G none (wdU G qU out) 0 0) {K94 : zSt → Int32 → Option (zSt)} (hK94 : ∀ (sU : zSt) (x1 : Int32), K94 sU x1 = some out → zW x G 0 0 94 [(0, .ref (qU 0)), (1, .int x1)] [] (wdU G qU sU)) {K121 : zSt → Int32 → Int64 → Int32 → Option (zSt)} (hK121 : ∀ (sU : zSt) (x1 : Int32) (x2 : Int64) (x4 : Int32), K121 sU x1 x2 x4 = some out → zW x G 0 0 121 [(0, .ref (qU 0)), (1, .int x1), (2, .long x2), (4, .int x4)] [] (wdU G qU sU)) {sU : zSt} {x1 : Int32} {x2 : Int64} {x4 : Int32} (h : fU_solveParts_l121b K94 K121 sU x1 x2 x4 = some out) : zW x G 0 0 121 [(0, .ref (qU 0)), (1, .int x1), (2, .long x2), (4, .int x4)] [] (wdU G qU sU) := by
  unfold fU_solveParts_l121b at h
  refine z_iload C dX8_solveParts_121 3 rfl ?_
  refine z_iconst C 3 dX8_solveParts_123 (by decide) ?_
  refine z_icmp_ge C dX8_solveParts_124 157 (by decide) h (fun h => ?_) (fun h => ?_)
  · refine z_iinc C dX8_solveParts_157 1 rfl 1 (by decide) (by decide) (lvr := [(0, .ref (qU 0)), (2, .long x2), (4, .int x4)]) rfl h (fun x1_6 h => ?_)
    refine z_goto C dX8_solveParts_160 94 (by decide) ?_
    refine z_perm [1, 0] (lv' := [(0, .ref (qU 0)), (1, .int x1_6)]) rfl ?_
    exact hK94 _  _ h
  · refine z_aload_n C dX8_solveParts_127 0 rfl ?_
    refine rw_g_X8_25_U_U C dX8_solveParts_128 ?_
    refine z_iload C dX8_solveParts_131 3 rfl ?_
    refine z_iconst C 3 dX8_solveParts_133 (by decide) ?_
    refine z_imul C dX8_solveParts_134 ?_
    refine z_iload_n C dX8_solveParts_135 1 rfl ?_
    refine z_iadd C dX8_solveParts_136 ?_
    refine z_aload_n C dX8_solveParts_137 0 rfl ?_
    refine rw_g_X8_22_U_U C dX8_solveParts_138 ?_
    refine z_iload C dX8_solveParts_141 3 rfl ?_
    refine z_iconst C 3 dX8_solveParts_143 (by decide) ?_
    refine z_imul C dX8_solveParts_144 ?_
    refine z_iload_n C dX8_solveParts_145 1 rfl ?_
    refine z_iadd C dX8_solveParts_146 ?_
    refine rw_l_U_U_3 C dX8_solveParts_147 h (fun h => ?_)
    refine z_lload_n C dX8_solveParts_148 2 rfl ?_
    refine z_lmul C dX8_solveParts_149 ?_
    refine rw_s_U_U_4 C dX8_solveParts_150 h (fun sU7 h => ?_)
    refine z_iinc C dX8_solveParts_151 3 rfl 1 (by decide) (by decide) (lvr := [(0, .ref (qU 0)), (1, .int x1), (2, .long x2)]) rfl h (fun x4_8 h => ?_)
    refine z_goto C dX8_solveParts_154 121 (by decide) ?_
    refine z_perm [1, 2, 3, 0] (lv' := [(0, .ref (qU 0)), (1, .int x1), (2, .long x2), (4, .int x4_8)]) rfl ?_
    exact hK121 _  _ _ _ h
set_option maxHeartbeats 4000000 in
set_option maxRecDepth 100000 in
theorem kU_solveParts_l121 {x : zX} {G : zG} {qU : Nat → Nat}  {out : zSt} (C : zC x G RX8 cX8_solveParts 5 none rmX8_solveParts) (O : zO x G none (wdU G qU out) 0 0) {K94 : zSt → Int32 → Option (zSt)} (hK94 : ∀ (sU : zSt) (x1 : Int32), K94 sU x1 = some out → zW x G 0 0 94 [(0, .ref (qU 0)), (1, .int x1)] [] (wdU G qU sU)) : ∀ (n : Nat) {sU : zSt} {x1 : Int32} {x2 : Int64} {x4 : Int32}, fU_solveParts_l121 K94 n sU x1 x2 x4 = some out → zW x G 0 0 121 [(0, .ref (qU 0)), (1, .int x1), (2, .long x2), (4, .int x4)] [] (wdU G qU sU) := by
  intro n
  induction n with
  | zero =>
    intro sU x1 x2 x4 h
    have h : (none : Option (zSt)) = some out := h
    cases h
  | succ n ih =>
    intro sU x1 x2 x4 h
    exact kU_solveParts_l121b C O hK94 (K121 := fun v0 v1 v2 v3 => fU_solveParts_l121 K94 n v0 v1 v2 v3) (fun sU x1 x2 x4 h => ih h) h
set_option maxHeartbeats 4000000 in
set_option maxRecDepth 100000 in
theorem kU_solveParts_l94b {x : zX} {G : zG} {qU : Nat → Nat}  {out : zSt} (C : zC x G RX8 cX8_solveParts 5 none rmX8_solveParts) (O : zO x G none (wdU G qU out) 0 0) {K94 : zSt → Int32 → Option (zSt)} (hK94 : ∀ (sU : zSt) (x1 : Int32), K94 sU x1 = some out → zW x G 0 0 94 [(0, .ref (qU 0)), (1, .int x1)] [] (wdU G qU sU)) {sU : zSt} {x1 : Int32} (h : fU_solveParts_l94b K94 sU x1 = some out) : zW x G 0 0 94 [(0, .ref (qU 0)), (1, .int x1)] [] (wdU G qU sU) := by
  unfold fU_solveParts_l94b at h
  refine z_iload_n C dX8_solveParts_94 1 rfl ?_
  refine z_iconst C 3 dX8_solveParts_95 (by decide) ?_
  refine z_icmp_ge C dX8_solveParts_96 163 (by decide) h (fun h => ?_) (fun h => ?_)
  · replace h := Option.some.inj h
    subst h
    exact z_vret C O dX8_solveParts_163 rfl rfl
  · refine z_aload_n C dX8_solveParts_99 0 rfl ?_
    refine z_iload_n C dX8_solveParts_100 1 rfl ?_
    obtain ⟨y3, hy3, h⟩ := bind_o h
    refine rw_c_X8_133 C (cU_determinant hy3) 0 rfl dX8_solveParts_101 (Nat.le_of_ble_eq_true rfl) (zrm rfl) ?_
    refine z_lstore_n C dX8_solveParts_104 (by decide) (lvr := [(0, .ref (qU 0)), (1, .int x1)]) rfl ?_
    refine z_aload_n C dX8_solveParts_105 1 rfl ?_
    refine rw_g_X8_28_U_U C dX8_solveParts_106 ?_
    refine z_iload_n C dX8_solveParts_109 2 rfl ?_
    refine z_aload_n C dX8_solveParts_110 1 rfl ?_
    refine z_iload_n C dX8_solveParts_111 2 rfl ?_
    obtain ⟨y4, hy4, h⟩ := bind_o h
    refine rw_c_X8_128 C (cU_cameOrOne hy4) 0 rfl dX8_solveParts_112 (Nat.le_of_ble_eq_true rfl) (zrm rfl) ?_
    refine z_lload_n C dX8_solveParts_115 0 rfl ?_
    refine z_lmul C dX8_solveParts_116 ?_
    refine rw_s_U_U_5 C dX8_solveParts_117 h (fun sU5 h => ?_)
    refine z_iconst C 0 dX8_solveParts_118 (by decide) ?_
    refine z_istore C dX8_solveParts_119 (by decide) (lvr := [(2, .long y3), (0, .ref (qU 0)), (1, .int x1)]) rfl ?_
    refine z_perm [2, 3, 1, 0] (lv' := [(0, .ref (qU 0)), (1, .int x1), (2, .long y3), (4, .int 0)]) rfl ?_
    exact kU_solveParts_l121 C O hK94 zF h
set_option maxHeartbeats 4000000 in
set_option maxRecDepth 100000 in
theorem kU_solveParts_l94 {x : zX} {G : zG} {qU : Nat → Nat}  {out : zSt} (C : zC x G RX8 cX8_solveParts 5 none rmX8_solveParts) (O : zO x G none (wdU G qU out) 0 0)  : ∀ (n : Nat) {sU : zSt} {x1 : Int32}, fU_solveParts_l94  n sU x1 = some out → zW x G 0 0 94 [(0, .ref (qU 0)), (1, .int x1)] [] (wdU G qU sU) := by
  intro n
  induction n with
  | zero =>
    intro sU x1 h
    have h : (none : Option (zSt)) = some out := h
    cases h
  | succ n ih =>
    intro sU x1 h
    exact kU_solveParts_l94b C O (K94 := fun v0 v1 => fU_solveParts_l94  n v0 v1) (fun sU x1 h => ih h) h
set_option maxHeartbeats 4000000 in
set_option maxRecDepth 100000 in
theorem kU_solveParts_l16b {x : zX} {G : zG} {qU : Nat → Nat}  {out : zSt} (C : zC x G RX8 cX8_solveParts 5 none rmX8_solveParts) (O : zO x G none (wdU G qU out) 0 0) {K2 : zSt → Int32 → Option (zSt)} (hK2 : ∀ (sU : zSt) (x1 : Int32), K2 sU x1 = some out → zW x G 0 0 2 [(0, .ref (qU 0)), (1, .int x1)] [] (wdU G qU sU)) {K16 : zSt → Int32 → Int64 → Int32 → Option (zSt)} (hK16 : ∀ (sU : zSt) (x1 : Int32) (x2 : Int64) (x4 : Int32), K16 sU x1 x2 x4 = some out → zW x G 0 0 16 [(0, .ref (qU 0)), (1, .int x1), (2, .long x2), (4, .int x4)] [] (wdU G qU sU)) {sU : zSt} {x1 : Int32} {x2 : Int64} {x4 : Int32} (h : fU_solveParts_l16b K2 K16 sU x1 x2 x4 = some out) : zW x G 0 0 16 [(0, .ref (qU 0)), (1, .int x1), (2, .long x2), (4, .int x4)] [] (wdU G qU sU) := by
  unfold fU_solveParts_l16b at h
  refine z_iload C dX8_solveParts_16 3 rfl ?_
  refine z_iconst C 3 dX8_solveParts_18 (by decide) ?_
  refine z_icmp_ge C dX8_solveParts_19 65 (by decide) h (fun h => ?_) (fun h => ?_)
  · refine z_aload_n C dX8_solveParts_65 0 rfl ?_
    refine rw_g_X8_38_U_U C dX8_solveParts_66 ?_
    refine z_iload_n C dX8_solveParts_69 1 rfl ?_
    refine z_iconst C 3 dX8_solveParts_70 (by decide) ?_
    refine z_imul C dX8_solveParts_71 ?_
    refine z_iload_n C dX8_solveParts_72 1 rfl ?_
    refine z_iadd C dX8_solveParts_73 ?_
    refine z_lload_n C dX8_solveParts_74 2 rfl ?_
    refine rw_s_U_U_8 C dX8_solveParts_75 h (fun sU10 h => ?_)
    refine z_iinc C dX8_solveParts_76 1 rfl 1 (by decide) (by decide) (lvr := [(0, .ref (qU 0)), (2, .long x2), (4, .int x4)]) rfl h (fun x1_11 h => ?_)
    refine z_goto C dX8_solveParts_79 2 (by decide) ?_
    refine z_perm [1, 0] (lv' := [(0, .ref (qU 0)), (1, .int x1_11)]) rfl ?_
    exact hK2 _  _ h
  · refine z_lload_n C dX8_solveParts_22 2 rfl ?_
    refine z_aload_n C dX8_solveParts_23 0 rfl ?_
    refine rw_g_X8_22_U_U C dX8_solveParts_24 ?_
    refine z_iload C dX8_solveParts_27 3 rfl ?_
    refine z_iconst C 3 dX8_solveParts_29 (by decide) ?_
    refine z_imul C dX8_solveParts_30 ?_
    refine z_iload_n C dX8_solveParts_31 1 rfl ?_
    refine z_iadd C dX8_solveParts_32 ?_
    refine rw_l_U_U_3 C dX8_solveParts_33 h (fun h => ?_)
    refine z_ladd C dX8_solveParts_34 ?_
    refine z_lstore_nN C dX8_solveParts_35 (by decide) (lvr := [(0, .ref (qU 0)), (1, .int x1), (4, .int x4)]) rfl h (fun x2_12 h => ?_)
    refine z_aload_n C dX8_solveParts_36 1 rfl ?_
    refine rw_g_X8_38_U_U C dX8_solveParts_37 ?_
    refine z_iload_n C dX8_solveParts_40 2 rfl ?_
    refine z_iconst C 3 dX8_solveParts_41 (by decide) ?_
    refine z_imul C dX8_solveParts_42 ?_
    refine z_iload C dX8_solveParts_43 3 rfl ?_
    refine z_iadd C dX8_solveParts_45 ?_
    refine z_aload_n C dX8_solveParts_46 1 rfl ?_
    refine rw_g_X8_22_U_U C dX8_solveParts_47 ?_
    refine z_iload_n C dX8_solveParts_50 2 rfl ?_
    refine z_iconst C 3 dX8_solveParts_51 (by decide) ?_
    refine z_imul C dX8_solveParts_52 ?_
    refine z_iload C dX8_solveParts_53 3 rfl ?_
    refine z_iadd C dX8_solveParts_55 ?_
    refine rw_l_U_U_3 C dX8_solveParts_56 h (fun h => ?_)
    refine z_lneg C dX8_solveParts_57 ?_
    refine rw_s_U_U_8 C dX8_solveParts_58 h (fun sU13 h => ?_)
    refine z_iinc C dX8_solveParts_59 3 rfl 1 (by decide) (by decide) (lvr := [(2, .long x2_12), (0, .ref (qU 0)), (1, .int x1)]) rfl h (fun x4_14 h => ?_)
    refine z_goto C dX8_solveParts_62 16 (by decide) ?_
    refine z_perm [2, 3, 1, 0] (lv' := [(0, .ref (qU 0)), (1, .int x1), (2, .long x2_12), (4, .int x4_14)]) rfl ?_
    exact hK16 _  _ _ _ h
set_option maxHeartbeats 4000000 in
set_option maxRecDepth 100000 in
theorem kU_solveParts_l16 {x : zX} {G : zG} {qU : Nat → Nat}  {out : zSt} (C : zC x G RX8 cX8_solveParts 5 none rmX8_solveParts) (O : zO x G none (wdU G qU out) 0 0) {K2 : zSt → Int32 → Option (zSt)} (hK2 : ∀ (sU : zSt) (x1 : Int32), K2 sU x1 = some out → zW x G 0 0 2 [(0, .ref (qU 0)), (1, .int x1)] [] (wdU G qU sU)) : ∀ (n : Nat) {sU : zSt} {x1 : Int32} {x2 : Int64} {x4 : Int32}, fU_solveParts_l16 K2 n sU x1 x2 x4 = some out → zW x G 0 0 16 [(0, .ref (qU 0)), (1, .int x1), (2, .long x2), (4, .int x4)] [] (wdU G qU sU) := by
  intro n
  induction n with
  | zero =>
    intro sU x1 x2 x4 h
    have h : (none : Option (zSt)) = some out := h
    cases h
  | succ n ih =>
    intro sU x1 x2 x4 h
    exact kU_solveParts_l16b C O hK2 (K16 := fun v0 v1 v2 v3 => fU_solveParts_l16 K2 n v0 v1 v2 v3) (fun sU x1 x2 x4 h => ih h) h
set_option maxHeartbeats 4000000 in
set_option maxRecDepth 100000 in
theorem kU_solveParts_l2b {x : zX} {G : zG} {qU : Nat → Nat}  {out : zSt} (C : zC x G RX8 cX8_solveParts 5 none rmX8_solveParts) (O : zO x G none (wdU G qU out) 0 0) {K2 : zSt → Int32 → Option (zSt)} (hK2 : ∀ (sU : zSt) (x1 : Int32), K2 sU x1 = some out → zW x G 0 0 2 [(0, .ref (qU 0)), (1, .int x1)] [] (wdU G qU sU)) {sU : zSt} {x1 : Int32} (h : fU_solveParts_l2b K2 sU x1 = some out) : zW x G 0 0 2 [(0, .ref (qU 0)), (1, .int x1)] [] (wdU G qU sU) := by
  unfold fU_solveParts_l2b at h
  refine z_iload_n C dX8_solveParts_2 1 rfl ?_
  refine z_iconst C 3 dX8_solveParts_3 (by decide) ?_
  refine z_icmp_ge C dX8_solveParts_4 82 (by decide) h (fun h => ?_) (fun h => ?_)
  · refine z_aload_n C dX8_solveParts_82 0 rfl ?_
    refine z_aload_n C dX8_solveParts_83 0 rfl ?_
    refine z_ldc C rw_u_650 dX8_solveParts_84 ?_
    obtain ⟨y1, hy1, h⟩ := bind_o h
    refine rw_c_X8_133 C (cU_determinant hy1) 0 rfl dX8_solveParts_86 (Nat.le_of_ble_eq_true rfl) (zrm rfl) ?_
    refine rw_p_X8_34_U_U C dX8_solveParts_89 h (fun sU2 h => ?_)
    refine z_iconst C 0 dX8_solveParts_92 (by decide) ?_
    refine z_istore_n C dX8_solveParts_93 (by decide) (lvr := [(0, .ref (qU 0))]) rfl ?_
    refine z_perm [1, 0] (lv' := [(0, .ref (qU 0)), (1, .int 0)]) rfl ?_
    exact kU_solveParts_l94 C O  zF h
  · refine z_aload_n C dX8_solveParts_7 0 rfl ?_
    refine z_iload_n C dX8_solveParts_8 1 rfl ?_
    obtain ⟨y9, hy9, h⟩ := bind_o h
    refine rw_c_X8_128 C (cU_cameOrOne hy9) 0 rfl dX8_solveParts_9 (Nat.le_of_ble_eq_true rfl) (zrm rfl) ?_
    refine z_lstore_n C dX8_solveParts_12 (by decide) (lvr := [(0, .ref (qU 0)), (1, .int x1)]) rfl ?_
    refine z_iconst C 0 dX8_solveParts_13 (by decide) ?_
    refine z_istore C dX8_solveParts_14 (by decide) (lvr := [(2, .long y9), (0, .ref (qU 0)), (1, .int x1)]) rfl ?_
    refine z_perm [2, 3, 1, 0] (lv' := [(0, .ref (qU 0)), (1, .int x1), (2, .long y9), (4, .int 0)]) rfl ?_
    exact kU_solveParts_l16 C O hK2 zF h
set_option maxHeartbeats 4000000 in
set_option maxRecDepth 100000 in
theorem kU_solveParts_l2 {x : zX} {G : zG} {qU : Nat → Nat}  {out : zSt} (C : zC x G RX8 cX8_solveParts 5 none rmX8_solveParts) (O : zO x G none (wdU G qU out) 0 0)  : ∀ (n : Nat) {sU : zSt} {x1 : Int32}, fU_solveParts_l2  n sU x1 = some out → zW x G 0 0 2 [(0, .ref (qU 0)), (1, .int x1)] [] (wdU G qU sU) := by
  intro n
  induction n with
  | zero =>
    intro sU x1 h
    have h : (none : Option (zSt)) = some out := h
    cases h
  | succ n ih =>
    intro sU x1 h
    exact kU_solveParts_l2b C O (K2 := fun v0 v1 => fU_solveParts_l2  n v0 v1) (fun sU x1 h => ih h) h
set_option maxHeartbeats 4000000 in
set_option maxRecDepth 100000 in
theorem cU_solveParts {l : Launch} {G : zG} {qU : Nat → Nat} {sU : zSt}  {out : zSt} (h : fU_solveParts sU  = some out) : Ct l G yX8_solveParts cX8_solveParts 5 none rmX8_solveParts [.ref (qU 0)] (wdU G qU sU) none (wdU G qU out) := by
  refine zMet (own := RX8) rfl (by decide) (Nat.le_of_ble_eq_true rfl) (fun x hl C O => ?_)
  show zW x G 0 0 0 [(0, .ref (qU 0))] [] _
  unfold fU_solveParts at h
  refine z_iconst C 0 dX8_solveParts_0 (by decide) ?_
  refine z_istore_n C dX8_solveParts_1 (by decide) (lvr := [(0, .ref (qU 0))]) rfl ?_
  refine z_perm [1, 0] (lv' := [(0, .ref (qU 0)), (1, .int 0)]) rfl ?_
  exact kU_solveParts_l2 C O  zF h
set_option maxHeartbeats 4000000 in
set_option maxRecDepth 100000 in
theorem kU_addNets_l21b {x : zX} {G : zG} {qU : Nat → Nat}  {out : zSt} (C : zC x G RX8 cX8_addNets 3 none rmX8_addNets) (O : zO x G none (wdU G qU out) 0 0) {K2 : zSt → Int32 → Option (zSt)} (hK2 : ∀ (sU : zSt) (x1 : Int32), K2 sU x1 = some out → zW x G 0 0 2 [(0, .ref (qU 0)), (1, .int x1)] [] (wdU G qU sU)) {K21 : zSt → Int32 → Int32 → Option (zSt)} (hK21 : ∀ (sU : zSt) (x1 : Int32) (x2 : Int32), K21 sU x1 x2 = some out → zW x G 0 0 21 [(0, .ref (qU 0)), (1, .int x1), (2, .int x2)] [] (wdU G qU sU)) {sU : zSt} {x1 : Int32} {x2 : Int32} (h : fU_addNets_l21b K2 K21 sU x1 x2 = some out) : zW x G 0 0 21 [(0, .ref (qU 0)), (1, .int x1), (2, .int x2)] [] (wdU G qU sU) := by
  unfold fU_addNets_l21b at h
  refine z_iload_n C dX8_addNets_21 2 rfl ?_
  refine z_iconst C 3 dX8_addNets_22 (by decide) ?_
  refine z_icmp_ge C dX8_addNets_23 62 (by decide) h (fun h => ?_) (fun h => ?_)
  · refine z_iinc C dX8_addNets_62 1 rfl 1 (by decide) (by decide) (lvr := [(0, .ref (qU 0)), (2, .int x2)]) rfl h (fun x1_2 h => ?_)
    refine z_goto C dX8_addNets_65 2 (by decide) ?_
    refine z_perm [1, 0] (lv' := [(0, .ref (qU 0)), (1, .int x1_2)]) rfl ?_
    exact hK2 _  _ h
  · refine z_aload_n C dX8_addNets_26 0 rfl ?_
    refine rw_g_X8_28_U_U C dX8_addNets_27 ?_
    refine z_iload_n C dX8_addNets_30 1 rfl ?_
    refine z_dup2 C dX8_addNets_31 rfl rfl ?_
    refine rw_l_U_U_5 C dX8_addNets_32 h (fun h => ?_)
    refine z_aload_n C dX8_addNets_33 0 rfl ?_
    refine rw_g_X8_25_U_U C dX8_addNets_34 ?_
    refine z_iload_n C dX8_addNets_37 1 rfl ?_
    refine z_iconst C 3 dX8_addNets_38 (by decide) ?_
    refine z_imul C dX8_addNets_39 ?_
    refine z_iload_n C dX8_addNets_40 2 rfl ?_
    refine z_iadd C dX8_addNets_41 ?_
    refine rw_l_U_U_4 C dX8_addNets_42 h (fun h => ?_)
    refine z_aload_n C dX8_addNets_43 0 rfl ?_
    refine rw_g_X8_25_U_U C dX8_addNets_44 ?_
    refine z_iload_n C dX8_addNets_47 2 rfl ?_
    refine z_iconst C 3 dX8_addNets_48 (by decide) ?_
    refine z_imul C dX8_addNets_49 ?_
    refine z_iload_n C dX8_addNets_50 1 rfl ?_
    refine z_iadd C dX8_addNets_51 ?_
    refine rw_l_U_U_4 C dX8_addNets_52 h (fun h => ?_)
    refine z_lsub C dX8_addNets_53 ?_
    refine z_ladd C dX8_addNets_54 ?_
    refine rw_s_U_U_5 C dX8_addNets_55 h (fun sU3 h => ?_)
    refine z_iinc C dX8_addNets_56 2 rfl 1 (by decide) (by decide) (lvr := [(0, .ref (qU 0)), (1, .int x1)]) rfl h (fun x2_4 h => ?_)
    refine z_goto C dX8_addNets_59 21 (by decide) ?_
    refine z_perm [1, 2, 0] (lv' := [(0, .ref (qU 0)), (1, .int x1), (2, .int x2_4)]) rfl ?_
    exact hK21 _  _ _ h
set_option maxHeartbeats 4000000 in
set_option maxRecDepth 100000 in
theorem kU_addNets_l21 {x : zX} {G : zG} {qU : Nat → Nat}  {out : zSt} (C : zC x G RX8 cX8_addNets 3 none rmX8_addNets) (O : zO x G none (wdU G qU out) 0 0) {K2 : zSt → Int32 → Option (zSt)} (hK2 : ∀ (sU : zSt) (x1 : Int32), K2 sU x1 = some out → zW x G 0 0 2 [(0, .ref (qU 0)), (1, .int x1)] [] (wdU G qU sU)) : ∀ (n : Nat) {sU : zSt} {x1 : Int32} {x2 : Int32}, fU_addNets_l21 K2 n sU x1 x2 = some out → zW x G 0 0 21 [(0, .ref (qU 0)), (1, .int x1), (2, .int x2)] [] (wdU G qU sU) := by
  intro n
  induction n with
  | zero =>
    intro sU x1 x2 h
    have h : (none : Option (zSt)) = some out := h
    cases h
  | succ n ih =>
    intro sU x1 x2 h
    exact kU_addNets_l21b C O hK2 (K21 := fun v0 v1 v2 => fU_addNets_l21 K2 n v0 v1 v2) (fun sU x1 x2 h => ih h) h
set_option maxHeartbeats 4000000 in
set_option maxRecDepth 100000 in
theorem kU_addNets_l2b {x : zX} {G : zG} {qU : Nat → Nat}  {out : zSt} (C : zC x G RX8 cX8_addNets 3 none rmX8_addNets) (O : zO x G none (wdU G qU out) 0 0) {K2 : zSt → Int32 → Option (zSt)} (hK2 : ∀ (sU : zSt) (x1 : Int32), K2 sU x1 = some out → zW x G 0 0 2 [(0, .ref (qU 0)), (1, .int x1)] [] (wdU G qU sU)) {sU : zSt} {x1 : Int32} (h : fU_addNets_l2b K2 sU x1 = some out) : zW x G 0 0 2 [(0, .ref (qU 0)), (1, .int x1)] [] (wdU G qU sU) := by
  unfold fU_addNets_l2b at h
  refine z_iload_n C dX8_addNets_2 1 rfl ?_
  refine z_iconst C 3 dX8_addNets_3 (by decide) ?_
  refine z_icmp_ge C dX8_addNets_4 68 (by decide) h (fun h => ?_) (fun h => ?_)
  · replace h := Option.some.inj h
    subst h
    exact z_vret C O dX8_addNets_68 rfl rfl
  · refine z_aload_n C dX8_addNets_7 0 rfl ?_
    refine rw_g_X8_28_U_U C dX8_addNets_8 ?_
    refine z_iload_n C dX8_addNets_11 1 rfl ?_
    refine z_aload_n C dX8_addNets_12 0 rfl ?_
    refine rw_g_X8_9_U_U C dX8_addNets_13 ?_
    refine z_iload_n C dX8_addNets_16 1 rfl ?_
    refine rw_l_U_U_0 C dX8_addNets_17 h (fun h => ?_)
    refine rw_s_U_U_5 C dX8_addNets_18 h (fun sU1 h => ?_)
    refine z_iconst C 0 dX8_addNets_19 (by decide) ?_
    refine z_istore_n C dX8_addNets_20 (by decide) (lvr := [(0, .ref (qU 0)), (1, .int x1)]) rfl ?_
    refine z_perm [1, 2, 0] (lv' := [(0, .ref (qU 0)), (1, .int x1), (2, .int 0)]) rfl ?_
    exact kU_addNets_l21 C O hK2 zF h
set_option maxHeartbeats 4000000 in
set_option maxRecDepth 100000 in
theorem kU_addNets_l2 {x : zX} {G : zG} {qU : Nat → Nat}  {out : zSt} (C : zC x G RX8 cX8_addNets 3 none rmX8_addNets) (O : zO x G none (wdU G qU out) 0 0)  : ∀ (n : Nat) {sU : zSt} {x1 : Int32}, fU_addNets_l2  n sU x1 = some out → zW x G 0 0 2 [(0, .ref (qU 0)), (1, .int x1)] [] (wdU G qU sU) := by
  intro n
  induction n with
  | zero =>
    intro sU x1 h
    have h : (none : Option (zSt)) = some out := h
    cases h
  | succ n ih =>
    intro sU x1 h
    exact kU_addNets_l2b C O (K2 := fun v0 v1 => fU_addNets_l2  n v0 v1) (fun sU x1 h => ih h) h
set_option maxHeartbeats 4000000 in
set_option maxRecDepth 100000 in
theorem cU_addNets {l : Launch} {G : zG} {qU : Nat → Nat} {sU : zSt}  {out : zSt} (h : fU_addNets sU  = some out) : Ct l G yX8_addNets cX8_addNets 3 none rmX8_addNets [.ref (qU 0)] (wdU G qU sU) none (wdU G qU out) := by
  refine zMet (own := RX8) rfl (by decide) (Nat.le_of_ble_eq_true rfl) (fun x hl C O => ?_)
  show zW x G 0 0 0 [(0, .ref (qU 0))] [] _
  unfold fU_addNets at h
  refine z_iconst C 0 dX8_addNets_0 (by decide) ?_
  refine z_istore_n C dX8_addNets_1 (by decide) (lvr := [(0, .ref (qU 0))]) rfl ?_
  refine z_perm [1, 0] (lv' := [(0, .ref (qU 0)), (1, .int 0)]) rfl ?_
  exact kU_addNets_l2 C O  zF h
set_option maxHeartbeats 4000000 in
set_option maxRecDepth 100000 in
theorem kU_reckon_b47 {x : zX} {G : zG} {qU qC qS : Nat → Nat} {sC : zSt} {sS : zSt} {out : zSt} (C : zC x G RX8 cX8_reckon 5 none rmX8_reckon) (O : zO x G none (wdU G qU out ++ (wdC G qC (qS 0) sC ++ (wdS G qS sS))) 0 0)  {sU : zSt}  (h : fU_reckon_b47  sU sC sS  = some out) : zW x G 0 0 47 [(0, .ref (qU 0)), (1, .ref (qC 0)), (2, .ref (qS 0))] [] (wdU G qU sU ++ (wdC G qC (qS 0) sC ++ (wdS G qS sS))) := by
  unfold fU_reckon_b47 at h
  refine z_aload_n C dX8_reckon_47 2 rfl ?_
  refine rw_g_X8_70_UCS_S C dX8_reckon_48 ?_
  refine z_aload_n C dX8_reckon_51 1 rfl ?_
  refine rw_g_X8_52_UCS_C C dX8_reckon_52 ?_
  refine rw_l_UCS_S_7 C dX8_reckon_55 h (fun h => ?_)
  refine z_istoreN C dX8_reckon_56 (by decide) (lvr := [(0, .ref (qU 0)), (1, .ref (qC 0)), (2, .ref (qS 0))]) rfl h (fun x4_6 h => ?_)
  refine z_aload_n C dX8_reckon_58 1 rfl ?_
  refine rw_g_X8_31_UCS_U C dX8_reckon_59 ?_
  refine z_iconst C 0 dX8_reckon_62 (by decide) ?_
  refine z_ldc2 C rw_u_667 dX8_reckon_63 ?_
  refine z_aload_n C dX8_reckon_66 1 rfl ?_
  refine rw_g_X8_28_UCS_U C dX8_reckon_67 ?_
  refine z_iconst C 0 dX8_reckon_70 (by decide) ?_
  refine rw_l_UCS_U_5 C dX8_reckon_71 h (fun h => ?_)
  refine z_lmul C dX8_reckon_72 ?_
  refine z_iload C dX8_reckon_73 0 rfl ?_
  refine z_i2l C dX8_reckon_75 ?_
  refine z_aload_n C dX8_reckon_76 1 rfl ?_
  refine rw_g_X8_28_UCS_U C dX8_reckon_77 ?_
  refine z_iconst C 2 dX8_reckon_80 (by decide) ?_
  refine rw_l_UCS_U_5 C dX8_reckon_81 h (fun h => ?_)
  refine z_lmul C dX8_reckon_82 ?_
  refine z_ladd C dX8_reckon_83 ?_
  refine rw_s_UCS_U_6 C dX8_reckon_84 h (fun sU7 h => ?_)
  refine z_aload_n C dX8_reckon_85 1 rfl ?_
  refine rw_g_X8_31_UCS_U C dX8_reckon_86 ?_
  refine z_iconst C 1 dX8_reckon_89 (by decide) ?_
  refine z_ldc2 C rw_u_667 dX8_reckon_90 ?_
  refine z_aload_n C dX8_reckon_93 1 rfl ?_
  refine rw_g_X8_28_UCS_U C dX8_reckon_94 ?_
  refine z_iconst C 1 dX8_reckon_97 (by decide) ?_
  refine rw_l_UCS_U_5 C dX8_reckon_98 h (fun h => ?_)
  refine z_lmul C dX8_reckon_99 ?_
  refine z_bipush C 100 dX8_reckon_100 (by decide) ?_
  refine z_iload C dX8_reckon_102 0 rfl ?_
  refine z_isub C dX8_reckon_104 ?_
  refine z_i2l C dX8_reckon_105 ?_
  refine z_aload_n C dX8_reckon_106 1 rfl ?_
  refine rw_g_X8_28_UCS_U C dX8_reckon_107 ?_
  refine z_iconst C 2 dX8_reckon_110 (by decide) ?_
  refine rw_l_UCS_U_5 C dX8_reckon_111 h (fun h => ?_)
  refine z_lmul C dX8_reckon_112 ?_
  refine z_ladd C dX8_reckon_113 ?_
  refine rw_s_UCS_U_6 C dX8_reckon_114 h (fun sU8 h => ?_)
  replace h := Option.some.inj h
  subst h
  exact z_vret C O dX8_reckon_115 rfl rfl
set_option maxHeartbeats 4000000 in
set_option maxRecDepth 100000 in
theorem cU_reckon {l : Launch} {G : zG} {qU qC qS : Nat → Nat} {sU : zSt} {sC : zSt} {sS : zSt}  {out : zSt} (h : fU_reckon sU sC sS  = some out) : Ct l G yX8_reckon cX8_reckon 5 none rmX8_reckon [.ref (qU 0), .ref (qC 0)] (wdU G qU sU ++ (wdC G qC (qS 0) sC ++ (wdS G qS sS))) none (wdU G qU out ++ (wdC G qC (qS 0) sC ++ (wdS G qS sS))) := by
  refine zMet (own := RX8) rfl (by decide) (Nat.le_of_ble_eq_true rfl) (fun x hl C O => ?_)
  show zW x G 0 0 0 [(0, .ref (qU 0)), (1, .ref (qC 0))] [] _
  unfold fU_reckon at h
  refine z_aload_n C dX8_reckon_0 1 rfl ?_
  refine rw_g_X8_41_UCS_C C dX8_reckon_1 ?_
  refine z_astore_n C dX8_reckon_4 (by decide) (lvr := [(0, .ref (qU 0)), (1, .ref (qC 0))]) rfl ?_
  refine z_aload_n C dX8_reckon_5 0 rfl ?_
  refine rw_g_X8_47_UCS_S C dX8_reckon_6 ?_
  refine z_aload_n C dX8_reckon_9 2 rfl ?_
  refine rw_g_X8_52_UCS_C C dX8_reckon_10 ?_
  refine rw_l_UCS_S_5 C dX8_reckon_13 h (fun h => ?_)
  refine z_istore_nN C dX8_reckon_14 (by decide) (lvr := [(2, .ref (qS 0)), (0, .ref (qU 0)), (1, .ref (qC 0))]) rfl h (fun x3_1 h => ?_)
  refine z_aload_n C dX8_reckon_15 2 rfl ?_
  refine z_aload_n C dX8_reckon_16 3 rfl ?_
  obtain ⟨y2, hy2, h⟩ := bind_o h
  refine rw_c_X8_56 C (Ct.frame (cU_addThings hy2) (w := wdU G qU sU ++ (wdC G qC (qS 0) sC ++ (wdS G qS sS))) (w' := wdU G qU y2 ++ (wdC G qC (qS 0) sC ++ (wdS G qS sS))) (wr := wdS G qS sS) [0, 1, 2, 3, 4, 5, 6, 7, 8, 9, 10, 11, 12, 13, 14, 15, 16, 17, 18, 19, 20, 21, 22, 23] [24, 25, 26, 27, 28, 29, 30, 31, 32, 33, 34] [11, 12, 13, 14, 15, 16, 17, 18, 19, 20, 21, 22, 23, 24, 25, 26, 27, 28, 29, 30, 31, 32, 33, 34, 0, 1, 2, 3, 4, 5, 6, 7, 8, 9, 10] rfl rfl rfl rfl (by decide) rfl rfl) 0 rfl dX8_reckon_17 (Nat.le_of_ble_eq_true rfl) (zrm rfl) ?_
  refine z_aload_n C dX8_reckon_20 2 rfl ?_
  refine z_aload_n C dX8_reckon_21 3 rfl ?_
  refine z_iload_n C dX8_reckon_22 0 rfl ?_
  obtain ⟨y3, hy3, h⟩ := bind_o h
  refine rw_c_X8_60 C (Ct.frame (cU_addPuts hy3) (w := wdU G qU y2 ++ (wdC G qC (qS 0) sC ++ (wdS G qS sS))) (w' := wdU G qU y3 ++ (wdC G qC (qS 0) sC ++ (wdS G qS sS))) (wr := wdS G qS sS) [0, 1, 2, 3, 4, 5, 6, 7, 8, 9, 10, 11, 12, 13, 14, 15, 16, 17, 18, 19, 20, 21, 22, 23] [24, 25, 26, 27, 28, 29, 30, 31, 32, 33, 34] [11, 12, 13, 14, 15, 16, 17, 18, 19, 20, 21, 22, 23, 24, 25, 26, 27, 28, 29, 30, 31, 32, 33, 34, 0, 1, 2, 3, 4, 5, 6, 7, 8, 9, 10] rfl rfl rfl rfl (by decide) rfl rfl) 0 rfl dX8_reckon_23 (Nat.le_of_ble_eq_true rfl) (zrm rfl) ?_
  refine z_aload_n C dX8_reckon_26 2 rfl ?_
  refine z_lconst C 1 dX8_reckon_27 (by decide) ?_
  refine rw_p_X8_34_UCS_U C dX8_reckon_28 h (fun sU4 h => ?_)
  refine z_iload_n C dX8_reckon_31 0 rfl ?_
  refine z_iconst C 1 dX8_reckon_32 (by decide) ?_
  refine z_icmp_ne C dX8_reckon_33 43 (by decide) h (fun h => ?_) (fun h => ?_)
  · refine z_aload_n C dX8_reckon_43 2 rfl ?_
    obtain ⟨y5, hy5, h⟩ := bind_o h
    refine rw_c_X8_67 C (Ct.frame (cU_addNets hy5) (w := wdU G qU sU4 ++ (wdC G qC (qS 0) sC ++ (wdS G qS sS))) (w' := wdU G qU y5 ++ (wdC G qC (qS 0) sC ++ (wdS G qS sS))) (wr := wdC G qC (qS 0) sC ++ (wdS G qS sS)) [0, 1, 2, 3, 4, 5, 6, 7, 8] [9, 10, 11, 12, 13, 14, 15, 16, 17, 18, 19, 20, 21, 22, 23, 24, 25, 26, 27, 28, 29, 30, 31, 32, 33, 34] [26, 27, 28, 29, 30, 31, 32, 33, 34, 0, 1, 2, 3, 4, 5, 6, 7, 8, 9, 10, 11, 12, 13, 14, 15, 16, 17, 18, 19, 20, 21, 22, 23, 24, 25] rfl rfl rfl rfl (by decide) rfl rfl) 0 rfl dX8_reckon_44 (Nat.le_of_ble_eq_true rfl) (zrm rfl) ?_
    refine z_perm [2, 3, 1] (lv' := [(0, .ref (qU 0)), (1, .ref (qC 0)), (2, .ref (qS 0))]) rfl ?_
    exact kU_reckon_b47 C O  h
  · refine z_aload_n C dX8_reckon_36 2 rfl ?_
    obtain ⟨y9, hy9, h⟩ := bind_o h
    refine rw_c_X8_64 C (Ct.frame (cU_solveParts hy9) (w := wdU G qU sU4 ++ (wdC G qC (qS 0) sC ++ (wdS G qS sS))) (w' := wdU G qU y9 ++ (wdC G qC (qS 0) sC ++ (wdS G qS sS))) (wr := wdC G qC (qS 0) sC ++ (wdS G qS sS)) [0, 1, 2, 3, 4, 5, 6, 7, 8] [9, 10, 11, 12, 13, 14, 15, 16, 17, 18, 19, 20, 21, 22, 23, 24, 25, 26, 27, 28, 29, 30, 31, 32, 33, 34] [26, 27, 28, 29, 30, 31, 32, 33, 34, 0, 1, 2, 3, 4, 5, 6, 7, 8, 9, 10, 11, 12, 13, 14, 15, 16, 17, 18, 19, 20, 21, 22, 23, 24, 25] rfl rfl rfl rfl (by decide) rfl rfl) 0 rfl dX8_reckon_37 (Nat.le_of_ble_eq_true rfl) (zrm rfl) ?_
    refine z_goto C dX8_reckon_40 47 (by decide) ?_
    refine z_perm [2, 3, 1] (lv' := [(0, .ref (qU 0)), (1, .ref (qC 0)), (2, .ref (qS 0))]) rfl ?_
    exact kU_reckon_b47 C O  h
set_option maxHeartbeats 4000000 in
set_option maxRecDepth 100000 in
theorem cU_endBottom {l : Launch} {G : zG} {qU : Nat → Nat} {sU : zSt}  {out : Int64} (h : fU_endBottom sU  = some out) : Ct l G yX8_endBottom cX8_endBottom 1 (some .long) rmX8_endBottom [.ref (qU 0)] (wdU G qU sU) (some (.long out)) (wdU G qU sU) := by
  refine zMet (own := RX8) rfl (by decide) (Nat.le_of_ble_eq_true rfl) (fun x hl C O => ?_)
  show zW x G 0 0 0 [(0, .ref (qU 0))] [] _
  unfold fU_endBottom at h
  refine z_ldc2 C rw_u_667 dX8_endBottom_0 ?_
  refine z_aload_n C dX8_endBottom_3 0 rfl ?_
  refine rw_g_X8_34_U_U C dX8_endBottom_4 ?_
  refine z_lmul C dX8_endBottom_7 ?_
  replace h := Option.some.inj h
  subst h
  exact z_lret C O dX8_endBottom_8 rfl rfl
set_option maxHeartbeats 4000000 in
set_option maxRecDepth 100000 in
theorem cU_herEndCut {l : Launch} {G : zG} {qU : Nat → Nat} {sU : zSt}  {out : Int64} (h : fU_herEndCut sU  = some out) : Ct l G yX8_herEndCut cX8_herEndCut 1 (some .long) rmX8_herEndCut [.ref (qU 0)] (wdU G qU sU) (some (.long out)) (wdU G qU sU) := by
  refine zMet (own := RX8) rfl (by decide) (Nat.le_of_ble_eq_true rfl) (fun x hl C O => ?_)
  show zW x G 0 0 0 [(0, .ref (qU 0))] [] _
  unfold fU_herEndCut at h
  refine z_aload_n C dX8_herEndCut_0 0 rfl ?_
  obtain ⟨y1, hy1, h⟩ := bind_o h
  refine rw_c_X8_75 C (cU_endBottom hy1) 0 rfl dX8_herEndCut_1 (Nat.le_of_ble_eq_true rfl) (zrm rfl) ?_
  refine z_lconst C 0 dX8_herEndCut_4 (by decide) ?_
  refine z_lcmp_le C dX8_herEndCut_5 dX8_herEndCut_6 23 (by decide) h (fun h => ?_) (fun h => ?_)
  · refine z_lconst C 0 dX8_herEndCut_23 (by decide) ?_
    replace h := Option.some.inj h
    subst h
    exact z_lret C O dX8_herEndCut_24 rfl rfl
  · refine z_aload_n C dX8_herEndCut_9 0 rfl ?_
    refine rw_g_X8_31_U_U C dX8_herEndCut_10 ?_
    refine z_iconst C 0 dX8_herEndCut_13 (by decide) ?_
    refine rw_l_U_U_6 C dX8_herEndCut_14 h (fun h => ?_)
    refine z_aload_n C dX8_herEndCut_15 0 rfl ?_
    obtain ⟨y2, hy2, h⟩ := bind_o h
    refine rw_c_X8_75 C (cU_endBottom hy2) 0 rfl dX8_herEndCut_16 (Nat.le_of_ble_eq_true rfl) (zrm rfl) ?_
    refine z_ldiv C dX8_herEndCut_19 h (fun h => ?_)
    refine z_goto C dX8_herEndCut_20 24 (by decide) ?_
    replace h := Option.some.inj h
    subst h
    exact z_lret C O dX8_herEndCut_24 rfl rfl
set_option maxHeartbeats 4000000 in
set_option maxRecDepth 100000 in
theorem cU_grants {l : Launch} {G : zG} {qU : Nat → Nat} {sU : zSt} {a0 : Int32} {a1 : Int32} {out : Bool} (h : fU_grants sU a0 a1 = some out) : Ct l G yX8_grants cX8_grants 3 (some .boolean) rmX8_grants [.ref (qU 0), .int a0, .int a1] (wdU G qU sU) (some (.int (zb out))) (wdU G qU sU) := by
  refine zMet (own := RX8) rfl (by decide) (Nat.le_of_ble_eq_true rfl) (fun x hl C O => ?_)
  show zW x G 0 0 0 [(0, .ref (qU 0)), (1, .int a0), (2, .int a1)] [] _
  unfold fU_grants at h
  refine z_aload_n C dX8_grants_0 0 rfl ?_
  refine rw_g_X8_31_U_U C dX8_grants_1 ?_
  refine z_iconst C 0 dX8_grants_4 (by decide) ?_
  refine rw_l_U_U_6 C dX8_grants_5 h (fun h => ?_)
  refine z_iload_n C dX8_grants_6 1 rfl ?_
  refine z_i2l C dX8_grants_7 ?_
  refine z_aload_n C dX8_grants_8 0 rfl ?_
  obtain ⟨y1, hy1, h⟩ := bind_o h
  refine rw_c_X8_75 C (cU_endBottom hy1) 0 rfl dX8_grants_9 (Nat.le_of_ble_eq_true rfl) (zrm rfl) ?_
  refine z_lmul C dX8_grants_12 ?_
  refine z_lcmp_lt C dX8_grants_13 dX8_grants_14 38 (by decide) h (fun h => ?_) (fun h => ?_)
  · refine z_iconst C 0 dX8_grants_38 (by decide) ?_
    replace h := Option.some.inj h
    subst h
    exact z_zret C O dX8_grants_39 (zb_nar false) rfl rfl
  · refine z_aload_n C dX8_grants_17 0 rfl ?_
    refine rw_g_X8_31_U_U C dX8_grants_18 ?_
    refine z_iconst C 1 dX8_grants_21 (by decide) ?_
    refine rw_l_U_U_6 C dX8_grants_22 h (fun h => ?_)
    refine z_iload_n C dX8_grants_23 2 rfl ?_
    refine z_i2l C dX8_grants_24 ?_
    refine z_aload_n C dX8_grants_25 0 rfl ?_
    obtain ⟨y2, hy2, h⟩ := bind_o h
    refine rw_c_X8_75 C (cU_endBottom hy2) 0 rfl dX8_grants_26 (Nat.le_of_ble_eq_true rfl) (zrm rfl) ?_
    refine z_lmul C dX8_grants_29 ?_
    refine z_lcmp_lt C dX8_grants_30 dX8_grants_31 38 (by decide) h (fun h => ?_) (fun h => ?_)
    · refine z_iconst C 0 dX8_grants_38 (by decide) ?_
      replace h := Option.some.inj h
      subst h
      exact z_zret C O dX8_grants_39 (zb_nar false) rfl rfl
    · refine z_iconst C 1 dX8_grants_34 (by decide) ?_
      refine z_goto C dX8_grants_35 39 (by decide) ?_
      replace h := Option.some.inj h
      subst h
      exact z_zret C O dX8_grants_39 (zb_nar true) rfl rfl

theorem rw_u_356 : Cond.fieldLink RX11 100 "WhatWasHers" "latestFinding" "I" ∈ zU := zm 356 (by decide +kernel) rfl
theorem rw_u_408 : Cond.constantLong RX11 104 (-9000000000000000010) ∈ zU := zm 408 (by decide +kernel) rfl
theorem rw_u_402 : Cond.code yX11_isNoRow cX11_isNoRow 1 (some .boolean) ∈ zU := zm 402 (by decide +kernel) rfl
theorem rw_u_71 : Cond.initialized yX11_isNoRow.cls ∈ zU := zm 71 (by decide +kernel) rfl
theorem rw_u_400 : Cond.methodLink RX11 69 yX11_isNoRow ∈ zU := zm 400 (by decide +kernel) rfl
theorem rw_u_401 : Cond.static yX11_isNoRow ∈ zU := zm 401 (by decide +kernel) rfl
theorem rw_u_403 : Cond.constantLong RX11 73 (-9000000000000000001) ∈ zU := zm 403 (by decide +kernel) rfl
theorem rw_u_353 : Cond.fieldLink RX11 9 "WhatWasHers" "lanes" "[I" ∈ zU := zm 353 (by decide +kernel) rfl
theorem rw_u_354 : Cond.fieldLink RX11 13 "WhatWasHers" "sizes" "[I" ∈ zU := zm 354 (by decide +kernel) rfl
theorem rw_u_412 : Cond.code yX11_fine cX11_fine 3 (some .long) ∈ zU := zm 412 (by decide +kernel) rfl
theorem rw_u_409 : Cond.methodLink RX11 79 yX11_fine ∈ zU := zm 409 (by decide +kernel) rfl
theorem rw_u_411 : Cond.instanceMethod yX11_fine ∈ zU := zm 411 (by decide +kernel) rfl
theorem rw_u_1 : Cond.selects RX11 yX11_fine yX11_fine ∈ zU := zm 1 (by decide +kernel) rfl
theorem rw_u_355 : Cond.fieldLink RX11 16 "WhatWasHers" "items" "[I" ∈ zU := zm 355 (by decide +kernel) rfl
theorem rw_u_407 : Cond.code yX11_found cX11_found 2 (some .long) ∈ zU := zm 407 (by decide +kernel) rfl
theorem rw_u_404 : Cond.methodLink RX11 75 yX11_found ∈ zU := zm 404 (by decide +kernel) rfl
theorem rw_u_406 : Cond.instanceMethod yX11_found ∈ zU := zm 406 (by decide +kernel) rfl
theorem rw_u_0 : Cond.selects RX11 yX11_found yX11_found ∈ zU := zm 0 (by decide +kernel) rfl
theorem rw_u_420 : Cond.code yX11_isMissing cX11_isMissing 2 (some .boolean) ∈ zU := zm 420 (by decide +kernel) rfl
theorem rw_u_417 : Cond.methodLink RX11 83 yX11_isMissing ∈ zU := zm 417 (by decide +kernel) rfl
theorem rw_u_419 : Cond.instanceMethod yX11_isMissing ∈ zU := zm 419 (by decide +kernel) rfl
theorem rw_u_2 : Cond.selects RX11 yX11_isMissing yX11_isMissing ∈ zU := zm 2 (by decide +kernel) rfl
theorem rw_u_423 : Cond.code yX11_lowestBits cX11_lowestBits 2 (some .int) ∈ zU := zm 423 (by decide +kernel) rfl
theorem rw_u_421 : Cond.methodLink RX11 86 yX11_lowestBits ∈ zU := zm 421 (by decide +kernel) rfl
theorem rw_u_422 : Cond.static yX11_lowestBits ∈ zU := zm 422 (by decide +kernel) rfl
theorem rw_u_431 : Cond.code yX11_lacksItems cX11_lacksItems 4 (some .boolean) ∈ zU := zm 431 (by decide +kernel) rfl
theorem rw_u_428 : Cond.methodLink RX11 90 yX11_lacksItems ∈ zU := zm 428 (by decide +kernel) rfl
theorem rw_u_430 : Cond.instanceMethod yX11_lacksItems ∈ zU := zm 430 (by decide +kernel) rfl
theorem rw_u_3 : Cond.selects RX11 yX11_lacksItems yX11_lacksItems ∈ zU := zm 3 (by decide +kernel) rfl
theorem rw_u_432 : Cond.methodLink RX11 94 arraycopyName ∈ zU := zm 432 (by decide +kernel) rfl
theorem rw_u_434 : Cond.native arraycopyName ∈ zU := zm 434 (by decide +kernel) rfl
theorem rw_u_433 : Cond.static arraycopyName ∈ zU := zm 433 (by decide +kernel) rfl
theorem rw_u_79 : Cond.initialized "java/lang/System" ∈ zU := zm 79 (by decide +kernel) rfl
theorem rw_u_357 : Cond.fieldLink RX11 22 "WhatWasHers" "reader" "LWhatWasHers$Reader;" ∈ zU := zm 357 (by decide +kernel) rfl
theorem rw_u_107 : Cond.fieldLink RX11 106 "WhatWasHers$Reader" "length" "I" ∈ zU := zm 107 (by decide +kernel) rfl
theorem rw_u_447 : Cond.code yX6_append cX6_append 2 none ∈ zU := zm 447 (by decide +kernel) rfl
theorem rw_u_444 : Cond.methodLink RX11 111 yX6_append ∈ zU := zm 444 (by decide +kernel) rfl
theorem rw_u_445 : Cond.instanceMethod yX6_append ∈ zU := zm 445 (by decide +kernel) rfl
theorem rw_u_446 : Cond.selects RX6 yX6_append yX6_append ∈ zU := zm 446 (by decide +kernel) rfl
theorem rw_u_443 : Cond.constantLong RX11 109 (-9000000000000000003) ∈ zU := zm 443 (by decide +kernel) rfl
theorem rw_u_361 : Cond.fieldLink RX11 33 "WhatWasHers" "spare" "LWhatWasHers$Story;" ∈ zU := zm 361 (by decide +kernel) rfl
theorem rw_u_455 : Cond.code yX6_readInto cX6_readInto 2 none ∈ zU := zm 455 (by decide +kernel) rfl
theorem rw_u_452 : Cond.methodLink RX11 115 yX6_readInto ∈ zU := zm 452 (by decide +kernel) rfl
theorem rw_u_453 : Cond.instanceMethod yX6_readInto ∈ zU := zm 453 (by decide +kernel) rfl
theorem rw_u_454 : Cond.selects RX6 yX6_readInto yX6_readInto ∈ zU := zm 454 (by decide +kernel) rfl
theorem rw_u_109 : Cond.fieldLink RX11 119 "WhatWasHers$Reader" "wrong" "I" ∈ zU := zm 109 (by decide +kernel) rfl
theorem rw_u_360 : Cond.fieldLink RX11 29 "WhatWasHers" "story" "LWhatWasHers$Story;" ∈ zU := zm 360 (by decide +kernel) rfl
theorem rw_u_359 : Cond.fieldLink RX11 130 "WhatWasHers" "lived" "Z" ∈ zU := zm 359 (by decide +kernel) rfl
theorem rw_u_362 : Cond.fieldLink RX11 39 "WhatWasHers" "course" "LWhatWasHers$Course;" ∈ zU := zm 362 (by decide +kernel) rfl
theorem rw_u_574 : Cond.code yX2_begin cX2_begin 2 none ∈ zU := zm 574 (by decide +kernel) rfl
theorem rw_u_571 : Cond.methodLink RX11 134 yX2_begin ∈ zU := zm 571 (by decide +kernel) rfl
theorem rw_u_572 : Cond.instanceMethod yX2_begin ∈ zU := zm 572 (by decide +kernel) rfl
theorem rw_u_573 : Cond.selects RX2 yX2_begin yX2_begin ∈ zU := zm 573 (by decide +kernel) rfl
theorem rw_u_146 : Cond.fieldLink RX11 137 "WhatWasHers$Story" "events" "I" ∈ zU := zm 146 (by decide +kernel) rfl
theorem rw_u_580 : Cond.code yX2_goThrough cX2_goThrough 4 none ∈ zU := zm 580 (by decide +kernel) rfl
theorem rw_u_577 : Cond.methodLink RX11 140 yX2_goThrough ∈ zU := zm 577 (by decide +kernel) rfl
theorem rw_u_578 : Cond.instanceMethod yX2_goThrough ∈ zU := zm 578 (by decide +kernel) rfl
theorem rw_u_579 : Cond.selects RX2 yX2_goThrough yX2_goThrough ∈ zU := zm 579 (by decide +kernel) rfl
theorem rw_u_363 : Cond.fieldLink RX11 46 "WhatWasHers" "sums" "LWhatWasHers$Sums;" ∈ zU := zm 363 (by decide +kernel) rfl
theorem rw_u_623 : Cond.code yX8_reckon cX8_reckon 5 none ∈ zU := zm 623 (by decide +kernel) rfl
theorem rw_u_620 : Cond.methodLink RX11 144 yX8_reckon ∈ zU := zm 620 (by decide +kernel) rfl
theorem rw_u_621 : Cond.instanceMethod yX8_reckon ∈ zU := zm 621 (by decide +kernel) rfl
theorem rw_u_622 : Cond.selects RX8 yX8_reckon yX8_reckon ∈ zU := zm 622 (by decide +kernel) rfl
theorem rw_u_358 : Cond.fieldLink RX11 122 "WhatWasHers" "latestFault" "I" ∈ zU := zm 358 (by decide +kernel) rfl
theorem rw_u_570 : Cond.constantLong RX11 125 (-9000000000000000100) ∈ zU := zm 570 (by decide +kernel) rfl
theorem rw_u_111 : Cond.fieldLink RX11 127 "WhatWasHers$Reader" "wrongPlace" "I" ∈ zU := zm 111 (by decide +kernel) rfl
theorem rw_u_222 : Cond.fieldLink RX11 158 "WhatWasHers$Course" "things" "I" ∈ zU := zm 222 (by decide +kernel) rfl
theorem rw_u_679 : Cond.code yX11_isNoThing cX11_isNoThing 2 (some .boolean) ∈ zU := zm 679 (by decide +kernel) rfl
theorem rw_u_676 : Cond.methodLink RX11 148 yX11_isNoThing ∈ zU := zm 676 (by decide +kernel) rfl
theorem rw_u_678 : Cond.instanceMethod yX11_isNoThing ∈ zU := zm 678 (by decide +kernel) rfl
theorem rw_u_29 : Cond.selects RX11 yX11_isNoThing yX11_isNoThing ∈ zU := zm 29 (by decide +kernel) rfl
theorem rw_u_682 : Cond.code yX11_isNoDay cX11_isNoDay 1 (some .boolean) ∈ zU := zm 682 (by decide +kernel) rfl
theorem rw_u_680 : Cond.methodLink RX11 151 yX11_isNoDay ∈ zU := zm 680 (by decide +kernel) rfl
theorem rw_u_681 : Cond.static yX11_isNoDay ∈ zU := zm 681 (by decide +kernel) rfl
theorem rw_u_364 : Cond.fieldLink RX11 50 "WhatWasHers" "otherCourse" "LWhatWasHers$Course;" ∈ zU := zm 364 (by decide +kernel) rfl
theorem rw_u_686 : Cond.code yX7_firstEventFrom cX7_firstEventFrom 3 (some .int) ∈ zU := zm 686 (by decide +kernel) rfl
theorem rw_u_683 : Cond.methodLink RX11 154 yX7_firstEventFrom ∈ zU := zm 683 (by decide +kernel) rfl
theorem rw_u_684 : Cond.instanceMethod yX7_firstEventFrom ∈ zU := zm 684 (by decide +kernel) rfl
theorem rw_u_685 : Cond.selects RX7 yX7_firstEventFrom yX7_firstEventFrom ∈ zU := zm 685 (by decide +kernel) rfl
theorem rw_u_687 : Cond.constantLong RX11 164 (-1000000) ∈ zU := zm 687 (by decide +kernel) rfl
theorem rw_u_232 : Cond.fieldLink RX11 161 "WhatWasHers$Course" "inPurse" "[I" ∈ zU := zm 232 (by decide +kernel) rfl
theorem rw_u_234 : Cond.fieldLink RX11 166 "WhatWasHers$Course" "reason" "[I" ∈ zU := zm 234 (by decide +kernel) rfl
theorem rw_u_224 : Cond.fieldLink RX11 169 "WhatWasHers$Course" "cameBy" "[I" ∈ zU := zm 224 (by decide +kernel) rfl
theorem rw_u_236 : Cond.fieldLink RX11 172 "WhatWasHers$Course" "fellBy" "[I" ∈ zU := zm 236 (by decide +kernel) rfl
theorem rw_u_240 : Cond.fieldLink RX11 175 "WhatWasHers$Course" "worth" "[I" ∈ zU := zm 240 (by decide +kernel) rfl
theorem rw_u_243 : Cond.fieldLink RX11 178 "WhatWasHers$Course" "putsInto" "[I" ∈ zU := zm 243 (by decide +kernel) rfl
theorem rw_u_692 : Cond.methodLink RX11 181 yX7_way ∈ zU := zm 692 (by decide +kernel) rfl
theorem rw_u_700 : Cond.code yX11_isNoPurse cX11_isNoPurse 1 (some .boolean) ∈ zU := zm 700 (by decide +kernel) rfl
theorem rw_u_698 : Cond.methodLink RX11 186 yX11_isNoPurse ∈ zU := zm 698 (by decide +kernel) rfl
theorem rw_u_699 : Cond.static yX11_isNoPurse ∈ zU := zm 699 (by decide +kernel) rfl
theorem rw_u_697 : Cond.constantLong RX11 184 (-9000000000000000002) ∈ zU := zm 697 (by decide +kernel) rfl
theorem rw_u_299 : Cond.fieldLink RX11 189 "WhatWasHers$Sums" "has" "[J" ∈ zU := zm 299 (by decide +kernel) rfl
theorem rw_u_301 : Cond.fieldLink RX11 193 "WhatWasHers$Sums" "came" "[J" ∈ zU := zm 301 (by decide +kernel) rfl
theorem rw_u_219 : Cond.fieldLink RX11 196 "WhatWasHers$Course" "debts" "[I" ∈ zU := zm 219 (by decide +kernel) rfl
theorem rw_u_303 : Cond.fieldLink RX11 199 "WhatWasHers$Sums" "thingsIn" "[I" ∈ zU := zm 303 (by decide +kernel) rfl
theorem rw_u_711 : Cond.code yX11_areNoPair cX11_areNoPair 2 (some .boolean) ∈ zU := zm 711 (by decide +kernel) rfl
theorem rw_u_709 : Cond.methodLink RX11 202 yX11_areNoPair ∈ zU := zm 709 (by decide +kernel) rfl
theorem rw_u_710 : Cond.static yX11_areNoPair ∈ zU := zm 710 (by decide +kernel) rfl
theorem rw_u_305 : Cond.fieldLink RX11 206 "WhatWasHers$Sums" "fedInto" "[J" ∈ zU := zm 305 (by decide +kernel) rfl
theorem rw_u_722 : Cond.methodLink RX11 233 Lib.MathLoose.abs_long.x ∈ zU := zm 722 (by decide +kernel) rfl
theorem rw_u_723 : Cond.static Lib.MathLoose.abs_long.x ∈ zU := zm 723 (by decide +kernel) rfl
theorem rw_u_724 : Cond.code Lib.MathLoose.abs_long.x Lib.MathLoose.abs_long.code 2 (some .long) ∈ zU := zm 724 (by decide +kernel) rfl
theorem rw_u_727 : Cond.code yX11_commonDivisor cX11_commonDivisor 11 (some .long) ∈ zU := zm 727 (by decide +kernel) rfl
theorem rw_u_725 : Cond.methodLink RX11 238 yX11_commonDivisor ∈ zU := zm 725 (by decide +kernel) rfl
theorem rw_u_726 : Cond.static yX11_commonDivisor ∈ zU := zm 726 (by decide +kernel) rfl
theorem rw_u_718 : Cond.code yX11_isNoPart cX11_isNoPart 1 (some .boolean) ∈ zU := zm 718 (by decide +kernel) rfl
theorem rw_u_716 : Cond.methodLink RX11 209 yX11_isNoPart ∈ zU := zm 716 (by decide +kernel) rfl
theorem rw_u_717 : Cond.static yX11_isNoPart ∈ zU := zm 717 (by decide +kernel) rfl
theorem rw_u_307 : Cond.fieldLink RX11 212 "WhatWasHers$Sums" "owedTop" "[J" ∈ zU := zm 307 (by decide +kernel) rfl
theorem rw_u_313 : Cond.fieldLink RX11 215 "WhatWasHers$Sums" "bottom" "J" ∈ zU := zm 313 (by decide +kernel) rfl
theorem rw_u_721 : Cond.code yX11_partOf cX11_partOf 7 (some .long) ∈ zU := zm 721 (by decide +kernel) rfl
theorem rw_u_719 : Cond.methodLink RX11 219 yX11_partOf ∈ zU := zm 719 (by decide +kernel) rfl
theorem rw_u_720 : Cond.static yX11_partOf ∈ zU := zm 720 (by decide +kernel) rfl
theorem rw_u_309 : Cond.fieldLink RX11 223 "WhatWasHers$Sums" "netTop" "[J" ∈ zU := zm 309 (by decide +kernel) rfl
theorem rw_u_311 : Cond.fieldLink RX11 226 "WhatWasHers$Sums" "endTop" "[J" ∈ zU := zm 311 (by decide +kernel) rfl
theorem rw_u_736 : Cond.methodLink RX11 229 yX8_endBottom ∈ zU := zm 736 (by decide +kernel) rfl
theorem rw_u_143 : Cond.fieldLink RX11 242 "WhatWasHers$Story" "laws" "I" ∈ zU := zm 143 (by decide +kernel) rfl
theorem rw_u_744 : Cond.constant RX11 245 (-1000000) ∈ zU := zm 744 (by decide +kernel) rfl
theorem rw_u_745 : Cond.methodLink RX11 246 yX2_moveTo ∈ zU := zm 745 (by decide +kernel) rfl
theorem rw_u_365 : Cond.fieldLink RX11 53 "WhatWasHers" "otherSums" "LWhatWasHers$Sums;" ∈ zU := zm 365 (by decide +kernel) rfl
theorem rw_u_753 : Cond.code yX8_herEndCut cX8_herEndCut 1 (some .long) ∈ zU := zm 753 (by decide +kernel) rfl
theorem rw_u_750 : Cond.methodLink RX11 249 yX8_herEndCut ∈ zU := zm 750 (by decide +kernel) rfl
theorem rw_u_751 : Cond.instanceMethod yX8_herEndCut ∈ zU := zm 751 (by decide +kernel) rfl
theorem rw_u_752 : Cond.selects RX8 yX8_herEndCut yX8_herEndCut ∈ zU := zm 752 (by decide +kernel) rfl
theorem rw_u_755 : Cond.constantLong RX11 252 (-1) ∈ zU := zm 755 (by decide +kernel) rfl
theorem rw_u_759 : Cond.code yX7_canBeLeftOut cX7_canBeLeftOut 3 (some .boolean) ∈ zU := zm 759 (by decide +kernel) rfl
theorem rw_u_756 : Cond.methodLink RX11 254 yX7_canBeLeftOut ∈ zU := zm 756 (by decide +kernel) rfl
theorem rw_u_757 : Cond.instanceMethod yX7_canBeLeftOut ∈ zU := zm 757 (by decide +kernel) rfl
theorem rw_u_758 : Cond.selects RX7 yX7_canBeLeftOut yX7_canBeLeftOut ∈ zU := zm 758 (by decide +kernel) rfl
theorem rw_u_763 : Cond.code yX11_herEndWithout cX11_herEndWithout 2 (some .long) ∈ zU := zm 763 (by decide +kernel) rfl
theorem rw_u_760 : Cond.methodLink RX11 257 yX11_herEndWithout ∈ zU := zm 760 (by decide +kernel) rfl
theorem rw_u_762 : Cond.instanceMethod yX11_herEndWithout ∈ zU := zm 762 (by decide +kernel) rfl
theorem rw_u_30 : Cond.selects RX11 yX11_herEndWithout yX11_herEndWithout ∈ zU := zm 30 (by decide +kernel) rfl
theorem rw_u_770 : Cond.code yX11_isNoWish cX11_isNoWish 1 (some .boolean) ∈ zU := zm 770 (by decide +kernel) rfl
theorem rw_u_768 : Cond.methodLink RX11 260 yX11_isNoWish ∈ zU := zm 768 (by decide +kernel) rfl
theorem rw_u_769 : Cond.static yX11_isNoWish ∈ zU := zm 769 (by decide +kernel) rfl
theorem rw_u_774 : Cond.code yX8_grants cX8_grants 3 (some .boolean) ∈ zU := zm 774 (by decide +kernel) rfl
theorem rw_u_771 : Cond.methodLink RX11 263 yX8_grants ∈ zU := zm 771 (by decide +kernel) rfl
theorem rw_u_772 : Cond.instanceMethod yX8_grants ∈ zU := zm 772 (by decide +kernel) rfl
theorem rw_u_773 : Cond.selects RX8 yX8_grants yX8_grants ∈ zU := zm 773 (by decide +kernel) rfl
theorem rw_u_216 : Cond.fieldLink RX11 268 "WhatWasHers$Course" "agreed" "[I" ∈ zU := zm 216 (by decide +kernel) rfl
theorem rw_u_775 : Cond.constantLong RX11 266 15 ∈ zU := zm 775 (by decide +kernel) rfl
theorem rw_u_366 : Cond.fieldLink RX11 59 "WhatWasHers" "left" "LWhatWasHers$Trace;" ∈ zU := zm 366 (by decide +kernel) rfl
theorem rw_u_344 : Cond.fieldLink RX11 290 "WhatWasHers$Trace" "length" "I" ∈ zU := zm 344 (by decide +kernel) rfl
theorem rw_u_342 : Cond.fieldLink RX11 291 "WhatWasHers$Trace" "numbers" "[I" ∈ zU := zm 342 (by decide +kernel) rfl
theorem rw_u_949 : Cond.code yX11_rowsThatAre cX11_rowsThatAre 3 (some .int) ∈ zU := zm 949 (by decide +kernel) rfl
theorem rw_u_946 : Cond.methodLink RX11 294 yX11_rowsThatAre ∈ zU := zm 946 (by decide +kernel) rfl
theorem rw_u_948 : Cond.instanceMethod yX11_rowsThatAre ∈ zU := zm 948 (by decide +kernel) rfl
theorem rw_u_32 : Cond.selects RX11 yX11_rowsThatAre yX11_rowsThatAre ∈ zU := zm 32 (by decide +kernel) rfl
theorem rw_u_246 : Cond.fieldLink RX11 298 "WhatWasHers$Course" "puts" "I" ∈ zU := zm 246 (by decide +kernel) rfl
theorem rw_u_214 : Cond.fieldLink RX11 301 "WhatWasHers$Course" "law" "I" ∈ zU := zm 214 (by decide +kernel) rfl
/-! WhatWasHers.isNoRow(I)Z -/
abbrev rmX11_isNoRow : Room := { frames := 0, cells := 0, slots := 0, locals := 0 }
def fX_isNoRow  (a0 : Int32) : Option (Bool) :=
  if a0 < 0 then (some (true)) else (if a0 < 8 then (some (false)) else (some (true)))
/-! WhatWasHers.found(I)J -/
abbrev rmX11_found : Room := { frames := 0, cells := 0, slots := 0, locals := 0 }
def fX_found (sX : zSt) (a0 : Int32) : Option (Int64 × zSt) :=
  zn (zsI sX 3 a0) fun sX1 => some (((-9000000000000000010) - (a0.toInt64)), sX1)
/-! WhatWasHers.fine(J)J -/
abbrev rmX11_fine : Room := { frames := 0, cells := 0, slots := 0, locals := 0 }
def fX_fine (sX : zSt) (a0 : Int64) : Option (Int64 × zSt) :=
  zn (zsI sX 3 0) fun sX1 => some (a0, sX1)
/-! WhatWasHers.row(III)J -/
abbrev rmX11_row : Room := { frames := 1, cells := 0, slots := 0, locals := 22 }
def fX_row_l53b (K53 : zSt → Int32 → Int32 → Int32 → Option (Int64 × zSt)) (sX : zSt) (x1 : Int32) (x3 : Int32) (x4 : Int32) : Option (Int64 × zSt) :=
  if x3 ≤ x4 then (Option.bind (fX_fine sX (x3.toInt64)) fun y4 => some (y4.1, y4.2)) else (zg (zix ((x1 * 40) + x4) 320) <| zn (zsA sX 2 ((x1 * 40) + x4).toNatClampNeg 0) fun sX5 => zn (x4 + 1 : Int32) fun x4_6 => K53 sX5 x1 x3 x4_6)
def fX_row_l53  : Nat → zSt → Int32 → Int32 → Int32 → Option (Int64 × zSt)
  | 0, _, _, _, _ => none
  | n + 1, v0, v1, v2, v3 => fX_row_l53b  (fun v0 v1 v2 v3 => fX_row_l53  n v0 v1 v2 v3) v0 v1 v2 v3
def fX_row (sX : zSt) (a0 : Int32) (a1 : Int32) (a2 : Int32) : Option (Int64 × zSt) :=
  Option.bind (fX_isNoRow a0) fun y1 => if y1 = true then (some ((-9000000000000000001), sX)) else (if a1 < 0 then (some ((-9000000000000000001), sX)) else (if 3 ≤ a1 then (some ((-9000000000000000001), sX)) else (if a2 ≤ 40 then (if 0 ≤ a2 then (zg (zix a0 8) <| zn (zsA sX 0 a0.toNatClampNeg a1) fun sX2 => zg (zix a0 8) <| zn (zsA sX2 1 a0.toNatClampNeg a2) fun sX3 => fX_row_l53  zF sX3 a0 a2 0) else (Option.bind (fX_found sX 4) fun y7 => some (y7.1, y7.2))) else (some ((-9000000000000000001), sX)))))
/-! WhatWasHers.isMissing(I)Z -/
abbrev rmX11_isMissing : Room := { frames := 0, cells := 0, slots := 0, locals := 0 }
def fX_isMissing (sX : zSt) (a0 : Int32) : Option (Bool) :=
  zg (zix a0 8) <| if (zA sX 1 a0.toNatClampNeg) = (-1) then (some (true)) else (some (false))
/-! WhatWasHers.lowestBits(II)I -/
abbrev rmX11_lowestBits : Room := { frames := 0, cells := 0, slots := 0, locals := 0 }
def fX_lowestBits  (a0 : Int32) (a1 : Int32) : Option (Int32) :=
  if a1 = 0 then (some ((a0.toInt8.toInt32))) else (if a1 = 1 then (some ((a0.toInt16.toInt32))) else (some (a0)))
/-! WhatWasHers.set(III)J -/
abbrev rmX11_set : Room := { frames := 1, cells := 0, slots := 0, locals := 22 }
def fX_set (sX : zSt) (a0 : Int32) (a1 : Int32) (a2 : Int32) : Option (Int64 × zSt) :=
  Option.bind (fX_isNoRow a0) fun y1 => if y1 = true then (some ((-9000000000000000001), sX)) else (Option.bind (fX_isMissing sX a0) fun y2 => if y2 = true then (Option.bind (fX_found sX 1) fun y8 => some (y8.1, y8.2)) else (if a1 < 0 then (Option.bind (fX_found sX 2) fun y3 => some (y3.1, y3.2)) else (zg (zix a0 8) <| if a1 < (zA sX 1 a0.toNatClampNeg) then (zg (zix a0 8) <| Option.bind (fX_lowestBits a2 (zA sX 0 a0.toNatClampNeg)) fun y4 => zg (zix ((a0 * 40) + a1) 320) <| zn (zsA sX 2 ((a0 * 40) + a1).toNatClampNeg y4) fun sX5 => Option.bind (fX_fine sX5 (y4.toInt64)) fun y6 => some (y6.1, y6.2)) else (Option.bind (fX_found sX 2) fun y7 => some (y7.1, y7.2)))))
/-! WhatWasHers.lacksItems(III)Z -/
abbrev rmX11_lacksItems : Room := { frames := 0, cells := 0, slots := 0, locals := 0 }
def fX_lacksItems (sX : zSt) (a0 : Int32) (a1 : Int32) (a2 : Int32) : Option (Bool) :=
  if a1 < 0 then (some (true)) else (if a2 < 0 then (some (true)) else (zg (zix a0 8) <| if ((a1.toInt64) + (a2.toInt64)) ≤ ((zA sX 1 a0.toNatClampNeg).toInt64) then (some (false)) else (some (true))))
/-! WhatWasHers.copy(IIIII)J -/
abbrev rmX11_copy : Room := { frames := 1, cells := 0, slots := 0, locals := 60 }
def fX_copy (sX : zSt) (a0 : Int32) (a1 : Int32) (a2 : Int32) (a3 : Int32) (a4 : Int32) : Option (Int64 × zSt) :=
  Option.bind (fX_isNoRow a0) fun y1 => if y1 = true then (some ((-9000000000000000001), sX)) else (Option.bind (fX_isNoRow a2) fun y2 => if y2 = true then (some ((-9000000000000000001), sX)) else (Option.bind (fX_isMissing sX a0) fun y3 => if y3 = true then (Option.bind (fX_found sX 1) fun y4 => some (y4.1, y4.2)) else (Option.bind (fX_isMissing sX a2) fun y5 => if y5 = true then (Option.bind (fX_found sX 1) fun y13 => some (y13.1, y13.2)) else (zg (zix a0 8) <| zg (zix a2 8) <| if (zA sX 0 a0.toNatClampNeg) = (zA sX 0 a2.toNatClampNeg) then (Option.bind (fX_lacksItems sX a0 a1 a4) fun y6 => if y6 = true then (Option.bind (fX_found sX 2) fun y7 => some (y7.1, y7.2)) else (Option.bind (fX_lacksItems sX a2 a3 a4) fun y8 => if y8 = true then (Option.bind (fX_found sX 2) fun y11 => some (y11.1, y11.2)) else (zg (zcp ((a0 * 40) + a1) ((a2 * 40) + a3) a4 320) <| zn (zsAf sX 2 (va_cpy (zA sX 2) (zA sX 2) ((a0 * 40) + a1).toNatClampNeg ((a2 * 40) + a3).toNatClampNeg a4.toNatClampNeg)) fun sX9 => Option.bind (fX_fine sX9 (a4.toInt64)) fun y10 => some (y10.1, y10.2)))) else (Option.bind (fX_found sX 5) fun y12 => some (y12.1, y12.2))))))
/-! WhatWasHers.drop(I)J -/
abbrev rmX11_drop : Room := { frames := 1, cells := 0, slots := 0, locals := 22 }
def fX_drop (sX : zSt) (a0 : Int32) : Option (Int64 × zSt) :=
  Option.bind (fX_isNoRow a0) fun y1 => if y1 = true then (some ((-9000000000000000001), sX)) else (Option.bind (fX_isMissing sX a0) fun y2 => if y2 = true then (Option.bind (fX_found sX 1) fun y6 => some (y6.1, y6.2)) else (zg (zix a0 8) <| zn ((zA sX 1 a0.toNatClampNeg) : Int32) fun x2_3 => zg (zix a0 8) <| zn (zsA sX 1 a0.toNatClampNeg (-1)) fun sX4 => Option.bind (fX_fine sX4 (x2_3.toInt64)) fun y5 => some (y5.1, y5.2)))
/-! WhatWasHers.feed(JI)J -/
abbrev rmX11_feed : Room := { frames := 1, cells := 0, slots := 0, locals := 21 }
def fX_feed_l39b (K39 : zSt → zSt → Int64 → Int32 → Option (Int64 × zSt)) (sX : zSt) (sR : zSt) (x1 : Int64) (x4 : Int32) : Option (Int64 × zSt) :=
  if x4 < 0 then (some (((zI sR 1).toInt64), sR)) else (Option.bind (fR_append sR ((((x1.toUInt64 >>> ((8 * x4).toInt64.toUInt64 &&& Int64.toUInt64 63)).toInt64).toInt32).toInt8.toInt32)) fun y2 => zn (x4 + (-1) : Int32) fun x4_3 => K39 sX y2 x1 x4_3)
def fX_feed_l39  : Nat → zSt → zSt → Int64 → Int32 → Option (Int64 × zSt)
  | 0, _, _, _, _ => none
  | n + 1, v0, v1, v2, v3 => fX_feed_l39b  (fun v0 v1 v2 v3 => fX_feed_l39  n v0 v1 v2 v3) v0 v1 v2 v3
def fX_feed (sX : zSt) (sR : zSt) (a0 : Int64) (a1 : Int32) : Option (Int64 × zSt) :=
  if a1 < 1 then (some ((-9000000000000000001), sR)) else (if a1 ≤ 8 then (if ((zI sR 1) + a1) ≤ 500 then (zn ((a1 - 1) : Int32) fun x4_1 => fX_feed_l39  zF sX sR a0 x4_1) else (some ((-9000000000000000003), sR))) else (some ((-9000000000000000001), sR)))
/-! WhatWasHers.life()J -/
abbrev rmX11_life : Room := { frames := 10, cells := 0, slots := 0, locals := 224 }
def fX_life (sX : zSt) (sR : zSt) (sS : zSt) (sP : zSt) (sC : zSt) (sU : zSt)  : Option (Int64 × zSt × zSt × zSt × zSt × zSt × zSt) :=
  Option.bind (fR_readInto sR sP) fun y1 => if (zI y1.1 2) = 0 then (zn (zsI sX 6 1) fun sX2 => Option.bind (fC_begin sC) fun y3 => Option.bind (fC_goThrough y3 y1.2 0 (zI y1.2 1)) fun y4 => Option.bind (fU_reckon sU y4 y1.2) fun y5 => some (((zI y1.2 1).toInt64), sX2, y1.1, y1.2, sS, y4, y5)) else (zn (zsI sX 5 (zI y1.1 2)) fun sX6 => some (((-9000000000000000100) - ((zI y1.1 3).toInt64)), sX6, y1.1, sS, y1.2, sC, sU))
/-! WhatWasHers.fault()I -/
abbrev rmX11_fault : Room := { frames := 0, cells := 0, slots := 0, locals := 0 }
def fX_fault (sX : zSt)  : Option (Int32) :=
  some ((zI sX 5))
/-! WhatWasHers.isNoThing(I)Z -/
abbrev rmX11_isNoThing : Room := { frames := 0, cells := 0, slots := 0, locals := 0 }
def fX_isNoThing (sX : zSt) (sC : zSt) (a0 : Int32) : Option (Bool) :=
  if a0 < 0 then (some (true)) else (if a0 < (zI sC 4) then (some (false)) else (some (true)))
/-! WhatWasHers.isNoDay(I)Z -/
abbrev rmX11_isNoDay : Room := { frames := 0, cells := 0, slots := 0, locals := 0 }
def fX_isNoDay  (a0 : Int32) : Option (Bool) :=
  if a0 < 0 then (some (true)) else (if a0 ≤ 999 then (some (false)) else (some (true)))
/-! WhatWasHers.whose(II)J -/
abbrev rmX11_whose : Room := { frames := 6, cells := 0, slots := 0, locals := 144 }
def fX_whose (sX : zSt) (sS : zSt) (sC : zSt) (sD : zSt) (a0 : Int32) (a1 : Int32) : Option (Int64 × zSt) :=
  Option.bind (fX_isNoThing sX sC a0) fun y1 => if y1 = true then (some ((-9000000000000000001), sD)) else (Option.bind (fX_isNoDay a1) fun y2 => if y2 = true then (some ((-9000000000000000001), sD)) else (Option.bind (fC_begin sD) fun y3 => Option.bind (fS_firstEventFrom sS (a1 + 1)) fun y4 => Option.bind (fC_goThrough y3 sS 0 y4) fun y5 => if (zI y5 4) ≤ a0 then (some ((-1000000), y5)) else (zg (zix a0 10) <| some (((zA y5 8 a0.toNatClampNeg).toInt64), y5))))
/-! WhatWasHers.thing(II)J -/
abbrev rmX11_thing : Room := { frames := 1, cells := 0, slots := 0, locals := 21 }
def fX_thing (sX : zSt) (sS : zSt) (sC : zSt) (a0 : Int32) (a1 : Int32) : Option (Int64) :=
  Option.bind (fX_isNoThing sX sC a0) fun y1 => if y1 = true then (some ((-9000000000000000001))) else (if a1 = 0 then (zg (zix a0 10) <| some (((zA sC 8 a0.toNatClampNeg).toInt64))) else (if a1 = 1 then (zg (zix a0 10) <| some (((zA sC 9 a0.toNatClampNeg).toInt64))) else (if a1 = 2 then (zg (zix a0 10) <| some (((zA sC 5 a0.toNatClampNeg).toInt64))) else (if a1 = 3 then (zg (zix a0 10) <| some (((zA sC 10 a0.toNatClampNeg).toInt64))) else (if a1 = 4 then (zg (zix a0 10) <| some (((zA sC 11 a0.toNatClampNeg).toInt64))) else (if a1 = 5 then (zg (zix a0 10) <| some (((zA sC 12 a0.toNatClampNeg).toInt64))) else (if a1 = 6 then (zg (zix a0 10) <| Option.bind (fS_way sS (zA sC 5 a0.toNatClampNeg)) fun y2 => some ((y2.toInt64))) else (some ((-9000000000000000001))))))))))
/-! WhatWasHers.isNoPurse(I)Z -/
abbrev rmX11_isNoPurse : Room := { frames := 0, cells := 0, slots := 0, locals := 0 }
def fX_isNoPurse  (a0 : Int32) : Option (Bool) :=
  if a0 < 0 then (some (true)) else (if a0 < 3 then (some (false)) else (some (true)))
/-! WhatWasHers.judge(II)J -/
abbrev rmX11_judge : Room := { frames := 1, cells := 0, slots := 0, locals := 23 }
def fX_judge_l108b (K108 : zSt → zSt → Int32 → Int32 → Option (Int64 × zSt)) (sX : zSt) (sC : zSt) (x3 : Int32) (x4 : Int32) : Option (Int64 × zSt) :=
  if (zI sC 4) ≤ x4 then (Option.bind (fX_fine sX (-1000000)) fun y5 => some (y5.1, y5.2)) else (zg (zix (x3 + x4) 320) <| zg (zix x4 10) <| if (zA sX 2 (x3 + x4).toNatClampNeg) = (zA sC 8 x4.toNatClampNeg) then (zn (x4 + 1 : Int32) fun x4_6 => K108 sX sC x3 x4_6) else (Option.bind (fX_fine sX (x4.toInt64)) fun y7 => some (y7.1, y7.2)))
def fX_judge_l108  : Nat → zSt → zSt → Int32 → Int32 → Option (Int64 × zSt)
  | 0, _, _, _, _ => none
  | n + 1, v0, v1, v2, v3 => fX_judge_l108b  (fun v0 v1 v2 v3 => fX_judge_l108  n v0 v1 v2 v3) v0 v1 v2 v3
def fX_judge_l68b (K68 : zSt → zSt → Int32 → Int32 → Option (Int64 × zSt)) (sX : zSt) (sC : zSt) (x3 : Int32) (x4 : Int32) : Option (Int64 × zSt) :=
  if (zI sC 4) ≤ x4 then (fX_judge_l108  zF sX sC x3 0) else (zg (zix (x3 + x4) 320) <| Option.bind (fX_isNoPurse (zA sX 2 (x3 + x4).toNatClampNeg)) fun y8 => if y8 = true then (some ((-9000000000000000001), sX)) else (zn (x4 + 1 : Int32) fun x4_9 => K68 sX sC x3 x4_9))
def fX_judge_l68  : Nat → zSt → zSt → Int32 → Int32 → Option (Int64 × zSt)
  | 0, _, _, _, _ => none
  | n + 1, v0, v1, v2, v3 => fX_judge_l68b  (fun v0 v1 v2 v3 => fX_judge_l68  n v0 v1 v2 v3) v0 v1 v2 v3
def fX_judge (sX : zSt) (sC : zSt) (a0 : Int32) (a1 : Int32) : Option (Int64 × zSt) :=
  Option.bind (fX_isNoRow a0) fun y1 => if y1 = true then (some ((-9000000000000000001), sX)) else (if (zI sX 6) = 0 then (some ((-9000000000000000002), sX)) else (Option.bind (fX_isMissing sX a0) fun y2 => if y2 = true then (Option.bind (fX_found sX 1) fun y11 => some (y11.1, y11.2)) else (Option.bind (fX_lacksItems sX a0 a1 (zI sC 4)) fun y3 => if y3 = true then (Option.bind (fX_found sX 2) fun y10 => some (y10.1, y10.2)) else (zn (((a0 * 40) + a1) : Int32) fun x3_4 => fX_judge_l68  zF sX sC x3_4 0))))
/-! WhatWasHers.purse(II)J -/
abbrev rmX11_purse : Room := { frames := 1, cells := 0, slots := 0, locals := 20 }
def fX_purse (sX : zSt) (sC : zSt) (sU : zSt) (a0 : Int32) (a1 : Int32) : Option (Int64) :=
  Option.bind (fX_isNoPurse a0) fun y1 => if y1 = true then (some ((-9000000000000000001))) else (if a1 = 0 then (zg (zix a0 3) <| some ((zL sU 0 a0.toNatClampNeg))) else (if a1 = 1 then (zg (zix a0 3) <| some ((zL sU 1 a0.toNatClampNeg))) else (if a1 = 2 then (zg (zix a0 3) <| some (((zA sC 3 a0.toNatClampNeg).toInt64))) else (if a1 = 3 then (zg (zix a0 3) <| some (((zA sU 2 a0.toNatClampNeg).toInt64))) else (some ((-9000000000000000001)))))))
/-! WhatWasHers.areNoPair(II)Z -/
abbrev rmX11_areNoPair : Room := { frames := 1, cells := 0, slots := 0, locals := 20 }
def fX_areNoPair  (a0 : Int32) (a1 : Int32) : Option (Bool) :=
  Option.bind (fX_isNoPurse a0) fun y1 => if y1 = true then (some (true)) else (Option.bind (fX_isNoPurse a1) fun y2 => if y2 = true then (some (true)) else (if a0 = a1 then (some (true)) else (some (false))))
/-! WhatWasHers.fed(II)J -/
abbrev rmX11_fed : Room := { frames := 2, cells := 0, slots := 0, locals := 41 }
def fX_fed (sX : zSt) (sU : zSt) (a0 : Int32) (a1 : Int32) : Option (Int64) :=
  Option.bind (fX_areNoPair a0 a1) fun y1 => if y1 = true then (some ((-9000000000000000001))) else (zg (zix ((a0 * 3) + a1) 9) <| some ((zL sU 3 ((a0 * 3) + a1).toNatClampNeg)))
/-! WhatWasHers.isNoPart(I)Z -/
abbrev rmX11_isNoPart : Room := { frames := 0, cells := 0, slots := 0, locals := 0 }
def fX_isNoPart  (a0 : Int32) : Option (Bool) :=
  if a0 < 0 then (some (true)) else (if a0 ≤ 1 then (some (false)) else (some (true)))
/-! WhatWasHers.commonDivisor(JJ)J -/
abbrev rmX11_commonDivisor : Room := { frames := 0, cells := 0, slots := 0, locals := 0 }
def fX_commonDivisor_l9b (K9 : Int64 → Int64 → Int32 → Option (Int64))  (x4 : Int64) (x6 : Int64) (x8 : Int32) : Option (Int64) :=
  if 128 ≤ x8 then (some (x4)) else (if x6 = 0 then (some (x4)) else (zg (zlz x6) <| zn ((x4 - x4 / x6 * x6) : Int64) fun x9_1 => zn (x8 + 1 : Int32) fun x8_2 => K9 x6 x9_1 x8_2))
def fX_commonDivisor_l9  : Nat → Int64 → Int64 → Int32 → Option (Int64)
  | 0, _, _, _ => none
  | n + 1, v0, v1, v2 => fX_commonDivisor_l9b  (fun v0 v1 v2 => fX_commonDivisor_l9  n v0 v1 v2) v0 v1 v2
def fX_commonDivisor  (a0 : Int64) (a1 : Int64) : Option (Int64) :=
  fX_commonDivisor_l9  zF a0 a1 0
/-! WhatWasHers.partOf(JJI)J -/
abbrev rmX11_partOf : Room := { frames := 1, cells := 0, slots := 0, locals := 30 }
def fX_partOf  (a0 : Int64) (a1 : Int64) (a2 : Int32) : Option (Int64) :=
  Option.bind (fX_commonDivisor (if 0 < a0 then a0 else -a0) a1) fun y1 => if 0 < y1 then (if a2 = 0 then (zg (zlz y1) <| some ((a0 / y1))) else (zg (zlz y1) <| some ((a1 / y1)))) else (some ((a2.toInt64)))
/-! WhatWasHers.owed(III)J -/
abbrev rmX11_owed : Room := { frames := 2, cells := 0, slots := 0, locals := 56 }
def fX_owed (sX : zSt) (sU : zSt) (a0 : Int32) (a1 : Int32) (a2 : Int32) : Option (Int64) :=
  Option.bind (fX_areNoPair a0 a1) fun y1 => if y1 = true then (some ((-9000000000000000001))) else (Option.bind (fX_isNoPart a2) fun y2 => if y2 = true then (some ((-9000000000000000001))) else (if (zI sX 6) = 0 then (some ((-9000000000000000002))) else (zg (zix ((a0 * 3) + a1) 9) <| Option.bind (fX_partOf (zL sU 4 ((a0 * 3) + a1).toNatClampNeg) (zJ sU 7) a2) fun y3 => some (y3))))
/-! WhatWasHers.net(II)J -/
abbrev rmX11_net : Room := { frames := 2, cells := 0, slots := 0, locals := 56 }
def fX_net (sX : zSt) (sU : zSt) (a0 : Int32) (a1 : Int32) : Option (Int64) :=
  Option.bind (fX_isNoPurse a0) fun y1 => if y1 = true then (some ((-9000000000000000001))) else (Option.bind (fX_isNoPart a1) fun y2 => if y2 = true then (some ((-9000000000000000001))) else (if (zI sX 6) = 0 then (some ((-9000000000000000002))) else (zg (zix a0 3) <| Option.bind (fX_partOf (zL sU 5 a0.toNatClampNeg) (zJ sU 7) a1) fun y3 => some (y3))))
/-! WhatWasHers.end(II)J -/
abbrev rmX11_end : Room := { frames := 2, cells := 0, slots := 0, locals := 56 }
def fX_end (sX : zSt) (sU : zSt) (a0 : Int32) (a1 : Int32) : Option (Int64) :=
  if a0 < 0 then (some ((-9000000000000000001))) else (if 1 < a0 then (some ((-9000000000000000001))) else (Option.bind (fX_isNoPart a1) fun y1 => if y1 = true then (some ((-9000000000000000001))) else (if (zI sX 6) = 0 then (some ((-9000000000000000002))) else (zg (zix a0 2) <| Option.bind (fU_endBottom sU) fun y2 => Option.bind (fX_partOf (zL sU 6 a0.toNatClampNeg) y2 a1) fun y3 => some (y3)))))
/-! WhatWasHers.beside(III)J -/
abbrev rmX11_beside : Room := { frames := 6, cells := 0, slots := 0, locals := 144 }
def fX_beside (sX : zSt) (sS : zSt) (sD : zSt) (sV : zSt) (a0 : Int32) (a1 : Int32) (a2 : Int32) : Option (Int64 × zSt × zSt) :=
  if (zI sX 6) = 0 then (some ((-9000000000000000002), sD, sV)) else (if a0 < 0 then (some ((-9000000000000000001), sD, sV)) else (if (zI sS 0) ≤ a0 then (some ((-9000000000000000001), sD, sV)) else (Option.bind (fX_isNoDay a1) fun y1 => if y1 = true then (some ((-9000000000000000001), sD, sV)) else (Option.bind (fX_isNoPart a2) fun y2 => if y2 = true then (some ((-9000000000000000001), sD, sV)) else (Option.bind (fS_firstEventFrom sS a1) fun y3 => Option.bind (fC_begin sD) fun y4 => Option.bind (fC_goThrough y4 sS 0 y3) fun y5 => Option.bind (fC_moveTo y5 sS a0 (-1000000)) fun y6 => Option.bind (fC_goThrough y6 sS y3 (zI sS 1)) fun y7 => Option.bind (fU_reckon sV y7 sS) fun y8 => zg (zix 0 2) <| Option.bind (fU_endBottom y8) fun y9 => Option.bind (fX_partOf (zL y8 6 (0 : Int32).toNatClampNeg) y9 a2) fun y10 => some (y10, y7, y8))))))
/-! WhatWasHers.herEndWithout(I)J -/
abbrev rmX11_herEndWithout : Room := { frames := 6, cells := 0, slots := 0, locals := 144 }
def fX_herEndWithout (sX : zSt) (sS : zSt) (sU : zSt) (sD : zSt) (sV : zSt) (a0 : Int32) : Option (Int64 × zSt × zSt) :=
  Option.bind (fC_begin sD) fun y1 => Option.bind (fC_goThrough y1 sS 0 a0) fun y2 => Option.bind (fC_goThrough y2 sS (a0 + 1) (zI sS 1)) fun y3 => Option.bind (fU_reckon sV y3 sS) fun y4 => Option.bind (fU_herEndCut y4) fun y5 => some (y5, y3, y4)
/-! WhatWasHers.hangs()J -/
abbrev rmX11_hangs : Room := { frames := 7, cells := 0, slots := 0, locals := 165 }
def fX_hangs_l30b (K30 : zSt → zSt → zSt → zSt → zSt → Int64 → Int64 → Int32 → Int32 → Option (Int64 × zSt × zSt)) (sX : zSt) (sS : zSt) (sU : zSt) (sD : zSt) (sV : zSt) (x1 : Int64) (x3 : Int64) (x5 : Int32) (x6 : Int32) : Option (Int64 × zSt × zSt) :=
  if (zI sS 1) ≤ x6 then (some ((x5.toInt64), sD, sV)) else (Option.bind (fS_canBeLeftOut sS x6) fun y2 => if y2 = true then (Option.bind (fX_herEndWithout sX sS sU sD sV x6) fun y4 => zn ((if 0 < (y4.1 - x1) then (y4.1 - x1) else -(y4.1 - x1)) : Int64) fun x7_6 => if x7_6 ≤ x3 then (zn (x6 + 1 : Int32) fun x6_7 => K30 sX sS sU y4.2.1 y4.2.2 x1 x3 x5 x6_7) else (zn (x6 + 1 : Int32) fun x6_8 => K30 sX sS sU y4.2.1 y4.2.2 x1 x7_6 x6 x6_8)) else (zn (x6 + 1 : Int32) fun x6_3 => K30 sX sS sU sD sV x1 x3 x5 x6_3))
def fX_hangs_l30  : Nat → zSt → zSt → zSt → zSt → zSt → Int64 → Int64 → Int32 → Int32 → Option (Int64 × zSt × zSt)
  | 0, _, _, _, _, _, _, _, _, _ => none
  | n + 1, v0, v1, v2, v3, v4, v5, v6, v7, v8 => fX_hangs_l30b  (fun v0 v1 v2 v3 v4 v5 v6 v7 v8 => fX_hangs_l30  n v0 v1 v2 v3 v4 v5 v6 v7 v8) v0 v1 v2 v3 v4 v5 v6 v7 v8
def fX_hangs (sX : zSt) (sS : zSt) (sU : zSt) (sD : zSt) (sV : zSt)  : Option (Int64 × zSt × zSt) :=
  if (zI sX 6) = 0 then (some ((-9000000000000000002), sD, sV)) else (Option.bind (fU_herEndCut sU) fun y1 => fX_hangs_l30  zF sX sS sU sD sV y1 (-1) (-1000000) 0)
/-! WhatWasHers.isNoWish(I)Z -/
abbrev rmX11_isNoWish : Room := { frames := 0, cells := 0, slots := 0, locals := 0 }
def fX_isNoWish  (a0 : Int32) : Option (Bool) :=
  if a0 < (-9999) then (some (true)) else (if a0 ≤ 9999 then (some (false)) else (some (true)))
/-! WhatWasHers.beforehand(II)J -/
abbrev rmX11_beforehand : Room := { frames := 6, cells := 0, slots := 0, locals := 144 }
def fX_beforehand_l55b (K47 : zSt → zSt → zSt → zSt → zSt → Int32 → Int32 → Int32 → Option (Int64 × zSt × zSt)) (K55 : zSt → zSt → zSt → zSt → zSt → Int32 → Int32 → Int32 → Int32 → Option (Int64 × zSt × zSt)) (sX : zSt) (sS : zSt) (sU : zSt) (sD : zSt) (sV : zSt) (x1 : Int32) (x2 : Int32) (x3 : Int32) (x4 : Int32) : Option (Int64 × zSt × zSt) :=
  if 3 ≤ x4 then (zn (x3 + 1 : Int32) fun x3_4 => K47 sX sS sU sD sV x1 x2 x3_4) else (Option.bind (fC_begin sD) fun y5 => zg (zix x3 5) <| zn (zsA y5 2 x3.toNatClampNeg x4) fun sD6 => Option.bind (fC_goThrough sD6 sS 0 (zI sS 1)) fun y7 => Option.bind (fU_reckon sV y7 sS) fun y8 => Option.bind (fU_grants y8 x1 x2) fun y9 => if y9 = true then (some ((((x3 * 3) + x4).toInt64), y7, y8)) else (zn (x4 + 1 : Int32) fun x4_10 => K55 sX sS sU y7 y8 x1 x2 x3 x4_10))
def fX_beforehand_l55 (K47 : zSt → zSt → zSt → zSt → zSt → Int32 → Int32 → Int32 → Option (Int64 × zSt × zSt)) : Nat → zSt → zSt → zSt → zSt → zSt → Int32 → Int32 → Int32 → Int32 → Option (Int64 × zSt × zSt)
  | 0, _, _, _, _, _, _, _, _, _ => none
  | n + 1, v0, v1, v2, v3, v4, v5, v6, v7, v8 => fX_beforehand_l55b K47 (fun v0 v1 v2 v3 v4 v5 v6 v7 v8 => fX_beforehand_l55 K47 n v0 v1 v2 v3 v4 v5 v6 v7 v8) v0 v1 v2 v3 v4 v5 v6 v7 v8
def fX_beforehand_l47b (K47 : zSt → zSt → zSt → zSt → zSt → Int32 → Int32 → Int32 → Option (Int64 × zSt × zSt)) (sX : zSt) (sS : zSt) (sU : zSt) (sD : zSt) (sV : zSt) (x1 : Int32) (x2 : Int32) (x3 : Int32) : Option (Int64 × zSt × zSt) :=
  if 5 ≤ x3 then (some ((-1000000), sD, sV)) else (fX_beforehand_l55 K47 zF sX sS sU sD sV x1 x2 x3 0)
def fX_beforehand_l47  : Nat → zSt → zSt → zSt → zSt → zSt → Int32 → Int32 → Int32 → Option (Int64 × zSt × zSt)
  | 0, _, _, _, _, _, _, _, _ => none
  | n + 1, v0, v1, v2, v3, v4, v5, v6, v7 => fX_beforehand_l47b  (fun v0 v1 v2 v3 v4 v5 v6 v7 => fX_beforehand_l47  n v0 v1 v2 v3 v4 v5 v6 v7) v0 v1 v2 v3 v4 v5 v6 v7
def fX_beforehand (sX : zSt) (sS : zSt) (sU : zSt) (sD : zSt) (sV : zSt) (a0 : Int32) (a1 : Int32) : Option (Int64 × zSt × zSt) :=
  Option.bind (fX_isNoWish a0) fun y1 => if y1 = true then (some ((-9000000000000000001), sD, sV)) else (Option.bind (fX_isNoWish a1) fun y2 => if y2 = true then (some ((-9000000000000000001), sD, sV)) else (if (zI sX 6) = 0 then (some ((-9000000000000000002), sD, sV)) else (Option.bind (fU_grants sU a0 a1) fun y3 => if y3 = true then (some (15, sD, sV)) else (fX_beforehand_l47  zF sX sS sU sD sV a0 a1 0))))
/-! WhatWasHers.trace(I)I -/
abbrev rmX11_trace : Room := { frames := 0, cells := 0, slots := 0, locals := 0 }
def fX_trace (sX : zSt) (sT : zSt) (a0 : Int32) : Option (Int32) :=
  if a0 < 0 then (some ((-1000000))) else (if (zI sT 1) ≤ a0 then (some ((-1000000))) else (zg (zix a0 16) <| some ((zA sT 0 a0.toNatClampNeg))))
/-! WhatWasHers.rowsThatAre()I -/
abbrev rmX11_rowsThatAre : Room := { frames := 1, cells := 0, slots := 0, locals := 21 }
def fX_rowsThatAre_l4b (K4 : zSt → Int32 → Int32 → Option (Int32)) (sX : zSt) (x1 : Int32) (x2 : Int32) : Option (Int32) :=
  if 8 ≤ x2 then (some (x1)) else (Option.bind (fX_isMissing sX x2) fun y1 => if y1 = true then (zn (x2 + 1 : Int32) fun x2_2 => K4 sX x1 x2_2) else (zn (x1 + 1 : Int32) fun x1_3 => zn (x2 + 1 : Int32) fun x2_4 => K4 sX x1_3 x2_4))
def fX_rowsThatAre_l4  : Nat → zSt → Int32 → Int32 → Option (Int32)
  | 0, _, _, _ => none
  | n + 1, v0, v1, v2 => fX_rowsThatAre_l4b  (fun v0 v1 v2 => fX_rowsThatAre_l4  n v0 v1 v2) v0 v1 v2
def fX_rowsThatAre (sX : zSt)  : Option (Int32) :=
  fX_rowsThatAre_l4  zF sX 0 0
/-! WhatWasHers.count(I)J -/
abbrev rmX11_count : Room := { frames := 2, cells := 0, slots := 0, locals := 43 }
def fX_count (sX : zSt) (sR : zSt) (sS : zSt) (sC : zSt) (a0 : Int32) : Option (Int64) :=
  if a0 = 0 then (Option.bind (fX_rowsThatAre sX) fun y1 => some ((y1.toInt64))) else (if a0 = 1 then (some (((zI sS 0).toInt64))) else (if a0 = 2 then (some (((zI sS 1).toInt64))) else (if a0 = 3 then (some (((zI sC 4).toInt64))) else (if a0 = 4 then (some (((zI sC 13).toInt64))) else (if a0 = 5 then (some (((zI sR 1).toInt64))) else (if a0 = 6 then (if (zI sX 6) = 0 then (some ((-1000000))) else (some (((zI sC 1).toInt64)))) else (some ((-9000000000000000001)))))))))
/-! WhatWasHers.status()I -/
abbrev rmX11_status : Room := { frames := 0, cells := 0, slots := 0, locals := 0 }
def fX_status (sX : zSt)  : Option (Int32) :=
  some ((zI sX 3))
theorem rw_p_X11_100_X_X {x : zX} {G : zG} {ce sl pc : Nat} {lv : List (Nat × Value)} {st : List Value} {cc : ByteArray} {nL : Nat} {ret : Option FieldType} {rm : Room} {qX kR kS kP kC kU kD kV kT : Nat → Nat} {sX : zSt} {v : Int32} {α : Type} {o : α} {kk : zSt → Option α} (C : zC x G RX11 cc nL ret rm) (hd : decode cc pc = .ok (.putfield 100, 3)) (h : zn (zsI sX 3 v) kk = some o) (K : ∀ s' : zSt, kk s' = some o → zW x G ce sl (pc + 3) lv st (wdX G qX kR kS kP kC kU kD kV kT s')) : zW x G ce sl pc lv (.int v :: .ref (qX 0) :: st) (wdX G qX kR kS kP kC kU kD kV kT sX) := z_put C (Cn := RX11) (T := TX11) (N := 14) (ci := 10) (k := 3) (ty := .int) (w' := wdX G qX kR kS kP kC kU kD kV kT (zsI sX 3 v)) inzX11 tyX11 tyX11_ok nmX11 rfl (by decide) rw_u_356 (fun _ h => h) rfl 0 rfl (by decide +kernel) rfl rfl (Nat.le_of_ble_eq_true rfl) rfl hd (K _ h)
theorem rw_c_X11_69 {x : zX} {G : zG} {ce sl pc : Nat} {lv : List (Nat × Value)} {cc : ByteArray} {nL : Nat} {ret : Option FieldType} {rm : Room} {w w1 : va_W} {rest : List Value} {r : Option Value} {a0 : Int32} (C : zC x G RX11 cc nL ret rm) (hc : Ct (xl x) G yX11_isNoRow cX11_isNoRow 1 (some .boolean) rmX11_isNoRow [.int a0] w r w1) (hd : decode cc pc = .ok (.invokestatic 69, 3)) (hcat : (rest.map fun v => v.category).sum ≤ 8) (hrm : zRm rm rmX11_isNoRow 1 ce sl) (K : zW x G (ce + rmX11_isNoRow.cells) (sl + rmX11_isNoRow.slots) (pc + 3) lv (r.toList ++ rest) w1) : zW x G ce sl pc lv (.int a0 :: rest) w := z_callS C 1 rw_u_402 rw_u_71 rw_u_400 rw_u_401 ⟨by decide, by decide, by decide +kernel⟩ hc rfl hd hcat hrm K
theorem rw_g_X11_9_X_X {x : zX} {G : zG} {ce sl pc : Nat} {lv : List (Nat × Value)} {st : List Value} {cc : ByteArray} {nL : Nat} {ret : Option FieldType} {rm : Room} {qX kR kS kP kC kU kD kV kT : Nat → Nat} {sX : zSt} (C : zC x G RX11 cc nL ret rm) (hd : decode cc pc = .ok (.getfield 9, 3)) (K : zW x G ce sl (pc + 3) lv (.ref (qX 1) :: st) (wdX G qX kR kS kP kC kU kD kV kT sX)) : zW x G ce sl pc lv (.ref (qX 0) :: st) (wdX G qX kR kS kP kC kU kD kV kT sX) := z_get C (Cn := RX11) (T := TX11) (N := 14) (ci := 10) (k := 0) inzX11 rfl (by decide) rw_u_353 (fun _ h => h) 0 rfl rfl hd K
theorem rw_s_X_X_0 {x : zX} {G : zG} {ce sl pc : Nat} {lv : List (Nat × Value)} {st : List Value} {cc : ByteArray} {nL : Nat} {ret : Option FieldType} {rm : Room} {own : String} {qX kR kS kP kC kU kD kV kT : Nat → Nat} {sX : zSt} {i : Int32} {v : Int32} {α : Type} {o : α} {kk : zSt → Option α} (C : zC x G own cc nL ret rm) (hd : decode cc pc = .ok (.iastore, 1)) (h : zg (zix i 8) (zn (zsA sX 0 i.toNatClampNeg v) kk) = some o) (K : ∀ s' : zSt, kk s' = some o → zW x G ce sl (pc + 1) lv st (wdX G qX kR kS kP kC kU kD kV kT s')) : zW x G ce sl pc lv (.int v :: .int i :: .ref (qX 1) :: st) (wdX G qX kR kS kP kC kU kD kV kT sX) := z_iast C (w' := wdX G qX kR kS kP kC kU kD kV kT (zsA sX 0 i.toNatClampNeg v)) 1 rfl rfl hd h (fun h => K _ h)
theorem rw_g_X11_13_X_X {x : zX} {G : zG} {ce sl pc : Nat} {lv : List (Nat × Value)} {st : List Value} {cc : ByteArray} {nL : Nat} {ret : Option FieldType} {rm : Room} {qX kR kS kP kC kU kD kV kT : Nat → Nat} {sX : zSt} (C : zC x G RX11 cc nL ret rm) (hd : decode cc pc = .ok (.getfield 13, 3)) (K : zW x G ce sl (pc + 3) lv (.ref (qX 2) :: st) (wdX G qX kR kS kP kC kU kD kV kT sX)) : zW x G ce sl pc lv (.ref (qX 0) :: st) (wdX G qX kR kS kP kC kU kD kV kT sX) := z_get C (Cn := RX11) (T := TX11) (N := 14) (ci := 10) (k := 1) inzX11 rfl (by decide) rw_u_354 (fun _ h => h) 0 rfl rfl hd K
theorem rw_s_X_X_1 {x : zX} {G : zG} {ce sl pc : Nat} {lv : List (Nat × Value)} {st : List Value} {cc : ByteArray} {nL : Nat} {ret : Option FieldType} {rm : Room} {own : String} {qX kR kS kP kC kU kD kV kT : Nat → Nat} {sX : zSt} {i : Int32} {v : Int32} {α : Type} {o : α} {kk : zSt → Option α} (C : zC x G own cc nL ret rm) (hd : decode cc pc = .ok (.iastore, 1)) (h : zg (zix i 8) (zn (zsA sX 1 i.toNatClampNeg v) kk) = some o) (K : ∀ s' : zSt, kk s' = some o → zW x G ce sl (pc + 1) lv st (wdX G qX kR kS kP kC kU kD kV kT s')) : zW x G ce sl pc lv (.int v :: .int i :: .ref (qX 2) :: st) (wdX G qX kR kS kP kC kU kD kV kT sX) := z_iast C (w' := wdX G qX kR kS kP kC kU kD kV kT (zsA sX 1 i.toNatClampNeg v)) 2 rfl rfl hd h (fun h => K _ h)
theorem rw_c_X11_79 {x : zX} {G : zG} {ce sl pc : Nat} {lv : List (Nat × Value)} {cc : ByteArray} {nL : Nat} {ret : Option FieldType} {rm : Room} {w w1 : va_W} {rest : List Value} {r : Option Value} {a0 : Int64} {b : Nat} {fs : List Value} (C : zC x G RX11 cc nL ret rm) (hc : Ct (xl x) G yX11_fine cX11_fine 3 (some .long) rmX11_fine [.ref b, .long a0] w r w1) (q0 : Nat) (he : w[q0]? = some (b, .inr (10, fs))) (hd : decode cc pc = .ok (.invokevirtual 79, 3)) (hcat : (rest.map fun v => v.category).sum ≤ 8) (hrm : zRm rm rmX11_fine 3 ce sl) (K : zW x G (ce + rmX11_fine.cells) (sl + rmX11_fine.slots) (pc + 3) lv (r.toList ++ rest) w1) : zW x G ce sl pc lv (.long a0 :: .ref b :: rest) w := z_callV C 1 rw_u_412 rw_u_71 rw_u_409 rw_u_411 rw_u_1 ⟨by decide, by decide, by decide +kernel⟩ (T := TX11) (N := 14) rfl hc rfl q0 he hd hcat hrm K
theorem rw_g_X11_16_X_X {x : zX} {G : zG} {ce sl pc : Nat} {lv : List (Nat × Value)} {st : List Value} {cc : ByteArray} {nL : Nat} {ret : Option FieldType} {rm : Room} {qX kR kS kP kC kU kD kV kT : Nat → Nat} {sX : zSt} (C : zC x G RX11 cc nL ret rm) (hd : decode cc pc = .ok (.getfield 16, 3)) (K : zW x G ce sl (pc + 3) lv (.ref (qX 3) :: st) (wdX G qX kR kS kP kC kU kD kV kT sX)) : zW x G ce sl pc lv (.ref (qX 0) :: st) (wdX G qX kR kS kP kC kU kD kV kT sX) := z_get C (Cn := RX11) (T := TX11) (N := 14) (ci := 10) (k := 2) inzX11 rfl (by decide) rw_u_355 (fun _ h => h) 0 rfl rfl hd K
theorem rw_s_X_X_2 {x : zX} {G : zG} {ce sl pc : Nat} {lv : List (Nat × Value)} {st : List Value} {cc : ByteArray} {nL : Nat} {ret : Option FieldType} {rm : Room} {own : String} {qX kR kS kP kC kU kD kV kT : Nat → Nat} {sX : zSt} {i : Int32} {v : Int32} {α : Type} {o : α} {kk : zSt → Option α} (C : zC x G own cc nL ret rm) (hd : decode cc pc = .ok (.iastore, 1)) (h : zg (zix i 320) (zn (zsA sX 2 i.toNatClampNeg v) kk) = some o) (K : ∀ s' : zSt, kk s' = some o → zW x G ce sl (pc + 1) lv st (wdX G qX kR kS kP kC kU kD kV kT s')) : zW x G ce sl pc lv (.int v :: .int i :: .ref (qX 3) :: st) (wdX G qX kR kS kP kC kU kD kV kT sX) := z_iast C (w' := wdX G qX kR kS kP kC kU kD kV kT (zsA sX 2 i.toNatClampNeg v)) 3 rfl rfl hd h (fun h => K _ h)
theorem rw_c_X11_75 {x : zX} {G : zG} {ce sl pc : Nat} {lv : List (Nat × Value)} {cc : ByteArray} {nL : Nat} {ret : Option FieldType} {rm : Room} {w w1 : va_W} {rest : List Value} {r : Option Value} {a0 : Int32} {b : Nat} {fs : List Value} (C : zC x G RX11 cc nL ret rm) (hc : Ct (xl x) G yX11_found cX11_found 2 (some .long) rmX11_found [.ref b, .int a0] w r w1) (q0 : Nat) (he : w[q0]? = some (b, .inr (10, fs))) (hd : decode cc pc = .ok (.invokevirtual 75, 3)) (hcat : (rest.map fun v => v.category).sum ≤ 8) (hrm : zRm rm rmX11_found 2 ce sl) (K : zW x G (ce + rmX11_found.cells) (sl + rmX11_found.slots) (pc + 3) lv (r.toList ++ rest) w1) : zW x G ce sl pc lv (.int a0 :: .ref b :: rest) w := z_callV C 1 rw_u_407 rw_u_71 rw_u_404 rw_u_406 rw_u_0 ⟨by decide, by decide, by decide +kernel⟩ (T := TX11) (N := 14) rfl hc rfl q0 he hd hcat hrm K
theorem rw_l_X_X_1 {x : zX} {G : zG} {ce sl pc : Nat} {lv : List (Nat × Value)} {st : List Value} {cc : ByteArray} {nL : Nat} {ret : Option FieldType} {rm : Room} {own : String} {qX kR kS kP kC kU kD kV kT : Nat → Nat} {sX : zSt} {i : Int32} {α : Type} {o : α} {kk : Option α} (C : zC x G own cc nL ret rm) (hd : decode cc pc = .ok (.iaload, 1)) (h : zg (zix i 8) kk = some o) (K : kk = some o → zW x G ce sl (pc + 1) lv (.int (zA sX 1 i.toNatClampNeg) :: st) (wdX G qX kR kS kP kC kU kD kV kT sX)) : zW x G ce sl pc lv (.int i :: .ref (qX 2) :: st) (wdX G qX kR kS kP kC kU kD kV kT sX) := z_iald C 2 rfl hd h K
theorem rw_c_X11_83 {x : zX} {G : zG} {ce sl pc : Nat} {lv : List (Nat × Value)} {cc : ByteArray} {nL : Nat} {ret : Option FieldType} {rm : Room} {w w1 : va_W} {rest : List Value} {r : Option Value} {a0 : Int32} {b : Nat} {fs : List Value} (C : zC x G RX11 cc nL ret rm) (hc : Ct (xl x) G yX11_isMissing cX11_isMissing 2 (some .boolean) rmX11_isMissing [.ref b, .int a0] w r w1) (q0 : Nat) (he : w[q0]? = some (b, .inr (10, fs))) (hd : decode cc pc = .ok (.invokevirtual 83, 3)) (hcat : (rest.map fun v => v.category).sum ≤ 8) (hrm : zRm rm rmX11_isMissing 2 ce sl) (K : zW x G (ce + rmX11_isMissing.cells) (sl + rmX11_isMissing.slots) (pc + 3) lv (r.toList ++ rest) w1) : zW x G ce sl pc lv (.int a0 :: .ref b :: rest) w := z_callV C 1 rw_u_420 rw_u_71 rw_u_417 rw_u_419 rw_u_2 ⟨by decide, by decide, by decide +kernel⟩ (T := TX11) (N := 14) rfl hc rfl q0 he hd hcat hrm K
theorem rw_l_X_X_0 {x : zX} {G : zG} {ce sl pc : Nat} {lv : List (Nat × Value)} {st : List Value} {cc : ByteArray} {nL : Nat} {ret : Option FieldType} {rm : Room} {own : String} {qX kR kS kP kC kU kD kV kT : Nat → Nat} {sX : zSt} {i : Int32} {α : Type} {o : α} {kk : Option α} (C : zC x G own cc nL ret rm) (hd : decode cc pc = .ok (.iaload, 1)) (h : zg (zix i 8) kk = some o) (K : kk = some o → zW x G ce sl (pc + 1) lv (.int (zA sX 0 i.toNatClampNeg) :: st) (wdX G qX kR kS kP kC kU kD kV kT sX)) : zW x G ce sl pc lv (.int i :: .ref (qX 1) :: st) (wdX G qX kR kS kP kC kU kD kV kT sX) := z_iald C 1 rfl hd h K
theorem rw_c_X11_86 {x : zX} {G : zG} {ce sl pc : Nat} {lv : List (Nat × Value)} {cc : ByteArray} {nL : Nat} {ret : Option FieldType} {rm : Room} {w w1 : va_W} {rest : List Value} {r : Option Value} {a0 : Int32} {a1 : Int32} (C : zC x G RX11 cc nL ret rm) (hc : Ct (xl x) G yX11_lowestBits cX11_lowestBits 2 (some .int) rmX11_lowestBits [.int a0, .int a1] w r w1) (hd : decode cc pc = .ok (.invokestatic 86, 3)) (hcat : (rest.map fun v => v.category).sum ≤ 8) (hrm : zRm rm rmX11_lowestBits 2 ce sl) (K : zW x G (ce + rmX11_lowestBits.cells) (sl + rmX11_lowestBits.slots) (pc + 3) lv (r.toList ++ rest) w1) : zW x G ce sl pc lv (.int a1 :: .int a0 :: rest) w := z_callS C 2 rw_u_423 rw_u_71 rw_u_421 rw_u_422 ⟨by decide, by decide, by decide +kernel⟩ hc rfl hd hcat hrm K
theorem rw_c_X11_90 {x : zX} {G : zG} {ce sl pc : Nat} {lv : List (Nat × Value)} {cc : ByteArray} {nL : Nat} {ret : Option FieldType} {rm : Room} {w w1 : va_W} {rest : List Value} {r : Option Value} {a0 : Int32} {a1 : Int32} {a2 : Int32} {b : Nat} {fs : List Value} (C : zC x G RX11 cc nL ret rm) (hc : Ct (xl x) G yX11_lacksItems cX11_lacksItems 4 (some .boolean) rmX11_lacksItems [.ref b, .int a0, .int a1, .int a2] w r w1) (q0 : Nat) (he : w[q0]? = some (b, .inr (10, fs))) (hd : decode cc pc = .ok (.invokevirtual 90, 3)) (hcat : (rest.map fun v => v.category).sum ≤ 8) (hrm : zRm rm rmX11_lacksItems 4 ce sl) (K : zW x G (ce + rmX11_lacksItems.cells) (sl + rmX11_lacksItems.slots) (pc + 3) lv (r.toList ++ rest) w1) : zW x G ce sl pc lv (.int a2 :: .int a1 :: .int a0 :: .ref b :: rest) w := z_callV C 3 rw_u_431 rw_u_71 rw_u_428 rw_u_430 rw_u_3 ⟨by decide, by decide, by decide +kernel⟩ (T := TX11) (N := 14) rfl hc rfl q0 he hd hcat hrm K
theorem rw_cpy_X11_94_X {x : zX} {G : zG} {ce sl pc : Nat} {lv : List (Nat × Value)} {st : List Value} {cc : ByteArray} {nL : Nat} {ret : Option FieldType} {rm : Room} {qX kR kS kP kC kU kD kV kT : Nat → Nat} {sX : zSt} {sp dp n : Int32} {α : Type} {o : α} {kk : zSt → Option α} (C : zC x G RX11 cc nL ret rm) (hd : decode cc pc = .ok (.invokestatic 94, 3)) (hfr : 1 ≤ rm.frames) (hlo : (st.map fun v => v.category).sum + (nativeFrameWords "java/lang/System" "arraycopy" 5 + 11) ≤ rm.locals) (h : zg (zcp sp dp n 320) (zn (zsAf sX 2 (va_cpy (zA sX 2) (zA sX 2) sp.toNatClampNeg dp.toNatClampNeg n.toNatClampNeg)) kk) = some o) (K : ∀ s' : zSt, kk s' = some o → zW x G ce sl (pc + 3) lv st (wdX G qX kR kS kP kC kU kD kV kT s')) : zW x G ce sl pc lv (.int n :: .int dp :: .ref (qX 3) :: .int sp :: .ref (qX 3) :: st) (wdX G qX kR kS kP kC kU kD kV kT sX) := z_copyi C (w' := wdX G qX kR kS kP kC kU kD kV kT (zsAf sX 2 (va_cpy (zA sX 2) (zA sX 2) sp.toNatClampNeg dp.toNatClampNeg n.toNatClampNeg))) 3 rfl rfl rw_u_432 rw_u_434 rw_u_433 rw_u_79 hfr hlo hd h (fun h => K _ h)
theorem rw_g_X11_22_XR_X {x : zX} {G : zG} {ce sl pc : Nat} {lv : List (Nat × Value)} {st : List Value} {cc : ByteArray} {nL : Nat} {ret : Option FieldType} {rm : Room} {qX qR kR kS kP kC kU kD kV kT : Nat → Nat} {sX sR : zSt} (C : zC x G RX11 cc nL ret rm) (hd : decode cc pc = .ok (.getfield 22, 3)) (K : zW x G ce sl (pc + 3) lv (.ref (kR 0) :: st) (wdX G qX kR kS kP kC kU kD kV kT sX ++ (wdR G qR sR))) : zW x G ce sl pc lv (.ref (qX 0) :: st) (wdX G qX kR kS kP kC kU kD kV kT sX ++ (wdR G qR sR)) := z_get C (Cn := RX11) (T := TX11) (N := 14) (ci := 10) (k := 4) inzX11 rfl (by decide) rw_u_357 (fun _ h => h) 0 rfl rfl hd K
theorem rw_g_X11_106_XR_R {x : zX} {G : zG} {ce sl pc : Nat} {lv : List (Nat × Value)} {st : List Value} {cc : ByteArray} {nL : Nat} {ret : Option FieldType} {rm : Room} {qX qR kR kS kP kC kU kD kV kT : Nat → Nat} {sX sR : zSt} (C : zC x G RX11 cc nL ret rm) (hd : decode cc pc = .ok (.getfield 106, 3)) (K : zW x G ce sl (pc + 3) lv (.int (zI sR 1) :: st) (wdX G qX kR kS kP kC kU kD kV kT sX ++ (wdR G qR sR))) : zW x G ce sl pc lv (.ref (qR 0) :: st) (wdX G qX kR kS kP kC kU kD kV kT sX ++ (wdR G qR sR)) := z_get C (Cn := RX6) (T := TX6) (N := 8) (ci := 6) (k := 1) inzX6 rfl (by decide) rw_u_107 (fun _ h => h) 4 rfl rfl hd K
theorem rw_c_X11_111 {x : zX} {G : zG} {ce sl pc : Nat} {lv : List (Nat × Value)} {cc : ByteArray} {nL : Nat} {ret : Option FieldType} {rm : Room} {w w1 : va_W} {rest : List Value} {r : Option Value} {a0 : Int32} {b : Nat} {fs : List Value} (C : zC x G RX11 cc nL ret rm) (hc : Ct (xl x) G yX6_append cX6_append 2 none rmX6_append [.ref b, .int a0] w r w1) (q0 : Nat) (he : w[q0]? = some (b, .inr (6, fs))) (hd : decode cc pc = .ok (.invokevirtual 111, 3)) (hcat : (rest.map fun v => v.category).sum ≤ 8) (hrm : zRm rm rmX6_append 2 ce sl) (K : zW x G (ce + rmX6_append.cells) (sl + rmX6_append.slots) (pc + 3) lv (r.toList ++ rest) w1) : zW x G ce sl pc lv (.int a0 :: .ref b :: rest) w := z_callV C 1 rw_u_447 rw_u_72 rw_u_444 rw_u_445 rw_u_446 ⟨by decide, by decide, by decide +kernel⟩ (T := TX6) (N := 8) rfl hc rfl q0 he hd hcat hrm K
theorem rw_g_X11_22_XRSPCU_X {x : zX} {G : zG} {ce sl pc : Nat} {lv : List (Nat × Value)} {st : List Value} {cc : ByteArray} {nL : Nat} {ret : Option FieldType} {rm : Room} {qX qR qS qP qC qU kR kS kP kC kU kD kV kT : Nat → Nat} {rC : Nat} {sX sR sS sP sC sU : zSt} (C : zC x G RX11 cc nL ret rm) (hd : decode cc pc = .ok (.getfield 22, 3)) (K : zW x G ce sl (pc + 3) lv (.ref (kR 0) :: st) (wdX G qX kR kS kP kC kU kD kV kT sX ++ (wdR G qR sR ++ (wdS G qS sS ++ (wdS G qP sP ++ (wdC G qC rC sC ++ (wdU G qU sU))))))) : zW x G ce sl pc lv (.ref (qX 0) :: st) (wdX G qX kR kS kP kC kU kD kV kT sX ++ (wdR G qR sR ++ (wdS G qS sS ++ (wdS G qP sP ++ (wdC G qC rC sC ++ (wdU G qU sU)))))) := z_get C (Cn := RX11) (T := TX11) (N := 14) (ci := 10) (k := 4) inzX11 rfl (by decide) rw_u_357 (fun _ h => h) 0 rfl rfl hd K
theorem rw_g_X11_33_XRSPCU_X {x : zX} {G : zG} {ce sl pc : Nat} {lv : List (Nat × Value)} {st : List Value} {cc : ByteArray} {nL : Nat} {ret : Option FieldType} {rm : Room} {qX qR qS qP qC qU kR kS kP kC kU kD kV kT : Nat → Nat} {rC : Nat} {sX sR sS sP sC sU : zSt} (C : zC x G RX11 cc nL ret rm) (hd : decode cc pc = .ok (.getfield 33, 3)) (K : zW x G ce sl (pc + 3) lv (.ref (kP 0) :: st) (wdX G qX kR kS kP kC kU kD kV kT sX ++ (wdR G qR sR ++ (wdS G qS sS ++ (wdS G qP sP ++ (wdC G qC rC sC ++ (wdU G qU sU))))))) : zW x G ce sl pc lv (.ref (qX 0) :: st) (wdX G qX kR kS kP kC kU kD kV kT sX ++ (wdR G qR sR ++ (wdS G qS sS ++ (wdS G qP sP ++ (wdC G qC rC sC ++ (wdU G qU sU)))))) := z_get C (Cn := RX11) (T := TX11) (N := 14) (ci := 10) (k := 8) inzX11 rfl (by decide) rw_u_361 (fun _ h => h) 0 rfl rfl hd K
theorem rw_c_X11_115 {x : zX} {G : zG} {ce sl pc : Nat} {lv : List (Nat × Value)} {cc : ByteArray} {nL : Nat} {ret : Option FieldType} {rm : Room} {w w1 : va_W} {rest : List Value} {r : Option Value} {a0 : Nat} {b : Nat} {fs : List Value} (C : zC x G RX11 cc nL ret rm) (hc : Ct (xl x) G yX6_readInto cX6_readInto 2 none rmX6_readInto [.ref b, .ref a0] w r w1) (q0 : Nat) (he : w[q0]? = some (b, .inr (6, fs))) (hd : decode cc pc = .ok (.invokevirtual 115, 3)) (hcat : (rest.map fun v => v.category).sum ≤ 8) (hrm : zRm rm rmX6_readInto 2 ce sl) (K : zW x G (ce + rmX6_readInto.cells) (sl + rmX6_readInto.slots) (pc + 3) lv (r.toList ++ rest) w1) : zW x G ce sl pc lv (.ref a0 :: .ref b :: rest) w := z_callV C 1 rw_u_455 rw_u_72 rw_u_452 rw_u_453 rw_u_454 ⟨by decide, by decide, by decide +kernel⟩ (T := TX6) (N := 8) rfl hc rfl q0 he hd hcat hrm K
theorem rw_g_X11_119_XRSPCU_R {x : zX} {G : zG} {ce sl pc : Nat} {lv : List (Nat × Value)} {st : List Value} {cc : ByteArray} {nL : Nat} {ret : Option FieldType} {rm : Room} {qX qR qS qP qC qU kR kS kP kC kU kD kV kT : Nat → Nat} {rC : Nat} {sX sR sS sP sC sU : zSt} (C : zC x G RX11 cc nL ret rm) (hd : decode cc pc = .ok (.getfield 119, 3)) (K : zW x G ce sl (pc + 3) lv (.int (zI sR 2) :: st) (wdX G qX kR kS kP kC kU kD kV kT sX ++ (wdR G qR sR ++ (wdS G qS sS ++ (wdS G qP sP ++ (wdC G qC rC sC ++ (wdU G qU sU))))))) : zW x G ce sl pc lv (.ref (qR 0) :: st) (wdX G qX kR kS kP kC kU kD kV kT sX ++ (wdR G qR sR ++ (wdS G qS sS ++ (wdS G qP sP ++ (wdC G qC rC sC ++ (wdU G qU sU)))))) := z_get C (Cn := RX6) (T := TX6) (N := 8) (ci := 6) (k := 2) inzX6 rfl (by decide) rw_u_109 (fun _ h => h) 4 rfl rfl hd K
theorem rw_g_X11_29_XRSPCU_X {x : zX} {G : zG} {ce sl pc : Nat} {lv : List (Nat × Value)} {st : List Value} {cc : ByteArray} {nL : Nat} {ret : Option FieldType} {rm : Room} {qX qR qS qP qC qU kR kS kP kC kU kD kV kT : Nat → Nat} {rC : Nat} {sX sR sS sP sC sU : zSt} (C : zC x G RX11 cc nL ret rm) (hd : decode cc pc = .ok (.getfield 29, 3)) (K : zW x G ce sl (pc + 3) lv (.ref (kS 0) :: st) (wdX G qX kR kS kP kC kU kD kV kT sX ++ (wdR G qR sR ++ (wdS G qS sS ++ (wdS G qP sP ++ (wdC G qC rC sC ++ (wdU G qU sU))))))) : zW x G ce sl pc lv (.ref (qX 0) :: st) (wdX G qX kR kS kP kC kU kD kV kT sX ++ (wdR G qR sR ++ (wdS G qS sS ++ (wdS G qP sP ++ (wdC G qC rC sC ++ (wdU G qU sU)))))) := z_get C (Cn := RX11) (T := TX11) (N := 14) (ci := 10) (k := 7) inzX11 rfl (by decide) rw_u_360 (fun _ h => h) 0 rfl rfl hd K
theorem rw_px_X11_29_XRSPCU {x : zX} {G : zG} {ce sl pc : Nat} {lv : List (Nat × Value)} {st : List Value} {cc : ByteArray} {nL : Nat} {ret : Option FieldType} {rm : Room} {qX qR qS qP qC qU kR kS kP kC kU kD kV kT : Nat → Nat} {rC : Nat} {sX sR sS sP sC sU : zSt} {kN : Nat → Nat} (C : zC x G RX11 cc nL ret rm) (hd : decode cc pc = .ok (.putfield 29, 3)) (K : zW x G ce sl (pc + 3) lv st (wdX G qX kR kN kP kC kU kD kV kT sX ++ (wdR G qR sR ++ (wdS G qS sS ++ (wdS G qP sP ++ (wdC G qC rC sC ++ (wdU G qU sU))))))) : zW x G ce sl pc lv (.ref (kN 0) :: .ref (qX 0) :: st) (wdX G qX kR kS kP kC kU kD kV kT sX ++ (wdR G qR sR ++ (wdS G qS sS ++ (wdS G qP sP ++ (wdC G qC rC sC ++ (wdU G qU sU)))))) := z_put C (Cn := RX11) (T := TX11) (N := 14) (ci := 10) (k := 7) (ty := (.object "WhatWasHers$Story")) (w' := wdX G qX kR kN kP kC kU kD kV kT sX ++ (wdR G qR sR ++ (wdS G qS sS ++ (wdS G qP sP ++ (wdC G qC rC sC ++ (wdU G qU sU)))))) inzX11 tyX11 tyX11_ok nmX11 rfl (by decide) rw_u_360 (fun _ h => h) rfl 0 rfl (by decide +kernel) rfl rfl (Nat.le_of_ble_eq_true rfl) rfl hd K
theorem rw_px_X11_33_XRSPCU {x : zX} {G : zG} {ce sl pc : Nat} {lv : List (Nat × Value)} {st : List Value} {cc : ByteArray} {nL : Nat} {ret : Option FieldType} {rm : Room} {qX qR qS qP qC qU kR kS kP kC kU kD kV kT : Nat → Nat} {rC : Nat} {sX sR sS sP sC sU : zSt} {kN : Nat → Nat} (C : zC x G RX11 cc nL ret rm) (hd : decode cc pc = .ok (.putfield 33, 3)) (K : zW x G ce sl (pc + 3) lv st (wdX G qX kR kS kN kC kU kD kV kT sX ++ (wdR G qR sR ++ (wdS G qS sS ++ (wdS G qP sP ++ (wdC G qC rC sC ++ (wdU G qU sU))))))) : zW x G ce sl pc lv (.ref (kN 0) :: .ref (qX 0) :: st) (wdX G qX kR kS kP kC kU kD kV kT sX ++ (wdR G qR sR ++ (wdS G qS sS ++ (wdS G qP sP ++ (wdC G qC rC sC ++ (wdU G qU sU)))))) := z_put C (Cn := RX11) (T := TX11) (N := 14) (ci := 10) (k := 8) (ty := (.object "WhatWasHers$Story")) (w' := wdX G qX kR kS kN kC kU kD kV kT sX ++ (wdR G qR sR ++ (wdS G qS sS ++ (wdS G qP sP ++ (wdC G qC rC sC ++ (wdU G qU sU)))))) inzX11 tyX11 tyX11_ok nmX11 rfl (by decide) rw_u_361 (fun _ h => h) rfl 0 rfl (by decide +kernel) rfl rfl (Nat.le_of_ble_eq_true rfl) rfl hd K
theorem rw_p_X11_130_XRSPCU_X {x : zX} {G : zG} {ce sl pc : Nat} {lv : List (Nat × Value)} {st : List Value} {cc : ByteArray} {nL : Nat} {ret : Option FieldType} {rm : Room} {qX qR qS qP qC qU kR kS kP kC kU kD kV kT : Nat → Nat} {rC : Nat} {sX sR sS sP sC sU : zSt} {v : Int32} {α : Type} {o : α} {kk : zSt → Option α} (C : zC x G RX11 cc nL ret rm) (hd : decode cc pc = .ok (.putfield 130, 3)) (hn : narrow .boolean (.int v) = .int v) (hf : fits .boolean (.int v) = true) (h : zn (zsI sX 6 v) kk = some o) (K : ∀ s' : zSt, kk s' = some o → zW x G ce sl (pc + 3) lv st (wdX G qX kR kS kP kC kU kD kV kT s' ++ (wdR G qR sR ++ (wdS G qS sS ++ (wdS G qP sP ++ (wdC G qC rC sC ++ (wdU G qU sU))))))) : zW x G ce sl pc lv (.int v :: .ref (qX 0) :: st) (wdX G qX kR kS kP kC kU kD kV kT sX ++ (wdR G qR sR ++ (wdS G qS sS ++ (wdS G qP sP ++ (wdC G qC rC sC ++ (wdU G qU sU)))))) := z_put C (Cn := RX11) (T := TX11) (N := 14) (ci := 10) (k := 6) (ty := .boolean) (w' := wdX G qX kR kS kP kC kU kD kV kT (zsI sX 6 v) ++ (wdR G qR sR ++ (wdS G qS sS ++ (wdS G qP sP ++ (wdC G qC rC sC ++ (wdU G qU sU)))))) inzX11 tyX11 tyX11_ok nmX11 rfl (by decide) rw_u_359 (fun _ h => h) rfl 0 rfl (by decide +kernel) hn hf (Nat.le_of_ble_eq_true rfl) rfl hd (K _ h)
theorem rw_g_X11_39_XRSPCU_X {x : zX} {G : zG} {ce sl pc : Nat} {lv : List (Nat × Value)} {st : List Value} {cc : ByteArray} {nL : Nat} {ret : Option FieldType} {rm : Room} {qX qR qS qP qC qU kR kS kP kC kU kD kV kT : Nat → Nat} {rC : Nat} {sX sR sS sP sC sU : zSt} (C : zC x G RX11 cc nL ret rm) (hd : decode cc pc = .ok (.getfield 39, 3)) (K : zW x G ce sl (pc + 3) lv (.ref (kC 0) :: st) (wdX G qX kR kS kP kC kU kD kV kT sX ++ (wdR G qR sR ++ (wdS G qS sS ++ (wdS G qP sP ++ (wdC G qC rC sC ++ (wdU G qU sU))))))) : zW x G ce sl pc lv (.ref (qX 0) :: st) (wdX G qX kR kS kP kC kU kD kV kT sX ++ (wdR G qR sR ++ (wdS G qS sS ++ (wdS G qP sP ++ (wdC G qC rC sC ++ (wdU G qU sU)))))) := z_get C (Cn := RX11) (T := TX11) (N := 14) (ci := 10) (k := 9) inzX11 rfl (by decide) rw_u_362 (fun _ h => h) 0 rfl rfl hd K
theorem rw_c_X11_134 {x : zX} {G : zG} {ce sl pc : Nat} {lv : List (Nat × Value)} {cc : ByteArray} {nL : Nat} {ret : Option FieldType} {rm : Room} {w w1 : va_W} {rest : List Value} {r : Option Value} {a0 : Nat} {b : Nat} {fs : List Value} (C : zC x G RX11 cc nL ret rm) (hc : Ct (xl x) G yX2_begin cX2_begin 2 none rmX2_begin [.ref b, .ref a0] w r w1) (q0 : Nat) (he : w[q0]? = some (b, .inr (2, fs))) (hd : decode cc pc = .ok (.invokevirtual 134, 3)) (hcat : (rest.map fun v => v.category).sum ≤ 8) (hrm : zRm rm rmX2_begin 2 ce sl) (K : zW x G (ce + rmX2_begin.cells) (sl + rmX2_begin.slots) (pc + 3) lv (r.toList ++ rest) w1) : zW x G ce sl pc lv (.ref a0 :: .ref b :: rest) w := z_callV C 1 rw_u_574 rw_u_74 rw_u_571 rw_u_572 rw_u_573 ⟨by decide, by decide, by decide +kernel⟩ (T := TX2) (N := 18) rfl hc rfl q0 he hd hcat hrm K
theorem rw_g_X11_137_XRSPCU_P {x : zX} {G : zG} {ce sl pc : Nat} {lv : List (Nat × Value)} {st : List Value} {cc : ByteArray} {nL : Nat} {ret : Option FieldType} {rm : Room} {qX qR qS qP qC qU kR kS kP kC kU kD kV kT : Nat → Nat} {rC : Nat} {sX sR sS sP sC sU : zSt} (C : zC x G RX11 cc nL ret rm) (hd : decode cc pc = .ok (.getfield 137, 3)) (K : zW x G ce sl (pc + 3) lv (.int (zI sP 1) :: st) (wdX G qX kR kS kP kC kU kD kV kT sX ++ (wdR G qR sR ++ (wdS G qS sS ++ (wdS G qP sP ++ (wdC G qC rC sC ++ (wdU G qU sU))))))) : zW x G ce sl pc lv (.ref (qP 0) :: st) (wdX G qX kR kS kP kC kU kD kV kT sX ++ (wdR G qR sR ++ (wdS G qS sS ++ (wdS G qP sP ++ (wdC G qC rC sC ++ (wdU G qU sU)))))) := z_get C (Cn := RX7) (T := TX7) (N := 13) (ci := 7) (k := 1) inzX7 rfl (by decide) rw_u_146 (fun _ h => h) 17 rfl rfl hd K
theorem rw_c_X11_140 {x : zX} {G : zG} {ce sl pc : Nat} {lv : List (Nat × Value)} {cc : ByteArray} {nL : Nat} {ret : Option FieldType} {rm : Room} {w w1 : va_W} {rest : List Value} {r : Option Value} {a0 : Int32} {a1 : Int32} {b : Nat} {fs : List Value} (C : zC x G RX11 cc nL ret rm) (hc : Ct (xl x) G yX2_goThrough cX2_goThrough 4 none rmX2_goThrough [.ref b, .int a0, .int a1] w r w1) (q0 : Nat) (he : w[q0]? = some (b, .inr (2, fs))) (hd : decode cc pc = .ok (.invokevirtual 140, 3)) (hcat : (rest.map fun v => v.category).sum ≤ 8) (hrm : zRm rm rmX2_goThrough 4 ce sl) (K : zW x G (ce + rmX2_goThrough.cells) (sl + rmX2_goThrough.slots) (pc + 3) lv (r.toList ++ rest) w1) : zW x G ce sl pc lv (.int a1 :: .int a0 :: .ref b :: rest) w := z_callV C 2 rw_u_580 rw_u_74 rw_u_577 rw_u_578 rw_u_579 ⟨by decide, by decide, by decide +kernel⟩ (T := TX2) (N := 18) rfl hc rfl q0 he hd hcat hrm K
theorem rw_g_X11_46_XRSPCU_X {x : zX} {G : zG} {ce sl pc : Nat} {lv : List (Nat × Value)} {st : List Value} {cc : ByteArray} {nL : Nat} {ret : Option FieldType} {rm : Room} {qX qR qS qP qC qU kR kS kP kC kU kD kV kT : Nat → Nat} {rC : Nat} {sX sR sS sP sC sU : zSt} (C : zC x G RX11 cc nL ret rm) (hd : decode cc pc = .ok (.getfield 46, 3)) (K : zW x G ce sl (pc + 3) lv (.ref (kU 0) :: st) (wdX G qX kR kS kP kC kU kD kV kT sX ++ (wdR G qR sR ++ (wdS G qS sS ++ (wdS G qP sP ++ (wdC G qC rC sC ++ (wdU G qU sU))))))) : zW x G ce sl pc lv (.ref (qX 0) :: st) (wdX G qX kR kS kP kC kU kD kV kT sX ++ (wdR G qR sR ++ (wdS G qS sS ++ (wdS G qP sP ++ (wdC G qC rC sC ++ (wdU G qU sU)))))) := z_get C (Cn := RX11) (T := TX11) (N := 14) (ci := 10) (k := 10) inzX11 rfl (by decide) rw_u_363 (fun _ h => h) 0 rfl rfl hd K
theorem rw_c_X11_144 {x : zX} {G : zG} {ce sl pc : Nat} {lv : List (Nat × Value)} {cc : ByteArray} {nL : Nat} {ret : Option FieldType} {rm : Room} {w w1 : va_W} {rest : List Value} {r : Option Value} {a0 : Nat} {b : Nat} {fs : List Value} (C : zC x G RX11 cc nL ret rm) (hc : Ct (xl x) G yX8_reckon cX8_reckon 5 none rmX8_reckon [.ref b, .ref a0] w r w1) (q0 : Nat) (he : w[q0]? = some (b, .inr (8, fs))) (hd : decode cc pc = .ok (.invokevirtual 144, 3)) (hcat : (rest.map fun v => v.category).sum ≤ 8) (hrm : zRm rm rmX8_reckon 5 ce sl) (K : zW x G (ce + rmX8_reckon.cells) (sl + rmX8_reckon.slots) (pc + 3) lv (r.toList ++ rest) w1) : zW x G ce sl pc lv (.ref a0 :: .ref b :: rest) w := z_callV C 1 rw_u_623 rw_u_75 rw_u_620 rw_u_621 rw_u_622 ⟨by decide, by decide, by decide +kernel⟩ (T := TX8) (N := 9) rfl hc rfl q0 he hd hcat hrm K
theorem rw_p_X11_122_XRSPCU_X {x : zX} {G : zG} {ce sl pc : Nat} {lv : List (Nat × Value)} {st : List Value} {cc : ByteArray} {nL : Nat} {ret : Option FieldType} {rm : Room} {qX qR qS qP qC qU kR kS kP kC kU kD kV kT : Nat → Nat} {rC : Nat} {sX sR sS sP sC sU : zSt} {v : Int32} {α : Type} {o : α} {kk : zSt → Option α} (C : zC x G RX11 cc nL ret rm) (hd : decode cc pc = .ok (.putfield 122, 3)) (h : zn (zsI sX 5 v) kk = some o) (K : ∀ s' : zSt, kk s' = some o → zW x G ce sl (pc + 3) lv st (wdX G qX kR kS kP kC kU kD kV kT s' ++ (wdR G qR sR ++ (wdS G qS sS ++ (wdS G qP sP ++ (wdC G qC rC sC ++ (wdU G qU sU))))))) : zW x G ce sl pc lv (.int v :: .ref (qX 0) :: st) (wdX G qX kR kS kP kC kU kD kV kT sX ++ (wdR G qR sR ++ (wdS G qS sS ++ (wdS G qP sP ++ (wdC G qC rC sC ++ (wdU G qU sU)))))) := z_put C (Cn := RX11) (T := TX11) (N := 14) (ci := 10) (k := 5) (ty := .int) (w' := wdX G qX kR kS kP kC kU kD kV kT (zsI sX 5 v) ++ (wdR G qR sR ++ (wdS G qS sS ++ (wdS G qP sP ++ (wdC G qC rC sC ++ (wdU G qU sU)))))) inzX11 tyX11 tyX11_ok nmX11 rfl (by decide) rw_u_358 (fun _ h => h) rfl 0 rfl (by decide +kernel) rfl rfl (Nat.le_of_ble_eq_true rfl) rfl hd (K _ h)
theorem rw_g_X11_127_XRSPCU_R {x : zX} {G : zG} {ce sl pc : Nat} {lv : List (Nat × Value)} {st : List Value} {cc : ByteArray} {nL : Nat} {ret : Option FieldType} {rm : Room} {qX qR qS qP qC qU kR kS kP kC kU kD kV kT : Nat → Nat} {rC : Nat} {sX sR sS sP sC sU : zSt} (C : zC x G RX11 cc nL ret rm) (hd : decode cc pc = .ok (.getfield 127, 3)) (K : zW x G ce sl (pc + 3) lv (.int (zI sR 3) :: st) (wdX G qX kR kS kP kC kU kD kV kT sX ++ (wdR G qR sR ++ (wdS G qS sS ++ (wdS G qP sP ++ (wdC G qC rC sC ++ (wdU G qU sU))))))) : zW x G ce sl pc lv (.ref (qR 0) :: st) (wdX G qX kR kS kP kC kU kD kV kT sX ++ (wdR G qR sR ++ (wdS G qS sS ++ (wdS G qP sP ++ (wdC G qC rC sC ++ (wdU G qU sU)))))) := z_get C (Cn := RX6) (T := TX6) (N := 8) (ci := 6) (k := 3) inzX6 rfl (by decide) rw_u_111 (fun _ h => h) 4 rfl rfl hd K
theorem rw_g_X11_122_X_X {x : zX} {G : zG} {ce sl pc : Nat} {lv : List (Nat × Value)} {st : List Value} {cc : ByteArray} {nL : Nat} {ret : Option FieldType} {rm : Room} {qX kR kS kP kC kU kD kV kT : Nat → Nat} {sX : zSt} (C : zC x G RX11 cc nL ret rm) (hd : decode cc pc = .ok (.getfield 122, 3)) (K : zW x G ce sl (pc + 3) lv (.int (zI sX 5) :: st) (wdX G qX kR kS kP kC kU kD kV kT sX)) : zW x G ce sl pc lv (.ref (qX 0) :: st) (wdX G qX kR kS kP kC kU kD kV kT sX) := z_get C (Cn := RX11) (T := TX11) (N := 14) (ci := 10) (k := 5) inzX11 rfl (by decide) rw_u_358 (fun _ h => h) 0 rfl rfl hd K
theorem rw_g_X11_39_XC_X {x : zX} {G : zG} {ce sl pc : Nat} {lv : List (Nat × Value)} {st : List Value} {cc : ByteArray} {nL : Nat} {ret : Option FieldType} {rm : Room} {qX qC kR kS kP kC kU kD kV kT : Nat → Nat} {rC : Nat} {sX sC : zSt} (C : zC x G RX11 cc nL ret rm) (hd : decode cc pc = .ok (.getfield 39, 3)) (K : zW x G ce sl (pc + 3) lv (.ref (kC 0) :: st) (wdX G qX kR kS kP kC kU kD kV kT sX ++ (wdC G qC rC sC))) : zW x G ce sl pc lv (.ref (qX 0) :: st) (wdX G qX kR kS kP kC kU kD kV kT sX ++ (wdC G qC rC sC)) := z_get C (Cn := RX11) (T := TX11) (N := 14) (ci := 10) (k := 9) inzX11 rfl (by decide) rw_u_362 (fun _ h => h) 0 rfl rfl hd K
theorem rw_g_X11_158_XC_C {x : zX} {G : zG} {ce sl pc : Nat} {lv : List (Nat × Value)} {st : List Value} {cc : ByteArray} {nL : Nat} {ret : Option FieldType} {rm : Room} {qX qC kR kS kP kC kU kD kV kT : Nat → Nat} {rC : Nat} {sX sC : zSt} (C : zC x G RX11 cc nL ret rm) (hd : decode cc pc = .ok (.getfield 158, 3)) (K : zW x G ce sl (pc + 3) lv (.int (zI sC 4) :: st) (wdX G qX kR kS kP kC kU kD kV kT sX ++ (wdC G qC rC sC))) : zW x G ce sl pc lv (.ref (qC 0) :: st) (wdX G qX kR kS kP kC kU kD kV kT sX ++ (wdC G qC rC sC)) := z_get C (Cn := RX2) (T := TX2) (N := 18) (ci := 2) (k := 4) inzX2 rfl (by decide) rw_u_222 (fun _ h => h) 4 rfl rfl hd K
theorem rw_c_X11_148 {x : zX} {G : zG} {ce sl pc : Nat} {lv : List (Nat × Value)} {cc : ByteArray} {nL : Nat} {ret : Option FieldType} {rm : Room} {w w1 : va_W} {rest : List Value} {r : Option Value} {a0 : Int32} {b : Nat} {fs : List Value} (C : zC x G RX11 cc nL ret rm) (hc : Ct (xl x) G yX11_isNoThing cX11_isNoThing 2 (some .boolean) rmX11_isNoThing [.ref b, .int a0] w r w1) (q0 : Nat) (he : w[q0]? = some (b, .inr (10, fs))) (hd : decode cc pc = .ok (.invokevirtual 148, 3)) (hcat : (rest.map fun v => v.category).sum ≤ 8) (hrm : zRm rm rmX11_isNoThing 2 ce sl) (K : zW x G (ce + rmX11_isNoThing.cells) (sl + rmX11_isNoThing.slots) (pc + 3) lv (r.toList ++ rest) w1) : zW x G ce sl pc lv (.int a0 :: .ref b :: rest) w := z_callV C 1 rw_u_679 rw_u_71 rw_u_676 rw_u_678 rw_u_29 ⟨by decide, by decide, by decide +kernel⟩ (T := TX11) (N := 14) rfl hc rfl q0 he hd hcat hrm K
theorem rw_c_X11_151 {x : zX} {G : zG} {ce sl pc : Nat} {lv : List (Nat × Value)} {cc : ByteArray} {nL : Nat} {ret : Option FieldType} {rm : Room} {w w1 : va_W} {rest : List Value} {r : Option Value} {a0 : Int32} (C : zC x G RX11 cc nL ret rm) (hc : Ct (xl x) G yX11_isNoDay cX11_isNoDay 1 (some .boolean) rmX11_isNoDay [.int a0] w r w1) (hd : decode cc pc = .ok (.invokestatic 151, 3)) (hcat : (rest.map fun v => v.category).sum ≤ 8) (hrm : zRm rm rmX11_isNoDay 1 ce sl) (K : zW x G (ce + rmX11_isNoDay.cells) (sl + rmX11_isNoDay.slots) (pc + 3) lv (r.toList ++ rest) w1) : zW x G ce sl pc lv (.int a0 :: rest) w := z_callS C 1 rw_u_682 rw_u_71 rw_u_680 rw_u_681 ⟨by decide, by decide, by decide +kernel⟩ hc rfl hd hcat hrm K
theorem rw_g_X11_50_XSCD_X {x : zX} {G : zG} {ce sl pc : Nat} {lv : List (Nat × Value)} {st : List Value} {cc : ByteArray} {nL : Nat} {ret : Option FieldType} {rm : Room} {qX qS qC qD kR kS kP kC kU kD kV kT : Nat → Nat} {rC rD : Nat} {sX sS sC sD : zSt} (C : zC x G RX11 cc nL ret rm) (hd : decode cc pc = .ok (.getfield 50, 3)) (K : zW x G ce sl (pc + 3) lv (.ref (kD 0) :: st) (wdX G qX kR kS kP kC kU kD kV kT sX ++ (wdS G qS sS ++ (wdC G qC rC sC ++ (wdC G qD rD sD))))) : zW x G ce sl pc lv (.ref (qX 0) :: st) (wdX G qX kR kS kP kC kU kD kV kT sX ++ (wdS G qS sS ++ (wdC G qC rC sC ++ (wdC G qD rD sD)))) := z_get C (Cn := RX11) (T := TX11) (N := 14) (ci := 10) (k := 11) inzX11 rfl (by decide) rw_u_364 (fun _ h => h) 0 rfl rfl hd K
theorem rw_g_X11_29_XSCD_X {x : zX} {G : zG} {ce sl pc : Nat} {lv : List (Nat × Value)} {st : List Value} {cc : ByteArray} {nL : Nat} {ret : Option FieldType} {rm : Room} {qX qS qC qD kR kS kP kC kU kD kV kT : Nat → Nat} {rC rD : Nat} {sX sS sC sD : zSt} (C : zC x G RX11 cc nL ret rm) (hd : decode cc pc = .ok (.getfield 29, 3)) (K : zW x G ce sl (pc + 3) lv (.ref (kS 0) :: st) (wdX G qX kR kS kP kC kU kD kV kT sX ++ (wdS G qS sS ++ (wdC G qC rC sC ++ (wdC G qD rD sD))))) : zW x G ce sl pc lv (.ref (qX 0) :: st) (wdX G qX kR kS kP kC kU kD kV kT sX ++ (wdS G qS sS ++ (wdC G qC rC sC ++ (wdC G qD rD sD)))) := z_get C (Cn := RX11) (T := TX11) (N := 14) (ci := 10) (k := 7) inzX11 rfl (by decide) rw_u_360 (fun _ h => h) 0 rfl rfl hd K
theorem rw_c_X11_154 {x : zX} {G : zG} {ce sl pc : Nat} {lv : List (Nat × Value)} {cc : ByteArray} {nL : Nat} {ret : Option FieldType} {rm : Room} {w w1 : va_W} {rest : List Value} {r : Option Value} {a0 : Int32} {b : Nat} {fs : List Value} (C : zC x G RX11 cc nL ret rm) (hc : Ct (xl x) G yX7_firstEventFrom cX7_firstEventFrom 3 (some .int) rmX7_firstEventFrom [.ref b, .int a0] w r w1) (q0 : Nat) (he : w[q0]? = some (b, .inr (7, fs))) (hd : decode cc pc = .ok (.invokevirtual 154, 3)) (hcat : (rest.map fun v => v.category).sum ≤ 8) (hrm : zRm rm rmX7_firstEventFrom 3 ce sl) (K : zW x G (ce + rmX7_firstEventFrom.cells) (sl + rmX7_firstEventFrom.slots) (pc + 3) lv (r.toList ++ rest) w1) : zW x G ce sl pc lv (.int a0 :: .ref b :: rest) w := z_callV C 1 rw_u_686 rw_u_73 rw_u_683 rw_u_684 rw_u_685 ⟨by decide, by decide, by decide +kernel⟩ (T := TX7) (N := 13) rfl hc rfl q0 he hd hcat hrm K
theorem rw_g_X11_158_XSCD_D {x : zX} {G : zG} {ce sl pc : Nat} {lv : List (Nat × Value)} {st : List Value} {cc : ByteArray} {nL : Nat} {ret : Option FieldType} {rm : Room} {qX qS qC qD kR kS kP kC kU kD kV kT : Nat → Nat} {rC rD : Nat} {sX sS sC sD : zSt} (C : zC x G RX11 cc nL ret rm) (hd : decode cc pc = .ok (.getfield 158, 3)) (K : zW x G ce sl (pc + 3) lv (.int (zI sD 4) :: st) (wdX G qX kR kS kP kC kU kD kV kT sX ++ (wdS G qS sS ++ (wdC G qC rC sC ++ (wdC G qD rD sD))))) : zW x G ce sl pc lv (.ref (qD 0) :: st) (wdX G qX kR kS kP kC kU kD kV kT sX ++ (wdS G qS sS ++ (wdC G qC rC sC ++ (wdC G qD rD sD)))) := z_get C (Cn := RX2) (T := TX2) (N := 18) (ci := 2) (k := 4) inzX2 rfl (by decide) rw_u_222 (fun _ h => h) 30 rfl rfl hd K
theorem rw_g_X11_161_XSCD_D {x : zX} {G : zG} {ce sl pc : Nat} {lv : List (Nat × Value)} {st : List Value} {cc : ByteArray} {nL : Nat} {ret : Option FieldType} {rm : Room} {qX qS qC qD kR kS kP kC kU kD kV kT : Nat → Nat} {rC rD : Nat} {sX sS sC sD : zSt} (C : zC x G RX11 cc nL ret rm) (hd : decode cc pc = .ok (.getfield 161, 3)) (K : zW x G ce sl (pc + 3) lv (.ref (qD 9) :: st) (wdX G qX kR kS kP kC kU kD kV kT sX ++ (wdS G qS sS ++ (wdC G qC rC sC ++ (wdC G qD rD sD))))) : zW x G ce sl pc lv (.ref (qD 0) :: st) (wdX G qX kR kS kP kC kU kD kV kT sX ++ (wdS G qS sS ++ (wdC G qC rC sC ++ (wdC G qD rD sD)))) := z_get C (Cn := RX2) (T := TX2) (N := 18) (ci := 2) (k := 8) inzX2 rfl (by decide) rw_u_232 (fun _ h => h) 30 rfl rfl hd K
theorem rw_l_XSCD_D_8 {x : zX} {G : zG} {ce sl pc : Nat} {lv : List (Nat × Value)} {st : List Value} {cc : ByteArray} {nL : Nat} {ret : Option FieldType} {rm : Room} {own : String} {qX qS qC qD kR kS kP kC kU kD kV kT : Nat → Nat} {rC rD : Nat} {sX sS sC sD : zSt} {i : Int32} {α : Type} {o : α} {kk : Option α} (C : zC x G own cc nL ret rm) (hd : decode cc pc = .ok (.iaload, 1)) (h : zg (zix i 10) kk = some o) (K : kk = some o → zW x G ce sl (pc + 1) lv (.int (zA sD 8 i.toNatClampNeg) :: st) (wdX G qX kR kS kP kC kU kD kV kT sX ++ (wdS G qS sS ++ (wdC G qC rC sC ++ (wdC G qD rD sD))))) : zW x G ce sl pc lv (.int i :: .ref (qD 9) :: st) (wdX G qX kR kS kP kC kU kD kV kT sX ++ (wdS G qS sS ++ (wdC G qC rC sC ++ (wdC G qD rD sD)))) := z_iald C 36 rfl hd h K
theorem rw_g_X11_39_XSC_X {x : zX} {G : zG} {ce sl pc : Nat} {lv : List (Nat × Value)} {st : List Value} {cc : ByteArray} {nL : Nat} {ret : Option FieldType} {rm : Room} {qX qS qC kR kS kP kC kU kD kV kT : Nat → Nat} {rC : Nat} {sX sS sC : zSt} (C : zC x G RX11 cc nL ret rm) (hd : decode cc pc = .ok (.getfield 39, 3)) (K : zW x G ce sl (pc + 3) lv (.ref (kC 0) :: st) (wdX G qX kR kS kP kC kU kD kV kT sX ++ (wdS G qS sS ++ (wdC G qC rC sC)))) : zW x G ce sl pc lv (.ref (qX 0) :: st) (wdX G qX kR kS kP kC kU kD kV kT sX ++ (wdS G qS sS ++ (wdC G qC rC sC))) := z_get C (Cn := RX11) (T := TX11) (N := 14) (ci := 10) (k := 9) inzX11 rfl (by decide) rw_u_362 (fun _ h => h) 0 rfl rfl hd K
theorem rw_g_X11_161_XSC_C {x : zX} {G : zG} {ce sl pc : Nat} {lv : List (Nat × Value)} {st : List Value} {cc : ByteArray} {nL : Nat} {ret : Option FieldType} {rm : Room} {qX qS qC kR kS kP kC kU kD kV kT : Nat → Nat} {rC : Nat} {sX sS sC : zSt} (C : zC x G RX11 cc nL ret rm) (hd : decode cc pc = .ok (.getfield 161, 3)) (K : zW x G ce sl (pc + 3) lv (.ref (qC 9) :: st) (wdX G qX kR kS kP kC kU kD kV kT sX ++ (wdS G qS sS ++ (wdC G qC rC sC)))) : zW x G ce sl pc lv (.ref (qC 0) :: st) (wdX G qX kR kS kP kC kU kD kV kT sX ++ (wdS G qS sS ++ (wdC G qC rC sC))) := z_get C (Cn := RX2) (T := TX2) (N := 18) (ci := 2) (k := 8) inzX2 rfl (by decide) rw_u_232 (fun _ h => h) 15 rfl rfl hd K
theorem rw_l_XSC_C_8 {x : zX} {G : zG} {ce sl pc : Nat} {lv : List (Nat × Value)} {st : List Value} {cc : ByteArray} {nL : Nat} {ret : Option FieldType} {rm : Room} {own : String} {qX qS qC kR kS kP kC kU kD kV kT : Nat → Nat} {rC : Nat} {sX sS sC : zSt} {i : Int32} {α : Type} {o : α} {kk : Option α} (C : zC x G own cc nL ret rm) (hd : decode cc pc = .ok (.iaload, 1)) (h : zg (zix i 10) kk = some o) (K : kk = some o → zW x G ce sl (pc + 1) lv (.int (zA sC 8 i.toNatClampNeg) :: st) (wdX G qX kR kS kP kC kU kD kV kT sX ++ (wdS G qS sS ++ (wdC G qC rC sC)))) : zW x G ce sl pc lv (.int i :: .ref (qC 9) :: st) (wdX G qX kR kS kP kC kU kD kV kT sX ++ (wdS G qS sS ++ (wdC G qC rC sC))) := z_iald C 21 rfl hd h K
theorem rw_g_X11_166_XSC_C {x : zX} {G : zG} {ce sl pc : Nat} {lv : List (Nat × Value)} {st : List Value} {cc : ByteArray} {nL : Nat} {ret : Option FieldType} {rm : Room} {qX qS qC kR kS kP kC kU kD kV kT : Nat → Nat} {rC : Nat} {sX sS sC : zSt} (C : zC x G RX11 cc nL ret rm) (hd : decode cc pc = .ok (.getfield 166, 3)) (K : zW x G ce sl (pc + 3) lv (.ref (qC 10) :: st) (wdX G qX kR kS kP kC kU kD kV kT sX ++ (wdS G qS sS ++ (wdC G qC rC sC)))) : zW x G ce sl pc lv (.ref (qC 0) :: st) (wdX G qX kR kS kP kC kU kD kV kT sX ++ (wdS G qS sS ++ (wdC G qC rC sC))) := z_get C (Cn := RX2) (T := TX2) (N := 18) (ci := 2) (k := 9) inzX2 rfl (by decide) rw_u_234 (fun _ h => h) 15 rfl rfl hd K
theorem rw_l_XSC_C_9 {x : zX} {G : zG} {ce sl pc : Nat} {lv : List (Nat × Value)} {st : List Value} {cc : ByteArray} {nL : Nat} {ret : Option FieldType} {rm : Room} {own : String} {qX qS qC kR kS kP kC kU kD kV kT : Nat → Nat} {rC : Nat} {sX sS sC : zSt} {i : Int32} {α : Type} {o : α} {kk : Option α} (C : zC x G own cc nL ret rm) (hd : decode cc pc = .ok (.iaload, 1)) (h : zg (zix i 10) kk = some o) (K : kk = some o → zW x G ce sl (pc + 1) lv (.int (zA sC 9 i.toNatClampNeg) :: st) (wdX G qX kR kS kP kC kU kD kV kT sX ++ (wdS G qS sS ++ (wdC G qC rC sC)))) : zW x G ce sl pc lv (.int i :: .ref (qC 10) :: st) (wdX G qX kR kS kP kC kU kD kV kT sX ++ (wdS G qS sS ++ (wdC G qC rC sC))) := z_iald C 22 rfl hd h K
theorem rw_g_X11_169_XSC_C {x : zX} {G : zG} {ce sl pc : Nat} {lv : List (Nat × Value)} {st : List Value} {cc : ByteArray} {nL : Nat} {ret : Option FieldType} {rm : Room} {qX qS qC kR kS kP kC kU kD kV kT : Nat → Nat} {rC : Nat} {sX sS sC : zSt} (C : zC x G RX11 cc nL ret rm) (hd : decode cc pc = .ok (.getfield 169, 3)) (K : zW x G ce sl (pc + 3) lv (.ref (qC 6) :: st) (wdX G qX kR kS kP kC kU kD kV kT sX ++ (wdS G qS sS ++ (wdC G qC rC sC)))) : zW x G ce sl pc lv (.ref (qC 0) :: st) (wdX G qX kR kS kP kC kU kD kV kT sX ++ (wdS G qS sS ++ (wdC G qC rC sC))) := z_get C (Cn := RX2) (T := TX2) (N := 18) (ci := 2) (k := 5) inzX2 rfl (by decide) rw_u_224 (fun _ h => h) 15 rfl rfl hd K
theorem rw_l_XSC_C_5 {x : zX} {G : zG} {ce sl pc : Nat} {lv : List (Nat × Value)} {st : List Value} {cc : ByteArray} {nL : Nat} {ret : Option FieldType} {rm : Room} {own : String} {qX qS qC kR kS kP kC kU kD kV kT : Nat → Nat} {rC : Nat} {sX sS sC : zSt} {i : Int32} {α : Type} {o : α} {kk : Option α} (C : zC x G own cc nL ret rm) (hd : decode cc pc = .ok (.iaload, 1)) (h : zg (zix i 10) kk = some o) (K : kk = some o → zW x G ce sl (pc + 1) lv (.int (zA sC 5 i.toNatClampNeg) :: st) (wdX G qX kR kS kP kC kU kD kV kT sX ++ (wdS G qS sS ++ (wdC G qC rC sC)))) : zW x G ce sl pc lv (.int i :: .ref (qC 6) :: st) (wdX G qX kR kS kP kC kU kD kV kT sX ++ (wdS G qS sS ++ (wdC G qC rC sC))) := z_iald C 18 rfl hd h K
theorem rw_g_X11_172_XSC_C {x : zX} {G : zG} {ce sl pc : Nat} {lv : List (Nat × Value)} {st : List Value} {cc : ByteArray} {nL : Nat} {ret : Option FieldType} {rm : Room} {qX qS qC kR kS kP kC kU kD kV kT : Nat → Nat} {rC : Nat} {sX sS sC : zSt} (C : zC x G RX11 cc nL ret rm) (hd : decode cc pc = .ok (.getfield 172, 3)) (K : zW x G ce sl (pc + 3) lv (.ref (qC 11) :: st) (wdX G qX kR kS kP kC kU kD kV kT sX ++ (wdS G qS sS ++ (wdC G qC rC sC)))) : zW x G ce sl pc lv (.ref (qC 0) :: st) (wdX G qX kR kS kP kC kU kD kV kT sX ++ (wdS G qS sS ++ (wdC G qC rC sC))) := z_get C (Cn := RX2) (T := TX2) (N := 18) (ci := 2) (k := 10) inzX2 rfl (by decide) rw_u_236 (fun _ h => h) 15 rfl rfl hd K
theorem rw_l_XSC_C_10 {x : zX} {G : zG} {ce sl pc : Nat} {lv : List (Nat × Value)} {st : List Value} {cc : ByteArray} {nL : Nat} {ret : Option FieldType} {rm : Room} {own : String} {qX qS qC kR kS kP kC kU kD kV kT : Nat → Nat} {rC : Nat} {sX sS sC : zSt} {i : Int32} {α : Type} {o : α} {kk : Option α} (C : zC x G own cc nL ret rm) (hd : decode cc pc = .ok (.iaload, 1)) (h : zg (zix i 10) kk = some o) (K : kk = some o → zW x G ce sl (pc + 1) lv (.int (zA sC 10 i.toNatClampNeg) :: st) (wdX G qX kR kS kP kC kU kD kV kT sX ++ (wdS G qS sS ++ (wdC G qC rC sC)))) : zW x G ce sl pc lv (.int i :: .ref (qC 11) :: st) (wdX G qX kR kS kP kC kU kD kV kT sX ++ (wdS G qS sS ++ (wdC G qC rC sC))) := z_iald C 23 rfl hd h K
theorem rw_g_X11_175_XSC_C {x : zX} {G : zG} {ce sl pc : Nat} {lv : List (Nat × Value)} {st : List Value} {cc : ByteArray} {nL : Nat} {ret : Option FieldType} {rm : Room} {qX qS qC kR kS kP kC kU kD kV kT : Nat → Nat} {rC : Nat} {sX sS sC : zSt} (C : zC x G RX11 cc nL ret rm) (hd : decode cc pc = .ok (.getfield 175, 3)) (K : zW x G ce sl (pc + 3) lv (.ref (qC 12) :: st) (wdX G qX kR kS kP kC kU kD kV kT sX ++ (wdS G qS sS ++ (wdC G qC rC sC)))) : zW x G ce sl pc lv (.ref (qC 0) :: st) (wdX G qX kR kS kP kC kU kD kV kT sX ++ (wdS G qS sS ++ (wdC G qC rC sC))) := z_get C (Cn := RX2) (T := TX2) (N := 18) (ci := 2) (k := 11) inzX2 rfl (by decide) rw_u_240 (fun _ h => h) 15 rfl rfl hd K
theorem rw_l_XSC_C_11 {x : zX} {G : zG} {ce sl pc : Nat} {lv : List (Nat × Value)} {st : List Value} {cc : ByteArray} {nL : Nat} {ret : Option FieldType} {rm : Room} {own : String} {qX qS qC kR kS kP kC kU kD kV kT : Nat → Nat} {rC : Nat} {sX sS sC : zSt} {i : Int32} {α : Type} {o : α} {kk : Option α} (C : zC x G own cc nL ret rm) (hd : decode cc pc = .ok (.iaload, 1)) (h : zg (zix i 10) kk = some o) (K : kk = some o → zW x G ce sl (pc + 1) lv (.int (zA sC 11 i.toNatClampNeg) :: st) (wdX G qX kR kS kP kC kU kD kV kT sX ++ (wdS G qS sS ++ (wdC G qC rC sC)))) : zW x G ce sl pc lv (.int i :: .ref (qC 12) :: st) (wdX G qX kR kS kP kC kU kD kV kT sX ++ (wdS G qS sS ++ (wdC G qC rC sC))) := z_iald C 24 rfl hd h K
theorem rw_g_X11_178_XSC_C {x : zX} {G : zG} {ce sl pc : Nat} {lv : List (Nat × Value)} {st : List Value} {cc : ByteArray} {nL : Nat} {ret : Option FieldType} {rm : Room} {qX qS qC kR kS kP kC kU kD kV kT : Nat → Nat} {rC : Nat} {sX sS sC : zSt} (C : zC x G RX11 cc nL ret rm) (hd : decode cc pc = .ok (.getfield 178, 3)) (K : zW x G ce sl (pc + 3) lv (.ref (qC 13) :: st) (wdX G qX kR kS kP kC kU kD kV kT sX ++ (wdS G qS sS ++ (wdC G qC rC sC)))) : zW x G ce sl pc lv (.ref (qC 0) :: st) (wdX G qX kR kS kP kC kU kD kV kT sX ++ (wdS G qS sS ++ (wdC G qC rC sC))) := z_get C (Cn := RX2) (T := TX2) (N := 18) (ci := 2) (k := 12) inzX2 rfl (by decide) rw_u_243 (fun _ h => h) 15 rfl rfl hd K
theorem rw_l_XSC_C_12 {x : zX} {G : zG} {ce sl pc : Nat} {lv : List (Nat × Value)} {st : List Value} {cc : ByteArray} {nL : Nat} {ret : Option FieldType} {rm : Room} {own : String} {qX qS qC kR kS kP kC kU kD kV kT : Nat → Nat} {rC : Nat} {sX sS sC : zSt} {i : Int32} {α : Type} {o : α} {kk : Option α} (C : zC x G own cc nL ret rm) (hd : decode cc pc = .ok (.iaload, 1)) (h : zg (zix i 10) kk = some o) (K : kk = some o → zW x G ce sl (pc + 1) lv (.int (zA sC 12 i.toNatClampNeg) :: st) (wdX G qX kR kS kP kC kU kD kV kT sX ++ (wdS G qS sS ++ (wdC G qC rC sC)))) : zW x G ce sl pc lv (.int i :: .ref (qC 13) :: st) (wdX G qX kR kS kP kC kU kD kV kT sX ++ (wdS G qS sS ++ (wdC G qC rC sC))) := z_iald C 25 rfl hd h K
theorem rw_g_X11_29_XSC_X {x : zX} {G : zG} {ce sl pc : Nat} {lv : List (Nat × Value)} {st : List Value} {cc : ByteArray} {nL : Nat} {ret : Option FieldType} {rm : Room} {qX qS qC kR kS kP kC kU kD kV kT : Nat → Nat} {rC : Nat} {sX sS sC : zSt} (C : zC x G RX11 cc nL ret rm) (hd : decode cc pc = .ok (.getfield 29, 3)) (K : zW x G ce sl (pc + 3) lv (.ref (kS 0) :: st) (wdX G qX kR kS kP kC kU kD kV kT sX ++ (wdS G qS sS ++ (wdC G qC rC sC)))) : zW x G ce sl pc lv (.ref (qX 0) :: st) (wdX G qX kR kS kP kC kU kD kV kT sX ++ (wdS G qS sS ++ (wdC G qC rC sC))) := z_get C (Cn := RX11) (T := TX11) (N := 14) (ci := 10) (k := 7) inzX11 rfl (by decide) rw_u_360 (fun _ h => h) 0 rfl rfl hd K
theorem rw_c_X11_181 {x : zX} {G : zG} {ce sl pc : Nat} {lv : List (Nat × Value)} {cc : ByteArray} {nL : Nat} {ret : Option FieldType} {rm : Room} {w w1 : va_W} {rest : List Value} {r : Option Value} {a0 : Int32} {b : Nat} {fs : List Value} (C : zC x G RX11 cc nL ret rm) (hc : Ct (xl x) G yX7_way cX7_way 2 (some .int) rmX7_way [.ref b, .int a0] w r w1) (q0 : Nat) (he : w[q0]? = some (b, .inr (7, fs))) (hd : decode cc pc = .ok (.invokevirtual 181, 3)) (hcat : (rest.map fun v => v.category).sum ≤ 8) (hrm : zRm rm rmX7_way 2 ce sl) (K : zW x G (ce + rmX7_way.cells) (sl + rmX7_way.slots) (pc + 3) lv (r.toList ++ rest) w1) : zW x G ce sl pc lv (.int a0 :: .ref b :: rest) w := z_callV C 1 rw_u_596 rw_u_73 rw_u_692 rw_u_594 rw_u_595 ⟨by decide, by decide, by decide +kernel⟩ (T := TX7) (N := 13) rfl hc rfl q0 he hd hcat hrm K
theorem rw_g_X11_130_XC_X {x : zX} {G : zG} {ce sl pc : Nat} {lv : List (Nat × Value)} {st : List Value} {cc : ByteArray} {nL : Nat} {ret : Option FieldType} {rm : Room} {qX qC kR kS kP kC kU kD kV kT : Nat → Nat} {rC : Nat} {sX sC : zSt} (C : zC x G RX11 cc nL ret rm) (hd : decode cc pc = .ok (.getfield 130, 3)) (K : zW x G ce sl (pc + 3) lv (.int (zI sX 6) :: st) (wdX G qX kR kS kP kC kU kD kV kT sX ++ (wdC G qC rC sC))) : zW x G ce sl pc lv (.ref (qX 0) :: st) (wdX G qX kR kS kP kC kU kD kV kT sX ++ (wdC G qC rC sC)) := z_get C (Cn := RX11) (T := TX11) (N := 14) (ci := 10) (k := 6) inzX11 rfl (by decide) rw_u_359 (fun _ h => h) 0 rfl rfl hd K
theorem rw_g_X11_16_XC_X {x : zX} {G : zG} {ce sl pc : Nat} {lv : List (Nat × Value)} {st : List Value} {cc : ByteArray} {nL : Nat} {ret : Option FieldType} {rm : Room} {qX qC kR kS kP kC kU kD kV kT : Nat → Nat} {rC : Nat} {sX sC : zSt} (C : zC x G RX11 cc nL ret rm) (hd : decode cc pc = .ok (.getfield 16, 3)) (K : zW x G ce sl (pc + 3) lv (.ref (qX 3) :: st) (wdX G qX kR kS kP kC kU kD kV kT sX ++ (wdC G qC rC sC))) : zW x G ce sl pc lv (.ref (qX 0) :: st) (wdX G qX kR kS kP kC kU kD kV kT sX ++ (wdC G qC rC sC)) := z_get C (Cn := RX11) (T := TX11) (N := 14) (ci := 10) (k := 2) inzX11 rfl (by decide) rw_u_355 (fun _ h => h) 0 rfl rfl hd K
theorem rw_l_XC_X_2 {x : zX} {G : zG} {ce sl pc : Nat} {lv : List (Nat × Value)} {st : List Value} {cc : ByteArray} {nL : Nat} {ret : Option FieldType} {rm : Room} {own : String} {qX qC kR kS kP kC kU kD kV kT : Nat → Nat} {rC : Nat} {sX sC : zSt} {i : Int32} {α : Type} {o : α} {kk : Option α} (C : zC x G own cc nL ret rm) (hd : decode cc pc = .ok (.iaload, 1)) (h : zg (zix i 320) kk = some o) (K : kk = some o → zW x G ce sl (pc + 1) lv (.int (zA sX 2 i.toNatClampNeg) :: st) (wdX G qX kR kS kP kC kU kD kV kT sX ++ (wdC G qC rC sC))) : zW x G ce sl pc lv (.int i :: .ref (qX 3) :: st) (wdX G qX kR kS kP kC kU kD kV kT sX ++ (wdC G qC rC sC)) := z_iald C 3 rfl hd h K
theorem rw_g_X11_161_XC_C {x : zX} {G : zG} {ce sl pc : Nat} {lv : List (Nat × Value)} {st : List Value} {cc : ByteArray} {nL : Nat} {ret : Option FieldType} {rm : Room} {qX qC kR kS kP kC kU kD kV kT : Nat → Nat} {rC : Nat} {sX sC : zSt} (C : zC x G RX11 cc nL ret rm) (hd : decode cc pc = .ok (.getfield 161, 3)) (K : zW x G ce sl (pc + 3) lv (.ref (qC 9) :: st) (wdX G qX kR kS kP kC kU kD kV kT sX ++ (wdC G qC rC sC))) : zW x G ce sl pc lv (.ref (qC 0) :: st) (wdX G qX kR kS kP kC kU kD kV kT sX ++ (wdC G qC rC sC)) := z_get C (Cn := RX2) (T := TX2) (N := 18) (ci := 2) (k := 8) inzX2 rfl (by decide) rw_u_232 (fun _ h => h) 4 rfl rfl hd K
theorem rw_l_XC_C_8 {x : zX} {G : zG} {ce sl pc : Nat} {lv : List (Nat × Value)} {st : List Value} {cc : ByteArray} {nL : Nat} {ret : Option FieldType} {rm : Room} {own : String} {qX qC kR kS kP kC kU kD kV kT : Nat → Nat} {rC : Nat} {sX sC : zSt} {i : Int32} {α : Type} {o : α} {kk : Option α} (C : zC x G own cc nL ret rm) (hd : decode cc pc = .ok (.iaload, 1)) (h : zg (zix i 10) kk = some o) (K : kk = some o → zW x G ce sl (pc + 1) lv (.int (zA sC 8 i.toNatClampNeg) :: st) (wdX G qX kR kS kP kC kU kD kV kT sX ++ (wdC G qC rC sC))) : zW x G ce sl pc lv (.int i :: .ref (qC 9) :: st) (wdX G qX kR kS kP kC kU kD kV kT sX ++ (wdC G qC rC sC)) := z_iald C 10 rfl hd h K
theorem rw_c_X11_186 {x : zX} {G : zG} {ce sl pc : Nat} {lv : List (Nat × Value)} {cc : ByteArray} {nL : Nat} {ret : Option FieldType} {rm : Room} {w w1 : va_W} {rest : List Value} {r : Option Value} {a0 : Int32} (C : zC x G RX11 cc nL ret rm) (hc : Ct (xl x) G yX11_isNoPurse cX11_isNoPurse 1 (some .boolean) rmX11_isNoPurse [.int a0] w r w1) (hd : decode cc pc = .ok (.invokestatic 186, 3)) (hcat : (rest.map fun v => v.category).sum ≤ 8) (hrm : zRm rm rmX11_isNoPurse 1 ce sl) (K : zW x G (ce + rmX11_isNoPurse.cells) (sl + rmX11_isNoPurse.slots) (pc + 3) lv (r.toList ++ rest) w1) : zW x G ce sl pc lv (.int a0 :: rest) w := z_callS C 1 rw_u_700 rw_u_71 rw_u_698 rw_u_699 ⟨by decide, by decide, by decide +kernel⟩ hc rfl hd hcat hrm K
theorem rw_g_X11_46_XCU_X {x : zX} {G : zG} {ce sl pc : Nat} {lv : List (Nat × Value)} {st : List Value} {cc : ByteArray} {nL : Nat} {ret : Option FieldType} {rm : Room} {qX qC qU kR kS kP kC kU kD kV kT : Nat → Nat} {rC : Nat} {sX sC sU : zSt} (C : zC x G RX11 cc nL ret rm) (hd : decode cc pc = .ok (.getfield 46, 3)) (K : zW x G ce sl (pc + 3) lv (.ref (kU 0) :: st) (wdX G qX kR kS kP kC kU kD kV kT sX ++ (wdC G qC rC sC ++ (wdU G qU sU)))) : zW x G ce sl pc lv (.ref (qX 0) :: st) (wdX G qX kR kS kP kC kU kD kV kT sX ++ (wdC G qC rC sC ++ (wdU G qU sU))) := z_get C (Cn := RX11) (T := TX11) (N := 14) (ci := 10) (k := 10) inzX11 rfl (by decide) rw_u_363 (fun _ h => h) 0 rfl rfl hd K
theorem rw_g_X11_189_XCU_U {x : zX} {G : zG} {ce sl pc : Nat} {lv : List (Nat × Value)} {st : List Value} {cc : ByteArray} {nL : Nat} {ret : Option FieldType} {rm : Room} {qX qC qU kR kS kP kC kU kD kV kT : Nat → Nat} {rC : Nat} {sX sC sU : zSt} (C : zC x G RX11 cc nL ret rm) (hd : decode cc pc = .ok (.getfield 189, 3)) (K : zW x G ce sl (pc + 3) lv (.ref (qU 1) :: st) (wdX G qX kR kS kP kC kU kD kV kT sX ++ (wdC G qC rC sC ++ (wdU G qU sU)))) : zW x G ce sl pc lv (.ref (qU 0) :: st) (wdX G qX kR kS kP kC kU kD kV kT sX ++ (wdC G qC rC sC ++ (wdU G qU sU))) := z_get C (Cn := RX8) (T := TX8) (N := 9) (ci := 8) (k := 0) inzX8 rfl (by decide) rw_u_299 (fun _ h => h) 19 rfl rfl hd K
theorem rw_l_XCU_U_0 {x : zX} {G : zG} {ce sl pc : Nat} {lv : List (Nat × Value)} {st : List Value} {cc : ByteArray} {nL : Nat} {ret : Option FieldType} {rm : Room} {own : String} {qX qC qU kR kS kP kC kU kD kV kT : Nat → Nat} {rC : Nat} {sX sC sU : zSt} {i : Int32} {α : Type} {o : α} {kk : Option α} (C : zC x G own cc nL ret rm) (hd : decode cc pc = .ok (.laload, 1)) (h : zg (zix i 3) kk = some o) (K : kk = some o → zW x G ce sl (pc + 1) lv (.long (zL sU 0 i.toNatClampNeg) :: st) (wdX G qX kR kS kP kC kU kD kV kT sX ++ (wdC G qC rC sC ++ (wdU G qU sU)))) : zW x G ce sl pc lv (.int i :: .ref (qU 1) :: st) (wdX G qX kR kS kP kC kU kD kV kT sX ++ (wdC G qC rC sC ++ (wdU G qU sU))) := z_lald C 20 rfl hd h K
theorem rw_g_X11_193_XCU_U {x : zX} {G : zG} {ce sl pc : Nat} {lv : List (Nat × Value)} {st : List Value} {cc : ByteArray} {nL : Nat} {ret : Option FieldType} {rm : Room} {qX qC qU kR kS kP kC kU kD kV kT : Nat → Nat} {rC : Nat} {sX sC sU : zSt} (C : zC x G RX11 cc nL ret rm) (hd : decode cc pc = .ok (.getfield 193, 3)) (K : zW x G ce sl (pc + 3) lv (.ref (qU 2) :: st) (wdX G qX kR kS kP kC kU kD kV kT sX ++ (wdC G qC rC sC ++ (wdU G qU sU)))) : zW x G ce sl pc lv (.ref (qU 0) :: st) (wdX G qX kR kS kP kC kU kD kV kT sX ++ (wdC G qC rC sC ++ (wdU G qU sU))) := z_get C (Cn := RX8) (T := TX8) (N := 9) (ci := 8) (k := 1) inzX8 rfl (by decide) rw_u_301 (fun _ h => h) 19 rfl rfl hd K
theorem rw_l_XCU_U_1 {x : zX} {G : zG} {ce sl pc : Nat} {lv : List (Nat × Value)} {st : List Value} {cc : ByteArray} {nL : Nat} {ret : Option FieldType} {rm : Room} {own : String} {qX qC qU kR kS kP kC kU kD kV kT : Nat → Nat} {rC : Nat} {sX sC sU : zSt} {i : Int32} {α : Type} {o : α} {kk : Option α} (C : zC x G own cc nL ret rm) (hd : decode cc pc = .ok (.laload, 1)) (h : zg (zix i 3) kk = some o) (K : kk = some o → zW x G ce sl (pc + 1) lv (.long (zL sU 1 i.toNatClampNeg) :: st) (wdX G qX kR kS kP kC kU kD kV kT sX ++ (wdC G qC rC sC ++ (wdU G qU sU)))) : zW x G ce sl pc lv (.int i :: .ref (qU 2) :: st) (wdX G qX kR kS kP kC kU kD kV kT sX ++ (wdC G qC rC sC ++ (wdU G qU sU))) := z_lald C 21 rfl hd h K
theorem rw_g_X11_39_XCU_X {x : zX} {G : zG} {ce sl pc : Nat} {lv : List (Nat × Value)} {st : List Value} {cc : ByteArray} {nL : Nat} {ret : Option FieldType} {rm : Room} {qX qC qU kR kS kP kC kU kD kV kT : Nat → Nat} {rC : Nat} {sX sC sU : zSt} (C : zC x G RX11 cc nL ret rm) (hd : decode cc pc = .ok (.getfield 39, 3)) (K : zW x G ce sl (pc + 3) lv (.ref (kC 0) :: st) (wdX G qX kR kS kP kC kU kD kV kT sX ++ (wdC G qC rC sC ++ (wdU G qU sU)))) : zW x G ce sl pc lv (.ref (qX 0) :: st) (wdX G qX kR kS kP kC kU kD kV kT sX ++ (wdC G qC rC sC ++ (wdU G qU sU))) := z_get C (Cn := RX11) (T := TX11) (N := 14) (ci := 10) (k := 9) inzX11 rfl (by decide) rw_u_362 (fun _ h => h) 0 rfl rfl hd K
theorem rw_g_X11_196_XCU_C {x : zX} {G : zG} {ce sl pc : Nat} {lv : List (Nat × Value)} {st : List Value} {cc : ByteArray} {nL : Nat} {ret : Option FieldType} {rm : Room} {qX qC qU kR kS kP kC kU kD kV kT : Nat → Nat} {rC : Nat} {sX sC sU : zSt} (C : zC x G RX11 cc nL ret rm) (hd : decode cc pc = .ok (.getfield 196, 3)) (K : zW x G ce sl (pc + 3) lv (.ref (qC 4) :: st) (wdX G qX kR kS kP kC kU kD kV kT sX ++ (wdC G qC rC sC ++ (wdU G qU sU)))) : zW x G ce sl pc lv (.ref (qC 0) :: st) (wdX G qX kR kS kP kC kU kD kV kT sX ++ (wdC G qC rC sC ++ (wdU G qU sU))) := z_get C (Cn := RX2) (T := TX2) (N := 18) (ci := 2) (k := 3) inzX2 rfl (by decide) rw_u_219 (fun _ h => h) 4 rfl rfl hd K
theorem rw_l_XCU_C_3 {x : zX} {G : zG} {ce sl pc : Nat} {lv : List (Nat × Value)} {st : List Value} {cc : ByteArray} {nL : Nat} {ret : Option FieldType} {rm : Room} {own : String} {qX qC qU kR kS kP kC kU kD kV kT : Nat → Nat} {rC : Nat} {sX sC sU : zSt} {i : Int32} {α : Type} {o : α} {kk : Option α} (C : zC x G own cc nL ret rm) (hd : decode cc pc = .ok (.iaload, 1)) (h : zg (zix i 3) kk = some o) (K : kk = some o → zW x G ce sl (pc + 1) lv (.int (zA sC 3 i.toNatClampNeg) :: st) (wdX G qX kR kS kP kC kU kD kV kT sX ++ (wdC G qC rC sC ++ (wdU G qU sU)))) : zW x G ce sl pc lv (.int i :: .ref (qC 4) :: st) (wdX G qX kR kS kP kC kU kD kV kT sX ++ (wdC G qC rC sC ++ (wdU G qU sU))) := z_iald C 6 rfl hd h K
theorem rw_g_X11_199_XCU_U {x : zX} {G : zG} {ce sl pc : Nat} {lv : List (Nat × Value)} {st : List Value} {cc : ByteArray} {nL : Nat} {ret : Option FieldType} {rm : Room} {qX qC qU kR kS kP kC kU kD kV kT : Nat → Nat} {rC : Nat} {sX sC sU : zSt} (C : zC x G RX11 cc nL ret rm) (hd : decode cc pc = .ok (.getfield 199, 3)) (K : zW x G ce sl (pc + 3) lv (.ref (qU 3) :: st) (wdX G qX kR kS kP kC kU kD kV kT sX ++ (wdC G qC rC sC ++ (wdU G qU sU)))) : zW x G ce sl pc lv (.ref (qU 0) :: st) (wdX G qX kR kS kP kC kU kD kV kT sX ++ (wdC G qC rC sC ++ (wdU G qU sU))) := z_get C (Cn := RX8) (T := TX8) (N := 9) (ci := 8) (k := 2) inzX8 rfl (by decide) rw_u_303 (fun _ h => h) 19 rfl rfl hd K
theorem rw_l_XCU_U_2 {x : zX} {G : zG} {ce sl pc : Nat} {lv : List (Nat × Value)} {st : List Value} {cc : ByteArray} {nL : Nat} {ret : Option FieldType} {rm : Room} {own : String} {qX qC qU kR kS kP kC kU kD kV kT : Nat → Nat} {rC : Nat} {sX sC sU : zSt} {i : Int32} {α : Type} {o : α} {kk : Option α} (C : zC x G own cc nL ret rm) (hd : decode cc pc = .ok (.iaload, 1)) (h : zg (zix i 3) kk = some o) (K : kk = some o → zW x G ce sl (pc + 1) lv (.int (zA sU 2 i.toNatClampNeg) :: st) (wdX G qX kR kS kP kC kU kD kV kT sX ++ (wdC G qC rC sC ++ (wdU G qU sU)))) : zW x G ce sl pc lv (.int i :: .ref (qU 3) :: st) (wdX G qX kR kS kP kC kU kD kV kT sX ++ (wdC G qC rC sC ++ (wdU G qU sU))) := z_iald C 22 rfl hd h K
theorem rw_c_X11_202 {x : zX} {G : zG} {ce sl pc : Nat} {lv : List (Nat × Value)} {cc : ByteArray} {nL : Nat} {ret : Option FieldType} {rm : Room} {w w1 : va_W} {rest : List Value} {r : Option Value} {a0 : Int32} {a1 : Int32} (C : zC x G RX11 cc nL ret rm) (hc : Ct (xl x) G yX11_areNoPair cX11_areNoPair 2 (some .boolean) rmX11_areNoPair [.int a0, .int a1] w r w1) (hd : decode cc pc = .ok (.invokestatic 202, 3)) (hcat : (rest.map fun v => v.category).sum ≤ 8) (hrm : zRm rm rmX11_areNoPair 2 ce sl) (K : zW x G (ce + rmX11_areNoPair.cells) (sl + rmX11_areNoPair.slots) (pc + 3) lv (r.toList ++ rest) w1) : zW x G ce sl pc lv (.int a1 :: .int a0 :: rest) w := z_callS C 2 rw_u_711 rw_u_71 rw_u_709 rw_u_710 ⟨by decide, by decide, by decide +kernel⟩ hc rfl hd hcat hrm K
theorem rw_g_X11_46_XU_X {x : zX} {G : zG} {ce sl pc : Nat} {lv : List (Nat × Value)} {st : List Value} {cc : ByteArray} {nL : Nat} {ret : Option FieldType} {rm : Room} {qX qU kR kS kP kC kU kD kV kT : Nat → Nat} {sX sU : zSt} (C : zC x G RX11 cc nL ret rm) (hd : decode cc pc = .ok (.getfield 46, 3)) (K : zW x G ce sl (pc + 3) lv (.ref (kU 0) :: st) (wdX G qX kR kS kP kC kU kD kV kT sX ++ (wdU G qU sU))) : zW x G ce sl pc lv (.ref (qX 0) :: st) (wdX G qX kR kS kP kC kU kD kV kT sX ++ (wdU G qU sU)) := z_get C (Cn := RX11) (T := TX11) (N := 14) (ci := 10) (k := 10) inzX11 rfl (by decide) rw_u_363 (fun _ h => h) 0 rfl rfl hd K
theorem rw_g_X11_206_XU_U {x : zX} {G : zG} {ce sl pc : Nat} {lv : List (Nat × Value)} {st : List Value} {cc : ByteArray} {nL : Nat} {ret : Option FieldType} {rm : Room} {qX qU kR kS kP kC kU kD kV kT : Nat → Nat} {sX sU : zSt} (C : zC x G RX11 cc nL ret rm) (hd : decode cc pc = .ok (.getfield 206, 3)) (K : zW x G ce sl (pc + 3) lv (.ref (qU 4) :: st) (wdX G qX kR kS kP kC kU kD kV kT sX ++ (wdU G qU sU))) : zW x G ce sl pc lv (.ref (qU 0) :: st) (wdX G qX kR kS kP kC kU kD kV kT sX ++ (wdU G qU sU)) := z_get C (Cn := RX8) (T := TX8) (N := 9) (ci := 8) (k := 3) inzX8 rfl (by decide) rw_u_305 (fun _ h => h) 4 rfl rfl hd K
theorem rw_l_XU_U_3 {x : zX} {G : zG} {ce sl pc : Nat} {lv : List (Nat × Value)} {st : List Value} {cc : ByteArray} {nL : Nat} {ret : Option FieldType} {rm : Room} {own : String} {qX qU kR kS kP kC kU kD kV kT : Nat → Nat} {sX sU : zSt} {i : Int32} {α : Type} {o : α} {kk : Option α} (C : zC x G own cc nL ret rm) (hd : decode cc pc = .ok (.laload, 1)) (h : zg (zix i 9) kk = some o) (K : kk = some o → zW x G ce sl (pc + 1) lv (.long (zL sU 3 i.toNatClampNeg) :: st) (wdX G qX kR kS kP kC kU kD kV kT sX ++ (wdU G qU sU))) : zW x G ce sl pc lv (.int i :: .ref (qU 4) :: st) (wdX G qX kR kS kP kC kU kD kV kT sX ++ (wdU G qU sU)) := z_lald C 8 rfl hd h K
theorem rw_math_X11_233 {x : zX} {G : zG} {ce sl pc : Nat} {lv : List (Nat × Value)} {st : List Value} {cc : ByteArray} {nL : Nat} {ret : Option FieldType} {rm : Room} {w : va_W} {a : Int64} (C : zC x G RX11 cc nL ret rm) (hd : decode cc pc = .ok (.invokestatic 233, 3)) (hfr : 1 ≤ rm.frames) (hlo : (st.map fun v => v.category).sum + 13 ≤ rm.locals) (hc : ce ≤ rm.cells) (hs : sl ≤ rm.slots) (K : zW x G ce sl (pc + 3) lv (.long (if 0 < a then a else -a) :: st) w) : zW x G ce sl pc lv (.long a :: st) w := fun H locs ls hP hD hS hl => va_mabs_long C.1 C.2.1 hl.1.symm C.2.2.2.1 (C.2.2.2.2.1 _ rw_u_722) (C.2.2.2.2.1 _ rw_u_723) (C.2.2.2.2.1 _ rw_u_84) (C.2.2.2.2.1 _ rw_u_724) (by rw [C.2.2.2.2.2.2.2.2.2.1]; exact hfr) (by rw [C.2.2.2.2.2.2.2.2.2.1]; exact hlo) (by rw [C.2.2.2.2.2.2.2.2.2.1]; exact hc) (by rw [C.2.2.2.2.2.2.2.2.2.1]; exact hs) hd (K H locs ls hP hD hS hl)
theorem rw_c_X11_238 {x : zX} {G : zG} {ce sl pc : Nat} {lv : List (Nat × Value)} {cc : ByteArray} {nL : Nat} {ret : Option FieldType} {rm : Room} {w w1 : va_W} {rest : List Value} {r : Option Value} {a0 : Int64} {a1 : Int64} (C : zC x G RX11 cc nL ret rm) (hc : Ct (xl x) G yX11_commonDivisor cX11_commonDivisor 11 (some .long) rmX11_commonDivisor [.long a0, .long a1] w r w1) (hd : decode cc pc = .ok (.invokestatic 238, 3)) (hcat : (rest.map fun v => v.category).sum ≤ 8) (hrm : zRm rm rmX11_commonDivisor 11 ce sl) (K : zW x G (ce + rmX11_commonDivisor.cells) (sl + rmX11_commonDivisor.slots) (pc + 3) lv (r.toList ++ rest) w1) : zW x G ce sl pc lv (.long a1 :: .long a0 :: rest) w := z_callS C 2 rw_u_727 rw_u_71 rw_u_725 rw_u_726 ⟨by decide, by decide, by decide +kernel⟩ hc rfl hd hcat hrm K
theorem rw_c_X11_209 {x : zX} {G : zG} {ce sl pc : Nat} {lv : List (Nat × Value)} {cc : ByteArray} {nL : Nat} {ret : Option FieldType} {rm : Room} {w w1 : va_W} {rest : List Value} {r : Option Value} {a0 : Int32} (C : zC x G RX11 cc nL ret rm) (hc : Ct (xl x) G yX11_isNoPart cX11_isNoPart 1 (some .boolean) rmX11_isNoPart [.int a0] w r w1) (hd : decode cc pc = .ok (.invokestatic 209, 3)) (hcat : (rest.map fun v => v.category).sum ≤ 8) (hrm : zRm rm rmX11_isNoPart 1 ce sl) (K : zW x G (ce + rmX11_isNoPart.cells) (sl + rmX11_isNoPart.slots) (pc + 3) lv (r.toList ++ rest) w1) : zW x G ce sl pc lv (.int a0 :: rest) w := z_callS C 1 rw_u_718 rw_u_71 rw_u_716 rw_u_717 ⟨by decide, by decide, by decide +kernel⟩ hc rfl hd hcat hrm K
theorem rw_g_X11_130_XU_X {x : zX} {G : zG} {ce sl pc : Nat} {lv : List (Nat × Value)} {st : List Value} {cc : ByteArray} {nL : Nat} {ret : Option FieldType} {rm : Room} {qX qU kR kS kP kC kU kD kV kT : Nat → Nat} {sX sU : zSt} (C : zC x G RX11 cc nL ret rm) (hd : decode cc pc = .ok (.getfield 130, 3)) (K : zW x G ce sl (pc + 3) lv (.int (zI sX 6) :: st) (wdX G qX kR kS kP kC kU kD kV kT sX ++ (wdU G qU sU))) : zW x G ce sl pc lv (.ref (qX 0) :: st) (wdX G qX kR kS kP kC kU kD kV kT sX ++ (wdU G qU sU)) := z_get C (Cn := RX11) (T := TX11) (N := 14) (ci := 10) (k := 6) inzX11 rfl (by decide) rw_u_359 (fun _ h => h) 0 rfl rfl hd K
theorem rw_g_X11_212_XU_U {x : zX} {G : zG} {ce sl pc : Nat} {lv : List (Nat × Value)} {st : List Value} {cc : ByteArray} {nL : Nat} {ret : Option FieldType} {rm : Room} {qX qU kR kS kP kC kU kD kV kT : Nat → Nat} {sX sU : zSt} (C : zC x G RX11 cc nL ret rm) (hd : decode cc pc = .ok (.getfield 212, 3)) (K : zW x G ce sl (pc + 3) lv (.ref (qU 5) :: st) (wdX G qX kR kS kP kC kU kD kV kT sX ++ (wdU G qU sU))) : zW x G ce sl pc lv (.ref (qU 0) :: st) (wdX G qX kR kS kP kC kU kD kV kT sX ++ (wdU G qU sU)) := z_get C (Cn := RX8) (T := TX8) (N := 9) (ci := 8) (k := 4) inzX8 rfl (by decide) rw_u_307 (fun _ h => h) 4 rfl rfl hd K
theorem rw_l_XU_U_4 {x : zX} {G : zG} {ce sl pc : Nat} {lv : List (Nat × Value)} {st : List Value} {cc : ByteArray} {nL : Nat} {ret : Option FieldType} {rm : Room} {own : String} {qX qU kR kS kP kC kU kD kV kT : Nat → Nat} {sX sU : zSt} {i : Int32} {α : Type} {o : α} {kk : Option α} (C : zC x G own cc nL ret rm) (hd : decode cc pc = .ok (.laload, 1)) (h : zg (zix i 9) kk = some o) (K : kk = some o → zW x G ce sl (pc + 1) lv (.long (zL sU 4 i.toNatClampNeg) :: st) (wdX G qX kR kS kP kC kU kD kV kT sX ++ (wdU G qU sU))) : zW x G ce sl pc lv (.int i :: .ref (qU 5) :: st) (wdX G qX kR kS kP kC kU kD kV kT sX ++ (wdU G qU sU)) := z_lald C 9 rfl hd h K
theorem rw_g_X11_215_XU_U {x : zX} {G : zG} {ce sl pc : Nat} {lv : List (Nat × Value)} {st : List Value} {cc : ByteArray} {nL : Nat} {ret : Option FieldType} {rm : Room} {qX qU kR kS kP kC kU kD kV kT : Nat → Nat} {sX sU : zSt} (C : zC x G RX11 cc nL ret rm) (hd : decode cc pc = .ok (.getfield 215, 3)) (K : zW x G ce sl (pc + 3) lv (.long (zJ sU 7) :: st) (wdX G qX kR kS kP kC kU kD kV kT sX ++ (wdU G qU sU))) : zW x G ce sl pc lv (.ref (qU 0) :: st) (wdX G qX kR kS kP kC kU kD kV kT sX ++ (wdU G qU sU)) := z_get C (Cn := RX8) (T := TX8) (N := 9) (ci := 8) (k := 7) inzX8 rfl (by decide) rw_u_313 (fun _ h => h) 4 rfl rfl hd K
theorem rw_c_X11_219 {x : zX} {G : zG} {ce sl pc : Nat} {lv : List (Nat × Value)} {cc : ByteArray} {nL : Nat} {ret : Option FieldType} {rm : Room} {w w1 : va_W} {rest : List Value} {r : Option Value} {a0 : Int64} {a1 : Int64} {a2 : Int32} (C : zC x G RX11 cc nL ret rm) (hc : Ct (xl x) G yX11_partOf cX11_partOf 7 (some .long) rmX11_partOf [.long a0, .long a1, .int a2] w r w1) (hd : decode cc pc = .ok (.invokestatic 219, 3)) (hcat : (rest.map fun v => v.category).sum ≤ 8) (hrm : zRm rm rmX11_partOf 7 ce sl) (K : zW x G (ce + rmX11_partOf.cells) (sl + rmX11_partOf.slots) (pc + 3) lv (r.toList ++ rest) w1) : zW x G ce sl pc lv (.int a2 :: .long a1 :: .long a0 :: rest) w := z_callS C 3 rw_u_721 rw_u_71 rw_u_719 rw_u_720 ⟨by decide, by decide, by decide +kernel⟩ hc rfl hd hcat hrm K
theorem rw_g_X11_223_XU_U {x : zX} {G : zG} {ce sl pc : Nat} {lv : List (Nat × Value)} {st : List Value} {cc : ByteArray} {nL : Nat} {ret : Option FieldType} {rm : Room} {qX qU kR kS kP kC kU kD kV kT : Nat → Nat} {sX sU : zSt} (C : zC x G RX11 cc nL ret rm) (hd : decode cc pc = .ok (.getfield 223, 3)) (K : zW x G ce sl (pc + 3) lv (.ref (qU 6) :: st) (wdX G qX kR kS kP kC kU kD kV kT sX ++ (wdU G qU sU))) : zW x G ce sl pc lv (.ref (qU 0) :: st) (wdX G qX kR kS kP kC kU kD kV kT sX ++ (wdU G qU sU)) := z_get C (Cn := RX8) (T := TX8) (N := 9) (ci := 8) (k := 5) inzX8 rfl (by decide) rw_u_309 (fun _ h => h) 4 rfl rfl hd K
theorem rw_l_XU_U_5 {x : zX} {G : zG} {ce sl pc : Nat} {lv : List (Nat × Value)} {st : List Value} {cc : ByteArray} {nL : Nat} {ret : Option FieldType} {rm : Room} {own : String} {qX qU kR kS kP kC kU kD kV kT : Nat → Nat} {sX sU : zSt} {i : Int32} {α : Type} {o : α} {kk : Option α} (C : zC x G own cc nL ret rm) (hd : decode cc pc = .ok (.laload, 1)) (h : zg (zix i 3) kk = some o) (K : kk = some o → zW x G ce sl (pc + 1) lv (.long (zL sU 5 i.toNatClampNeg) :: st) (wdX G qX kR kS kP kC kU kD kV kT sX ++ (wdU G qU sU))) : zW x G ce sl pc lv (.int i :: .ref (qU 6) :: st) (wdX G qX kR kS kP kC kU kD kV kT sX ++ (wdU G qU sU)) := z_lald C 10 rfl hd h K
theorem rw_g_X11_226_XU_U {x : zX} {G : zG} {ce sl pc : Nat} {lv : List (Nat × Value)} {st : List Value} {cc : ByteArray} {nL : Nat} {ret : Option FieldType} {rm : Room} {qX qU kR kS kP kC kU kD kV kT : Nat → Nat} {sX sU : zSt} (C : zC x G RX11 cc nL ret rm) (hd : decode cc pc = .ok (.getfield 226, 3)) (K : zW x G ce sl (pc + 3) lv (.ref (qU 7) :: st) (wdX G qX kR kS kP kC kU kD kV kT sX ++ (wdU G qU sU))) : zW x G ce sl pc lv (.ref (qU 0) :: st) (wdX G qX kR kS kP kC kU kD kV kT sX ++ (wdU G qU sU)) := z_get C (Cn := RX8) (T := TX8) (N := 9) (ci := 8) (k := 6) inzX8 rfl (by decide) rw_u_311 (fun _ h => h) 4 rfl rfl hd K
theorem rw_l_XU_U_6 {x : zX} {G : zG} {ce sl pc : Nat} {lv : List (Nat × Value)} {st : List Value} {cc : ByteArray} {nL : Nat} {ret : Option FieldType} {rm : Room} {own : String} {qX qU kR kS kP kC kU kD kV kT : Nat → Nat} {sX sU : zSt} {i : Int32} {α : Type} {o : α} {kk : Option α} (C : zC x G own cc nL ret rm) (hd : decode cc pc = .ok (.laload, 1)) (h : zg (zix i 2) kk = some o) (K : kk = some o → zW x G ce sl (pc + 1) lv (.long (zL sU 6 i.toNatClampNeg) :: st) (wdX G qX kR kS kP kC kU kD kV kT sX ++ (wdU G qU sU))) : zW x G ce sl pc lv (.int i :: .ref (qU 7) :: st) (wdX G qX kR kS kP kC kU kD kV kT sX ++ (wdU G qU sU)) := z_lald C 11 rfl hd h K
theorem rw_c_X11_229 {x : zX} {G : zG} {ce sl pc : Nat} {lv : List (Nat × Value)} {cc : ByteArray} {nL : Nat} {ret : Option FieldType} {rm : Room} {w w1 : va_W} {rest : List Value} {r : Option Value}  {b : Nat} {fs : List Value} (C : zC x G RX11 cc nL ret rm) (hc : Ct (xl x) G yX8_endBottom cX8_endBottom 1 (some .long) rmX8_endBottom [.ref b] w r w1) (q0 : Nat) (he : w[q0]? = some (b, .inr (8, fs))) (hd : decode cc pc = .ok (.invokevirtual 229, 3)) (hcat : (rest.map fun v => v.category).sum ≤ 8) (hrm : zRm rm rmX8_endBottom 1 ce sl) (K : zW x G (ce + rmX8_endBottom.cells) (sl + rmX8_endBottom.slots) (pc + 3) lv (r.toList ++ rest) w1) : zW x G ce sl pc lv (.ref b :: rest) w := z_callV C 0 rw_u_739 rw_u_75 rw_u_736 rw_u_737 rw_u_738 ⟨by decide, by decide, by decide +kernel⟩ (T := TX8) (N := 9) rfl hc rfl q0 he hd hcat hrm K
theorem rw_g_X11_130_XSDV_X {x : zX} {G : zG} {ce sl pc : Nat} {lv : List (Nat × Value)} {st : List Value} {cc : ByteArray} {nL : Nat} {ret : Option FieldType} {rm : Room} {qX qS qD qV kR kS kP kC kU kD kV kT : Nat → Nat} {rD : Nat} {sX sS sD sV : zSt} (C : zC x G RX11 cc nL ret rm) (hd : decode cc pc = .ok (.getfield 130, 3)) (K : zW x G ce sl (pc + 3) lv (.int (zI sX 6) :: st) (wdX G qX kR kS kP kC kU kD kV kT sX ++ (wdS G qS sS ++ (wdC G qD rD sD ++ (wdU G qV sV))))) : zW x G ce sl pc lv (.ref (qX 0) :: st) (wdX G qX kR kS kP kC kU kD kV kT sX ++ (wdS G qS sS ++ (wdC G qD rD sD ++ (wdU G qV sV)))) := z_get C (Cn := RX11) (T := TX11) (N := 14) (ci := 10) (k := 6) inzX11 rfl (by decide) rw_u_359 (fun _ h => h) 0 rfl rfl hd K
theorem rw_g_X11_29_XSDV_X {x : zX} {G : zG} {ce sl pc : Nat} {lv : List (Nat × Value)} {st : List Value} {cc : ByteArray} {nL : Nat} {ret : Option FieldType} {rm : Room} {qX qS qD qV kR kS kP kC kU kD kV kT : Nat → Nat} {rD : Nat} {sX sS sD sV : zSt} (C : zC x G RX11 cc nL ret rm) (hd : decode cc pc = .ok (.getfield 29, 3)) (K : zW x G ce sl (pc + 3) lv (.ref (kS 0) :: st) (wdX G qX kR kS kP kC kU kD kV kT sX ++ (wdS G qS sS ++ (wdC G qD rD sD ++ (wdU G qV sV))))) : zW x G ce sl pc lv (.ref (qX 0) :: st) (wdX G qX kR kS kP kC kU kD kV kT sX ++ (wdS G qS sS ++ (wdC G qD rD sD ++ (wdU G qV sV)))) := z_get C (Cn := RX11) (T := TX11) (N := 14) (ci := 10) (k := 7) inzX11 rfl (by decide) rw_u_360 (fun _ h => h) 0 rfl rfl hd K
theorem rw_g_X11_242_XSDV_S {x : zX} {G : zG} {ce sl pc : Nat} {lv : List (Nat × Value)} {st : List Value} {cc : ByteArray} {nL : Nat} {ret : Option FieldType} {rm : Room} {qX qS qD qV kR kS kP kC kU kD kV kT : Nat → Nat} {rD : Nat} {sX sS sD sV : zSt} (C : zC x G RX11 cc nL ret rm) (hd : decode cc pc = .ok (.getfield 242, 3)) (K : zW x G ce sl (pc + 3) lv (.int (zI sS 0) :: st) (wdX G qX kR kS kP kC kU kD kV kT sX ++ (wdS G qS sS ++ (wdC G qD rD sD ++ (wdU G qV sV))))) : zW x G ce sl pc lv (.ref (qS 0) :: st) (wdX G qX kR kS kP kC kU kD kV kT sX ++ (wdS G qS sS ++ (wdC G qD rD sD ++ (wdU G qV sV)))) := z_get C (Cn := RX7) (T := TX7) (N := 13) (ci := 7) (k := 0) inzX7 rfl (by decide) rw_u_143 (fun _ h => h) 4 rfl rfl hd K
theorem rw_g_X11_50_XSDV_X {x : zX} {G : zG} {ce sl pc : Nat} {lv : List (Nat × Value)} {st : List Value} {cc : ByteArray} {nL : Nat} {ret : Option FieldType} {rm : Room} {qX qS qD qV kR kS kP kC kU kD kV kT : Nat → Nat} {rD : Nat} {sX sS sD sV : zSt} (C : zC x G RX11 cc nL ret rm) (hd : decode cc pc = .ok (.getfield 50, 3)) (K : zW x G ce sl (pc + 3) lv (.ref (kD 0) :: st) (wdX G qX kR kS kP kC kU kD kV kT sX ++ (wdS G qS sS ++ (wdC G qD rD sD ++ (wdU G qV sV))))) : zW x G ce sl pc lv (.ref (qX 0) :: st) (wdX G qX kR kS kP kC kU kD kV kT sX ++ (wdS G qS sS ++ (wdC G qD rD sD ++ (wdU G qV sV)))) := z_get C (Cn := RX11) (T := TX11) (N := 14) (ci := 10) (k := 11) inzX11 rfl (by decide) rw_u_364 (fun _ h => h) 0 rfl rfl hd K
theorem rw_c_X11_246 {x : zX} {G : zG} {ce sl pc : Nat} {lv : List (Nat × Value)} {cc : ByteArray} {nL : Nat} {ret : Option FieldType} {rm : Room} {w w1 : va_W} {rest : List Value} {r : Option Value} {a0 : Int32} {a1 : Int32} {b : Nat} {fs : List Value} (C : zC x G RX11 cc nL ret rm) (hc : Ct (xl x) G yX2_moveTo cX2_moveTo 4 none rmX2_moveTo [.ref b, .int a0, .int a1] w r w1) (q0 : Nat) (he : w[q0]? = some (b, .inr (2, fs))) (hd : decode cc pc = .ok (.invokevirtual 246, 3)) (hcat : (rest.map fun v => v.category).sum ≤ 8) (hrm : zRm rm rmX2_moveTo 4 ce sl) (K : zW x G (ce + rmX2_moveTo.cells) (sl + rmX2_moveTo.slots) (pc + 3) lv (r.toList ++ rest) w1) : zW x G ce sl pc lv (.int a1 :: .int a0 :: .ref b :: rest) w := z_callV C 2 rw_u_615 rw_u_74 rw_u_745 rw_u_613 rw_u_614 ⟨by decide, by decide, by decide +kernel⟩ (T := TX2) (N := 18) rfl hc rfl q0 he hd hcat hrm K
theorem rw_g_X11_137_XSDV_S {x : zX} {G : zG} {ce sl pc : Nat} {lv : List (Nat × Value)} {st : List Value} {cc : ByteArray} {nL : Nat} {ret : Option FieldType} {rm : Room} {qX qS qD qV kR kS kP kC kU kD kV kT : Nat → Nat} {rD : Nat} {sX sS sD sV : zSt} (C : zC x G RX11 cc nL ret rm) (hd : decode cc pc = .ok (.getfield 137, 3)) (K : zW x G ce sl (pc + 3) lv (.int (zI sS 1) :: st) (wdX G qX kR kS kP kC kU kD kV kT sX ++ (wdS G qS sS ++ (wdC G qD rD sD ++ (wdU G qV sV))))) : zW x G ce sl pc lv (.ref (qS 0) :: st) (wdX G qX kR kS kP kC kU kD kV kT sX ++ (wdS G qS sS ++ (wdC G qD rD sD ++ (wdU G qV sV)))) := z_get C (Cn := RX7) (T := TX7) (N := 13) (ci := 7) (k := 1) inzX7 rfl (by decide) rw_u_146 (fun _ h => h) 4 rfl rfl hd K
theorem rw_g_X11_53_XSDV_X {x : zX} {G : zG} {ce sl pc : Nat} {lv : List (Nat × Value)} {st : List Value} {cc : ByteArray} {nL : Nat} {ret : Option FieldType} {rm : Room} {qX qS qD qV kR kS kP kC kU kD kV kT : Nat → Nat} {rD : Nat} {sX sS sD sV : zSt} (C : zC x G RX11 cc nL ret rm) (hd : decode cc pc = .ok (.getfield 53, 3)) (K : zW x G ce sl (pc + 3) lv (.ref (kV 0) :: st) (wdX G qX kR kS kP kC kU kD kV kT sX ++ (wdS G qS sS ++ (wdC G qD rD sD ++ (wdU G qV sV))))) : zW x G ce sl pc lv (.ref (qX 0) :: st) (wdX G qX kR kS kP kC kU kD kV kT sX ++ (wdS G qS sS ++ (wdC G qD rD sD ++ (wdU G qV sV)))) := z_get C (Cn := RX11) (T := TX11) (N := 14) (ci := 10) (k := 12) inzX11 rfl (by decide) rw_u_365 (fun _ h => h) 0 rfl rfl hd K
theorem rw_g_X11_226_XSDV_V {x : zX} {G : zG} {ce sl pc : Nat} {lv : List (Nat × Value)} {st : List Value} {cc : ByteArray} {nL : Nat} {ret : Option FieldType} {rm : Room} {qX qS qD qV kR kS kP kC kU kD kV kT : Nat → Nat} {rD : Nat} {sX sS sD sV : zSt} (C : zC x G RX11 cc nL ret rm) (hd : decode cc pc = .ok (.getfield 226, 3)) (K : zW x G ce sl (pc + 3) lv (.ref (qV 7) :: st) (wdX G qX kR kS kP kC kU kD kV kT sX ++ (wdS G qS sS ++ (wdC G qD rD sD ++ (wdU G qV sV))))) : zW x G ce sl pc lv (.ref (qV 0) :: st) (wdX G qX kR kS kP kC kU kD kV kT sX ++ (wdS G qS sS ++ (wdC G qD rD sD ++ (wdU G qV sV)))) := z_get C (Cn := RX8) (T := TX8) (N := 9) (ci := 8) (k := 6) inzX8 rfl (by decide) rw_u_311 (fun _ h => h) 30 rfl rfl hd K
theorem rw_l_XSDV_V_6 {x : zX} {G : zG} {ce sl pc : Nat} {lv : List (Nat × Value)} {st : List Value} {cc : ByteArray} {nL : Nat} {ret : Option FieldType} {rm : Room} {own : String} {qX qS qD qV kR kS kP kC kU kD kV kT : Nat → Nat} {rD : Nat} {sX sS sD sV : zSt} {i : Int32} {α : Type} {o : α} {kk : Option α} (C : zC x G own cc nL ret rm) (hd : decode cc pc = .ok (.laload, 1)) (h : zg (zix i 2) kk = some o) (K : kk = some o → zW x G ce sl (pc + 1) lv (.long (zL sV 6 i.toNatClampNeg) :: st) (wdX G qX kR kS kP kC kU kD kV kT sX ++ (wdS G qS sS ++ (wdC G qD rD sD ++ (wdU G qV sV))))) : zW x G ce sl pc lv (.int i :: .ref (qV 7) :: st) (wdX G qX kR kS kP kC kU kD kV kT sX ++ (wdS G qS sS ++ (wdC G qD rD sD ++ (wdU G qV sV)))) := z_lald C 37 rfl hd h K
theorem rw_g_X11_50_XSUDV_X {x : zX} {G : zG} {ce sl pc : Nat} {lv : List (Nat × Value)} {st : List Value} {cc : ByteArray} {nL : Nat} {ret : Option FieldType} {rm : Room} {qX qS qU qD qV kR kS kP kC kU kD kV kT : Nat → Nat} {rD : Nat} {sX sS sU sD sV : zSt} (C : zC x G RX11 cc nL ret rm) (hd : decode cc pc = .ok (.getfield 50, 3)) (K : zW x G ce sl (pc + 3) lv (.ref (kD 0) :: st) (wdX G qX kR kS kP kC kU kD kV kT sX ++ (wdS G qS sS ++ (wdU G qU sU ++ (wdC G qD rD sD ++ (wdU G qV sV)))))) : zW x G ce sl pc lv (.ref (qX 0) :: st) (wdX G qX kR kS kP kC kU kD kV kT sX ++ (wdS G qS sS ++ (wdU G qU sU ++ (wdC G qD rD sD ++ (wdU G qV sV))))) := z_get C (Cn := RX11) (T := TX11) (N := 14) (ci := 10) (k := 11) inzX11 rfl (by decide) rw_u_364 (fun _ h => h) 0 rfl rfl hd K
theorem rw_g_X11_29_XSUDV_X {x : zX} {G : zG} {ce sl pc : Nat} {lv : List (Nat × Value)} {st : List Value} {cc : ByteArray} {nL : Nat} {ret : Option FieldType} {rm : Room} {qX qS qU qD qV kR kS kP kC kU kD kV kT : Nat → Nat} {rD : Nat} {sX sS sU sD sV : zSt} (C : zC x G RX11 cc nL ret rm) (hd : decode cc pc = .ok (.getfield 29, 3)) (K : zW x G ce sl (pc + 3) lv (.ref (kS 0) :: st) (wdX G qX kR kS kP kC kU kD kV kT sX ++ (wdS G qS sS ++ (wdU G qU sU ++ (wdC G qD rD sD ++ (wdU G qV sV)))))) : zW x G ce sl pc lv (.ref (qX 0) :: st) (wdX G qX kR kS kP kC kU kD kV kT sX ++ (wdS G qS sS ++ (wdU G qU sU ++ (wdC G qD rD sD ++ (wdU G qV sV))))) := z_get C (Cn := RX11) (T := TX11) (N := 14) (ci := 10) (k := 7) inzX11 rfl (by decide) rw_u_360 (fun _ h => h) 0 rfl rfl hd K
theorem rw_g_X11_137_XSUDV_S {x : zX} {G : zG} {ce sl pc : Nat} {lv : List (Nat × Value)} {st : List Value} {cc : ByteArray} {nL : Nat} {ret : Option FieldType} {rm : Room} {qX qS qU qD qV kR kS kP kC kU kD kV kT : Nat → Nat} {rD : Nat} {sX sS sU sD sV : zSt} (C : zC x G RX11 cc nL ret rm) (hd : decode cc pc = .ok (.getfield 137, 3)) (K : zW x G ce sl (pc + 3) lv (.int (zI sS 1) :: st) (wdX G qX kR kS kP kC kU kD kV kT sX ++ (wdS G qS sS ++ (wdU G qU sU ++ (wdC G qD rD sD ++ (wdU G qV sV)))))) : zW x G ce sl pc lv (.ref (qS 0) :: st) (wdX G qX kR kS kP kC kU kD kV kT sX ++ (wdS G qS sS ++ (wdU G qU sU ++ (wdC G qD rD sD ++ (wdU G qV sV))))) := z_get C (Cn := RX7) (T := TX7) (N := 13) (ci := 7) (k := 1) inzX7 rfl (by decide) rw_u_146 (fun _ h => h) 4 rfl rfl hd K
theorem rw_g_X11_53_XSUDV_X {x : zX} {G : zG} {ce sl pc : Nat} {lv : List (Nat × Value)} {st : List Value} {cc : ByteArray} {nL : Nat} {ret : Option FieldType} {rm : Room} {qX qS qU qD qV kR kS kP kC kU kD kV kT : Nat → Nat} {rD : Nat} {sX sS sU sD sV : zSt} (C : zC x G RX11 cc nL ret rm) (hd : decode cc pc = .ok (.getfield 53, 3)) (K : zW x G ce sl (pc + 3) lv (.ref (kV 0) :: st) (wdX G qX kR kS kP kC kU kD kV kT sX ++ (wdS G qS sS ++ (wdU G qU sU ++ (wdC G qD rD sD ++ (wdU G qV sV)))))) : zW x G ce sl pc lv (.ref (qX 0) :: st) (wdX G qX kR kS kP kC kU kD kV kT sX ++ (wdS G qS sS ++ (wdU G qU sU ++ (wdC G qD rD sD ++ (wdU G qV sV))))) := z_get C (Cn := RX11) (T := TX11) (N := 14) (ci := 10) (k := 12) inzX11 rfl (by decide) rw_u_365 (fun _ h => h) 0 rfl rfl hd K
theorem rw_c_X11_249 {x : zX} {G : zG} {ce sl pc : Nat} {lv : List (Nat × Value)} {cc : ByteArray} {nL : Nat} {ret : Option FieldType} {rm : Room} {w w1 : va_W} {rest : List Value} {r : Option Value}  {b : Nat} {fs : List Value} (C : zC x G RX11 cc nL ret rm) (hc : Ct (xl x) G yX8_herEndCut cX8_herEndCut 1 (some .long) rmX8_herEndCut [.ref b] w r w1) (q0 : Nat) (he : w[q0]? = some (b, .inr (8, fs))) (hd : decode cc pc = .ok (.invokevirtual 249, 3)) (hcat : (rest.map fun v => v.category).sum ≤ 8) (hrm : zRm rm rmX8_herEndCut 1 ce sl) (K : zW x G (ce + rmX8_herEndCut.cells) (sl + rmX8_herEndCut.slots) (pc + 3) lv (r.toList ++ rest) w1) : zW x G ce sl pc lv (.ref b :: rest) w := z_callV C 0 rw_u_753 rw_u_75 rw_u_750 rw_u_751 rw_u_752 ⟨by decide, by decide, by decide +kernel⟩ (T := TX8) (N := 9) rfl hc rfl q0 he hd hcat hrm K
theorem rw_g_X11_130_XSUDV_X {x : zX} {G : zG} {ce sl pc : Nat} {lv : List (Nat × Value)} {st : List Value} {cc : ByteArray} {nL : Nat} {ret : Option FieldType} {rm : Room} {qX qS qU qD qV kR kS kP kC kU kD kV kT : Nat → Nat} {rD : Nat} {sX sS sU sD sV : zSt} (C : zC x G RX11 cc nL ret rm) (hd : decode cc pc = .ok (.getfield 130, 3)) (K : zW x G ce sl (pc + 3) lv (.int (zI sX 6) :: st) (wdX G qX kR kS kP kC kU kD kV kT sX ++ (wdS G qS sS ++ (wdU G qU sU ++ (wdC G qD rD sD ++ (wdU G qV sV)))))) : zW x G ce sl pc lv (.ref (qX 0) :: st) (wdX G qX kR kS kP kC kU kD kV kT sX ++ (wdS G qS sS ++ (wdU G qU sU ++ (wdC G qD rD sD ++ (wdU G qV sV))))) := z_get C (Cn := RX11) (T := TX11) (N := 14) (ci := 10) (k := 6) inzX11 rfl (by decide) rw_u_359 (fun _ h => h) 0 rfl rfl hd K
theorem rw_g_X11_46_XSUDV_X {x : zX} {G : zG} {ce sl pc : Nat} {lv : List (Nat × Value)} {st : List Value} {cc : ByteArray} {nL : Nat} {ret : Option FieldType} {rm : Room} {qX qS qU qD qV kR kS kP kC kU kD kV kT : Nat → Nat} {rD : Nat} {sX sS sU sD sV : zSt} (C : zC x G RX11 cc nL ret rm) (hd : decode cc pc = .ok (.getfield 46, 3)) (K : zW x G ce sl (pc + 3) lv (.ref (kU 0) :: st) (wdX G qX kR kS kP kC kU kD kV kT sX ++ (wdS G qS sS ++ (wdU G qU sU ++ (wdC G qD rD sD ++ (wdU G qV sV)))))) : zW x G ce sl pc lv (.ref (qX 0) :: st) (wdX G qX kR kS kP kC kU kD kV kT sX ++ (wdS G qS sS ++ (wdU G qU sU ++ (wdC G qD rD sD ++ (wdU G qV sV))))) := z_get C (Cn := RX11) (T := TX11) (N := 14) (ci := 10) (k := 10) inzX11 rfl (by decide) rw_u_363 (fun _ h => h) 0 rfl rfl hd K
theorem rw_c_X11_254 {x : zX} {G : zG} {ce sl pc : Nat} {lv : List (Nat × Value)} {cc : ByteArray} {nL : Nat} {ret : Option FieldType} {rm : Room} {w w1 : va_W} {rest : List Value} {r : Option Value} {a0 : Int32} {b : Nat} {fs : List Value} (C : zC x G RX11 cc nL ret rm) (hc : Ct (xl x) G yX7_canBeLeftOut cX7_canBeLeftOut 3 (some .boolean) rmX7_canBeLeftOut [.ref b, .int a0] w r w1) (q0 : Nat) (he : w[q0]? = some (b, .inr (7, fs))) (hd : decode cc pc = .ok (.invokevirtual 254, 3)) (hcat : (rest.map fun v => v.category).sum ≤ 8) (hrm : zRm rm rmX7_canBeLeftOut 3 ce sl) (K : zW x G (ce + rmX7_canBeLeftOut.cells) (sl + rmX7_canBeLeftOut.slots) (pc + 3) lv (r.toList ++ rest) w1) : zW x G ce sl pc lv (.int a0 :: .ref b :: rest) w := z_callV C 1 rw_u_759 rw_u_73 rw_u_756 rw_u_757 rw_u_758 ⟨by decide, by decide, by decide +kernel⟩ (T := TX7) (N := 13) rfl hc rfl q0 he hd hcat hrm K
theorem rw_c_X11_257 {x : zX} {G : zG} {ce sl pc : Nat} {lv : List (Nat × Value)} {cc : ByteArray} {nL : Nat} {ret : Option FieldType} {rm : Room} {w : va_W} {w1 : Nat → va_W} {rest : List Value} {r : Option Value} {a0 : Int32} {b : Nat} {fs : List Value} (C : zC x G RX11 cc nL ret rm) (hc : Ctr (xl x) G yX11_herEndWithout cX11_herEndWithout 2 (some .long) rmX11_herEndWithout [.ref b, .int a0] w (fun _ : Nat => r) w1) (q0 : Nat) (he : w[q0]? = some (b, .inr (10, fs))) (hd : decode cc pc = .ok (.invokevirtual 257, 3)) (hcat : (rest.map fun v => v.category).sum ≤ 8) (hrm : zRm rm rmX11_herEndWithout 2 ce sl) (K : ∀ z : Nat, zW x G (ce + rmX11_herEndWithout.cells) (sl + rmX11_herEndWithout.slots) (pc + 3) lv (r.toList ++ rest) (w1 z)) : zW x G ce sl pc lv (.int a0 :: .ref b :: rest) w := z_callV1 C 1 rw_u_763 rw_u_71 rw_u_760 rw_u_762 rw_u_30 ⟨by decide, by decide, by decide +kernel⟩ (T := TX11) (N := 14) rfl hc rfl q0 he hd hcat hrm K
theorem rw_c_X11_260 {x : zX} {G : zG} {ce sl pc : Nat} {lv : List (Nat × Value)} {cc : ByteArray} {nL : Nat} {ret : Option FieldType} {rm : Room} {w w1 : va_W} {rest : List Value} {r : Option Value} {a0 : Int32} (C : zC x G RX11 cc nL ret rm) (hc : Ct (xl x) G yX11_isNoWish cX11_isNoWish 1 (some .boolean) rmX11_isNoWish [.int a0] w r w1) (hd : decode cc pc = .ok (.invokestatic 260, 3)) (hcat : (rest.map fun v => v.category).sum ≤ 8) (hrm : zRm rm rmX11_isNoWish 1 ce sl) (K : zW x G (ce + rmX11_isNoWish.cells) (sl + rmX11_isNoWish.slots) (pc + 3) lv (r.toList ++ rest) w1) : zW x G ce sl pc lv (.int a0 :: rest) w := z_callS C 1 rw_u_770 rw_u_71 rw_u_768 rw_u_769 ⟨by decide, by decide, by decide +kernel⟩ hc rfl hd hcat hrm K
theorem rw_c_X11_263 {x : zX} {G : zG} {ce sl pc : Nat} {lv : List (Nat × Value)} {cc : ByteArray} {nL : Nat} {ret : Option FieldType} {rm : Room} {w w1 : va_W} {rest : List Value} {r : Option Value} {a0 : Int32} {a1 : Int32} {b : Nat} {fs : List Value} (C : zC x G RX11 cc nL ret rm) (hc : Ct (xl x) G yX8_grants cX8_grants 3 (some .boolean) rmX8_grants [.ref b, .int a0, .int a1] w r w1) (q0 : Nat) (he : w[q0]? = some (b, .inr (8, fs))) (hd : decode cc pc = .ok (.invokevirtual 263, 3)) (hcat : (rest.map fun v => v.category).sum ≤ 8) (hrm : zRm rm rmX8_grants 3 ce sl) (K : zW x G (ce + rmX8_grants.cells) (sl + rmX8_grants.slots) (pc + 3) lv (r.toList ++ rest) w1) : zW x G ce sl pc lv (.int a1 :: .int a0 :: .ref b :: rest) w := z_callV C 2 rw_u_774 rw_u_75 rw_u_771 rw_u_772 rw_u_773 ⟨by decide, by decide, by decide +kernel⟩ (T := TX8) (N := 9) rfl hc rfl q0 he hd hcat hrm K
theorem rw_g_X11_268_XSUDV_D {x : zX} {G : zG} {ce sl pc : Nat} {lv : List (Nat × Value)} {st : List Value} {cc : ByteArray} {nL : Nat} {ret : Option FieldType} {rm : Room} {qX qS qU qD qV kR kS kP kC kU kD kV kT : Nat → Nat} {rD : Nat} {sX sS sU sD sV : zSt} (C : zC x G RX11 cc nL ret rm) (hd : decode cc pc = .ok (.getfield 268, 3)) (K : zW x G ce sl (pc + 3) lv (.ref (qD 3) :: st) (wdX G qX kR kS kP kC kU kD kV kT sX ++ (wdS G qS sS ++ (wdU G qU sU ++ (wdC G qD rD sD ++ (wdU G qV sV)))))) : zW x G ce sl pc lv (.ref (qD 0) :: st) (wdX G qX kR kS kP kC kU kD kV kT sX ++ (wdS G qS sS ++ (wdU G qU sU ++ (wdC G qD rD sD ++ (wdU G qV sV))))) := z_get C (Cn := RX2) (T := TX2) (N := 18) (ci := 2) (k := 2) inzX2 rfl (by decide) rw_u_216 (fun _ h => h) 24 rfl rfl hd K
theorem rw_s_XSUDV_D_2 {x : zX} {G : zG} {ce sl pc : Nat} {lv : List (Nat × Value)} {st : List Value} {cc : ByteArray} {nL : Nat} {ret : Option FieldType} {rm : Room} {own : String} {qX qS qU qD qV kR kS kP kC kU kD kV kT : Nat → Nat} {rD : Nat} {sX sS sU sD sV : zSt} {i : Int32} {v : Int32} {α : Type} {o : α} {kk : zSt → Option α} (C : zC x G own cc nL ret rm) (hd : decode cc pc = .ok (.iastore, 1)) (h : zg (zix i 5) (zn (zsA sD 2 i.toNatClampNeg v) kk) = some o) (K : ∀ s' : zSt, kk s' = some o → zW x G ce sl (pc + 1) lv st (wdX G qX kR kS kP kC kU kD kV kT sX ++ (wdS G qS sS ++ (wdU G qU sU ++ (wdC G qD rD s' ++ (wdU G qV sV)))))) : zW x G ce sl pc lv (.int v :: .int i :: .ref (qD 3) :: st) (wdX G qX kR kS kP kC kU kD kV kT sX ++ (wdS G qS sS ++ (wdU G qU sU ++ (wdC G qD rD sD ++ (wdU G qV sV))))) := z_iast C (w' := wdX G qX kR kS kP kC kU kD kV kT sX ++ (wdS G qS sS ++ (wdU G qU sU ++ (wdC G qD rD (zsA sD 2 i.toNatClampNeg v) ++ (wdU G qV sV))))) 25 rfl rfl hd h (fun h => K _ h)
theorem rw_g_X11_59_XT_X {x : zX} {G : zG} {ce sl pc : Nat} {lv : List (Nat × Value)} {st : List Value} {cc : ByteArray} {nL : Nat} {ret : Option FieldType} {rm : Room} {qX qT kR kS kP kC kU kD kV kT : Nat → Nat} {sX sT : zSt} (C : zC x G RX11 cc nL ret rm) (hd : decode cc pc = .ok (.getfield 59, 3)) (K : zW x G ce sl (pc + 3) lv (.ref (kT 0) :: st) (wdX G qX kR kS kP kC kU kD kV kT sX ++ (wdT G qT sT))) : zW x G ce sl pc lv (.ref (qX 0) :: st) (wdX G qX kR kS kP kC kU kD kV kT sX ++ (wdT G qT sT)) := z_get C (Cn := RX11) (T := TX11) (N := 14) (ci := 10) (k := 13) inzX11 rfl (by decide) rw_u_366 (fun _ h => h) 0 rfl rfl hd K
theorem rw_g_X11_290_XT_T {x : zX} {G : zG} {ce sl pc : Nat} {lv : List (Nat × Value)} {st : List Value} {cc : ByteArray} {nL : Nat} {ret : Option FieldType} {rm : Room} {qX qT kR kS kP kC kU kD kV kT : Nat → Nat} {sX sT : zSt} (C : zC x G RX11 cc nL ret rm) (hd : decode cc pc = .ok (.getfield 290, 3)) (K : zW x G ce sl (pc + 3) lv (.int (zI sT 1) :: st) (wdX G qX kR kS kP kC kU kD kV kT sX ++ (wdT G qT sT))) : zW x G ce sl pc lv (.ref (qT 0) :: st) (wdX G qX kR kS kP kC kU kD kV kT sX ++ (wdT G qT sT)) := z_get C (Cn := RX10) (T := TX10) (N := 2) (ci := 9) (k := 1) inzX10 rfl (by decide) rw_u_344 (fun _ h => h) 4 rfl rfl hd K
theorem rw_g_X11_291_XT_T {x : zX} {G : zG} {ce sl pc : Nat} {lv : List (Nat × Value)} {st : List Value} {cc : ByteArray} {nL : Nat} {ret : Option FieldType} {rm : Room} {qX qT kR kS kP kC kU kD kV kT : Nat → Nat} {sX sT : zSt} (C : zC x G RX11 cc nL ret rm) (hd : decode cc pc = .ok (.getfield 291, 3)) (K : zW x G ce sl (pc + 3) lv (.ref (qT 1) :: st) (wdX G qX kR kS kP kC kU kD kV kT sX ++ (wdT G qT sT))) : zW x G ce sl pc lv (.ref (qT 0) :: st) (wdX G qX kR kS kP kC kU kD kV kT sX ++ (wdT G qT sT)) := z_get C (Cn := RX10) (T := TX10) (N := 2) (ci := 9) (k := 0) inzX10 rfl (by decide) rw_u_342 (fun _ h => h) 4 rfl rfl hd K
theorem rw_l_XT_T_0 {x : zX} {G : zG} {ce sl pc : Nat} {lv : List (Nat × Value)} {st : List Value} {cc : ByteArray} {nL : Nat} {ret : Option FieldType} {rm : Room} {own : String} {qX qT kR kS kP kC kU kD kV kT : Nat → Nat} {sX sT : zSt} {i : Int32} {α : Type} {o : α} {kk : Option α} (C : zC x G own cc nL ret rm) (hd : decode cc pc = .ok (.iaload, 1)) (h : zg (zix i 16) kk = some o) (K : kk = some o → zW x G ce sl (pc + 1) lv (.int (zA sT 0 i.toNatClampNeg) :: st) (wdX G qX kR kS kP kC kU kD kV kT sX ++ (wdT G qT sT))) : zW x G ce sl pc lv (.int i :: .ref (qT 1) :: st) (wdX G qX kR kS kP kC kU kD kV kT sX ++ (wdT G qT sT)) := z_iald C 5 rfl hd h K
theorem rw_c_X11_294 {x : zX} {G : zG} {ce sl pc : Nat} {lv : List (Nat × Value)} {cc : ByteArray} {nL : Nat} {ret : Option FieldType} {rm : Room} {w w1 : va_W} {rest : List Value} {r : Option Value}  {b : Nat} {fs : List Value} (C : zC x G RX11 cc nL ret rm) (hc : Ct (xl x) G yX11_rowsThatAre cX11_rowsThatAre 3 (some .int) rmX11_rowsThatAre [.ref b] w r w1) (q0 : Nat) (he : w[q0]? = some (b, .inr (10, fs))) (hd : decode cc pc = .ok (.invokevirtual 294, 3)) (hcat : (rest.map fun v => v.category).sum ≤ 8) (hrm : zRm rm rmX11_rowsThatAre 3 ce sl) (K : zW x G (ce + rmX11_rowsThatAre.cells) (sl + rmX11_rowsThatAre.slots) (pc + 3) lv (r.toList ++ rest) w1) : zW x G ce sl pc lv (.ref b :: rest) w := z_callV C 0 rw_u_949 rw_u_71 rw_u_946 rw_u_948 rw_u_32 ⟨by decide, by decide, by decide +kernel⟩ (T := TX11) (N := 14) rfl hc rfl q0 he hd hcat hrm K
theorem rw_g_X11_29_XRSC_X {x : zX} {G : zG} {ce sl pc : Nat} {lv : List (Nat × Value)} {st : List Value} {cc : ByteArray} {nL : Nat} {ret : Option FieldType} {rm : Room} {qX qR qS qC kR kS kP kC kU kD kV kT : Nat → Nat} {rC : Nat} {sX sR sS sC : zSt} (C : zC x G RX11 cc nL ret rm) (hd : decode cc pc = .ok (.getfield 29, 3)) (K : zW x G ce sl (pc + 3) lv (.ref (kS 0) :: st) (wdX G qX kR kS kP kC kU kD kV kT sX ++ (wdR G qR sR ++ (wdS G qS sS ++ (wdC G qC rC sC))))) : zW x G ce sl pc lv (.ref (qX 0) :: st) (wdX G qX kR kS kP kC kU kD kV kT sX ++ (wdR G qR sR ++ (wdS G qS sS ++ (wdC G qC rC sC)))) := z_get C (Cn := RX11) (T := TX11) (N := 14) (ci := 10) (k := 7) inzX11 rfl (by decide) rw_u_360 (fun _ h => h) 0 rfl rfl hd K
theorem rw_g_X11_242_XRSC_S {x : zX} {G : zG} {ce sl pc : Nat} {lv : List (Nat × Value)} {st : List Value} {cc : ByteArray} {nL : Nat} {ret : Option FieldType} {rm : Room} {qX qR qS qC kR kS kP kC kU kD kV kT : Nat → Nat} {rC : Nat} {sX sR sS sC : zSt} (C : zC x G RX11 cc nL ret rm) (hd : decode cc pc = .ok (.getfield 242, 3)) (K : zW x G ce sl (pc + 3) lv (.int (zI sS 0) :: st) (wdX G qX kR kS kP kC kU kD kV kT sX ++ (wdR G qR sR ++ (wdS G qS sS ++ (wdC G qC rC sC))))) : zW x G ce sl pc lv (.ref (qS 0) :: st) (wdX G qX kR kS kP kC kU kD kV kT sX ++ (wdR G qR sR ++ (wdS G qS sS ++ (wdC G qC rC sC)))) := z_get C (Cn := RX7) (T := TX7) (N := 13) (ci := 7) (k := 0) inzX7 rfl (by decide) rw_u_143 (fun _ h => h) 6 rfl rfl hd K
theorem rw_g_X11_137_XRSC_S {x : zX} {G : zG} {ce sl pc : Nat} {lv : List (Nat × Value)} {st : List Value} {cc : ByteArray} {nL : Nat} {ret : Option FieldType} {rm : Room} {qX qR qS qC kR kS kP kC kU kD kV kT : Nat → Nat} {rC : Nat} {sX sR sS sC : zSt} (C : zC x G RX11 cc nL ret rm) (hd : decode cc pc = .ok (.getfield 137, 3)) (K : zW x G ce sl (pc + 3) lv (.int (zI sS 1) :: st) (wdX G qX kR kS kP kC kU kD kV kT sX ++ (wdR G qR sR ++ (wdS G qS sS ++ (wdC G qC rC sC))))) : zW x G ce sl pc lv (.ref (qS 0) :: st) (wdX G qX kR kS kP kC kU kD kV kT sX ++ (wdR G qR sR ++ (wdS G qS sS ++ (wdC G qC rC sC)))) := z_get C (Cn := RX7) (T := TX7) (N := 13) (ci := 7) (k := 1) inzX7 rfl (by decide) rw_u_146 (fun _ h => h) 6 rfl rfl hd K
theorem rw_g_X11_39_XRSC_X {x : zX} {G : zG} {ce sl pc : Nat} {lv : List (Nat × Value)} {st : List Value} {cc : ByteArray} {nL : Nat} {ret : Option FieldType} {rm : Room} {qX qR qS qC kR kS kP kC kU kD kV kT : Nat → Nat} {rC : Nat} {sX sR sS sC : zSt} (C : zC x G RX11 cc nL ret rm) (hd : decode cc pc = .ok (.getfield 39, 3)) (K : zW x G ce sl (pc + 3) lv (.ref (kC 0) :: st) (wdX G qX kR kS kP kC kU kD kV kT sX ++ (wdR G qR sR ++ (wdS G qS sS ++ (wdC G qC rC sC))))) : zW x G ce sl pc lv (.ref (qX 0) :: st) (wdX G qX kR kS kP kC kU kD kV kT sX ++ (wdR G qR sR ++ (wdS G qS sS ++ (wdC G qC rC sC)))) := z_get C (Cn := RX11) (T := TX11) (N := 14) (ci := 10) (k := 9) inzX11 rfl (by decide) rw_u_362 (fun _ h => h) 0 rfl rfl hd K
theorem rw_g_X11_158_XRSC_C {x : zX} {G : zG} {ce sl pc : Nat} {lv : List (Nat × Value)} {st : List Value} {cc : ByteArray} {nL : Nat} {ret : Option FieldType} {rm : Room} {qX qR qS qC kR kS kP kC kU kD kV kT : Nat → Nat} {rC : Nat} {sX sR sS sC : zSt} (C : zC x G RX11 cc nL ret rm) (hd : decode cc pc = .ok (.getfield 158, 3)) (K : zW x G ce sl (pc + 3) lv (.int (zI sC 4) :: st) (wdX G qX kR kS kP kC kU kD kV kT sX ++ (wdR G qR sR ++ (wdS G qS sS ++ (wdC G qC rC sC))))) : zW x G ce sl pc lv (.ref (qC 0) :: st) (wdX G qX kR kS kP kC kU kD kV kT sX ++ (wdR G qR sR ++ (wdS G qS sS ++ (wdC G qC rC sC)))) := z_get C (Cn := RX2) (T := TX2) (N := 18) (ci := 2) (k := 4) inzX2 rfl (by decide) rw_u_222 (fun _ h => h) 17 rfl rfl hd K
theorem rw_g_X11_298_XRSC_C {x : zX} {G : zG} {ce sl pc : Nat} {lv : List (Nat × Value)} {st : List Value} {cc : ByteArray} {nL : Nat} {ret : Option FieldType} {rm : Room} {qX qR qS qC kR kS kP kC kU kD kV kT : Nat → Nat} {rC : Nat} {sX sR sS sC : zSt} (C : zC x G RX11 cc nL ret rm) (hd : decode cc pc = .ok (.getfield 298, 3)) (K : zW x G ce sl (pc + 3) lv (.int (zI sC 13) :: st) (wdX G qX kR kS kP kC kU kD kV kT sX ++ (wdR G qR sR ++ (wdS G qS sS ++ (wdC G qC rC sC))))) : zW x G ce sl pc lv (.ref (qC 0) :: st) (wdX G qX kR kS kP kC kU kD kV kT sX ++ (wdR G qR sR ++ (wdS G qS sS ++ (wdC G qC rC sC)))) := z_get C (Cn := RX2) (T := TX2) (N := 18) (ci := 2) (k := 13) inzX2 rfl (by decide) rw_u_246 (fun _ h => h) 17 rfl rfl hd K
theorem rw_g_X11_22_XRSC_X {x : zX} {G : zG} {ce sl pc : Nat} {lv : List (Nat × Value)} {st : List Value} {cc : ByteArray} {nL : Nat} {ret : Option FieldType} {rm : Room} {qX qR qS qC kR kS kP kC kU kD kV kT : Nat → Nat} {rC : Nat} {sX sR sS sC : zSt} (C : zC x G RX11 cc nL ret rm) (hd : decode cc pc = .ok (.getfield 22, 3)) (K : zW x G ce sl (pc + 3) lv (.ref (kR 0) :: st) (wdX G qX kR kS kP kC kU kD kV kT sX ++ (wdR G qR sR ++ (wdS G qS sS ++ (wdC G qC rC sC))))) : zW x G ce sl pc lv (.ref (qX 0) :: st) (wdX G qX kR kS kP kC kU kD kV kT sX ++ (wdR G qR sR ++ (wdS G qS sS ++ (wdC G qC rC sC)))) := z_get C (Cn := RX11) (T := TX11) (N := 14) (ci := 10) (k := 4) inzX11 rfl (by decide) rw_u_357 (fun _ h => h) 0 rfl rfl hd K
theorem rw_g_X11_106_XRSC_R {x : zX} {G : zG} {ce sl pc : Nat} {lv : List (Nat × Value)} {st : List Value} {cc : ByteArray} {nL : Nat} {ret : Option FieldType} {rm : Room} {qX qR qS qC kR kS kP kC kU kD kV kT : Nat → Nat} {rC : Nat} {sX sR sS sC : zSt} (C : zC x G RX11 cc nL ret rm) (hd : decode cc pc = .ok (.getfield 106, 3)) (K : zW x G ce sl (pc + 3) lv (.int (zI sR 1) :: st) (wdX G qX kR kS kP kC kU kD kV kT sX ++ (wdR G qR sR ++ (wdS G qS sS ++ (wdC G qC rC sC))))) : zW x G ce sl pc lv (.ref (qR 0) :: st) (wdX G qX kR kS kP kC kU kD kV kT sX ++ (wdR G qR sR ++ (wdS G qS sS ++ (wdC G qC rC sC)))) := z_get C (Cn := RX6) (T := TX6) (N := 8) (ci := 6) (k := 1) inzX6 rfl (by decide) rw_u_107 (fun _ h => h) 4 rfl rfl hd K
theorem rw_g_X11_130_XRSC_X {x : zX} {G : zG} {ce sl pc : Nat} {lv : List (Nat × Value)} {st : List Value} {cc : ByteArray} {nL : Nat} {ret : Option FieldType} {rm : Room} {qX qR qS qC kR kS kP kC kU kD kV kT : Nat → Nat} {rC : Nat} {sX sR sS sC : zSt} (C : zC x G RX11 cc nL ret rm) (hd : decode cc pc = .ok (.getfield 130, 3)) (K : zW x G ce sl (pc + 3) lv (.int (zI sX 6) :: st) (wdX G qX kR kS kP kC kU kD kV kT sX ++ (wdR G qR sR ++ (wdS G qS sS ++ (wdC G qC rC sC))))) : zW x G ce sl pc lv (.ref (qX 0) :: st) (wdX G qX kR kS kP kC kU kD kV kT sX ++ (wdR G qR sR ++ (wdS G qS sS ++ (wdC G qC rC sC)))) := z_get C (Cn := RX11) (T := TX11) (N := 14) (ci := 10) (k := 6) inzX11 rfl (by decide) rw_u_359 (fun _ h => h) 0 rfl rfl hd K
theorem rw_g_X11_301_XRSC_C {x : zX} {G : zG} {ce sl pc : Nat} {lv : List (Nat × Value)} {st : List Value} {cc : ByteArray} {nL : Nat} {ret : Option FieldType} {rm : Room} {qX qR qS qC kR kS kP kC kU kD kV kT : Nat → Nat} {rC : Nat} {sX sR sS sC : zSt} (C : zC x G RX11 cc nL ret rm) (hd : decode cc pc = .ok (.getfield 301, 3)) (K : zW x G ce sl (pc + 3) lv (.int (zI sC 1) :: st) (wdX G qX kR kS kP kC kU kD kV kT sX ++ (wdR G qR sR ++ (wdS G qS sS ++ (wdC G qC rC sC))))) : zW x G ce sl pc lv (.ref (qC 0) :: st) (wdX G qX kR kS kP kC kU kD kV kT sX ++ (wdR G qR sR ++ (wdS G qS sS ++ (wdC G qC rC sC)))) := z_get C (Cn := RX2) (T := TX2) (N := 18) (ci := 2) (k := 1) inzX2 rfl (by decide) rw_u_214 (fun _ h => h) 17 rfl rfl hd K
theorem rw_g_X11_100_X_X {x : zX} {G : zG} {ce sl pc : Nat} {lv : List (Nat × Value)} {st : List Value} {cc : ByteArray} {nL : Nat} {ret : Option FieldType} {rm : Room} {qX kR kS kP kC kU kD kV kT : Nat → Nat} {sX : zSt} (C : zC x G RX11 cc nL ret rm) (hd : decode cc pc = .ok (.getfield 100, 3)) (K : zW x G ce sl (pc + 3) lv (.int (zI sX 3) :: st) (wdX G qX kR kS kP kC kU kD kV kT sX)) : zW x G ce sl pc lv (.ref (qX 0) :: st) (wdX G qX kR kS kP kC kU kD kV kT sX) := z_get C (Cn := RX11) (T := TX11) (N := 14) (ci := 10) (k := 3) inzX11 rfl (by decide) rw_u_356 (fun _ h => h) 0 rfl rfl hd K
set_option maxHeartbeats 4000000 in
set_option maxRecDepth 100000 in
theorem cX_isNoRow {l : Launch} {G : zG}   {a0 : Int32} {out : Bool} (h : fX_isNoRow  a0 = some out) : Ct l G yX11_isNoRow cX11_isNoRow 1 (some .boolean) rmX11_isNoRow [.int a0] ([]) (some (.int (zb out))) ([]) := by
  refine zMet (own := RX11) rfl (by decide) (Nat.le_of_ble_eq_true rfl) (fun x hl C O => ?_)
  show zW x G 0 0 0 [(0, .int a0)] [] _
  unfold fX_isNoRow at h
  refine z_iload_n C dX11_isNoRow_0 0 rfl ?_
  refine z_if_lt C dX11_isNoRow_1 10 (by decide) h (fun h => ?_) (fun h => ?_)
  · refine z_iconst C 1 dX11_isNoRow_10 (by decide) ?_
    refine z_goto C dX11_isNoRow_11 15 (by decide) ?_
    replace h := Option.some.inj h
    subst h
    exact z_zret C O dX11_isNoRow_15 (zb_nar true) rfl rfl
  · refine z_iload_n C dX11_isNoRow_4 0 rfl ?_
    refine z_bipush C 8 dX11_isNoRow_5 (by decide) ?_
    refine z_icmp_lt C dX11_isNoRow_7 14 (by decide) h (fun h => ?_) (fun h => ?_)
    · refine z_iconst C 0 dX11_isNoRow_14 (by decide) ?_
      replace h := Option.some.inj h
      subst h
      exact z_zret C O dX11_isNoRow_15 (zb_nar false) rfl rfl
    · refine z_iconst C 1 dX11_isNoRow_10 (by decide) ?_
      refine z_goto C dX11_isNoRow_11 15 (by decide) ?_
      replace h := Option.some.inj h
      subst h
      exact z_zret C O dX11_isNoRow_15 (zb_nar true) rfl rfl
set_option maxHeartbeats 4000000 in
set_option maxRecDepth 100000 in
theorem cX_found {l : Launch} {G : zG} {qX qR qS qP qC qU qD qV qT : Nat → Nat} {sX : zSt} {a0 : Int32} {out : Int64 × zSt} (h : fX_found sX a0 = some out) : Ct l G yX11_found cX11_found 2 (some .long) rmX11_found [.ref (qX 0), .int a0] (wdX G qX qR qS qP qC qU qD qV qT sX) (some (.long out.1)) (wdX G qX qR qS qP qC qU qD qV qT out.2) := by
  refine zMet (own := RX11) rfl (by decide) (Nat.le_of_ble_eq_true rfl) (fun x hl C O => ?_)
  show zW x G 0 0 0 [(0, .ref (qX 0)), (1, .int a0)] [] _
  unfold fX_found at h
  refine z_aload_n C dX11_found_0 0 rfl ?_
  refine z_iload_n C dX11_found_1 1 rfl ?_
  refine rw_p_X11_100_X_X C dX11_found_2 h (fun sX1 h => ?_)
  refine z_ldc2 C rw_u_408 dX11_found_5 ?_
  refine z_iload_n C dX11_found_8 1 rfl ?_
  refine z_i2l C dX11_found_9 ?_
  refine z_lsub C dX11_found_10 ?_
  replace h := Option.some.inj h
  subst h
  exact z_lret C O dX11_found_11 rfl rfl
set_option maxHeartbeats 4000000 in
set_option maxRecDepth 100000 in
theorem cX_fine {l : Launch} {G : zG} {qX qR qS qP qC qU qD qV qT : Nat → Nat} {sX : zSt} {a0 : Int64} {out : Int64 × zSt} (h : fX_fine sX a0 = some out) : Ct l G yX11_fine cX11_fine 3 (some .long) rmX11_fine [.ref (qX 0), .long a0] (wdX G qX qR qS qP qC qU qD qV qT sX) (some (.long out.1)) (wdX G qX qR qS qP qC qU qD qV qT out.2) := by
  refine zMet (own := RX11) rfl (by decide) (Nat.le_of_ble_eq_true rfl) (fun x hl C O => ?_)
  show zW x G 0 0 0 [(0, .ref (qX 0)), (1, .long a0)] [] _
  unfold fX_fine at h
  refine z_aload_n C dX11_fine_0 0 rfl ?_
  refine z_iconst C 0 dX11_fine_1 (by decide) ?_
  refine rw_p_X11_100_X_X C dX11_fine_2 h (fun sX1 h => ?_)
  refine z_lload_n C dX11_fine_5 1 rfl ?_
  replace h := Option.some.inj h
  subst h
  exact z_lret C O dX11_fine_6 rfl rfl
set_option maxHeartbeats 4000000 in
set_option maxRecDepth 100000 in
theorem kX_row_l53b {x : zX} {G : zG} {qX qR qS qP qC qU qD qV qT : Nat → Nat}  {out : Int64 × zSt} (C : zC x G RX11 cX11_row 5 (some .long) rmX11_row) (O : zO x G (some (.long out.1)) (wdX G qX qR qS qP qC qU qD qV qT out.2) 0 0) {K53 : zSt → Int32 → Int32 → Int32 → Option (Int64 × zSt)} (hK53 : ∀ (sX : zSt) (x1 : Int32) (x3 : Int32) (x4 : Int32), K53 sX x1 x3 x4 = some out → zW x G 0 0 53 [(0, .ref (qX 0)), (1, .int x1), (3, .int x3), (4, .int x4)] [] (wdX G qX qR qS qP qC qU qD qV qT sX)) {sX : zSt} {x1 : Int32} {x3 : Int32} {x4 : Int32} (h : fX_row_l53b K53 sX x1 x3 x4 = some out) : zW x G 0 0 53 [(0, .ref (qX 0)), (1, .int x1), (3, .int x3), (4, .int x4)] [] (wdX G qX qR qS qP qC qU qD qV qT sX) := by
  unfold fX_row_l53b at h
  refine z_iload C dX11_row_53 3 rfl ?_
  refine z_iload_n C dX11_row_55 2 rfl ?_
  refine z_icmp_ge C dX11_row_56 78 (by decide) h (fun h => ?_) (fun h => ?_)
  · refine z_aload_n C dX11_row_78 0 rfl ?_
    refine z_iload_n C dX11_row_79 2 rfl ?_
    refine z_i2l C dX11_row_80 ?_
    obtain ⟨y4, hy4, h⟩ := bind_o h
    refine rw_c_X11_79 C (cX_fine hy4) 0 rfl dX11_row_81 (Nat.le_of_ble_eq_true rfl) (zrm rfl) ?_
    replace h := Option.some.inj h
    subst h
    exact z_lret C O dX11_row_84 rfl rfl
  · refine z_aload_n C dX11_row_59 0 rfl ?_
    refine rw_g_X11_16_X_X C dX11_row_60 ?_
    refine z_iload_n C dX11_row_63 1 rfl ?_
    refine z_bipush C 40 dX11_row_64 (by decide) ?_
    refine z_imul C dX11_row_66 ?_
    refine z_iload C dX11_row_67 3 rfl ?_
    refine z_iadd C dX11_row_69 ?_
    refine z_iconst C 0 dX11_row_70 (by decide) ?_
    refine rw_s_X_X_2 C dX11_row_71 h (fun sX5 h => ?_)
    refine z_iinc C dX11_row_72 3 rfl 1 (by decide) (by decide) (lvr := [(0, .ref (qX 0)), (1, .int x1), (3, .int x3)]) rfl h (fun x4_6 h => ?_)
    refine z_goto C dX11_row_75 53 (by decide) ?_
    refine z_perm [1, 2, 3, 0] (lv' := [(0, .ref (qX 0)), (1, .int x1), (3, .int x3), (4, .int x4_6)]) rfl ?_
    exact hK53 _  _ _ _ h
set_option maxHeartbeats 4000000 in
set_option maxRecDepth 100000 in
theorem kX_row_l53 {x : zX} {G : zG} {qX qR qS qP qC qU qD qV qT : Nat → Nat}  {out : Int64 × zSt} (C : zC x G RX11 cX11_row 5 (some .long) rmX11_row) (O : zO x G (some (.long out.1)) (wdX G qX qR qS qP qC qU qD qV qT out.2) 0 0)  : ∀ (n : Nat) {sX : zSt} {x1 : Int32} {x3 : Int32} {x4 : Int32}, fX_row_l53  n sX x1 x3 x4 = some out → zW x G 0 0 53 [(0, .ref (qX 0)), (1, .int x1), (3, .int x3), (4, .int x4)] [] (wdX G qX qR qS qP qC qU qD qV qT sX) := by
  intro n
  induction n with
  | zero =>
    intro sX x1 x3 x4 h
    have h : (none : Option (Int64 × zSt)) = some out := h
    cases h
  | succ n ih =>
    intro sX x1 x3 x4 h
    exact kX_row_l53b C O (K53 := fun v0 v1 v2 v3 => fX_row_l53  n v0 v1 v2 v3) (fun sX x1 x3 x4 h => ih h) h
set_option maxHeartbeats 4000000 in
set_option maxRecDepth 100000 in
theorem cX_row {l : Launch} {G : zG} {qX qR qS qP qC qU qD qV qT : Nat → Nat} {sX : zSt} {a0 : Int32} {a1 : Int32} {a2 : Int32} {out : Int64 × zSt} (h : fX_row sX a0 a1 a2 = some out) : Ct l G yX11_row cX11_row 5 (some .long) rmX11_row [.ref (qX 0), .int a0, .int a1, .int a2] (wdX G qX qR qS qP qC qU qD qV qT sX) (some (.long out.1)) (wdX G qX qR qS qP qC qU qD qV qT out.2) := by
  refine zMet (own := RX11) rfl (by decide) (Nat.le_of_ble_eq_true rfl) (fun x hl C O => ?_)
  show zW x G 0 0 0 [(0, .ref (qX 0)), (1, .int a0), (2, .int a1), (3, .int a2)] [] _
  unfold fX_row at h
  refine z_iload_n C dX11_row_0 1 rfl ?_
  obtain ⟨y1, hy1, h⟩ := bind_o h
  refine rw_c_X11_69 C (Ct.frame0 (cX_isNoRow hy1)) dX11_row_1 (Nat.le_of_ble_eq_true rfl) (zrm rfl) ?_
  refine z_ifb_ne C dX11_row_4 22 (by decide) h (fun h => ?_) (fun h => ?_)
  · refine z_ldc2 C rw_u_403 dX11_row_22 ?_
    replace h := Option.some.inj h
    subst h
    exact z_lret C O dX11_row_25 rfl rfl
  · refine z_iload_n C dX11_row_7 2 rfl ?_
    refine z_if_lt C dX11_row_8 22 (by decide) h (fun h => ?_) (fun h => ?_)
    · refine z_ldc2 C rw_u_403 dX11_row_22 ?_
      replace h := Option.some.inj h
      subst h
      exact z_lret C O dX11_row_25 rfl rfl
    · refine z_iload_n C dX11_row_11 2 rfl ?_
      refine z_iconst C 3 dX11_row_12 (by decide) ?_
      refine z_icmp_ge C dX11_row_13 22 (by decide) h (fun h => ?_) (fun h => ?_)
      · refine z_ldc2 C rw_u_403 dX11_row_22 ?_
        replace h := Option.some.inj h
        subst h
        exact z_lret C O dX11_row_25 rfl rfl
      · refine z_iload_n C dX11_row_16 3 rfl ?_
        refine z_bipush C 40 dX11_row_17 (by decide) ?_
        refine z_icmp_le C dX11_row_19 26 (by decide) h (fun h => ?_) (fun h => ?_)
        · refine z_iload_n C dX11_row_26 3 rfl ?_
          refine z_if_ge C dX11_row_27 36 (by decide) h (fun h => ?_) (fun h => ?_)
          · refine z_aload_n C dX11_row_36 0 rfl ?_
            refine rw_g_X11_9_X_X C dX11_row_37 ?_
            refine z_iload_n C dX11_row_40 1 rfl ?_
            refine z_iload_n C dX11_row_41 2 rfl ?_
            refine rw_s_X_X_0 C dX11_row_42 h (fun sX2 h => ?_)
            refine z_aload_n C dX11_row_43 0 rfl ?_
            refine rw_g_X11_13_X_X C dX11_row_44 ?_
            refine z_iload_n C dX11_row_47 1 rfl ?_
            refine z_iload_n C dX11_row_48 3 rfl ?_
            refine rw_s_X_X_1 C dX11_row_49 h (fun sX3 h => ?_)
            refine z_iconst C 0 dX11_row_50 (by decide) ?_
            refine z_istore C dX11_row_51 (by decide) (lvr := [(0, .ref (qX 0)), (1, .int a0), (2, .int a1), (3, .int a2)]) rfl ?_
            refine z_perm [1, 2, 4, 0] (lv' := [(0, .ref (qX 0)), (1, .int a0), (3, .int a2), (4, .int 0)]) rfl ?_
            exact kX_row_l53 C O  zF h
          · refine z_aload_n C dX11_row_30 0 rfl ?_
            refine z_iconst C 4 dX11_row_31 (by decide) ?_
            obtain ⟨y7, hy7, h⟩ := bind_o h
            refine rw_c_X11_75 C (cX_found hy7) 0 rfl dX11_row_32 (Nat.le_of_ble_eq_true rfl) (zrm rfl) ?_
            replace h := Option.some.inj h
            subst h
            exact z_lret C O dX11_row_35 rfl rfl
        · refine z_ldc2 C rw_u_403 dX11_row_22 ?_
          replace h := Option.some.inj h
          subst h
          exact z_lret C O dX11_row_25 rfl rfl
set_option maxHeartbeats 4000000 in
set_option maxRecDepth 100000 in
theorem cX_isMissing {l : Launch} {G : zG} {qX qR qS qP qC qU qD qV qT : Nat → Nat} {sX : zSt} {a0 : Int32} {out : Bool} (h : fX_isMissing sX a0 = some out) : Ct l G yX11_isMissing cX11_isMissing 2 (some .boolean) rmX11_isMissing [.ref (qX 0), .int a0] (wdX G qX qR qS qP qC qU qD qV qT sX) (some (.int (zb out))) (wdX G qX qR qS qP qC qU qD qV qT sX) := by
  refine zMet (own := RX11) rfl (by decide) (Nat.le_of_ble_eq_true rfl) (fun x hl C O => ?_)
  show zW x G 0 0 0 [(0, .ref (qX 0)), (1, .int a0)] [] _
  unfold fX_isMissing at h
  refine z_aload_n C dX11_isMissing_0 0 rfl ?_
  refine rw_g_X11_13_X_X C dX11_isMissing_1 ?_
  refine z_iload_n C dX11_isMissing_4 1 rfl ?_
  refine rw_l_X_X_1 C dX11_isMissing_5 h (fun h => ?_)
  refine z_iconst C (-1) dX11_isMissing_6 (by decide) ?_
  refine z_icmp_ne C dX11_isMissing_7 14 (by decide) h (fun h => ?_) (fun h => ?_)
  · refine z_iconst C 0 dX11_isMissing_14 (by decide) ?_
    replace h := Option.some.inj h
    subst h
    exact z_zret C O dX11_isMissing_15 (zb_nar false) rfl rfl
  · refine z_iconst C 1 dX11_isMissing_10 (by decide) ?_
    refine z_goto C dX11_isMissing_11 15 (by decide) ?_
    replace h := Option.some.inj h
    subst h
    exact z_zret C O dX11_isMissing_15 (zb_nar true) rfl rfl
set_option maxHeartbeats 4000000 in
set_option maxRecDepth 100000 in
theorem cX_lowestBits {l : Launch} {G : zG}   {a0 : Int32} {a1 : Int32} {out : Int32} (h : fX_lowestBits  a0 a1 = some out) : Ct l G yX11_lowestBits cX11_lowestBits 2 (some .int) rmX11_lowestBits [.int a0, .int a1] ([]) (some (.int out)) ([]) := by
  refine zMet (own := RX11) rfl (by decide) (Nat.le_of_ble_eq_true rfl) (fun x hl C O => ?_)
  show zW x G 0 0 0 [(0, .int a0), (1, .int a1)] [] _
  unfold fX_lowestBits at h
  refine z_iload_n C dX11_lowestBits_0 1 rfl ?_
  refine z_if_ne C dX11_lowestBits_1 7 (by decide) h (fun h => ?_) (fun h => ?_)
  · refine z_iload_n C dX11_lowestBits_7 1 rfl ?_
    refine z_iconst C 1 dX11_lowestBits_8 (by decide) ?_
    refine z_icmp_ne C dX11_lowestBits_9 17 (by decide) h (fun h => ?_) (fun h => ?_)
    · refine z_iload_n C dX11_lowestBits_17 0 rfl ?_
      replace h := Option.some.inj h
      subst h
      exact z_iret C O dX11_lowestBits_18 rfl rfl
    · refine z_iload_n C dX11_lowestBits_12 0 rfl ?_
      refine z_i2s C dX11_lowestBits_13 ?_
      refine z_goto C dX11_lowestBits_14 18 (by decide) ?_
      replace h := Option.some.inj h
      subst h
      exact z_iret C O dX11_lowestBits_18 rfl rfl
  · refine z_iload_n C dX11_lowestBits_4 0 rfl ?_
    refine z_i2b C dX11_lowestBits_5 ?_
    replace h := Option.some.inj h
    subst h
    exact z_iret C O dX11_lowestBits_6 rfl rfl
set_option maxHeartbeats 4000000 in
set_option maxRecDepth 100000 in
theorem cX_set {l : Launch} {G : zG} {qX qR qS qP qC qU qD qV qT : Nat → Nat} {sX : zSt} {a0 : Int32} {a1 : Int32} {a2 : Int32} {out : Int64 × zSt} (h : fX_set sX a0 a1 a2 = some out) : Ct l G yX11_set cX11_set 5 (some .long) rmX11_set [.ref (qX 0), .int a0, .int a1, .int a2] (wdX G qX qR qS qP qC qU qD qV qT sX) (some (.long out.1)) (wdX G qX qR qS qP qC qU qD qV qT out.2) := by
  refine zMet (own := RX11) rfl (by decide) (Nat.le_of_ble_eq_true rfl) (fun x hl C O => ?_)
  show zW x G 0 0 0 [(0, .ref (qX 0)), (1, .int a0), (2, .int a1), (3, .int a2)] [] _
  unfold fX_set at h
  refine z_iload_n C dX11_set_0 1 rfl ?_
  obtain ⟨y1, hy1, h⟩ := bind_o h
  refine rw_c_X11_69 C (Ct.frame0 (cX_isNoRow hy1)) dX11_set_1 (Nat.le_of_ble_eq_true rfl) (zrm rfl) ?_
  refine z_ifb_eq C dX11_set_4 11 (by decide) h (fun h => ?_) (fun h => ?_)
  · refine z_aload_n C dX11_set_11 0 rfl ?_
    refine z_iload_n C dX11_set_12 1 rfl ?_
    obtain ⟨y2, hy2, h⟩ := bind_o h
    refine rw_c_X11_83 C (cX_isMissing hy2) 0 rfl dX11_set_13 (Nat.le_of_ble_eq_true rfl) (zrm rfl) ?_
    refine z_ifb_eq C dX11_set_16 25 (by decide) h (fun h => ?_) (fun h => ?_)
    · refine z_iload_n C dX11_set_25 2 rfl ?_
      refine z_if_lt C dX11_set_26 39 (by decide) h (fun h => ?_) (fun h => ?_)
      · refine z_aload_n C dX11_set_39 0 rfl ?_
        refine z_iconst C 2 dX11_set_40 (by decide) ?_
        obtain ⟨y3, hy3, h⟩ := bind_o h
        refine rw_c_X11_75 C (cX_found hy3) 0 rfl dX11_set_41 (Nat.le_of_ble_eq_true rfl) (zrm rfl) ?_
        replace h := Option.some.inj h
        subst h
        exact z_lret C O dX11_set_44 rfl rfl
      · refine z_iload_n C dX11_set_29 2 rfl ?_
        refine z_aload_n C dX11_set_30 0 rfl ?_
        refine rw_g_X11_13_X_X C dX11_set_31 ?_
        refine z_iload_n C dX11_set_34 1 rfl ?_
        refine rw_l_X_X_1 C dX11_set_35 h (fun h => ?_)
        refine z_icmp_lt C dX11_set_36 45 (by decide) h (fun h => ?_) (fun h => ?_)
        · refine z_iload_n C dX11_set_45 3 rfl ?_
          refine z_aload_n C dX11_set_46 0 rfl ?_
          refine rw_g_X11_9_X_X C dX11_set_47 ?_
          refine z_iload_n C dX11_set_50 1 rfl ?_
          refine rw_l_X_X_0 C dX11_set_51 h (fun h => ?_)
          obtain ⟨y4, hy4, h⟩ := bind_o h
          refine rw_c_X11_86 C (Ct.frame0 (cX_lowestBits hy4)) dX11_set_52 (Nat.le_of_ble_eq_true rfl) (zrm rfl) ?_
          refine z_istore C dX11_set_55 (by decide) (lvr := [(0, .ref (qX 0)), (1, .int a0), (2, .int a1), (3, .int a2)]) rfl ?_
          refine z_aload_n C dX11_set_57 1 rfl ?_
          refine rw_g_X11_16_X_X C dX11_set_58 ?_
          refine z_iload_n C dX11_set_61 2 rfl ?_
          refine z_bipush C 40 dX11_set_62 (by decide) ?_
          refine z_imul C dX11_set_64 ?_
          refine z_iload_n C dX11_set_65 3 rfl ?_
          refine z_iadd C dX11_set_66 ?_
          refine z_iload C dX11_set_67 0 rfl ?_
          refine rw_s_X_X_2 C dX11_set_69 h (fun sX5 h => ?_)
          refine z_aload_n C dX11_set_70 1 rfl ?_
          refine z_iload C dX11_set_71 0 rfl ?_
          refine z_i2l C dX11_set_73 ?_
          obtain ⟨y6, hy6, h⟩ := bind_o h
          refine rw_c_X11_79 C (cX_fine hy6) 0 rfl dX11_set_74 (Nat.le_of_ble_eq_true rfl) (zrm rfl) ?_
          replace h := Option.some.inj h
          subst h
          exact z_lret C O dX11_set_77 rfl rfl
        · refine z_aload_n C dX11_set_39 0 rfl ?_
          refine z_iconst C 2 dX11_set_40 (by decide) ?_
          obtain ⟨y7, hy7, h⟩ := bind_o h
          refine rw_c_X11_75 C (cX_found hy7) 0 rfl dX11_set_41 (Nat.le_of_ble_eq_true rfl) (zrm rfl) ?_
          replace h := Option.some.inj h
          subst h
          exact z_lret C O dX11_set_44 rfl rfl
    · refine z_aload_n C dX11_set_19 0 rfl ?_
      refine z_iconst C 1 dX11_set_20 (by decide) ?_
      obtain ⟨y8, hy8, h⟩ := bind_o h
      refine rw_c_X11_75 C (cX_found hy8) 0 rfl dX11_set_21 (Nat.le_of_ble_eq_true rfl) (zrm rfl) ?_
      replace h := Option.some.inj h
      subst h
      exact z_lret C O dX11_set_24 rfl rfl
  · refine z_ldc2 C rw_u_403 dX11_set_7 ?_
    replace h := Option.some.inj h
    subst h
    exact z_lret C O dX11_set_10 rfl rfl
set_option maxHeartbeats 4000000 in
set_option maxRecDepth 100000 in
theorem cX_lacksItems {l : Launch} {G : zG} {qX qR qS qP qC qU qD qV qT : Nat → Nat} {sX : zSt} {a0 : Int32} {a1 : Int32} {a2 : Int32} {out : Bool} (h : fX_lacksItems sX a0 a1 a2 = some out) : Ct l G yX11_lacksItems cX11_lacksItems 4 (some .boolean) rmX11_lacksItems [.ref (qX 0), .int a0, .int a1, .int a2] (wdX G qX qR qS qP qC qU qD qV qT sX) (some (.int (zb out))) (wdX G qX qR qS qP qC qU qD qV qT sX) := by
  refine zMet (own := RX11) rfl (by decide) (Nat.le_of_ble_eq_true rfl) (fun x hl C O => ?_)
  show zW x G 0 0 0 [(0, .ref (qX 0)), (1, .int a0), (2, .int a1), (3, .int a2)] [] _
  unfold fX_lacksItems at h
  refine z_iload_n C dX11_lacksItems_0 2 rfl ?_
  refine z_if_lt C dX11_lacksItems_1 24 (by decide) h (fun h => ?_) (fun h => ?_)
  · refine z_iconst C 1 dX11_lacksItems_24 (by decide) ?_
    refine z_goto C dX11_lacksItems_25 29 (by decide) ?_
    replace h := Option.some.inj h
    subst h
    exact z_zret C O dX11_lacksItems_29 (zb_nar true) rfl rfl
  · refine z_iload_n C dX11_lacksItems_4 3 rfl ?_
    refine z_if_lt C dX11_lacksItems_5 24 (by decide) h (fun h => ?_) (fun h => ?_)
    · refine z_iconst C 1 dX11_lacksItems_24 (by decide) ?_
      refine z_goto C dX11_lacksItems_25 29 (by decide) ?_
      replace h := Option.some.inj h
      subst h
      exact z_zret C O dX11_lacksItems_29 (zb_nar true) rfl rfl
    · refine z_iload_n C dX11_lacksItems_8 2 rfl ?_
      refine z_i2l C dX11_lacksItems_9 ?_
      refine z_iload_n C dX11_lacksItems_10 3 rfl ?_
      refine z_i2l C dX11_lacksItems_11 ?_
      refine z_ladd C dX11_lacksItems_12 ?_
      refine z_aload_n C dX11_lacksItems_13 0 rfl ?_
      refine rw_g_X11_13_X_X C dX11_lacksItems_14 ?_
      refine z_iload_n C dX11_lacksItems_17 1 rfl ?_
      refine rw_l_X_X_1 C dX11_lacksItems_18 h (fun h => ?_)
      refine z_i2l C dX11_lacksItems_19 ?_
      refine z_lcmp_le C dX11_lacksItems_20 dX11_lacksItems_21 28 (by decide) h (fun h => ?_) (fun h => ?_)
      · refine z_iconst C 0 dX11_lacksItems_28 (by decide) ?_
        replace h := Option.some.inj h
        subst h
        exact z_zret C O dX11_lacksItems_29 (zb_nar false) rfl rfl
      · refine z_iconst C 1 dX11_lacksItems_24 (by decide) ?_
        refine z_goto C dX11_lacksItems_25 29 (by decide) ?_
        replace h := Option.some.inj h
        subst h
        exact z_zret C O dX11_lacksItems_29 (zb_nar true) rfl rfl
set_option maxHeartbeats 4000000 in
set_option maxRecDepth 100000 in
theorem cX_copy {l : Launch} {G : zG} {qX qR qS qP qC qU qD qV qT : Nat → Nat} {sX : zSt} {a0 : Int32} {a1 : Int32} {a2 : Int32} {a3 : Int32} {a4 : Int32} {out : Int64 × zSt} (h : fX_copy sX a0 a1 a2 a3 a4 = some out) : Ct l G yX11_copy cX11_copy 6 (some .long) rmX11_copy [.ref (qX 0), .int a0, .int a1, .int a2, .int a3, .int a4] (wdX G qX qR qS qP qC qU qD qV qT sX) (some (.long out.1)) (wdX G qX qR qS qP qC qU qD qV qT out.2) := by
  refine zMet (own := RX11) rfl (by decide) (Nat.le_of_ble_eq_true rfl) (fun x hl C O => ?_)
  show zW x G 0 0 0 [(0, .ref (qX 0)), (1, .int a0), (2, .int a1), (3, .int a2), (4, .int a3), (5, .int a4)] [] _
  unfold fX_copy at h
  refine z_iload_n C dX11_copy_0 1 rfl ?_
  obtain ⟨y1, hy1, h⟩ := bind_o h
  refine rw_c_X11_69 C (Ct.frame0 (cX_isNoRow hy1)) dX11_copy_1 (Nat.le_of_ble_eq_true rfl) (zrm rfl) ?_
  refine z_ifb_ne C dX11_copy_4 14 (by decide) h (fun h => ?_) (fun h => ?_)
  · refine z_ldc2 C rw_u_403 dX11_copy_14 ?_
    replace h := Option.some.inj h
    subst h
    exact z_lret C O dX11_copy_17 rfl rfl
  · refine z_iload_n C dX11_copy_7 3 rfl ?_
    obtain ⟨y2, hy2, h⟩ := bind_o h
    refine rw_c_X11_69 C (Ct.frame0 (cX_isNoRow hy2)) dX11_copy_8 (Nat.le_of_ble_eq_true rfl) (zrm rfl) ?_
    refine z_ifb_eq C dX11_copy_11 18 (by decide) h (fun h => ?_) (fun h => ?_)
    · refine z_aload_n C dX11_copy_18 0 rfl ?_
      refine z_iload_n C dX11_copy_19 1 rfl ?_
      obtain ⟨y3, hy3, h⟩ := bind_o h
      refine rw_c_X11_83 C (cX_isMissing hy3) 0 rfl dX11_copy_20 (Nat.le_of_ble_eq_true rfl) (zrm rfl) ?_
      refine z_ifb_ne C dX11_copy_23 34 (by decide) h (fun h => ?_) (fun h => ?_)
      · refine z_aload_n C dX11_copy_34 0 rfl ?_
        refine z_iconst C 1 dX11_copy_35 (by decide) ?_
        obtain ⟨y4, hy4, h⟩ := bind_o h
        refine rw_c_X11_75 C (cX_found hy4) 0 rfl dX11_copy_36 (Nat.le_of_ble_eq_true rfl) (zrm rfl) ?_
        replace h := Option.some.inj h
        subst h
        exact z_lret C O dX11_copy_39 rfl rfl
      · refine z_aload_n C dX11_copy_26 0 rfl ?_
        refine z_iload_n C dX11_copy_27 3 rfl ?_
        obtain ⟨y5, hy5, h⟩ := bind_o h
        refine rw_c_X11_83 C (cX_isMissing hy5) 0 rfl dX11_copy_28 (Nat.le_of_ble_eq_true rfl) (zrm rfl) ?_
        refine z_ifb_eq C dX11_copy_31 40 (by decide) h (fun h => ?_) (fun h => ?_)
        · refine z_aload_n C dX11_copy_40 0 rfl ?_
          refine rw_g_X11_9_X_X C dX11_copy_41 ?_
          refine z_iload_n C dX11_copy_44 1 rfl ?_
          refine rw_l_X_X_0 C dX11_copy_45 h (fun h => ?_)
          refine z_aload_n C dX11_copy_46 0 rfl ?_
          refine rw_g_X11_9_X_X C dX11_copy_47 ?_
          refine z_iload_n C dX11_copy_50 3 rfl ?_
          refine rw_l_X_X_0 C dX11_copy_51 h (fun h => ?_)
          refine z_icmp_eq C dX11_copy_52 61 (by decide) h (fun h => ?_) (fun h => ?_)
          · refine z_aload_n C dX11_copy_61 0 rfl ?_
            refine z_iload_n C dX11_copy_62 1 rfl ?_
            refine z_iload_n C dX11_copy_63 2 rfl ?_
            refine z_iload C dX11_copy_64 5 rfl ?_
            obtain ⟨y6, hy6, h⟩ := bind_o h
            refine rw_c_X11_90 C (cX_lacksItems hy6) 0 rfl dX11_copy_66 (Nat.le_of_ble_eq_true rfl) (zrm rfl) ?_
            refine z_ifb_ne C dX11_copy_69 84 (by decide) h (fun h => ?_) (fun h => ?_)
            · refine z_aload_n C dX11_copy_84 0 rfl ?_
              refine z_iconst C 2 dX11_copy_85 (by decide) ?_
              obtain ⟨y7, hy7, h⟩ := bind_o h
              refine rw_c_X11_75 C (cX_found hy7) 0 rfl dX11_copy_86 (Nat.le_of_ble_eq_true rfl) (zrm rfl) ?_
              replace h := Option.some.inj h
              subst h
              exact z_lret C O dX11_copy_89 rfl rfl
            · refine z_aload_n C dX11_copy_72 0 rfl ?_
              refine z_iload_n C dX11_copy_73 3 rfl ?_
              refine z_iload C dX11_copy_74 4 rfl ?_
              refine z_iload C dX11_copy_76 5 rfl ?_
              obtain ⟨y8, hy8, h⟩ := bind_o h
              refine rw_c_X11_90 C (cX_lacksItems hy8) 0 rfl dX11_copy_78 (Nat.le_of_ble_eq_true rfl) (zrm rfl) ?_
              refine z_ifb_eq C dX11_copy_81 90 (by decide) h (fun h => ?_) (fun h => ?_)
              · refine z_aload_n C dX11_copy_90 0 rfl ?_
                refine rw_g_X11_16_X_X C dX11_copy_91 ?_
                refine z_iload_n C dX11_copy_94 1 rfl ?_
                refine z_bipush C 40 dX11_copy_95 (by decide) ?_
                refine z_imul C dX11_copy_97 ?_
                refine z_iload_n C dX11_copy_98 2 rfl ?_
                refine z_iadd C dX11_copy_99 ?_
                refine z_aload_n C dX11_copy_100 0 rfl ?_
                refine rw_g_X11_16_X_X C dX11_copy_101 ?_
                refine z_iload_n C dX11_copy_104 3 rfl ?_
                refine z_bipush C 40 dX11_copy_105 (by decide) ?_
                refine z_imul C dX11_copy_107 ?_
                refine z_iload C dX11_copy_108 4 rfl ?_
                refine z_iadd C dX11_copy_110 ?_
                refine z_iload C dX11_copy_111 5 rfl ?_
                refine rw_cpy_X11_94_X C dX11_copy_113 (Nat.le_of_ble_eq_true rfl) (Nat.le_of_ble_eq_true rfl) h (fun sX9 h => ?_)
                refine z_aload_n C dX11_copy_116 0 rfl ?_
                refine z_iload C dX11_copy_117 5 rfl ?_
                refine z_i2l C dX11_copy_119 ?_
                obtain ⟨y10, hy10, h⟩ := bind_o h
                refine rw_c_X11_79 C (cX_fine hy10) 0 rfl dX11_copy_120 (Nat.le_of_ble_eq_true rfl) (zrm rfl) ?_
                replace h := Option.some.inj h
                subst h
                exact z_lret C O dX11_copy_123 rfl rfl
              · refine z_aload_n C dX11_copy_84 0 rfl ?_
                refine z_iconst C 2 dX11_copy_85 (by decide) ?_
                obtain ⟨y11, hy11, h⟩ := bind_o h
                refine rw_c_X11_75 C (cX_found hy11) 0 rfl dX11_copy_86 (Nat.le_of_ble_eq_true rfl) (zrm rfl) ?_
                replace h := Option.some.inj h
                subst h
                exact z_lret C O dX11_copy_89 rfl rfl
          · refine z_aload_n C dX11_copy_55 0 rfl ?_
            refine z_iconst C 5 dX11_copy_56 (by decide) ?_
            obtain ⟨y12, hy12, h⟩ := bind_o h
            refine rw_c_X11_75 C (cX_found hy12) 0 rfl dX11_copy_57 (Nat.le_of_ble_eq_true rfl) (zrm rfl) ?_
            replace h := Option.some.inj h
            subst h
            exact z_lret C O dX11_copy_60 rfl rfl
        · refine z_aload_n C dX11_copy_34 0 rfl ?_
          refine z_iconst C 1 dX11_copy_35 (by decide) ?_
          obtain ⟨y13, hy13, h⟩ := bind_o h
          refine rw_c_X11_75 C (cX_found hy13) 0 rfl dX11_copy_36 (Nat.le_of_ble_eq_true rfl) (zrm rfl) ?_
          replace h := Option.some.inj h
          subst h
          exact z_lret C O dX11_copy_39 rfl rfl
    · refine z_ldc2 C rw_u_403 dX11_copy_14 ?_
      replace h := Option.some.inj h
      subst h
      exact z_lret C O dX11_copy_17 rfl rfl
set_option maxHeartbeats 4000000 in
set_option maxRecDepth 100000 in
theorem cX_drop {l : Launch} {G : zG} {qX qR qS qP qC qU qD qV qT : Nat → Nat} {sX : zSt} {a0 : Int32} {out : Int64 × zSt} (h : fX_drop sX a0 = some out) : Ct l G yX11_drop cX11_drop 3 (some .long) rmX11_drop [.ref (qX 0), .int a0] (wdX G qX qR qS qP qC qU qD qV qT sX) (some (.long out.1)) (wdX G qX qR qS qP qC qU qD qV qT out.2) := by
  refine zMet (own := RX11) rfl (by decide) (Nat.le_of_ble_eq_true rfl) (fun x hl C O => ?_)
  show zW x G 0 0 0 [(0, .ref (qX 0)), (1, .int a0)] [] _
  unfold fX_drop at h
  refine z_iload_n C dX11_drop_0 1 rfl ?_
  obtain ⟨y1, hy1, h⟩ := bind_o h
  refine rw_c_X11_69 C (Ct.frame0 (cX_isNoRow hy1)) dX11_drop_1 (Nat.le_of_ble_eq_true rfl) (zrm rfl) ?_
  refine z_ifb_eq C dX11_drop_4 11 (by decide) h (fun h => ?_) (fun h => ?_)
  · refine z_aload_n C dX11_drop_11 0 rfl ?_
    refine z_iload_n C dX11_drop_12 1 rfl ?_
    obtain ⟨y2, hy2, h⟩ := bind_o h
    refine rw_c_X11_83 C (cX_isMissing hy2) 0 rfl dX11_drop_13 (Nat.le_of_ble_eq_true rfl) (zrm rfl) ?_
    refine z_ifb_eq C dX11_drop_16 25 (by decide) h (fun h => ?_) (fun h => ?_)
    · refine z_aload_n C dX11_drop_25 0 rfl ?_
      refine rw_g_X11_13_X_X C dX11_drop_26 ?_
      refine z_iload_n C dX11_drop_29 1 rfl ?_
      refine rw_l_X_X_1 C dX11_drop_30 h (fun h => ?_)
      refine z_istore_nN C dX11_drop_31 (by decide) (lvr := [(0, .ref (qX 0)), (1, .int a0)]) rfl h (fun x2_3 h => ?_)
      refine z_aload_n C dX11_drop_32 1 rfl ?_
      refine rw_g_X11_13_X_X C dX11_drop_33 ?_
      refine z_iload_n C dX11_drop_36 2 rfl ?_
      refine z_iconst C (-1) dX11_drop_37 (by decide) ?_
      refine rw_s_X_X_1 C dX11_drop_38 h (fun sX4 h => ?_)
      refine z_aload_n C dX11_drop_39 1 rfl ?_
      refine z_iload_n C dX11_drop_40 0 rfl ?_
      refine z_i2l C dX11_drop_41 ?_
      obtain ⟨y5, hy5, h⟩ := bind_o h
      refine rw_c_X11_79 C (cX_fine hy5) 0 rfl dX11_drop_42 (Nat.le_of_ble_eq_true rfl) (zrm rfl) ?_
      replace h := Option.some.inj h
      subst h
      exact z_lret C O dX11_drop_45 rfl rfl
    · refine z_aload_n C dX11_drop_19 0 rfl ?_
      refine z_iconst C 1 dX11_drop_20 (by decide) ?_
      obtain ⟨y6, hy6, h⟩ := bind_o h
      refine rw_c_X11_75 C (cX_found hy6) 0 rfl dX11_drop_21 (Nat.le_of_ble_eq_true rfl) (zrm rfl) ?_
      replace h := Option.some.inj h
      subst h
      exact z_lret C O dX11_drop_24 rfl rfl
  · refine z_ldc2 C rw_u_403 dX11_drop_7 ?_
    replace h := Option.some.inj h
    subst h
    exact z_lret C O dX11_drop_10 rfl rfl
set_option maxHeartbeats 4000000 in
set_option maxRecDepth 100000 in
theorem kX_feed_l39b {x : zX} {G : zG} {qX qR qS qP qC qU qD qV qT : Nat → Nat} {sX : zSt} {out : Int64 × zSt} (C : zC x G RX11 cX11_feed 5 (some .long) rmX11_feed) (O : zO x G (some (.long out.1)) (wdX G qX qR qS qP qC qU qD qV qT sX ++ (wdR G qR out.2)) 0 0) {K39 : zSt → zSt → Int64 → Int32 → Option (Int64 × zSt)} (hK39 : ∀ (sR : zSt) (x1 : Int64) (x4 : Int32), K39 sX sR x1 x4 = some out → zW x G 0 0 39 [(0, .ref (qX 0)), (1, .long x1), (4, .int x4)] [] (wdX G qX qR qS qP qC qU qD qV qT sX ++ (wdR G qR sR))) {sR : zSt} {x1 : Int64} {x4 : Int32} (h : fX_feed_l39b K39 sX sR x1 x4 = some out) : zW x G 0 0 39 [(0, .ref (qX 0)), (1, .long x1), (4, .int x4)] [] (wdX G qX qR qS qP qC qU qD qV qT sX ++ (wdR G qR sR)) := by
  unfold fX_feed_l39b at h
  refine z_iload C dX11_feed_39 2 rfl ?_
  refine z_if_lt C dX11_feed_41 66 (by decide) h (fun h => ?_) (fun h => ?_)
  · refine z_aload_n C dX11_feed_66 0 rfl ?_
    refine rw_g_X11_22_XR_X C dX11_feed_67 ?_
    refine rw_g_X11_106_XR_R C dX11_feed_70 ?_
    refine z_i2l C dX11_feed_73 ?_
    replace h := Option.some.inj h
    subst h
    exact z_lret C O dX11_feed_74 rfl rfl
  · refine z_aload_n C dX11_feed_44 0 rfl ?_
    refine rw_g_X11_22_XR_X C dX11_feed_45 ?_
    refine z_lload_n C dX11_feed_48 1 rfl ?_
    refine z_bipush C 8 dX11_feed_49 (by decide) ?_
    refine z_iload C dX11_feed_51 2 rfl ?_
    refine z_imul C dX11_feed_53 ?_
    refine z_lushr C dX11_feed_54 ?_
    refine z_l2i C dX11_feed_55 ?_
    refine z_i2b C dX11_feed_56 ?_
    obtain ⟨y2, hy2, h⟩ := bind_o h
    refine rw_c_X11_111 C (Ct.frame (cR_append hy2) (w := wdX G qX qR qS qP qC qU qD qV qT sX ++ (wdR G qR sR)) (w' := wdX G qX qR qS qP qC qU qD qV qT sX ++ (wdR G qR y2)) (wr := wdX G qX qR qS qP qC qU qD qV qT sX) [4, 5] [0, 1, 2, 3] [0, 1, 2, 3, 4, 5] rfl rfl rfl rfl (by decide) rfl rfl) 4 rfl dX11_feed_57 (Nat.le_of_ble_eq_true rfl) (zrm rfl) ?_
    refine z_iinc C dX11_feed_60 2 rfl (-1) (by decide) (by decide) (lvr := [(0, .ref (qX 0)), (1, .long x1)]) rfl h (fun x4_3 h => ?_)
    refine z_goto C dX11_feed_63 39 (by decide) ?_
    refine z_perm [1, 2, 0] (lv' := [(0, .ref (qX 0)), (1, .long x1), (4, .int x4_3)]) rfl ?_
    exact hK39 _  _ _ h
set_option maxHeartbeats 4000000 in
set_option maxRecDepth 100000 in
theorem kX_feed_l39 {x : zX} {G : zG} {qX qR qS qP qC qU qD qV qT : Nat → Nat} {sX : zSt} {out : Int64 × zSt} (C : zC x G RX11 cX11_feed 5 (some .long) rmX11_feed) (O : zO x G (some (.long out.1)) (wdX G qX qR qS qP qC qU qD qV qT sX ++ (wdR G qR out.2)) 0 0)  : ∀ (n : Nat) {sR : zSt} {x1 : Int64} {x4 : Int32}, fX_feed_l39  n sX sR x1 x4 = some out → zW x G 0 0 39 [(0, .ref (qX 0)), (1, .long x1), (4, .int x4)] [] (wdX G qX qR qS qP qC qU qD qV qT sX ++ (wdR G qR sR)) := by
  intro n
  induction n with
  | zero =>
    intro sR x1 x4 h
    have h : (none : Option (Int64 × zSt)) = some out := h
    cases h
  | succ n ih =>
    intro sR x1 x4 h
    exact kX_feed_l39b C O (K39 := fun v0 v1 v2 v3 => fX_feed_l39  n v0 v1 v2 v3) (fun sR x1 x4 h => ih h) h
set_option maxHeartbeats 4000000 in
set_option maxRecDepth 100000 in
theorem cX_feed {l : Launch} {G : zG} {qX qR qS qP qC qU qD qV qT : Nat → Nat} {sX : zSt} {sR : zSt} {a0 : Int64} {a1 : Int32} {out : Int64 × zSt} (h : fX_feed sX sR a0 a1 = some out) : Ct l G yX11_feed cX11_feed 5 (some .long) rmX11_feed [.ref (qX 0), .long a0, .int a1] (wdX G qX qR qS qP qC qU qD qV qT sX ++ (wdR G qR sR)) (some (.long out.1)) (wdX G qX qR qS qP qC qU qD qV qT sX ++ (wdR G qR out.2)) := by
  refine zMet (own := RX11) rfl (by decide) (Nat.le_of_ble_eq_true rfl) (fun x hl C O => ?_)
  show zW x G 0 0 0 [(0, .ref (qX 0)), (1, .long a0), (3, .int a1)] [] _
  unfold fX_feed at h
  refine z_iload_n C dX11_feed_0 2 rfl ?_
  refine z_iconst C 1 dX11_feed_1 (by decide) ?_
  refine z_icmp_lt C dX11_feed_2 11 (by decide) h (fun h => ?_) (fun h => ?_)
  · refine z_ldc2 C rw_u_403 dX11_feed_11 ?_
    replace h := Option.some.inj h
    subst h
    exact z_lret C O dX11_feed_14 rfl rfl
  · refine z_iload_n C dX11_feed_5 2 rfl ?_
    refine z_bipush C 8 dX11_feed_6 (by decide) ?_
    refine z_icmp_le C dX11_feed_8 15 (by decide) h (fun h => ?_) (fun h => ?_)
    · refine z_aload_n C dX11_feed_15 0 rfl ?_
      refine rw_g_X11_22_XR_X C dX11_feed_16 ?_
      refine rw_g_X11_106_XR_R C dX11_feed_19 ?_
      refine z_iload_n C dX11_feed_22 2 rfl ?_
      refine z_iadd C dX11_feed_23 ?_
      refine z_sipush C 500 dX11_feed_24 (by decide) ?_
      refine z_icmp_le C dX11_feed_27 34 (by decide) h (fun h => ?_) (fun h => ?_)
      · refine z_iload_n C dX11_feed_34 2 rfl ?_
        refine z_iconst C 1 dX11_feed_35 (by decide) ?_
        refine z_isub C dX11_feed_36 ?_
        refine z_istoreN C dX11_feed_37 (by decide) (lvr := [(0, .ref (qX 0)), (1, .long a0), (3, .int a1)]) rfl h (fun x4_1 h => ?_)
        refine z_perm [1, 2, 0] (lv' := [(0, .ref (qX 0)), (1, .long a0), (4, .int x4_1)]) rfl ?_
        exact kX_feed_l39 C O  zF h
      · refine z_ldc2 C rw_u_443 dX11_feed_30 ?_
        replace h := Option.some.inj h
        subst h
        exact z_lret C O dX11_feed_33 rfl rfl
    · refine z_ldc2 C rw_u_403 dX11_feed_11 ?_
      replace h := Option.some.inj h
      subst h
      exact z_lret C O dX11_feed_14 rfl rfl
set_option maxHeartbeats 4000000 in
set_option maxRecDepth 100000 in
theorem cX_life {l : Launch} {G : zG} {qX qR qS qP qC qU qD qV qT : Nat → Nat} {rC : Nat} {sX : zSt} {sR : zSt} {sS : zSt} {sP : zSt} {sC : zSt} {sU : zSt}  {out : Int64 × zSt × zSt × zSt × zSt × zSt × zSt} (h : fX_life sX sR sS sP sC sU  = some out) : Ctr l G yX11_life cX11_life 2 (some .long) rmX11_life [.ref (qX 0)] (wdX G qX qR qS qP qC qU qD qV qT sX ++ (wdR G qR sR ++ (wdS G qS sS ++ (wdS G qP sP ++ (wdC G qC rC sC ++ (wdU G qU sU)))))) (fun _ => (some (.long out.1))) (fun z : (Nat → Nat) × (Nat → Nat) × Nat => wdX G qX qR z.1 z.2.1 qC qU qD qV qT out.2.1 ++ (wdR G qR out.2.2.1 ++ (wdS G z.1 out.2.2.2.1 ++ (wdS G z.2.1 out.2.2.2.2.1 ++ (wdC G qC z.2.2 out.2.2.2.2.2.1 ++ (wdU G qU out.2.2.2.2.2.2)))))) := by
  refine zMetr (own := RX11) rfl (by decide) (Nat.le_of_ble_eq_true rfl) (fun x hl C hnm O => ?_)
  show zW x G 0 0 0 [(0, .ref (qX 0))] [] _
  unfold fX_life at h
  refine z_aload_n C dX11_life_0 0 rfl ?_
  refine rw_g_X11_22_XRSPCU_X C dX11_life_1 ?_
  refine z_aload_n C dX11_life_4 0 rfl ?_
  refine rw_g_X11_33_XRSPCU_X C dX11_life_5 ?_
  obtain ⟨y1, hy1, h⟩ := bind_o h
  refine rw_c_X11_115 C (Ct.frame (cR_readInto hy1) (w := wdX G qX qR qS qP qC qU qD qV qT sX ++ (wdR G qR sR ++ (wdS G qS sS ++ (wdS G qP sP ++ (wdC G qC rC sC ++ (wdU G qU sU)))))) (w' := wdX G qX qR qS qP qC qU qD qV qT sX ++ (wdR G qR y1.1 ++ (wdS G qS sS ++ (wdS G qP y1.2 ++ (wdC G qC rC sC ++ (wdU G qU sU)))))) (wr := wdX G qX qR qS qP qC qU qD qV qT sX ++ (wdS G qS sS ++ (wdC G qC rC sC ++ (wdU G qU sU)))) [4, 5, 17, 18, 19, 20, 21, 22, 23, 24, 25, 26, 27] [0, 1, 2, 3, 6, 7, 8, 9, 10, 11, 12, 13, 14, 15, 16, 28, 29, 30, 31, 32, 33, 34, 35, 36, 37, 38, 39, 40, 41, 42, 43, 44, 45, 46, 47, 48, 49, 50, 51] [0, 1, 2, 3, 39, 40, 4, 5, 6, 7, 8, 9, 10, 11, 12, 13, 14, 41, 42, 43, 44, 45, 46, 47, 48, 49, 50, 51, 15, 16, 17, 18, 19, 20, 21, 22, 23, 24, 25, 26, 27, 28, 29, 30, 31, 32, 33, 34, 35, 36, 37, 38] rfl rfl rfl rfl (by decide) rfl rfl) 4 rfl dX11_life_8 (Nat.le_of_ble_eq_true rfl) (zrm rfl) ?_
  refine z_aload_n C dX11_life_11 0 rfl ?_
  refine rw_g_X11_22_XRSPCU_X C dX11_life_12 ?_
  refine rw_g_X11_119_XRSPCU_R C dX11_life_15 ?_
  refine z_if_eq C dX11_life_18 45 (by decide) h (fun h => ?_) (fun h => ?_)
  · refine z_aload_n C dX11_life_45 0 rfl ?_
    refine rw_g_X11_29_XRSPCU_X C dX11_life_46 ?_
    refine z_astore_n C dX11_life_49 (by decide) (lvr := [(0, .ref (qX 0))]) rfl ?_
    refine z_aload_n C dX11_life_50 1 rfl ?_
    refine z_aload_n C dX11_life_51 1 rfl ?_
    refine rw_g_X11_33_XRSPCU_X C dX11_life_52 ?_
    refine rw_px_X11_29_XRSPCU C dX11_life_55 ?_
    refine z_aload_n C dX11_life_58 1 rfl ?_
    refine z_aload_n C dX11_life_59 0 rfl ?_
    refine rw_px_X11_33_XRSPCU C dX11_life_60 ?_
    refine z_aload_n C dX11_life_63 1 rfl ?_
    refine z_iconst C 1 dX11_life_64 (by decide) ?_
    refine rw_p_X11_130_XRSPCU_X C dX11_life_65 rfl rfl h (fun sX2 h => ?_)
    refine z_aload_n C dX11_life_68 1 rfl ?_
    refine rw_g_X11_39_XRSPCU_X C dX11_life_69 ?_
    refine z_aload_n C dX11_life_72 1 rfl ?_
    refine rw_g_X11_29_XRSPCU_X C dX11_life_73 ?_
    obtain ⟨y3, hy3, h⟩ := bind_o h
    refine rw_c_X11_134 C (Ct.frame (cC_begin hy3) (w := wdX G qX qR qP qS qC qU qD qV qT sX2 ++ (wdR G qR y1.1 ++ (wdS G qS sS ++ (wdS G qP y1.2 ++ (wdC G qC rC sC ++ (wdU G qU sU)))))) (w' := wdX G qX qR qP qS qC qU qD qV qT sX2 ++ (wdR G qR y1.1 ++ (wdS G qS sS ++ (wdS G qP y1.2 ++ (wdC G qC (qP 0) y3 ++ (wdU G qU sU)))))) (wr := wdX G qX qR qP qS qC qU qD qV qT sX2 ++ (wdR G qR y1.1 ++ (wdS G qS sS ++ (wdS G qP y1.2 ++ (wdU G qU sU))))) [28, 29, 30, 31, 32, 33, 34, 35, 36, 37, 38, 39, 40, 41, 42] [0, 1, 2, 3, 4, 5, 6, 7, 8, 9, 10, 11, 12, 13, 14, 15, 16, 17, 18, 19, 20, 21, 22, 23, 24, 25, 26, 27, 43, 44, 45, 46, 47, 48, 49, 50, 51] [0, 1, 2, 3, 4, 5, 6, 7, 8, 9, 10, 11, 12, 13, 14, 15, 16, 17, 18, 19, 20, 21, 22, 23, 24, 25, 26, 27, 37, 38, 39, 40, 41, 42, 43, 44, 45, 46, 47, 48, 49, 50, 51, 28, 29, 30, 31, 32, 33, 34, 35, 36] rfl rfl rfl rfl (by decide) rfl rfl) 28 rfl dX11_life_76 (Nat.le_of_ble_eq_true rfl) (zrm rfl) ?_
    refine z_aload_n C dX11_life_79 1 rfl ?_
    refine rw_g_X11_39_XRSPCU_X C dX11_life_80 ?_
    refine z_iconst C 0 dX11_life_83 (by decide) ?_
    refine z_aload_n C dX11_life_84 1 rfl ?_
    refine rw_g_X11_29_XRSPCU_X C dX11_life_85 ?_
    refine rw_g_X11_137_XRSPCU_P C dX11_life_88 ?_
    obtain ⟨y4, hy4, h⟩ := bind_o h
    refine rw_c_X11_140 C (Ct.frame (cC_goThrough hy4) (w := wdX G qX qR qP qS qC qU qD qV qT sX2 ++ (wdR G qR y1.1 ++ (wdS G qS sS ++ (wdS G qP y1.2 ++ (wdC G qC (qP 0) y3 ++ (wdU G qU sU)))))) (w' := wdX G qX qR qP qS qC qU qD qV qT sX2 ++ (wdR G qR y1.1 ++ (wdS G qS sS ++ (wdS G qP y1.2 ++ (wdC G qC (qP 0) y4 ++ (wdU G qU sU)))))) (wr := wdX G qX qR qP qS qC qU qD qV qT sX2 ++ (wdR G qR y1.1 ++ (wdS G qS sS ++ (wdU G qU sU)))) [28, 29, 30, 31, 32, 33, 34, 35, 36, 37, 38, 39, 40, 41, 42, 17, 18, 19, 20, 21, 22, 23, 24, 25, 26, 27] [0, 1, 2, 3, 4, 5, 6, 7, 8, 9, 10, 11, 12, 13, 14, 15, 16, 43, 44, 45, 46, 47, 48, 49, 50, 51] [0, 1, 2, 3, 4, 5, 6, 7, 8, 9, 10, 11, 12, 13, 14, 15, 16, 41, 42, 43, 44, 45, 46, 47, 48, 49, 50, 51, 26, 27, 28, 29, 30, 31, 32, 33, 34, 35, 36, 37, 38, 39, 40, 17, 18, 19, 20, 21, 22, 23, 24, 25] rfl rfl rfl rfl (by decide) rfl rfl) 28 rfl dX11_life_91 (Nat.le_of_ble_eq_true rfl) (zrm rfl) ?_
    refine z_aload_n C dX11_life_94 1 rfl ?_
    refine rw_g_X11_46_XRSPCU_X C dX11_life_95 ?_
    refine z_aload_n C dX11_life_98 1 rfl ?_
    refine rw_g_X11_39_XRSPCU_X C dX11_life_99 ?_
    obtain ⟨y5, hy5, h⟩ := bind_o h
    refine rw_c_X11_144 C (Ct.frame (cU_reckon hy5) (w := wdX G qX qR qP qS qC qU qD qV qT sX2 ++ (wdR G qR y1.1 ++ (wdS G qS sS ++ (wdS G qP y1.2 ++ (wdC G qC (qP 0) y4 ++ (wdU G qU sU)))))) (w' := wdX G qX qR qP qS qC qU qD qV qT sX2 ++ (wdR G qR y1.1 ++ (wdS G qS sS ++ (wdS G qP y1.2 ++ (wdC G qC (qP 0) y4 ++ (wdU G qU y5)))))) (wr := wdX G qX qR qP qS qC qU qD qV qT sX2 ++ (wdR G qR y1.1 ++ (wdS G qS sS))) [43, 44, 45, 46, 47, 48, 49, 50, 51, 28, 29, 30, 31, 32, 33, 34, 35, 36, 37, 38, 39, 40, 41, 42, 17, 18, 19, 20, 21, 22, 23, 24, 25, 26, 27] [0, 1, 2, 3, 4, 5, 6, 7, 8, 9, 10, 11, 12, 13, 14, 15, 16] [0, 1, 2, 3, 4, 5, 6, 7, 8, 9, 10, 11, 12, 13, 14, 15, 16, 41, 42, 43, 44, 45, 46, 47, 48, 49, 50, 51, 26, 27, 28, 29, 30, 31, 32, 33, 34, 35, 36, 37, 38, 39, 40, 17, 18, 19, 20, 21, 22, 23, 24, 25] rfl rfl rfl rfl (by decide) rfl rfl) 43 rfl dX11_life_102 (Nat.le_of_ble_eq_true rfl) (zrm rfl) ?_
    refine z_aload_n C dX11_life_105 1 rfl ?_
    refine rw_g_X11_29_XRSPCU_X C dX11_life_106 ?_
    refine rw_g_X11_137_XRSPCU_P C dX11_life_109 ?_
    refine z_i2l C dX11_life_112 ?_
    refine z_world (w' := wdX G qX qR qP qS qC qU qD qV qT sX2 ++ (wdR G qR y1.1 ++ (wdS G qP y1.2 ++ (wdS G qS sS ++ (wdC G qC (qP 0) y4 ++ (wdU G qU y5)))))) [0, 1, 2, 3, 4, 5, 17, 18, 19, 20, 21, 22, 23, 24, 25, 26, 27, 6, 7, 8, 9, 10, 11, 12, 13, 14, 15, 16, 28, 29, 30, 31, 32, 33, 34, 35, 36, 37, 38, 39, 40, 41, 42, 43, 44, 45, 46, 47, 48, 49, 50, 51] rfl rfl ?_
    replace h := Option.some.inj h
    subst h
    exact z_lret1 C O dX11_life_113 (qP, qS, (qP 0)) rfl rfl
  · refine z_aload_n C dX11_life_21 0 rfl ?_
    refine z_aload_n C dX11_life_22 0 rfl ?_
    refine rw_g_X11_22_XRSPCU_X C dX11_life_23 ?_
    refine rw_g_X11_119_XRSPCU_R C dX11_life_26 ?_
    refine rw_p_X11_122_XRSPCU_X C dX11_life_29 h (fun sX6 h => ?_)
    refine z_ldc2 C rw_u_570 dX11_life_32 ?_
    refine z_aload_n C dX11_life_35 0 rfl ?_
    refine rw_g_X11_22_XRSPCU_X C dX11_life_36 ?_
    refine rw_g_X11_127_XRSPCU_R C dX11_life_39 ?_
    refine z_i2l C dX11_life_42 ?_
    refine z_lsub C dX11_life_43 ?_
    replace h := Option.some.inj h
    subst h
    exact z_lret1 C O dX11_life_44 (qS, qP, rC) rfl rfl
set_option maxHeartbeats 4000000 in
set_option maxRecDepth 100000 in
theorem cX_fault {l : Launch} {G : zG} {qX qR qS qP qC qU qD qV qT : Nat → Nat} {sX : zSt}  {out : Int32} (h : fX_fault sX  = some out) : Ct l G yX11_fault cX11_fault 1 (some .int) rmX11_fault [.ref (qX 0)] (wdX G qX qR qS qP qC qU qD qV qT sX) (some (.int out)) (wdX G qX qR qS qP qC qU qD qV qT sX) := by
  refine zMet (own := RX11) rfl (by decide) (Nat.le_of_ble_eq_true rfl) (fun x hl C O => ?_)
  show zW x G 0 0 0 [(0, .ref (qX 0))] [] _
  unfold fX_fault at h
  refine z_aload_n C dX11_fault_0 0 rfl ?_
  refine rw_g_X11_122_X_X C dX11_fault_1 ?_
  replace h := Option.some.inj h
  subst h
  exact z_iret C O dX11_fault_4 rfl rfl
set_option maxHeartbeats 4000000 in
set_option maxRecDepth 100000 in
theorem cX_isNoThing {l : Launch} {G : zG} {qX qR qS qP qC qU qD qV qT : Nat → Nat} {rC : Nat} {sX : zSt} {sC : zSt} {a0 : Int32} {out : Bool} (h : fX_isNoThing sX sC a0 = some out) : Ct l G yX11_isNoThing cX11_isNoThing 2 (some .boolean) rmX11_isNoThing [.ref (qX 0), .int a0] (wdX G qX qR qS qP qC qU qD qV qT sX ++ (wdC G qC rC sC)) (some (.int (zb out))) (wdX G qX qR qS qP qC qU qD qV qT sX ++ (wdC G qC rC sC)) := by
  refine zMet (own := RX11) rfl (by decide) (Nat.le_of_ble_eq_true rfl) (fun x hl C O => ?_)
  show zW x G 0 0 0 [(0, .ref (qX 0)), (1, .int a0)] [] _
  unfold fX_isNoThing at h
  refine z_iload_n C dX11_isNoThing_0 1 rfl ?_
  refine z_if_lt C dX11_isNoThing_1 15 (by decide) h (fun h => ?_) (fun h => ?_)
  · refine z_iconst C 1 dX11_isNoThing_15 (by decide) ?_
    refine z_goto C dX11_isNoThing_16 20 (by decide) ?_
    replace h := Option.some.inj h
    subst h
    exact z_zret C O dX11_isNoThing_20 (zb_nar true) rfl rfl
  · refine z_iload_n C dX11_isNoThing_4 1 rfl ?_
    refine z_aload_n C dX11_isNoThing_5 0 rfl ?_
    refine rw_g_X11_39_XC_X C dX11_isNoThing_6 ?_
    refine rw_g_X11_158_XC_C C dX11_isNoThing_9 ?_
    refine z_icmp_lt C dX11_isNoThing_12 19 (by decide) h (fun h => ?_) (fun h => ?_)
    · refine z_iconst C 0 dX11_isNoThing_19 (by decide) ?_
      replace h := Option.some.inj h
      subst h
      exact z_zret C O dX11_isNoThing_20 (zb_nar false) rfl rfl
    · refine z_iconst C 1 dX11_isNoThing_15 (by decide) ?_
      refine z_goto C dX11_isNoThing_16 20 (by decide) ?_
      replace h := Option.some.inj h
      subst h
      exact z_zret C O dX11_isNoThing_20 (zb_nar true) rfl rfl
set_option maxHeartbeats 4000000 in
set_option maxRecDepth 100000 in
theorem cX_isNoDay {l : Launch} {G : zG}   {a0 : Int32} {out : Bool} (h : fX_isNoDay  a0 = some out) : Ct l G yX11_isNoDay cX11_isNoDay 1 (some .boolean) rmX11_isNoDay [.int a0] ([]) (some (.int (zb out))) ([]) := by
  refine zMet (own := RX11) rfl (by decide) (Nat.le_of_ble_eq_true rfl) (fun x hl C O => ?_)
  show zW x G 0 0 0 [(0, .int a0)] [] _
  unfold fX_isNoDay at h
  refine z_iload_n C dX11_isNoDay_0 0 rfl ?_
  refine z_if_lt C dX11_isNoDay_1 11 (by decide) h (fun h => ?_) (fun h => ?_)
  · refine z_iconst C 1 dX11_isNoDay_11 (by decide) ?_
    refine z_goto C dX11_isNoDay_12 16 (by decide) ?_
    replace h := Option.some.inj h
    subst h
    exact z_zret C O dX11_isNoDay_16 (zb_nar true) rfl rfl
  · refine z_iload_n C dX11_isNoDay_4 0 rfl ?_
    refine z_sipush C 999 dX11_isNoDay_5 (by decide) ?_
    refine z_icmp_le C dX11_isNoDay_8 15 (by decide) h (fun h => ?_) (fun h => ?_)
    · refine z_iconst C 0 dX11_isNoDay_15 (by decide) ?_
      replace h := Option.some.inj h
      subst h
      exact z_zret C O dX11_isNoDay_16 (zb_nar false) rfl rfl
    · refine z_iconst C 1 dX11_isNoDay_11 (by decide) ?_
      refine z_goto C dX11_isNoDay_12 16 (by decide) ?_
      replace h := Option.some.inj h
      subst h
      exact z_zret C O dX11_isNoDay_16 (zb_nar true) rfl rfl
set_option maxHeartbeats 4000000 in
set_option maxRecDepth 100000 in
theorem cX_whose {l : Launch} {G : zG} {qX qR qS qP qC qU qD qV qT : Nat → Nat} {rC : Nat} {rD : Nat} {sX : zSt} {sS : zSt} {sC : zSt} {sD : zSt} {a0 : Int32} {a1 : Int32} {out : Int64 × zSt} (h : fX_whose sX sS sC sD a0 a1 = some out) : Ctr l G yX11_whose cX11_whose 3 (some .long) rmX11_whose [.ref (qX 0), .int a0, .int a1] (wdX G qX qR qS qP qC qU qD qV qT sX ++ (wdS G qS sS ++ (wdC G qC rC sC ++ (wdC G qD rD sD)))) (fun _ => (some (.long out.1))) (fun z : Nat => wdX G qX qR qS qP qC qU qD qV qT sX ++ (wdS G qS sS ++ (wdC G qC rC sC ++ (wdC G qD z out.2)))) := by
  refine zMetr (own := RX11) rfl (by decide) (Nat.le_of_ble_eq_true rfl) (fun x hl C hnm O => ?_)
  show zW x G 0 0 0 [(0, .ref (qX 0)), (1, .int a0), (2, .int a1)] [] _
  unfold fX_whose at h
  refine z_aload_n C dX11_whose_0 0 rfl ?_
  refine z_iload_n C dX11_whose_1 1 rfl ?_
  obtain ⟨y1, hy1, h⟩ := bind_o h
  refine rw_c_X11_148 C (Ct.frame (cX_isNoThing hy1) (w := wdX G qX qR qS qP qC qU qD qV qT sX ++ (wdS G qS sS ++ (wdC G qC rC sC ++ (wdC G qD rD sD)))) (w' := wdX G qX qR qS qP qC qU qD qV qT sX ++ (wdS G qS sS ++ (wdC G qC rC sC ++ (wdC G qD rD sD)))) (wr := wdS G qS sS ++ (wdC G qD rD sD)) [0, 1, 2, 3, 15, 16, 17, 18, 19, 20, 21, 22, 23, 24, 25, 26, 27, 28, 29] [4, 5, 6, 7, 8, 9, 10, 11, 12, 13, 14, 30, 31, 32, 33, 34, 35, 36, 37, 38, 39, 40, 41, 42, 43, 44] [26, 27, 28, 29, 0, 1, 2, 3, 4, 5, 6, 7, 8, 9, 10, 30, 31, 32, 33, 34, 35, 36, 37, 38, 39, 40, 41, 42, 43, 44, 11, 12, 13, 14, 15, 16, 17, 18, 19, 20, 21, 22, 23, 24, 25] rfl rfl rfl rfl (by decide) rfl rfl) 0 rfl dX11_whose_2 (Nat.le_of_ble_eq_true rfl) (zrm rfl) ?_
  refine z_ifb_ne C dX11_whose_5 15 (by decide) h (fun h => ?_) (fun h => ?_)
  · refine z_ldc2 C rw_u_403 dX11_whose_15 ?_
    replace h := Option.some.inj h
    subst h
    exact z_lret1 C O dX11_whose_18 rD rfl rfl
  · refine z_iload_n C dX11_whose_8 2 rfl ?_
    obtain ⟨y2, hy2, h⟩ := bind_o h
    refine rw_c_X11_151 C (Ct.frame0 (cX_isNoDay hy2)) dX11_whose_9 (Nat.le_of_ble_eq_true rfl) (zrm rfl) ?_
    refine z_ifb_eq C dX11_whose_12 19 (by decide) h (fun h => ?_) (fun h => ?_)
    · refine z_aload_n C dX11_whose_19 0 rfl ?_
      refine rw_g_X11_50_XSCD_X C dX11_whose_20 ?_
      refine z_aload_n C dX11_whose_23 0 rfl ?_
      refine rw_g_X11_29_XSCD_X C dX11_whose_24 ?_
      obtain ⟨y3, hy3, h⟩ := bind_o h
      refine rw_c_X11_134 C (Ct.frame (cC_begin hy3) (w := wdX G qX qR qS qP qC qU qD qV qT sX ++ (wdS G qS sS ++ (wdC G qC rC sC ++ (wdC G qD rD sD)))) (w' := wdX G qX qR qS qP qC qU qD qV qT sX ++ (wdS G qS sS ++ (wdC G qC rC sC ++ (wdC G qD (qS 0) y3)))) (wr := wdX G qX qR qS qP qC qU qD qV qT sX ++ (wdS G qS sS ++ (wdC G qC rC sC))) [30, 31, 32, 33, 34, 35, 36, 37, 38, 39, 40, 41, 42, 43, 44] [0, 1, 2, 3, 4, 5, 6, 7, 8, 9, 10, 11, 12, 13, 14, 15, 16, 17, 18, 19, 20, 21, 22, 23, 24, 25, 26, 27, 28, 29] [0, 1, 2, 3, 4, 5, 6, 7, 8, 9, 10, 11, 12, 13, 14, 15, 16, 17, 18, 19, 20, 21, 22, 23, 24, 25, 26, 27, 28, 29, 30, 31, 32, 33, 34, 35, 36, 37, 38, 39, 40, 41, 42, 43, 44] rfl rfl rfl rfl (by decide) rfl rfl) 30 rfl dX11_whose_27 (Nat.le_of_ble_eq_true rfl) (zrm rfl) ?_
      refine z_aload_n C dX11_whose_30 0 rfl ?_
      refine rw_g_X11_50_XSCD_X C dX11_whose_31 ?_
      refine z_iconst C 0 dX11_whose_34 (by decide) ?_
      refine z_aload_n C dX11_whose_35 0 rfl ?_
      refine rw_g_X11_29_XSCD_X C dX11_whose_36 ?_
      refine z_iload_n C dX11_whose_39 2 rfl ?_
      refine z_iconst C 1 dX11_whose_40 (by decide) ?_
      refine z_iadd C dX11_whose_41 ?_
      obtain ⟨y4, hy4, h⟩ := bind_o h
      refine rw_c_X11_154 C (Ct.frame (cS_firstEventFrom hy4) (w := wdX G qX qR qS qP qC qU qD qV qT sX ++ (wdS G qS sS ++ (wdC G qC rC sC ++ (wdC G qD (qS 0) y3)))) (w' := wdX G qX qR qS qP qC qU qD qV qT sX ++ (wdS G qS sS ++ (wdC G qC rC sC ++ (wdC G qD (qS 0) y3)))) (wr := wdX G qX qR qS qP qC qU qD qV qT sX ++ (wdC G qC rC sC ++ (wdC G qD (qS 0) y3))) [4, 5, 6, 7, 8, 9, 10, 11, 12, 13, 14] [0, 1, 2, 3, 15, 16, 17, 18, 19, 20, 21, 22, 23, 24, 25, 26, 27, 28, 29, 30, 31, 32, 33, 34, 35, 36, 37, 38, 39, 40, 41, 42, 43, 44] [0, 1, 2, 3, 34, 35, 36, 37, 38, 39, 40, 41, 42, 43, 44, 4, 5, 6, 7, 8, 9, 10, 11, 12, 13, 14, 15, 16, 17, 18, 19, 20, 21, 22, 23, 24, 25, 26, 27, 28, 29, 30, 31, 32, 33] rfl rfl rfl rfl (by decide) rfl rfl) 4 rfl dX11_whose_42 (Nat.le_of_ble_eq_true rfl) (zrm rfl) ?_
      obtain ⟨y5, hy5, h⟩ := bind_o h
      refine rw_c_X11_140 C (Ct.frame (cC_goThrough hy5) (w := wdX G qX qR qS qP qC qU qD qV qT sX ++ (wdS G qS sS ++ (wdC G qC rC sC ++ (wdC G qD (qS 0) y3)))) (w' := wdX G qX qR qS qP qC qU qD qV qT sX ++ (wdS G qS sS ++ (wdC G qC rC sC ++ (wdC G qD (qS 0) y5)))) (wr := wdX G qX qR qS qP qC qU qD qV qT sX ++ (wdC G qC rC sC)) [30, 31, 32, 33, 34, 35, 36, 37, 38, 39, 40, 41, 42, 43, 44, 4, 5, 6, 7, 8, 9, 10, 11, 12, 13, 14] [0, 1, 2, 3, 15, 16, 17, 18, 19, 20, 21, 22, 23, 24, 25, 26, 27, 28, 29] [0, 1, 2, 3, 34, 35, 36, 37, 38, 39, 40, 41, 42, 43, 44, 4, 5, 6, 7, 8, 9, 10, 11, 12, 13, 14, 15, 16, 17, 18, 19, 20, 21, 22, 23, 24, 25, 26, 27, 28, 29, 30, 31, 32, 33] rfl rfl rfl rfl (by decide) rfl rfl) 30 rfl dX11_whose_45 (Nat.le_of_ble_eq_true rfl) (zrm rfl) ?_
      refine z_iload_n C dX11_whose_48 1 rfl ?_
      refine z_aload_n C dX11_whose_49 0 rfl ?_
      refine rw_g_X11_50_XSCD_X C dX11_whose_50 ?_
      refine rw_g_X11_158_XSCD_D C dX11_whose_53 ?_
      refine z_icmp_ge C dX11_whose_56 72 (by decide) h (fun h => ?_) (fun h => ?_)
      · refine z_ldc2 C rw_u_687 dX11_whose_72 ?_
        replace h := Option.some.inj h
        subst h
        exact z_lret1 C O dX11_whose_75 (qS 0) rfl rfl
      · refine z_aload_n C dX11_whose_59 0 rfl ?_
        refine rw_g_X11_50_XSCD_X C dX11_whose_60 ?_
        refine rw_g_X11_161_XSCD_D C dX11_whose_63 ?_
        refine z_iload_n C dX11_whose_66 1 rfl ?_
        refine rw_l_XSCD_D_8 C dX11_whose_67 h (fun h => ?_)
        refine z_i2l C dX11_whose_68 ?_
        refine z_goto C dX11_whose_69 75 (by decide) ?_
        replace h := Option.some.inj h
        subst h
        exact z_lret1 C O dX11_whose_75 (qS 0) rfl rfl
    · refine z_ldc2 C rw_u_403 dX11_whose_15 ?_
      replace h := Option.some.inj h
      subst h
      exact z_lret1 C O dX11_whose_18 rD rfl rfl
set_option maxHeartbeats 4000000 in
set_option maxRecDepth 100000 in
theorem cX_thing {l : Launch} {G : zG} {qX qR qS qP qC qU qD qV qT : Nat → Nat} {rC : Nat} {sX : zSt} {sS : zSt} {sC : zSt} {a0 : Int32} {a1 : Int32} {out : Int64} (h : fX_thing sX sS sC a0 a1 = some out) : Ct l G yX11_thing cX11_thing 3 (some .long) rmX11_thing [.ref (qX 0), .int a0, .int a1] (wdX G qX qR qS qP qC qU qD qV qT sX ++ (wdS G qS sS ++ (wdC G qC rC sC))) (some (.long out)) (wdX G qX qR qS qP qC qU qD qV qT sX ++ (wdS G qS sS ++ (wdC G qC rC sC))) := by
  refine zMet (own := RX11) rfl (by decide) (Nat.le_of_ble_eq_true rfl) (fun x hl C O => ?_)
  show zW x G 0 0 0 [(0, .ref (qX 0)), (1, .int a0), (2, .int a1)] [] _
  unfold fX_thing at h
  refine z_aload_n C dX11_thing_0 0 rfl ?_
  refine z_iload_n C dX11_thing_1 1 rfl ?_
  obtain ⟨y1, hy1, h⟩ := bind_o h
  refine rw_c_X11_148 C (Ct.frame (cX_isNoThing hy1) (w := wdX G qX qR qS qP qC qU qD qV qT sX ++ (wdS G qS sS ++ (wdC G qC rC sC))) (w' := wdX G qX qR qS qP qC qU qD qV qT sX ++ (wdS G qS sS ++ (wdC G qC rC sC))) (wr := wdS G qS sS) [0, 1, 2, 3, 15, 16, 17, 18, 19, 20, 21, 22, 23, 24, 25, 26, 27, 28, 29] [4, 5, 6, 7, 8, 9, 10, 11, 12, 13, 14] [11, 12, 13, 14, 0, 1, 2, 3, 4, 5, 6, 7, 8, 9, 10, 15, 16, 17, 18, 19, 20, 21, 22, 23, 24, 25, 26, 27, 28, 29] rfl rfl rfl rfl (by decide) rfl rfl) 0 rfl dX11_thing_2 (Nat.le_of_ble_eq_true rfl) (zrm rfl) ?_
  refine z_ifb_eq C dX11_thing_5 12 (by decide) h (fun h => ?_) (fun h => ?_)
  · refine z_iload_n C dX11_thing_12 2 rfl ?_
    by_cases hc0 : a1 = 0
    · refine z_tcase (off := 43) C dX11_thing_13 0 hc0 (by decide) (by decide) (by decide) 56 (by decide) ?_
      replace h := zite_t h hc0
      refine z_aload_n C dX11_thing_56 0 rfl ?_
      refine rw_g_X11_39_XSC_X C dX11_thing_57 ?_
      refine rw_g_X11_161_XSC_C C dX11_thing_60 ?_
      refine z_iload_n C dX11_thing_63 1 rfl ?_
      refine rw_l_XSC_C_8 C dX11_thing_64 h (fun h => ?_)
      refine z_i2l C dX11_thing_65 ?_
      replace h := Option.some.inj h
      subst h
      exact z_lret C O dX11_thing_66 rfl rfl
    · replace h := zite_f h hc0
      by_cases hc1 : a1 = 1
      · refine z_tcase (off := 54) C dX11_thing_13 1 hc1 (by decide) (by decide) (by decide) 67 (by decide) ?_
        replace h := zite_t h hc1
        refine z_aload_n C dX11_thing_67 0 rfl ?_
        refine rw_g_X11_39_XSC_X C dX11_thing_68 ?_
        refine rw_g_X11_166_XSC_C C dX11_thing_71 ?_
        refine z_iload_n C dX11_thing_74 1 rfl ?_
        refine rw_l_XSC_C_9 C dX11_thing_75 h (fun h => ?_)
        refine z_i2l C dX11_thing_76 ?_
        replace h := Option.some.inj h
        subst h
        exact z_lret C O dX11_thing_77 rfl rfl
      · replace h := zite_f h hc1
        by_cases hc2 : a1 = 2
        · refine z_tcase (off := 65) C dX11_thing_13 2 hc2 (by decide) (by decide) (by decide) 78 (by decide) ?_
          replace h := zite_t h hc2
          refine z_aload_n C dX11_thing_78 0 rfl ?_
          refine rw_g_X11_39_XSC_X C dX11_thing_79 ?_
          refine rw_g_X11_169_XSC_C C dX11_thing_82 ?_
          refine z_iload_n C dX11_thing_85 1 rfl ?_
          refine rw_l_XSC_C_5 C dX11_thing_86 h (fun h => ?_)
          refine z_i2l C dX11_thing_87 ?_
          replace h := Option.some.inj h
          subst h
          exact z_lret C O dX11_thing_88 rfl rfl
        · replace h := zite_f h hc2
          by_cases hc3 : a1 = 3
          · refine z_tcase (off := 76) C dX11_thing_13 3 hc3 (by decide) (by decide) (by decide) 89 (by decide) ?_
            replace h := zite_t h hc3
            refine z_aload_n C dX11_thing_89 0 rfl ?_
            refine rw_g_X11_39_XSC_X C dX11_thing_90 ?_
            refine rw_g_X11_172_XSC_C C dX11_thing_93 ?_
            refine z_iload_n C dX11_thing_96 1 rfl ?_
            refine rw_l_XSC_C_10 C dX11_thing_97 h (fun h => ?_)
            refine z_i2l C dX11_thing_98 ?_
            replace h := Option.some.inj h
            subst h
            exact z_lret C O dX11_thing_99 rfl rfl
          · replace h := zite_f h hc3
            by_cases hc4 : a1 = 4
            · refine z_tcase (off := 87) C dX11_thing_13 4 hc4 (by decide) (by decide) (by decide) 100 (by decide) ?_
              replace h := zite_t h hc4
              refine z_aload_n C dX11_thing_100 0 rfl ?_
              refine rw_g_X11_39_XSC_X C dX11_thing_101 ?_
              refine rw_g_X11_175_XSC_C C dX11_thing_104 ?_
              refine z_iload_n C dX11_thing_107 1 rfl ?_
              refine rw_l_XSC_C_11 C dX11_thing_108 h (fun h => ?_)
              refine z_i2l C dX11_thing_109 ?_
              replace h := Option.some.inj h
              subst h
              exact z_lret C O dX11_thing_110 rfl rfl
            · replace h := zite_f h hc4
              by_cases hc5 : a1 = 5
              · refine z_tcase (off := 98) C dX11_thing_13 5 hc5 (by decide) (by decide) (by decide) 111 (by decide) ?_
                replace h := zite_t h hc5
                refine z_aload_n C dX11_thing_111 0 rfl ?_
                refine rw_g_X11_39_XSC_X C dX11_thing_112 ?_
                refine rw_g_X11_178_XSC_C C dX11_thing_115 ?_
                refine z_iload_n C dX11_thing_118 1 rfl ?_
                refine rw_l_XSC_C_12 C dX11_thing_119 h (fun h => ?_)
                refine z_i2l C dX11_thing_120 ?_
                replace h := Option.some.inj h
                subst h
                exact z_lret C O dX11_thing_121 rfl rfl
              · replace h := zite_f h hc5
                by_cases hc6 : a1 = 6
                · refine z_tcase (off := 109) C dX11_thing_13 6 hc6 (by decide) (by decide) (by decide) 122 (by decide) ?_
                  replace h := zite_t h hc6
                  refine z_aload_n C dX11_thing_122 0 rfl ?_
                  refine rw_g_X11_29_XSC_X C dX11_thing_123 ?_
                  refine z_aload_n C dX11_thing_126 0 rfl ?_
                  refine rw_g_X11_39_XSC_X C dX11_thing_127 ?_
                  refine rw_g_X11_169_XSC_C C dX11_thing_130 ?_
                  refine z_iload_n C dX11_thing_133 1 rfl ?_
                  refine rw_l_XSC_C_5 C dX11_thing_134 h (fun h => ?_)
                  obtain ⟨y2, hy2, h⟩ := bind_o h
                  refine rw_c_X11_181 C (Ct.frame (cS_way hy2) (w := wdX G qX qR qS qP qC qU qD qV qT sX ++ (wdS G qS sS ++ (wdC G qC rC sC))) (w' := wdX G qX qR qS qP qC qU qD qV qT sX ++ (wdS G qS sS ++ (wdC G qC rC sC))) (wr := wdX G qX qR qS qP qC qU qD qV qT sX ++ (wdC G qC rC sC)) [4, 5, 6, 7, 8, 9, 10, 11, 12, 13, 14] [0, 1, 2, 3, 15, 16, 17, 18, 19, 20, 21, 22, 23, 24, 25, 26, 27, 28, 29] [0, 1, 2, 3, 19, 20, 21, 22, 23, 24, 25, 26, 27, 28, 29, 4, 5, 6, 7, 8, 9, 10, 11, 12, 13, 14, 15, 16, 17, 18] rfl rfl rfl rfl (by decide) rfl rfl) 4 rfl dX11_thing_135 (Nat.le_of_ble_eq_true rfl) (zrm rfl) ?_
                  refine z_i2l C dX11_thing_138 ?_
                  replace h := Option.some.inj h
                  subst h
                  exact z_lret C O dX11_thing_139 rfl rfl
                · replace h := zite_f h hc6
                  refine z_tout C dX11_thing_13 (ztoutL 7 (by decide) (by intro k hk; match k, hk with | 0, _ => exact hc0 | 1, _ => exact hc1 | 2, _ => exact hc2 | 3, _ => exact hc3 | 4, _ => exact hc4 | 5, _ => exact hc5 | 6, _ => exact hc6 | k + 7, hk => exact absurd hk (by omega))) 140 (by decide) ?_
                  refine z_ldc2 C rw_u_403 dX11_thing_140 ?_
                  replace h := Option.some.inj h
                  subst h
                  exact z_lret C O dX11_thing_143 rfl rfl
  · refine z_ldc2 C rw_u_403 dX11_thing_8 ?_
    replace h := Option.some.inj h
    subst h
    exact z_lret C O dX11_thing_11 rfl rfl
set_option maxHeartbeats 4000000 in
set_option maxRecDepth 100000 in
theorem cX_isNoPurse {l : Launch} {G : zG}   {a0 : Int32} {out : Bool} (h : fX_isNoPurse  a0 = some out) : Ct l G yX11_isNoPurse cX11_isNoPurse 1 (some .boolean) rmX11_isNoPurse [.int a0] ([]) (some (.int (zb out))) ([]) := by
  refine zMet (own := RX11) rfl (by decide) (Nat.le_of_ble_eq_true rfl) (fun x hl C O => ?_)
  show zW x G 0 0 0 [(0, .int a0)] [] _
  unfold fX_isNoPurse at h
  refine z_iload_n C dX11_isNoPurse_0 0 rfl ?_
  refine z_if_lt C dX11_isNoPurse_1 9 (by decide) h (fun h => ?_) (fun h => ?_)
  · refine z_iconst C 1 dX11_isNoPurse_9 (by decide) ?_
    refine z_goto C dX11_isNoPurse_10 14 (by decide) ?_
    replace h := Option.some.inj h
    subst h
    exact z_zret C O dX11_isNoPurse_14 (zb_nar true) rfl rfl
  · refine z_iload_n C dX11_isNoPurse_4 0 rfl ?_
    refine z_iconst C 3 dX11_isNoPurse_5 (by decide) ?_
    refine z_icmp_lt C dX11_isNoPurse_6 13 (by decide) h (fun h => ?_) (fun h => ?_)
    · refine z_iconst C 0 dX11_isNoPurse_13 (by decide) ?_
      replace h := Option.some.inj h
      subst h
      exact z_zret C O dX11_isNoPurse_14 (zb_nar false) rfl rfl
    · refine z_iconst C 1 dX11_isNoPurse_9 (by decide) ?_
      refine z_goto C dX11_isNoPurse_10 14 (by decide) ?_
      replace h := Option.some.inj h
      subst h
      exact z_zret C O dX11_isNoPurse_14 (zb_nar true) rfl rfl
set_option maxHeartbeats 4000000 in
set_option maxRecDepth 100000 in
theorem kX_judge_l108b {x : zX} {G : zG} {qX qR qS qP qC qU qD qV qT : Nat → Nat} {rC : Nat} {sC : zSt} {out : Int64 × zSt} (C : zC x G RX11 cX11_judge 5 (some .long) rmX11_judge) (O : zO x G (some (.long out.1)) (wdX G qX qR qS qP qC qU qD qV qT out.2 ++ (wdC G qC rC sC)) 0 0) {K108 : zSt → zSt → Int32 → Int32 → Option (Int64 × zSt)} (hK108 : ∀ (sX : zSt) (x3 : Int32) (x4 : Int32), K108 sX sC x3 x4 = some out → zW x G 0 0 108 [(0, .ref (qX 0)), (3, .int x3), (4, .int x4)] [] (wdX G qX qR qS qP qC qU qD qV qT sX ++ (wdC G qC rC sC))) {sX : zSt} {x3 : Int32} {x4 : Int32} (h : fX_judge_l108b K108 sX sC x3 x4 = some out) : zW x G 0 0 108 [(0, .ref (qX 0)), (3, .int x3), (4, .int x4)] [] (wdX G qX qR qS qP qC qU qD qV qT sX ++ (wdC G qC rC sC)) := by
  unfold fX_judge_l108b at h
  refine z_iload C dX11_judge_108 2 rfl ?_
  refine z_aload_n C dX11_judge_110 0 rfl ?_
  refine rw_g_X11_39_XC_X C dX11_judge_111 ?_
  refine rw_g_X11_158_XC_C C dX11_judge_114 ?_
  refine z_icmp_ge C dX11_judge_117 156 (by decide) h (fun h => ?_) (fun h => ?_)
  · refine z_aload_n C dX11_judge_156 0 rfl ?_
    refine z_ldc2 C rw_u_687 dX11_judge_157 ?_
    obtain ⟨y5, hy5, h⟩ := bind_o h
    refine rw_c_X11_79 C (Ct.frame (cX_fine hy5) (w := wdX G qX qR qS qP qC qU qD qV qT sX ++ (wdC G qC rC sC)) (w' := wdX G qX qR qS qP qC qU qD qV qT y5.2 ++ (wdC G qC rC sC)) (wr := wdC G qC rC sC) [0, 1, 2, 3] [4, 5, 6, 7, 8, 9, 10, 11, 12, 13, 14, 15, 16, 17, 18] [15, 16, 17, 18, 0, 1, 2, 3, 4, 5, 6, 7, 8, 9, 10, 11, 12, 13, 14] rfl rfl rfl rfl (by decide) rfl rfl) 0 rfl dX11_judge_160 (Nat.le_of_ble_eq_true rfl) (zrm rfl) ?_
    replace h := Option.some.inj h
    subst h
    exact z_lret C O dX11_judge_163 rfl rfl
  · refine z_aload_n C dX11_judge_120 0 rfl ?_
    refine rw_g_X11_16_XC_X C dX11_judge_121 ?_
    refine z_iload_n C dX11_judge_124 1 rfl ?_
    refine z_iload C dX11_judge_125 2 rfl ?_
    refine z_iadd C dX11_judge_127 ?_
    refine rw_l_XC_X_2 C dX11_judge_128 h (fun h => ?_)
    refine z_aload_n C dX11_judge_129 0 rfl ?_
    refine rw_g_X11_39_XC_X C dX11_judge_130 ?_
    refine rw_g_X11_161_XC_C C dX11_judge_133 ?_
    refine z_iload C dX11_judge_136 2 rfl ?_
    refine rw_l_XC_C_8 C dX11_judge_138 h (fun h => ?_)
    refine z_icmp_eq C dX11_judge_139 150 (by decide) h (fun h => ?_) (fun h => ?_)
    · refine z_iinc C dX11_judge_150 2 rfl 1 (by decide) (by decide) (lvr := [(0, .ref (qX 0)), (3, .int x3)]) rfl h (fun x4_6 h => ?_)
      refine z_goto C dX11_judge_153 108 (by decide) ?_
      refine z_perm [1, 2, 0] (lv' := [(0, .ref (qX 0)), (3, .int x3), (4, .int x4_6)]) rfl ?_
      exact hK108 _  _ _ h
    · refine z_aload_n C dX11_judge_142 0 rfl ?_
      refine z_iload C dX11_judge_143 2 rfl ?_
      refine z_i2l C dX11_judge_145 ?_
      obtain ⟨y7, hy7, h⟩ := bind_o h
      refine rw_c_X11_79 C (Ct.frame (cX_fine hy7) (w := wdX G qX qR qS qP qC qU qD qV qT sX ++ (wdC G qC rC sC)) (w' := wdX G qX qR qS qP qC qU qD qV qT y7.2 ++ (wdC G qC rC sC)) (wr := wdC G qC rC sC) [0, 1, 2, 3] [4, 5, 6, 7, 8, 9, 10, 11, 12, 13, 14, 15, 16, 17, 18] [15, 16, 17, 18, 0, 1, 2, 3, 4, 5, 6, 7, 8, 9, 10, 11, 12, 13, 14] rfl rfl rfl rfl (by decide) rfl rfl) 0 rfl dX11_judge_146 (Nat.le_of_ble_eq_true rfl) (zrm rfl) ?_
      replace h := Option.some.inj h
      subst h
      exact z_lret C O dX11_judge_149 rfl rfl
set_option maxHeartbeats 4000000 in
set_option maxRecDepth 100000 in
theorem kX_judge_l108 {x : zX} {G : zG} {qX qR qS qP qC qU qD qV qT : Nat → Nat} {rC : Nat} {sC : zSt} {out : Int64 × zSt} (C : zC x G RX11 cX11_judge 5 (some .long) rmX11_judge) (O : zO x G (some (.long out.1)) (wdX G qX qR qS qP qC qU qD qV qT out.2 ++ (wdC G qC rC sC)) 0 0)  : ∀ (n : Nat) {sX : zSt} {x3 : Int32} {x4 : Int32}, fX_judge_l108  n sX sC x3 x4 = some out → zW x G 0 0 108 [(0, .ref (qX 0)), (3, .int x3), (4, .int x4)] [] (wdX G qX qR qS qP qC qU qD qV qT sX ++ (wdC G qC rC sC)) := by
  intro n
  induction n with
  | zero =>
    intro sX x3 x4 h
    have h : (none : Option (Int64 × zSt)) = some out := h
    cases h
  | succ n ih =>
    intro sX x3 x4 h
    exact kX_judge_l108b C O (K108 := fun v0 v1 v2 v3 => fX_judge_l108  n v0 v1 v2 v3) (fun sX x3 x4 h => ih h) h
set_option maxHeartbeats 4000000 in
set_option maxRecDepth 100000 in
theorem kX_judge_l68b {x : zX} {G : zG} {qX qR qS qP qC qU qD qV qT : Nat → Nat} {rC : Nat} {sC : zSt} {out : Int64 × zSt} (C : zC x G RX11 cX11_judge 5 (some .long) rmX11_judge) (O : zO x G (some (.long out.1)) (wdX G qX qR qS qP qC qU qD qV qT out.2 ++ (wdC G qC rC sC)) 0 0) {K68 : zSt → zSt → Int32 → Int32 → Option (Int64 × zSt)} (hK68 : ∀ (sX : zSt) (x3 : Int32) (x4 : Int32), K68 sX sC x3 x4 = some out → zW x G 0 0 68 [(0, .ref (qX 0)), (3, .int x3), (4, .int x4)] [] (wdX G qX qR qS qP qC qU qD qV qT sX ++ (wdC G qC rC sC))) {sX : zSt} {x3 : Int32} {x4 : Int32} (h : fX_judge_l68b K68 sX sC x3 x4 = some out) : zW x G 0 0 68 [(0, .ref (qX 0)), (3, .int x3), (4, .int x4)] [] (wdX G qX qR qS qP qC qU qD qV qT sX ++ (wdC G qC rC sC)) := by
  unfold fX_judge_l68b at h
  refine z_iload C dX11_judge_68 2 rfl ?_
  refine z_aload_n C dX11_judge_70 0 rfl ?_
  refine rw_g_X11_39_XC_X C dX11_judge_71 ?_
  refine rw_g_X11_158_XC_C C dX11_judge_74 ?_
  refine z_icmp_ge C dX11_judge_77 105 (by decide) h (fun h => ?_) (fun h => ?_)
  · refine z_iconst C 0 dX11_judge_105 (by decide) ?_
    refine z_istore C dX11_judge_106 (by decide) (lvr := [(0, .ref (qX 0)), (3, .int x3)]) rfl ?_
    refine z_perm [1, 2, 0] (lv' := [(0, .ref (qX 0)), (3, .int x3), (4, .int 0)]) rfl ?_
    exact kX_judge_l108 C O  zF h
  · refine z_aload_n C dX11_judge_80 0 rfl ?_
    refine rw_g_X11_16_XC_X C dX11_judge_81 ?_
    refine z_iload_n C dX11_judge_84 1 rfl ?_
    refine z_iload C dX11_judge_85 2 rfl ?_
    refine z_iadd C dX11_judge_87 ?_
    refine rw_l_XC_X_2 C dX11_judge_88 h (fun h => ?_)
    obtain ⟨y8, hy8, h⟩ := bind_o h
    refine rw_c_X11_186 C (Ct.frame0 (cX_isNoPurse hy8)) dX11_judge_89 (Nat.le_of_ble_eq_true rfl) (zrm rfl) ?_
    refine z_ifb_eq C dX11_judge_92 99 (by decide) h (fun h => ?_) (fun h => ?_)
    · refine z_iinc C dX11_judge_99 2 rfl 1 (by decide) (by decide) (lvr := [(0, .ref (qX 0)), (3, .int x3)]) rfl h (fun x4_9 h => ?_)
      refine z_goto C dX11_judge_102 68 (by decide) ?_
      refine z_perm [1, 2, 0] (lv' := [(0, .ref (qX 0)), (3, .int x3), (4, .int x4_9)]) rfl ?_
      exact hK68 _  _ _ h
    · refine z_ldc2 C rw_u_403 dX11_judge_95 ?_
      replace h := Option.some.inj h
      subst h
      exact z_lret C O dX11_judge_98 rfl rfl
set_option maxHeartbeats 4000000 in
set_option maxRecDepth 100000 in
theorem kX_judge_l68 {x : zX} {G : zG} {qX qR qS qP qC qU qD qV qT : Nat → Nat} {rC : Nat} {sC : zSt} {out : Int64 × zSt} (C : zC x G RX11 cX11_judge 5 (some .long) rmX11_judge) (O : zO x G (some (.long out.1)) (wdX G qX qR qS qP qC qU qD qV qT out.2 ++ (wdC G qC rC sC)) 0 0)  : ∀ (n : Nat) {sX : zSt} {x3 : Int32} {x4 : Int32}, fX_judge_l68  n sX sC x3 x4 = some out → zW x G 0 0 68 [(0, .ref (qX 0)), (3, .int x3), (4, .int x4)] [] (wdX G qX qR qS qP qC qU qD qV qT sX ++ (wdC G qC rC sC)) := by
  intro n
  induction n with
  | zero =>
    intro sX x3 x4 h
    have h : (none : Option (Int64 × zSt)) = some out := h
    cases h
  | succ n ih =>
    intro sX x3 x4 h
    exact kX_judge_l68b C O (K68 := fun v0 v1 v2 v3 => fX_judge_l68  n v0 v1 v2 v3) (fun sX x3 x4 h => ih h) h
set_option maxHeartbeats 4000000 in
set_option maxRecDepth 100000 in
theorem cX_judge {l : Launch} {G : zG} {qX qR qS qP qC qU qD qV qT : Nat → Nat} {rC : Nat} {sX : zSt} {sC : zSt} {a0 : Int32} {a1 : Int32} {out : Int64 × zSt} (h : fX_judge sX sC a0 a1 = some out) : Ct l G yX11_judge cX11_judge 5 (some .long) rmX11_judge [.ref (qX 0), .int a0, .int a1] (wdX G qX qR qS qP qC qU qD qV qT sX ++ (wdC G qC rC sC)) (some (.long out.1)) (wdX G qX qR qS qP qC qU qD qV qT out.2 ++ (wdC G qC rC sC)) := by
  refine zMet (own := RX11) rfl (by decide) (Nat.le_of_ble_eq_true rfl) (fun x hl C O => ?_)
  show zW x G 0 0 0 [(0, .ref (qX 0)), (1, .int a0), (2, .int a1)] [] _
  unfold fX_judge at h
  refine z_iload_n C dX11_judge_0 1 rfl ?_
  obtain ⟨y1, hy1, h⟩ := bind_o h
  refine rw_c_X11_69 C (Ct.frame0 (cX_isNoRow hy1)) dX11_judge_1 (Nat.le_of_ble_eq_true rfl) (zrm rfl) ?_
  refine z_ifb_eq C dX11_judge_4 11 (by decide) h (fun h => ?_) (fun h => ?_)
  · refine z_aload_n C dX11_judge_11 0 rfl ?_
    refine rw_g_X11_130_XC_X C dX11_judge_12 ?_
    refine z_if_ne C dX11_judge_15 22 (by decide) h (fun h => ?_) (fun h => ?_)
    · refine z_aload_n C dX11_judge_22 0 rfl ?_
      refine z_iload_n C dX11_judge_23 1 rfl ?_
      obtain ⟨y2, hy2, h⟩ := bind_o h
      refine rw_c_X11_83 C (Ct.frame (cX_isMissing hy2) (w := wdX G qX qR qS qP qC qU qD qV qT sX ++ (wdC G qC rC sC)) (w' := wdX G qX qR qS qP qC qU qD qV qT sX ++ (wdC G qC rC sC)) (wr := wdC G qC rC sC) [0, 1, 2, 3] [4, 5, 6, 7, 8, 9, 10, 11, 12, 13, 14, 15, 16, 17, 18] [15, 16, 17, 18, 0, 1, 2, 3, 4, 5, 6, 7, 8, 9, 10, 11, 12, 13, 14] rfl rfl rfl rfl (by decide) rfl rfl) 0 rfl dX11_judge_24 (Nat.le_of_ble_eq_true rfl) (zrm rfl) ?_
      refine z_ifb_eq C dX11_judge_27 36 (by decide) h (fun h => ?_) (fun h => ?_)
      · refine z_aload_n C dX11_judge_36 0 rfl ?_
        refine z_iload_n C dX11_judge_37 1 rfl ?_
        refine z_iload_n C dX11_judge_38 2 rfl ?_
        refine z_aload_n C dX11_judge_39 0 rfl ?_
        refine rw_g_X11_39_XC_X C dX11_judge_40 ?_
        refine rw_g_X11_158_XC_C C dX11_judge_43 ?_
        obtain ⟨y3, hy3, h⟩ := bind_o h
        refine rw_c_X11_90 C (Ct.frame (cX_lacksItems hy3) (w := wdX G qX qR qS qP qC qU qD qV qT sX ++ (wdC G qC rC sC)) (w' := wdX G qX qR qS qP qC qU qD qV qT sX ++ (wdC G qC rC sC)) (wr := wdC G qC rC sC) [0, 1, 2, 3] [4, 5, 6, 7, 8, 9, 10, 11, 12, 13, 14, 15, 16, 17, 18] [15, 16, 17, 18, 0, 1, 2, 3, 4, 5, 6, 7, 8, 9, 10, 11, 12, 13, 14] rfl rfl rfl rfl (by decide) rfl rfl) 0 rfl dX11_judge_46 (Nat.le_of_ble_eq_true rfl) (zrm rfl) ?_
        refine z_ifb_eq C dX11_judge_49 58 (by decide) h (fun h => ?_) (fun h => ?_)
        · refine z_iload_n C dX11_judge_58 1 rfl ?_
          refine z_bipush C 40 dX11_judge_59 (by decide) ?_
          refine z_imul C dX11_judge_61 ?_
          refine z_iload_n C dX11_judge_62 2 rfl ?_
          refine z_iadd C dX11_judge_63 ?_
          refine z_istore_nN C dX11_judge_64 (by decide) (lvr := [(0, .ref (qX 0)), (1, .int a0), (2, .int a1)]) rfl h (fun x3_4 h => ?_)
          refine z_iconst C 0 dX11_judge_65 (by decide) ?_
          refine z_istore C dX11_judge_66 (by decide) (lvr := [(3, .int x3_4), (0, .ref (qX 0)), (1, .int a0), (2, .int a1)]) rfl ?_
          refine z_perm [2, 1, 0] (lv' := [(0, .ref (qX 0)), (3, .int x3_4), (4, .int 0)]) rfl ?_
          exact kX_judge_l68 C O  zF h
        · refine z_aload_n C dX11_judge_52 0 rfl ?_
          refine z_iconst C 2 dX11_judge_53 (by decide) ?_
          obtain ⟨y10, hy10, h⟩ := bind_o h
          refine rw_c_X11_75 C (Ct.frame (cX_found hy10) (w := wdX G qX qR qS qP qC qU qD qV qT sX ++ (wdC G qC rC sC)) (w' := wdX G qX qR qS qP qC qU qD qV qT y10.2 ++ (wdC G qC rC sC)) (wr := wdC G qC rC sC) [0, 1, 2, 3] [4, 5, 6, 7, 8, 9, 10, 11, 12, 13, 14, 15, 16, 17, 18] [15, 16, 17, 18, 0, 1, 2, 3, 4, 5, 6, 7, 8, 9, 10, 11, 12, 13, 14] rfl rfl rfl rfl (by decide) rfl rfl) 0 rfl dX11_judge_54 (Nat.le_of_ble_eq_true rfl) (zrm rfl) ?_
          replace h := Option.some.inj h
          subst h
          exact z_lret C O dX11_judge_57 rfl rfl
      · refine z_aload_n C dX11_judge_30 0 rfl ?_
        refine z_iconst C 1 dX11_judge_31 (by decide) ?_
        obtain ⟨y11, hy11, h⟩ := bind_o h
        refine rw_c_X11_75 C (Ct.frame (cX_found hy11) (w := wdX G qX qR qS qP qC qU qD qV qT sX ++ (wdC G qC rC sC)) (w' := wdX G qX qR qS qP qC qU qD qV qT y11.2 ++ (wdC G qC rC sC)) (wr := wdC G qC rC sC) [0, 1, 2, 3] [4, 5, 6, 7, 8, 9, 10, 11, 12, 13, 14, 15, 16, 17, 18] [15, 16, 17, 18, 0, 1, 2, 3, 4, 5, 6, 7, 8, 9, 10, 11, 12, 13, 14] rfl rfl rfl rfl (by decide) rfl rfl) 0 rfl dX11_judge_32 (Nat.le_of_ble_eq_true rfl) (zrm rfl) ?_
        replace h := Option.some.inj h
        subst h
        exact z_lret C O dX11_judge_35 rfl rfl
    · refine z_ldc2 C rw_u_697 dX11_judge_18 ?_
      replace h := Option.some.inj h
      subst h
      exact z_lret C O dX11_judge_21 rfl rfl
  · refine z_ldc2 C rw_u_403 dX11_judge_7 ?_
    replace h := Option.some.inj h
    subst h
    exact z_lret C O dX11_judge_10 rfl rfl
set_option maxHeartbeats 4000000 in
set_option maxRecDepth 100000 in
theorem cX_purse {l : Launch} {G : zG} {qX qR qS qP qC qU qD qV qT : Nat → Nat} {rC : Nat} {sX : zSt} {sC : zSt} {sU : zSt} {a0 : Int32} {a1 : Int32} {out : Int64} (h : fX_purse sX sC sU a0 a1 = some out) : Ct l G yX11_purse cX11_purse 3 (some .long) rmX11_purse [.ref (qX 0), .int a0, .int a1] (wdX G qX qR qS qP qC qU qD qV qT sX ++ (wdC G qC rC sC ++ (wdU G qU sU))) (some (.long out)) (wdX G qX qR qS qP qC qU qD qV qT sX ++ (wdC G qC rC sC ++ (wdU G qU sU))) := by
  refine zMet (own := RX11) rfl (by decide) (Nat.le_of_ble_eq_true rfl) (fun x hl C O => ?_)
  show zW x G 0 0 0 [(0, .ref (qX 0)), (1, .int a0), (2, .int a1)] [] _
  unfold fX_purse at h
  refine z_iload_n C dX11_purse_0 1 rfl ?_
  obtain ⟨y1, hy1, h⟩ := bind_o h
  refine rw_c_X11_186 C (Ct.frame0 (cX_isNoPurse hy1)) dX11_purse_1 (Nat.le_of_ble_eq_true rfl) (zrm rfl) ?_
  refine z_ifb_eq C dX11_purse_4 11 (by decide) h (fun h => ?_) (fun h => ?_)
  · refine z_iload_n C dX11_purse_11 2 rfl ?_
    by_cases hc0 : a1 = 0
    · refine z_tcase (off := 32) C dX11_purse_12 0 hc0 (by decide) (by decide) (by decide) 44 (by decide) ?_
      replace h := zite_t h hc0
      refine z_aload_n C dX11_purse_44 0 rfl ?_
      refine rw_g_X11_46_XCU_X C dX11_purse_45 ?_
      refine rw_g_X11_189_XCU_U C dX11_purse_48 ?_
      refine z_iload_n C dX11_purse_51 1 rfl ?_
      refine rw_l_XCU_U_0 C dX11_purse_52 h (fun h => ?_)
      replace h := Option.some.inj h
      subst h
      exact z_lret C O dX11_purse_53 rfl rfl
    · replace h := zite_f h hc0
      by_cases hc1 : a1 = 1
      · refine z_tcase (off := 42) C dX11_purse_12 1 hc1 (by decide) (by decide) (by decide) 54 (by decide) ?_
        replace h := zite_t h hc1
        refine z_aload_n C dX11_purse_54 0 rfl ?_
        refine rw_g_X11_46_XCU_X C dX11_purse_55 ?_
        refine rw_g_X11_193_XCU_U C dX11_purse_58 ?_
        refine z_iload_n C dX11_purse_61 1 rfl ?_
        refine rw_l_XCU_U_1 C dX11_purse_62 h (fun h => ?_)
        replace h := Option.some.inj h
        subst h
        exact z_lret C O dX11_purse_63 rfl rfl
      · replace h := zite_f h hc1
        by_cases hc2 : a1 = 2
        · refine z_tcase (off := 52) C dX11_purse_12 2 hc2 (by decide) (by decide) (by decide) 64 (by decide) ?_
          replace h := zite_t h hc2
          refine z_aload_n C dX11_purse_64 0 rfl ?_
          refine rw_g_X11_39_XCU_X C dX11_purse_65 ?_
          refine rw_g_X11_196_XCU_C C dX11_purse_68 ?_
          refine z_iload_n C dX11_purse_71 1 rfl ?_
          refine rw_l_XCU_C_3 C dX11_purse_72 h (fun h => ?_)
          refine z_i2l C dX11_purse_73 ?_
          replace h := Option.some.inj h
          subst h
          exact z_lret C O dX11_purse_74 rfl rfl
        · replace h := zite_f h hc2
          by_cases hc3 : a1 = 3
          · refine z_tcase (off := 63) C dX11_purse_12 3 hc3 (by decide) (by decide) (by decide) 75 (by decide) ?_
            replace h := zite_t h hc3
            refine z_aload_n C dX11_purse_75 0 rfl ?_
            refine rw_g_X11_46_XCU_X C dX11_purse_76 ?_
            refine rw_g_X11_199_XCU_U C dX11_purse_79 ?_
            refine z_iload_n C dX11_purse_82 1 rfl ?_
            refine rw_l_XCU_U_2 C dX11_purse_83 h (fun h => ?_)
            refine z_i2l C dX11_purse_84 ?_
            replace h := Option.some.inj h
            subst h
            exact z_lret C O dX11_purse_85 rfl rfl
          · replace h := zite_f h hc3
            refine z_tout C dX11_purse_12 (ztoutL 4 (by decide) (by intro k hk; match k, hk with | 0, _ => exact hc0 | 1, _ => exact hc1 | 2, _ => exact hc2 | 3, _ => exact hc3 | k + 4, hk => exact absurd hk (by omega))) 86 (by decide) ?_
            refine z_ldc2 C rw_u_403 dX11_purse_86 ?_
            replace h := Option.some.inj h
            subst h
            exact z_lret C O dX11_purse_89 rfl rfl
  · refine z_ldc2 C rw_u_403 dX11_purse_7 ?_
    replace h := Option.some.inj h
    subst h
    exact z_lret C O dX11_purse_10 rfl rfl
set_option maxHeartbeats 4000000 in
set_option maxRecDepth 100000 in
theorem cX_areNoPair {l : Launch} {G : zG}   {a0 : Int32} {a1 : Int32} {out : Bool} (h : fX_areNoPair  a0 a1 = some out) : Ct l G yX11_areNoPair cX11_areNoPair 2 (some .boolean) rmX11_areNoPair [.int a0, .int a1] ([]) (some (.int (zb out))) ([]) := by
  refine zMet (own := RX11) rfl (by decide) (Nat.le_of_ble_eq_true rfl) (fun x hl C O => ?_)
  show zW x G 0 0 0 [(0, .int a0), (1, .int a1)] [] _
  unfold fX_areNoPair at h
  refine z_iload_n C dX11_areNoPair_0 0 rfl ?_
  obtain ⟨y1, hy1, h⟩ := bind_o h
  refine rw_c_X11_186 C (cX_isNoPurse hy1) dX11_areNoPair_1 (Nat.le_of_ble_eq_true rfl) (zrm rfl) ?_
  refine z_ifb_ne C dX11_areNoPair_4 19 (by decide) h (fun h => ?_) (fun h => ?_)
  · refine z_iconst C 1 dX11_areNoPair_19 (by decide) ?_
    refine z_goto C dX11_areNoPair_20 24 (by decide) ?_
    replace h := Option.some.inj h
    subst h
    exact z_zret C O dX11_areNoPair_24 (zb_nar true) rfl rfl
  · refine z_iload_n C dX11_areNoPair_7 1 rfl ?_
    obtain ⟨y2, hy2, h⟩ := bind_o h
    refine rw_c_X11_186 C (cX_isNoPurse hy2) dX11_areNoPair_8 (Nat.le_of_ble_eq_true rfl) (zrm rfl) ?_
    refine z_ifb_ne C dX11_areNoPair_11 19 (by decide) h (fun h => ?_) (fun h => ?_)
    · refine z_iconst C 1 dX11_areNoPair_19 (by decide) ?_
      refine z_goto C dX11_areNoPair_20 24 (by decide) ?_
      replace h := Option.some.inj h
      subst h
      exact z_zret C O dX11_areNoPair_24 (zb_nar true) rfl rfl
    · refine z_iload_n C dX11_areNoPair_14 0 rfl ?_
      refine z_iload_n C dX11_areNoPair_15 1 rfl ?_
      refine z_icmp_ne C dX11_areNoPair_16 23 (by decide) h (fun h => ?_) (fun h => ?_)
      · refine z_iconst C 0 dX11_areNoPair_23 (by decide) ?_
        replace h := Option.some.inj h
        subst h
        exact z_zret C O dX11_areNoPair_24 (zb_nar false) rfl rfl
      · refine z_iconst C 1 dX11_areNoPair_19 (by decide) ?_
        refine z_goto C dX11_areNoPair_20 24 (by decide) ?_
        replace h := Option.some.inj h
        subst h
        exact z_zret C O dX11_areNoPair_24 (zb_nar true) rfl rfl
set_option maxHeartbeats 4000000 in
set_option maxRecDepth 100000 in
theorem cX_fed {l : Launch} {G : zG} {qX qR qS qP qC qU qD qV qT : Nat → Nat} {sX : zSt} {sU : zSt} {a0 : Int32} {a1 : Int32} {out : Int64} (h : fX_fed sX sU a0 a1 = some out) : Ct l G yX11_fed cX11_fed 3 (some .long) rmX11_fed [.ref (qX 0), .int a0, .int a1] (wdX G qX qR qS qP qC qU qD qV qT sX ++ (wdU G qU sU)) (some (.long out)) (wdX G qX qR qS qP qC qU qD qV qT sX ++ (wdU G qU sU)) := by
  refine zMet (own := RX11) rfl (by decide) (Nat.le_of_ble_eq_true rfl) (fun x hl C O => ?_)
  show zW x G 0 0 0 [(0, .ref (qX 0)), (1, .int a0), (2, .int a1)] [] _
  unfold fX_fed at h
  refine z_iload_n C dX11_fed_0 1 rfl ?_
  refine z_iload_n C dX11_fed_1 2 rfl ?_
  obtain ⟨y1, hy1, h⟩ := bind_o h
  refine rw_c_X11_202 C (Ct.frame0 (cX_areNoPair hy1)) dX11_fed_2 (Nat.le_of_ble_eq_true rfl) (zrm rfl) ?_
  refine z_ifb_eq C dX11_fed_5 12 (by decide) h (fun h => ?_) (fun h => ?_)
  · refine z_aload_n C dX11_fed_12 0 rfl ?_
    refine rw_g_X11_46_XU_X C dX11_fed_13 ?_
    refine rw_g_X11_206_XU_U C dX11_fed_16 ?_
    refine z_iload_n C dX11_fed_19 1 rfl ?_
    refine z_iconst C 3 dX11_fed_20 (by decide) ?_
    refine z_imul C dX11_fed_21 ?_
    refine z_iload_n C dX11_fed_22 2 rfl ?_
    refine z_iadd C dX11_fed_23 ?_
    refine rw_l_XU_U_3 C dX11_fed_24 h (fun h => ?_)
    replace h := Option.some.inj h
    subst h
    exact z_lret C O dX11_fed_25 rfl rfl
  · refine z_ldc2 C rw_u_403 dX11_fed_8 ?_
    replace h := Option.some.inj h
    subst h
    exact z_lret C O dX11_fed_11 rfl rfl
set_option maxHeartbeats 4000000 in
set_option maxRecDepth 100000 in
theorem cX_isNoPart {l : Launch} {G : zG}   {a0 : Int32} {out : Bool} (h : fX_isNoPart  a0 = some out) : Ct l G yX11_isNoPart cX11_isNoPart 1 (some .boolean) rmX11_isNoPart [.int a0] ([]) (some (.int (zb out))) ([]) := by
  refine zMet (own := RX11) rfl (by decide) (Nat.le_of_ble_eq_true rfl) (fun x hl C O => ?_)
  show zW x G 0 0 0 [(0, .int a0)] [] _
  unfold fX_isNoPart at h
  refine z_iload_n C dX11_isNoPart_0 0 rfl ?_
  refine z_if_lt C dX11_isNoPart_1 9 (by decide) h (fun h => ?_) (fun h => ?_)
  · refine z_iconst C 1 dX11_isNoPart_9 (by decide) ?_
    refine z_goto C dX11_isNoPart_10 14 (by decide) ?_
    replace h := Option.some.inj h
    subst h
    exact z_zret C O dX11_isNoPart_14 (zb_nar true) rfl rfl
  · refine z_iload_n C dX11_isNoPart_4 0 rfl ?_
    refine z_iconst C 1 dX11_isNoPart_5 (by decide) ?_
    refine z_icmp_le C dX11_isNoPart_6 13 (by decide) h (fun h => ?_) (fun h => ?_)
    · refine z_iconst C 0 dX11_isNoPart_13 (by decide) ?_
      replace h := Option.some.inj h
      subst h
      exact z_zret C O dX11_isNoPart_14 (zb_nar false) rfl rfl
    · refine z_iconst C 1 dX11_isNoPart_9 (by decide) ?_
      refine z_goto C dX11_isNoPart_10 14 (by decide) ?_
      replace h := Option.some.inj h
      subst h
      exact z_zret C O dX11_isNoPart_14 (zb_nar true) rfl rfl
set_option maxHeartbeats 4000000 in
set_option maxRecDepth 100000 in
theorem kX_commonDivisor_l9b {x : zX} {G : zG}   {out : Int64} (C : zC x G RX11 cX11_commonDivisor 11 (some .long) rmX11_commonDivisor) (O : zO x G (some (.long out)) ([]) 0 0) {K9 : Int64 → Int64 → Int32 → Option (Int64)} (hK9 : ∀  (x4 : Int64) (x6 : Int64) (x8 : Int32), K9  x4 x6 x8 = some out → zW x G 0 0 9 [(4, .long x4), (6, .long x6), (8, .int x8)] [] ([]))  {x4 : Int64} {x6 : Int64} {x8 : Int32} (h : fX_commonDivisor_l9b K9  x4 x6 x8 = some out) : zW x G 0 0 9 [(4, .long x4), (6, .long x6), (8, .int x8)] [] ([]) := by
  unfold fX_commonDivisor_l9b at h
  refine z_iload C dX11_commonDivisor_9 2 rfl ?_
  refine z_sipush C 128 dX11_commonDivisor_11 (by decide) ?_
  refine z_icmp_ge C dX11_commonDivisor_14 45 (by decide) h (fun h => ?_) (fun h => ?_)
  · refine z_lload C dX11_commonDivisor_45 0 rfl ?_
    replace h := Option.some.inj h
    subst h
    exact z_lret C O dX11_commonDivisor_47 rfl rfl
  · refine z_lload C dX11_commonDivisor_17 1 rfl ?_
    refine z_lconst C 0 dX11_commonDivisor_19 (by decide) ?_
    refine z_lcmp_eq C dX11_commonDivisor_20 dX11_commonDivisor_21 45 (by decide) h (fun h => ?_) (fun h => ?_)
    · refine z_lload C dX11_commonDivisor_45 0 rfl ?_
      replace h := Option.some.inj h
      subst h
      exact z_lret C O dX11_commonDivisor_47 rfl rfl
    · refine z_lload C dX11_commonDivisor_24 0 rfl ?_
      refine z_lload C dX11_commonDivisor_26 1 rfl ?_
      refine z_lrem C dX11_commonDivisor_28 h (fun h => ?_)
      refine z_lstoreN C dX11_commonDivisor_29 (by decide) (lvr := [(4, .long x4), (6, .long x6), (8, .int x8)]) rfl h (fun x9_1 h => ?_)
      refine z_lload C dX11_commonDivisor_31 2 rfl ?_
      refine z_lstore C dX11_commonDivisor_33 (by decide) (lvr := [(9, .long x9_1), (6, .long x6), (8, .int x8)]) rfl ?_
      refine z_lload C dX11_commonDivisor_35 1 rfl ?_
      refine z_lstore C dX11_commonDivisor_37 (by decide) (lvr := [(4, .long x6), (9, .long x9_1), (8, .int x8)]) rfl ?_
      refine z_iinc C dX11_commonDivisor_39 3 rfl 1 (by decide) (by decide) (lvr := [(6, .long x9_1), (4, .long x6), (9, .long x9_1)]) rfl h (fun x8_2 h => ?_)
      refine z_goto C dX11_commonDivisor_42 9 (by decide) ?_
      refine z_perm [2, 1, 0] (lv' := [(4, .long x6), (6, .long x9_1), (8, .int x8_2)]) rfl ?_
      exact hK9   _ _ _ h
set_option maxHeartbeats 4000000 in
set_option maxRecDepth 100000 in
theorem kX_commonDivisor_l9 {x : zX} {G : zG}   {out : Int64} (C : zC x G RX11 cX11_commonDivisor 11 (some .long) rmX11_commonDivisor) (O : zO x G (some (.long out)) ([]) 0 0)  : ∀ (n : Nat)  {x4 : Int64} {x6 : Int64} {x8 : Int32}, fX_commonDivisor_l9  n  x4 x6 x8 = some out → zW x G 0 0 9 [(4, .long x4), (6, .long x6), (8, .int x8)] [] ([]) := by
  intro n
  induction n with
  | zero =>
    intro  x4 x6 x8 h
    have h : (none : Option (Int64)) = some out := h
    cases h
  | succ n ih =>
    intro  x4 x6 x8 h
    exact kX_commonDivisor_l9b C O (K9 := fun v0 v1 v2 => fX_commonDivisor_l9  n v0 v1 v2) (fun  x4 x6 x8 h => ih h) h
set_option maxHeartbeats 4000000 in
set_option maxRecDepth 100000 in
theorem cX_commonDivisor {l : Launch} {G : zG}   {a0 : Int64} {a1 : Int64} {out : Int64} (h : fX_commonDivisor  a0 a1 = some out) : Ct l G yX11_commonDivisor cX11_commonDivisor 11 (some .long) rmX11_commonDivisor [.long a0, .long a1] ([]) (some (.long out)) ([]) := by
  refine zMet (own := RX11) rfl (by decide) (Nat.le_of_ble_eq_true rfl) (fun x hl C O => ?_)
  show zW x G 0 0 0 [(0, .long a0), (2, .long a1)] [] _
  unfold fX_commonDivisor at h
  refine z_lload_n C dX11_commonDivisor_0 0 rfl ?_
  refine z_lstore C dX11_commonDivisor_1 (by decide) (lvr := [(0, .long a0), (2, .long a1)]) rfl ?_
  refine z_lload_n C dX11_commonDivisor_3 2 rfl ?_
  refine z_lstore C dX11_commonDivisor_4 (by decide) (lvr := [(4, .long a0), (0, .long a0), (2, .long a1)]) rfl ?_
  refine z_iconst C 0 dX11_commonDivisor_6 (by decide) ?_
  refine z_istore C dX11_commonDivisor_7 (by decide) (lvr := [(6, .long a1), (4, .long a0), (0, .long a0), (2, .long a1)]) rfl ?_
  refine z_perm [2, 1, 0] (lv' := [(4, .long a0), (6, .long a1), (8, .int 0)]) rfl ?_
  exact kX_commonDivisor_l9 C O  zF h
set_option maxHeartbeats 4000000 in
set_option maxRecDepth 100000 in
theorem cX_partOf {l : Launch} {G : zG}   {a0 : Int64} {a1 : Int64} {a2 : Int32} {out : Int64} (h : fX_partOf  a0 a1 a2 = some out) : Ct l G yX11_partOf cX11_partOf 7 (some .long) rmX11_partOf [.long a0, .long a1, .int a2] ([]) (some (.long out)) ([]) := by
  refine zMet (own := RX11) rfl (by decide) (Nat.le_of_ble_eq_true rfl) (fun x hl C O => ?_)
  show zW x G 0 0 0 [(0, .long a0), (2, .long a1), (4, .int a2)] [] _
  unfold fX_partOf at h
  refine z_lload_n C dX11_partOf_0 0 rfl ?_
  refine rw_math_X11_233 C dX11_partOf_1 (Nat.le_of_ble_eq_true rfl) (Nat.le_of_ble_eq_true rfl) (Nat.zero_le _) (Nat.zero_le _) ?_
  refine z_lload_n C dX11_partOf_4 1 rfl ?_
  obtain ⟨y1, hy1, h⟩ := bind_o h
  refine rw_c_X11_238 C (cX_commonDivisor hy1) dX11_partOf_5 (Nat.le_of_ble_eq_true rfl) (zrm rfl) ?_
  refine z_lstore C dX11_partOf_8 (by decide) (lvr := [(0, .long a0), (2, .long a1), (4, .int a2)]) rfl ?_
  refine z_lload C dX11_partOf_10 0 rfl ?_
  refine z_lconst C 0 dX11_partOf_12 (by decide) ?_
  refine z_lcmp_gt C dX11_partOf_13 dX11_partOf_14 21 (by decide) h (fun h => ?_) (fun h => ?_)
  · refine z_iload C dX11_partOf_21 3 rfl ?_
    refine z_if_ne C dX11_partOf_23 30 (by decide) h (fun h => ?_) (fun h => ?_)
    · refine z_lload_n C dX11_partOf_30 2 rfl ?_
      refine z_lload C dX11_partOf_31 0 rfl ?_
      refine z_ldiv C dX11_partOf_33 h (fun h => ?_)
      replace h := Option.some.inj h
      subst h
      exact z_lret C O dX11_partOf_34 rfl rfl
    · refine z_lload_n C dX11_partOf_26 1 rfl ?_
      refine z_goto C dX11_partOf_27 31 (by decide) ?_
      refine z_lload C dX11_partOf_31 0 rfl ?_
      refine z_ldiv C dX11_partOf_33 h (fun h => ?_)
      replace h := Option.some.inj h
      subst h
      exact z_lret C O dX11_partOf_34 rfl rfl
  · refine z_iload C dX11_partOf_17 3 rfl ?_
    refine z_i2l C dX11_partOf_19 ?_
    replace h := Option.some.inj h
    subst h
    exact z_lret C O dX11_partOf_20 rfl rfl
set_option maxHeartbeats 4000000 in
set_option maxRecDepth 100000 in
theorem cX_owed {l : Launch} {G : zG} {qX qR qS qP qC qU qD qV qT : Nat → Nat} {sX : zSt} {sU : zSt} {a0 : Int32} {a1 : Int32} {a2 : Int32} {out : Int64} (h : fX_owed sX sU a0 a1 a2 = some out) : Ct l G yX11_owed cX11_owed 4 (some .long) rmX11_owed [.ref (qX 0), .int a0, .int a1, .int a2] (wdX G qX qR qS qP qC qU qD qV qT sX ++ (wdU G qU sU)) (some (.long out)) (wdX G qX qR qS qP qC qU qD qV qT sX ++ (wdU G qU sU)) := by
  refine zMet (own := RX11) rfl (by decide) (Nat.le_of_ble_eq_true rfl) (fun x hl C O => ?_)
  show zW x G 0 0 0 [(0, .ref (qX 0)), (1, .int a0), (2, .int a1), (3, .int a2)] [] _
  unfold fX_owed at h
  refine z_iload_n C dX11_owed_0 1 rfl ?_
  refine z_iload_n C dX11_owed_1 2 rfl ?_
  obtain ⟨y1, hy1, h⟩ := bind_o h
  refine rw_c_X11_202 C (Ct.frame0 (cX_areNoPair hy1)) dX11_owed_2 (Nat.le_of_ble_eq_true rfl) (zrm rfl) ?_
  refine z_ifb_ne C dX11_owed_5 15 (by decide) h (fun h => ?_) (fun h => ?_)
  · refine z_ldc2 C rw_u_403 dX11_owed_15 ?_
    replace h := Option.some.inj h
    subst h
    exact z_lret C O dX11_owed_18 rfl rfl
  · refine z_iload_n C dX11_owed_8 3 rfl ?_
    obtain ⟨y2, hy2, h⟩ := bind_o h
    refine rw_c_X11_209 C (Ct.frame0 (cX_isNoPart hy2)) dX11_owed_9 (Nat.le_of_ble_eq_true rfl) (zrm rfl) ?_
    refine z_ifb_eq C dX11_owed_12 19 (by decide) h (fun h => ?_) (fun h => ?_)
    · refine z_aload_n C dX11_owed_19 0 rfl ?_
      refine rw_g_X11_130_XU_X C dX11_owed_20 ?_
      refine z_if_ne C dX11_owed_23 30 (by decide) h (fun h => ?_) (fun h => ?_)
      · refine z_aload_n C dX11_owed_30 0 rfl ?_
        refine rw_g_X11_46_XU_X C dX11_owed_31 ?_
        refine rw_g_X11_212_XU_U C dX11_owed_34 ?_
        refine z_iload_n C dX11_owed_37 1 rfl ?_
        refine z_iconst C 3 dX11_owed_38 (by decide) ?_
        refine z_imul C dX11_owed_39 ?_
        refine z_iload_n C dX11_owed_40 2 rfl ?_
        refine z_iadd C dX11_owed_41 ?_
        refine rw_l_XU_U_4 C dX11_owed_42 h (fun h => ?_)
        refine z_aload_n C dX11_owed_43 0 rfl ?_
        refine rw_g_X11_46_XU_X C dX11_owed_44 ?_
        refine rw_g_X11_215_XU_U C dX11_owed_47 ?_
        refine z_iload_n C dX11_owed_50 3 rfl ?_
        obtain ⟨y3, hy3, h⟩ := bind_o h
        refine rw_c_X11_219 C (Ct.frame0 (cX_partOf hy3)) dX11_owed_51 (Nat.le_of_ble_eq_true rfl) (zrm rfl) ?_
        replace h := Option.some.inj h
        subst h
        exact z_lret C O dX11_owed_54 rfl rfl
      · refine z_ldc2 C rw_u_697 dX11_owed_26 ?_
        replace h := Option.some.inj h
        subst h
        exact z_lret C O dX11_owed_29 rfl rfl
    · refine z_ldc2 C rw_u_403 dX11_owed_15 ?_
      replace h := Option.some.inj h
      subst h
      exact z_lret C O dX11_owed_18 rfl rfl
set_option maxHeartbeats 4000000 in
set_option maxRecDepth 100000 in
theorem cX_net {l : Launch} {G : zG} {qX qR qS qP qC qU qD qV qT : Nat → Nat} {sX : zSt} {sU : zSt} {a0 : Int32} {a1 : Int32} {out : Int64} (h : fX_net sX sU a0 a1 = some out) : Ct l G yX11_net cX11_net 3 (some .long) rmX11_net [.ref (qX 0), .int a0, .int a1] (wdX G qX qR qS qP qC qU qD qV qT sX ++ (wdU G qU sU)) (some (.long out)) (wdX G qX qR qS qP qC qU qD qV qT sX ++ (wdU G qU sU)) := by
  refine zMet (own := RX11) rfl (by decide) (Nat.le_of_ble_eq_true rfl) (fun x hl C O => ?_)
  show zW x G 0 0 0 [(0, .ref (qX 0)), (1, .int a0), (2, .int a1)] [] _
  unfold fX_net at h
  refine z_iload_n C dX11_net_0 1 rfl ?_
  obtain ⟨y1, hy1, h⟩ := bind_o h
  refine rw_c_X11_186 C (Ct.frame0 (cX_isNoPurse hy1)) dX11_net_1 (Nat.le_of_ble_eq_true rfl) (zrm rfl) ?_
  refine z_ifb_ne C dX11_net_4 14 (by decide) h (fun h => ?_) (fun h => ?_)
  · refine z_ldc2 C rw_u_403 dX11_net_14 ?_
    replace h := Option.some.inj h
    subst h
    exact z_lret C O dX11_net_17 rfl rfl
  · refine z_iload_n C dX11_net_7 2 rfl ?_
    obtain ⟨y2, hy2, h⟩ := bind_o h
    refine rw_c_X11_209 C (Ct.frame0 (cX_isNoPart hy2)) dX11_net_8 (Nat.le_of_ble_eq_true rfl) (zrm rfl) ?_
    refine z_ifb_eq C dX11_net_11 18 (by decide) h (fun h => ?_) (fun h => ?_)
    · refine z_aload_n C dX11_net_18 0 rfl ?_
      refine rw_g_X11_130_XU_X C dX11_net_19 ?_
      refine z_if_ne C dX11_net_22 29 (by decide) h (fun h => ?_) (fun h => ?_)
      · refine z_aload_n C dX11_net_29 0 rfl ?_
        refine rw_g_X11_46_XU_X C dX11_net_30 ?_
        refine rw_g_X11_223_XU_U C dX11_net_33 ?_
        refine z_iload_n C dX11_net_36 1 rfl ?_
        refine rw_l_XU_U_5 C dX11_net_37 h (fun h => ?_)
        refine z_aload_n C dX11_net_38 0 rfl ?_
        refine rw_g_X11_46_XU_X C dX11_net_39 ?_
        refine rw_g_X11_215_XU_U C dX11_net_42 ?_
        refine z_iload_n C dX11_net_45 2 rfl ?_
        obtain ⟨y3, hy3, h⟩ := bind_o h
        refine rw_c_X11_219 C (Ct.frame0 (cX_partOf hy3)) dX11_net_46 (Nat.le_of_ble_eq_true rfl) (zrm rfl) ?_
        replace h := Option.some.inj h
        subst h
        exact z_lret C O dX11_net_49 rfl rfl
      · refine z_ldc2 C rw_u_697 dX11_net_25 ?_
        replace h := Option.some.inj h
        subst h
        exact z_lret C O dX11_net_28 rfl rfl
    · refine z_ldc2 C rw_u_403 dX11_net_14 ?_
      replace h := Option.some.inj h
      subst h
      exact z_lret C O dX11_net_17 rfl rfl
set_option maxHeartbeats 4000000 in
set_option maxRecDepth 100000 in
theorem cX_end {l : Launch} {G : zG} {qX qR qS qP qC qU qD qV qT : Nat → Nat} {sX : zSt} {sU : zSt} {a0 : Int32} {a1 : Int32} {out : Int64} (h : fX_end sX sU a0 a1 = some out) : Ct l G yX11_end cX11_end 3 (some .long) rmX11_end [.ref (qX 0), .int a0, .int a1] (wdX G qX qR qS qP qC qU qD qV qT sX ++ (wdU G qU sU)) (some (.long out)) (wdX G qX qR qS qP qC qU qD qV qT sX ++ (wdU G qU sU)) := by
  refine zMet (own := RX11) rfl (by decide) (Nat.le_of_ble_eq_true rfl) (fun x hl C O => ?_)
  show zW x G 0 0 0 [(0, .ref (qX 0)), (1, .int a0), (2, .int a1)] [] _
  unfold fX_end at h
  refine z_iload_n C dX11_end_0 1 rfl ?_
  refine z_if_lt C dX11_end_1 16 (by decide) h (fun h => ?_) (fun h => ?_)
  · refine z_ldc2 C rw_u_403 dX11_end_16 ?_
    replace h := Option.some.inj h
    subst h
    exact z_lret C O dX11_end_19 rfl rfl
  · refine z_iload_n C dX11_end_4 1 rfl ?_
    refine z_iconst C 1 dX11_end_5 (by decide) ?_
    refine z_icmp_gt C dX11_end_6 16 (by decide) h (fun h => ?_) (fun h => ?_)
    · refine z_ldc2 C rw_u_403 dX11_end_16 ?_
      replace h := Option.some.inj h
      subst h
      exact z_lret C O dX11_end_19 rfl rfl
    · refine z_iload_n C dX11_end_9 2 rfl ?_
      obtain ⟨y1, hy1, h⟩ := bind_o h
      refine rw_c_X11_209 C (Ct.frame0 (cX_isNoPart hy1)) dX11_end_10 (Nat.le_of_ble_eq_true rfl) (zrm rfl) ?_
      refine z_ifb_eq C dX11_end_13 20 (by decide) h (fun h => ?_) (fun h => ?_)
      · refine z_aload_n C dX11_end_20 0 rfl ?_
        refine rw_g_X11_130_XU_X C dX11_end_21 ?_
        refine z_if_ne C dX11_end_24 31 (by decide) h (fun h => ?_) (fun h => ?_)
        · refine z_aload_n C dX11_end_31 0 rfl ?_
          refine rw_g_X11_46_XU_X C dX11_end_32 ?_
          refine rw_g_X11_226_XU_U C dX11_end_35 ?_
          refine z_iload_n C dX11_end_38 1 rfl ?_
          refine rw_l_XU_U_6 C dX11_end_39 h (fun h => ?_)
          refine z_aload_n C dX11_end_40 0 rfl ?_
          refine rw_g_X11_46_XU_X C dX11_end_41 ?_
          obtain ⟨y2, hy2, h⟩ := bind_o h
          refine rw_c_X11_229 C (Ct.frame (cU_endBottom hy2) (w := wdX G qX qR qS qP qC qU qD qV qT sX ++ (wdU G qU sU)) (w' := wdX G qX qR qS qP qC qU qD qV qT sX ++ (wdU G qU sU)) (wr := wdX G qX qR qS qP qC qU qD qV qT sX) [4, 5, 6, 7, 8, 9, 10, 11, 12] [0, 1, 2, 3] [0, 1, 2, 3, 4, 5, 6, 7, 8, 9, 10, 11, 12] rfl rfl rfl rfl (by decide) rfl rfl) 4 rfl dX11_end_44 (Nat.le_of_ble_eq_true rfl) (zrm rfl) ?_
          refine z_iload_n C dX11_end_47 2 rfl ?_
          obtain ⟨y3, hy3, h⟩ := bind_o h
          refine rw_c_X11_219 C (Ct.frame0 (cX_partOf hy3)) dX11_end_48 (Nat.le_of_ble_eq_true rfl) (zrm rfl) ?_
          replace h := Option.some.inj h
          subst h
          exact z_lret C O dX11_end_51 rfl rfl
        · refine z_ldc2 C rw_u_697 dX11_end_27 ?_
          replace h := Option.some.inj h
          subst h
          exact z_lret C O dX11_end_30 rfl rfl
      · refine z_ldc2 C rw_u_403 dX11_end_16 ?_
        replace h := Option.some.inj h
        subst h
        exact z_lret C O dX11_end_19 rfl rfl
set_option maxHeartbeats 4000000 in
set_option maxRecDepth 100000 in
theorem cX_beside {l : Launch} {G : zG} {qX qR qS qP qC qU qD qV qT : Nat → Nat} {rD : Nat} {sX : zSt} {sS : zSt} {sD : zSt} {sV : zSt} {a0 : Int32} {a1 : Int32} {a2 : Int32} {out : Int64 × zSt × zSt} (h : fX_beside sX sS sD sV a0 a1 a2 = some out) : Ctr l G yX11_beside cX11_beside 5 (some .long) rmX11_beside [.ref (qX 0), .int a0, .int a1, .int a2] (wdX G qX qR qS qP qC qU qD qV qT sX ++ (wdS G qS sS ++ (wdC G qD rD sD ++ (wdU G qV sV)))) (fun _ => (some (.long out.1))) (fun z : Nat => wdX G qX qR qS qP qC qU qD qV qT sX ++ (wdS G qS sS ++ (wdC G qD z out.2.1 ++ (wdU G qV out.2.2)))) := by
  refine zMetr (own := RX11) rfl (by decide) (Nat.le_of_ble_eq_true rfl) (fun x hl C hnm O => ?_)
  show zW x G 0 0 0 [(0, .ref (qX 0)), (1, .int a0), (2, .int a1), (3, .int a2)] [] _
  unfold fX_beside at h
  refine z_aload_n C dX11_beside_0 0 rfl ?_
  refine rw_g_X11_130_XSDV_X C dX11_beside_1 ?_
  refine z_if_ne C dX11_beside_4 11 (by decide) h (fun h => ?_) (fun h => ?_)
  · refine z_iload_n C dX11_beside_11 1 rfl ?_
    refine z_if_lt C dX11_beside_12 40 (by decide) h (fun h => ?_) (fun h => ?_)
    · refine z_ldc2 C rw_u_403 dX11_beside_40 ?_
      replace h := Option.some.inj h
      subst h
      exact z_lret1 C O dX11_beside_43 rD rfl rfl
    · refine z_iload_n C dX11_beside_15 1 rfl ?_
      refine z_aload_n C dX11_beside_16 0 rfl ?_
      refine rw_g_X11_29_XSDV_X C dX11_beside_17 ?_
      refine rw_g_X11_242_XSDV_S C dX11_beside_20 ?_
      refine z_icmp_ge C dX11_beside_23 40 (by decide) h (fun h => ?_) (fun h => ?_)
      · refine z_ldc2 C rw_u_403 dX11_beside_40 ?_
        replace h := Option.some.inj h
        subst h
        exact z_lret1 C O dX11_beside_43 rD rfl rfl
      · refine z_iload_n C dX11_beside_26 2 rfl ?_
        obtain ⟨y1, hy1, h⟩ := bind_o h
        refine rw_c_X11_151 C (Ct.frame0 (cX_isNoDay hy1)) dX11_beside_27 (Nat.le_of_ble_eq_true rfl) (zrm rfl) ?_
        refine z_ifb_ne C dX11_beside_30 40 (by decide) h (fun h => ?_) (fun h => ?_)
        · refine z_ldc2 C rw_u_403 dX11_beside_40 ?_
          replace h := Option.some.inj h
          subst h
          exact z_lret1 C O dX11_beside_43 rD rfl rfl
        · refine z_iload_n C dX11_beside_33 3 rfl ?_
          obtain ⟨y2, hy2, h⟩ := bind_o h
          refine rw_c_X11_209 C (Ct.frame0 (cX_isNoPart hy2)) dX11_beside_34 (Nat.le_of_ble_eq_true rfl) (zrm rfl) ?_
          refine z_ifb_eq C dX11_beside_37 44 (by decide) h (fun h => ?_) (fun h => ?_)
          · refine z_aload_n C dX11_beside_44 0 rfl ?_
            refine rw_g_X11_29_XSDV_X C dX11_beside_45 ?_
            refine z_iload_n C dX11_beside_48 2 rfl ?_
            obtain ⟨y3, hy3, h⟩ := bind_o h
            refine rw_c_X11_154 C (Ct.frame (cS_firstEventFrom hy3) (w := wdX G qX qR qS qP qC qU qD qV qT sX ++ (wdS G qS sS ++ (wdC G qD rD sD ++ (wdU G qV sV)))) (w' := wdX G qX qR qS qP qC qU qD qV qT sX ++ (wdS G qS sS ++ (wdC G qD rD sD ++ (wdU G qV sV)))) (wr := wdX G qX qR qS qP qC qU qD qV qT sX ++ (wdC G qD rD sD ++ (wdU G qV sV))) [4, 5, 6, 7, 8, 9, 10, 11, 12, 13, 14] [0, 1, 2, 3, 15, 16, 17, 18, 19, 20, 21, 22, 23, 24, 25, 26, 27, 28, 29, 30, 31, 32, 33, 34, 35, 36, 37, 38] [0, 1, 2, 3, 28, 29, 30, 31, 32, 33, 34, 35, 36, 37, 38, 4, 5, 6, 7, 8, 9, 10, 11, 12, 13, 14, 15, 16, 17, 18, 19, 20, 21, 22, 23, 24, 25, 26, 27] rfl rfl rfl rfl (by decide) rfl rfl) 4 rfl dX11_beside_49 (Nat.le_of_ble_eq_true rfl) (zrm rfl) ?_
            refine z_istore C dX11_beside_52 (by decide) (lvr := [(0, .ref (qX 0)), (1, .int a0), (2, .int a1), (3, .int a2)]) rfl ?_
            refine z_aload_n C dX11_beside_54 1 rfl ?_
            refine rw_g_X11_50_XSDV_X C dX11_beside_55 ?_
            refine z_aload_n C dX11_beside_58 1 rfl ?_
            refine rw_g_X11_29_XSDV_X C dX11_beside_59 ?_
            obtain ⟨y4, hy4, h⟩ := bind_o h
            refine rw_c_X11_134 C (Ct.frame (cC_begin hy4) (w := wdX G qX qR qS qP qC qU qD qV qT sX ++ (wdS G qS sS ++ (wdC G qD rD sD ++ (wdU G qV sV)))) (w' := wdX G qX qR qS qP qC qU qD qV qT sX ++ (wdS G qS sS ++ (wdC G qD (qS 0) y4 ++ (wdU G qV sV)))) (wr := wdX G qX qR qS qP qC qU qD qV qT sX ++ (wdS G qS sS ++ (wdU G qV sV))) [15, 16, 17, 18, 19, 20, 21, 22, 23, 24, 25, 26, 27, 28, 29] [0, 1, 2, 3, 4, 5, 6, 7, 8, 9, 10, 11, 12, 13, 14, 30, 31, 32, 33, 34, 35, 36, 37, 38] [0, 1, 2, 3, 4, 5, 6, 7, 8, 9, 10, 11, 12, 13, 14, 24, 25, 26, 27, 28, 29, 30, 31, 32, 33, 34, 35, 36, 37, 38, 15, 16, 17, 18, 19, 20, 21, 22, 23] rfl rfl rfl rfl (by decide) rfl rfl) 15 rfl dX11_beside_62 (Nat.le_of_ble_eq_true rfl) (zrm rfl) ?_
            refine z_aload_n C dX11_beside_65 1 rfl ?_
            refine rw_g_X11_50_XSDV_X C dX11_beside_66 ?_
            refine z_iconst C 0 dX11_beside_69 (by decide) ?_
            refine z_iload C dX11_beside_70 0 rfl ?_
            obtain ⟨y5, hy5, h⟩ := bind_o h
            refine rw_c_X11_140 C (Ct.frame (cC_goThrough hy5) (w := wdX G qX qR qS qP qC qU qD qV qT sX ++ (wdS G qS sS ++ (wdC G qD (qS 0) y4 ++ (wdU G qV sV)))) (w' := wdX G qX qR qS qP qC qU qD qV qT sX ++ (wdS G qS sS ++ (wdC G qD (qS 0) y5 ++ (wdU G qV sV)))) (wr := wdX G qX qR qS qP qC qU qD qV qT sX ++ (wdU G qV sV)) [15, 16, 17, 18, 19, 20, 21, 22, 23, 24, 25, 26, 27, 28, 29, 4, 5, 6, 7, 8, 9, 10, 11, 12, 13, 14] [0, 1, 2, 3, 30, 31, 32, 33, 34, 35, 36, 37, 38] [0, 1, 2, 3, 28, 29, 30, 31, 32, 33, 34, 35, 36, 37, 38, 13, 14, 15, 16, 17, 18, 19, 20, 21, 22, 23, 24, 25, 26, 27, 4, 5, 6, 7, 8, 9, 10, 11, 12] rfl rfl rfl rfl (by decide) rfl rfl) 15 rfl dX11_beside_72 (Nat.le_of_ble_eq_true rfl) (zrm rfl) ?_
            refine z_aload_n C dX11_beside_75 1 rfl ?_
            refine rw_g_X11_50_XSDV_X C dX11_beside_76 ?_
            refine z_iload_n C dX11_beside_79 2 rfl ?_
            refine z_ldc C rw_u_744 dX11_beside_80 ?_
            obtain ⟨y6, hy6, h⟩ := bind_o h
            refine rw_c_X11_246 C (Ct.frame (cC_moveTo hy6) (w := wdX G qX qR qS qP qC qU qD qV qT sX ++ (wdS G qS sS ++ (wdC G qD (qS 0) y5 ++ (wdU G qV sV)))) (w' := wdX G qX qR qS qP qC qU qD qV qT sX ++ (wdS G qS sS ++ (wdC G qD (qS 0) y6 ++ (wdU G qV sV)))) (wr := wdX G qX qR qS qP qC qU qD qV qT sX ++ (wdU G qV sV)) [15, 16, 17, 18, 19, 20, 21, 22, 23, 24, 25, 26, 27, 28, 29, 4, 5, 6, 7, 8, 9, 10, 11, 12, 13, 14] [0, 1, 2, 3, 30, 31, 32, 33, 34, 35, 36, 37, 38] [0, 1, 2, 3, 28, 29, 30, 31, 32, 33, 34, 35, 36, 37, 38, 13, 14, 15, 16, 17, 18, 19, 20, 21, 22, 23, 24, 25, 26, 27, 4, 5, 6, 7, 8, 9, 10, 11, 12] rfl rfl rfl rfl (by decide) rfl rfl) 15 rfl dX11_beside_82 (Nat.le_of_ble_eq_true rfl) (zrm rfl) ?_
            refine z_aload_n C dX11_beside_85 1 rfl ?_
            refine rw_g_X11_50_XSDV_X C dX11_beside_86 ?_
            refine z_iload C dX11_beside_89 0 rfl ?_
            refine z_aload_n C dX11_beside_91 1 rfl ?_
            refine rw_g_X11_29_XSDV_X C dX11_beside_92 ?_
            refine rw_g_X11_137_XSDV_S C dX11_beside_95 ?_
            obtain ⟨y7, hy7, h⟩ := bind_o h
            refine rw_c_X11_140 C (Ct.frame (cC_goThrough hy7) (w := wdX G qX qR qS qP qC qU qD qV qT sX ++ (wdS G qS sS ++ (wdC G qD (qS 0) y6 ++ (wdU G qV sV)))) (w' := wdX G qX qR qS qP qC qU qD qV qT sX ++ (wdS G qS sS ++ (wdC G qD (qS 0) y7 ++ (wdU G qV sV)))) (wr := wdX G qX qR qS qP qC qU qD qV qT sX ++ (wdU G qV sV)) [15, 16, 17, 18, 19, 20, 21, 22, 23, 24, 25, 26, 27, 28, 29, 4, 5, 6, 7, 8, 9, 10, 11, 12, 13, 14] [0, 1, 2, 3, 30, 31, 32, 33, 34, 35, 36, 37, 38] [0, 1, 2, 3, 28, 29, 30, 31, 32, 33, 34, 35, 36, 37, 38, 13, 14, 15, 16, 17, 18, 19, 20, 21, 22, 23, 24, 25, 26, 27, 4, 5, 6, 7, 8, 9, 10, 11, 12] rfl rfl rfl rfl (by decide) rfl rfl) 15 rfl dX11_beside_98 (Nat.le_of_ble_eq_true rfl) (zrm rfl) ?_
            refine z_aload_n C dX11_beside_101 1 rfl ?_
            refine rw_g_X11_53_XSDV_X C dX11_beside_102 ?_
            refine z_aload_n C dX11_beside_105 1 rfl ?_
            refine rw_g_X11_50_XSDV_X C dX11_beside_106 ?_
            obtain ⟨y8, hy8, h⟩ := bind_o h
            refine rw_c_X11_144 C (Ct.frame (cU_reckon hy8) (w := wdX G qX qR qS qP qC qU qD qV qT sX ++ (wdS G qS sS ++ (wdC G qD (qS 0) y7 ++ (wdU G qV sV)))) (w' := wdX G qX qR qS qP qC qU qD qV qT sX ++ (wdS G qS sS ++ (wdC G qD (qS 0) y7 ++ (wdU G qV y8)))) (wr := wdX G qX qR qS qP qC qU qD qV qT sX) [30, 31, 32, 33, 34, 35, 36, 37, 38, 15, 16, 17, 18, 19, 20, 21, 22, 23, 24, 25, 26, 27, 28, 29, 4, 5, 6, 7, 8, 9, 10, 11, 12, 13, 14] [0, 1, 2, 3] [0, 1, 2, 3, 28, 29, 30, 31, 32, 33, 34, 35, 36, 37, 38, 13, 14, 15, 16, 17, 18, 19, 20, 21, 22, 23, 24, 25, 26, 27, 4, 5, 6, 7, 8, 9, 10, 11, 12] rfl rfl rfl rfl (by decide) rfl rfl) 30 rfl dX11_beside_109 (Nat.le_of_ble_eq_true rfl) (zrm rfl) ?_
            refine z_aload_n C dX11_beside_112 1 rfl ?_
            refine rw_g_X11_53_XSDV_X C dX11_beside_113 ?_
            refine rw_g_X11_226_XSDV_V C dX11_beside_116 ?_
            refine z_iconst C 0 dX11_beside_119 (by decide) ?_
            refine rw_l_XSDV_V_6 C dX11_beside_120 h (fun h => ?_)
            refine z_aload_n C dX11_beside_121 1 rfl ?_
            refine rw_g_X11_53_XSDV_X C dX11_beside_122 ?_
            obtain ⟨y9, hy9, h⟩ := bind_o h
            refine rw_c_X11_229 C (Ct.frame (cU_endBottom hy9) (w := wdX G qX qR qS qP qC qU qD qV qT sX ++ (wdS G qS sS ++ (wdC G qD (qS 0) y7 ++ (wdU G qV y8)))) (w' := wdX G qX qR qS qP qC qU qD qV qT sX ++ (wdS G qS sS ++ (wdC G qD (qS 0) y7 ++ (wdU G qV y8)))) (wr := wdX G qX qR qS qP qC qU qD qV qT sX ++ (wdS G qS sS ++ (wdC G qD (qS 0) y7))) [30, 31, 32, 33, 34, 35, 36, 37, 38] [0, 1, 2, 3, 4, 5, 6, 7, 8, 9, 10, 11, 12, 13, 14, 15, 16, 17, 18, 19, 20, 21, 22, 23, 24, 25, 26, 27, 28, 29] [0, 1, 2, 3, 4, 5, 6, 7, 8, 9, 10, 11, 12, 13, 14, 15, 16, 17, 18, 19, 20, 21, 22, 23, 24, 25, 26, 27, 28, 29, 30, 31, 32, 33, 34, 35, 36, 37, 38] rfl rfl rfl rfl (by decide) rfl rfl) 30 rfl dX11_beside_125 (Nat.le_of_ble_eq_true rfl) (zrm rfl) ?_
            refine z_iload_n C dX11_beside_128 4 rfl ?_
            obtain ⟨y10, hy10, h⟩ := bind_o h
            refine rw_c_X11_219 C (Ct.frame0 (cX_partOf hy10)) dX11_beside_129 (Nat.le_of_ble_eq_true rfl) (zrm rfl) ?_
            replace h := Option.some.inj h
            subst h
            exact z_lret1 C O dX11_beside_132 (qS 0) rfl rfl
          · refine z_ldc2 C rw_u_403 dX11_beside_40 ?_
            replace h := Option.some.inj h
            subst h
            exact z_lret1 C O dX11_beside_43 rD rfl rfl
  · refine z_ldc2 C rw_u_697 dX11_beside_7 ?_
    replace h := Option.some.inj h
    subst h
    exact z_lret1 C O dX11_beside_10 rD rfl rfl
set_option maxHeartbeats 4000000 in
set_option maxRecDepth 100000 in
theorem cX_herEndWithout {l : Launch} {G : zG} {qX qR qS qP qC qU qD qV qT : Nat → Nat} {rD : Nat} {sX : zSt} {sS : zSt} {sU : zSt} {sD : zSt} {sV : zSt} {a0 : Int32} {out : Int64 × zSt × zSt} (h : fX_herEndWithout sX sS sU sD sV a0 = some out) : Ctr l G yX11_herEndWithout cX11_herEndWithout 2 (some .long) rmX11_herEndWithout [.ref (qX 0), .int a0] (wdX G qX qR qS qP qC qU qD qV qT sX ++ (wdS G qS sS ++ (wdU G qU sU ++ (wdC G qD rD sD ++ (wdU G qV sV))))) (fun _ => (some (.long out.1))) (fun z : Nat => wdX G qX qR qS qP qC qU qD qV qT sX ++ (wdS G qS sS ++ (wdU G qU sU ++ (wdC G qD z out.2.1 ++ (wdU G qV out.2.2))))) := by
  refine zMetr (own := RX11) rfl (by decide) (Nat.le_of_ble_eq_true rfl) (fun x hl C hnm O => ?_)
  show zW x G 0 0 0 [(0, .ref (qX 0)), (1, .int a0)] [] _
  unfold fX_herEndWithout at h
  refine z_aload_n C dX11_herEndWithout_0 0 rfl ?_
  refine rw_g_X11_50_XSUDV_X C dX11_herEndWithout_1 ?_
  refine z_aload_n C dX11_herEndWithout_4 0 rfl ?_
  refine rw_g_X11_29_XSUDV_X C dX11_herEndWithout_5 ?_
  obtain ⟨y1, hy1, h⟩ := bind_o h
  refine rw_c_X11_134 C (Ct.frame (cC_begin hy1) (w := wdX G qX qR qS qP qC qU qD qV qT sX ++ (wdS G qS sS ++ (wdU G qU sU ++ (wdC G qD rD sD ++ (wdU G qV sV))))) (w' := wdX G qX qR qS qP qC qU qD qV qT sX ++ (wdS G qS sS ++ (wdU G qU sU ++ (wdC G qD (qS 0) y1 ++ (wdU G qV sV))))) (wr := wdX G qX qR qS qP qC qU qD qV qT sX ++ (wdS G qS sS ++ (wdU G qU sU ++ (wdU G qV sV)))) [24, 25, 26, 27, 28, 29, 30, 31, 32, 33, 34, 35, 36, 37, 38] [0, 1, 2, 3, 4, 5, 6, 7, 8, 9, 10, 11, 12, 13, 14, 15, 16, 17, 18, 19, 20, 21, 22, 23, 39, 40, 41, 42, 43, 44, 45, 46, 47] [0, 1, 2, 3, 4, 5, 6, 7, 8, 9, 10, 11, 12, 13, 14, 15, 16, 17, 18, 19, 20, 21, 22, 23, 33, 34, 35, 36, 37, 38, 39, 40, 41, 42, 43, 44, 45, 46, 47, 24, 25, 26, 27, 28, 29, 30, 31, 32] rfl rfl rfl rfl (by decide) rfl rfl) 24 rfl dX11_herEndWithout_8 (Nat.le_of_ble_eq_true rfl) (zrm rfl) ?_
  refine z_aload_n C dX11_herEndWithout_11 0 rfl ?_
  refine rw_g_X11_50_XSUDV_X C dX11_herEndWithout_12 ?_
  refine z_iconst C 0 dX11_herEndWithout_15 (by decide) ?_
  refine z_iload_n C dX11_herEndWithout_16 1 rfl ?_
  obtain ⟨y2, hy2, h⟩ := bind_o h
  refine rw_c_X11_140 C (Ct.frame (cC_goThrough hy2) (w := wdX G qX qR qS qP qC qU qD qV qT sX ++ (wdS G qS sS ++ (wdU G qU sU ++ (wdC G qD (qS 0) y1 ++ (wdU G qV sV))))) (w' := wdX G qX qR qS qP qC qU qD qV qT sX ++ (wdS G qS sS ++ (wdU G qU sU ++ (wdC G qD (qS 0) y2 ++ (wdU G qV sV))))) (wr := wdX G qX qR qS qP qC qU qD qV qT sX ++ (wdU G qU sU ++ (wdU G qV sV))) [24, 25, 26, 27, 28, 29, 30, 31, 32, 33, 34, 35, 36, 37, 38, 4, 5, 6, 7, 8, 9, 10, 11, 12, 13, 14] [0, 1, 2, 3, 15, 16, 17, 18, 19, 20, 21, 22, 23, 39, 40, 41, 42, 43, 44, 45, 46, 47] [0, 1, 2, 3, 37, 38, 39, 40, 41, 42, 43, 44, 45, 46, 47, 4, 5, 6, 7, 8, 9, 10, 11, 12, 22, 23, 24, 25, 26, 27, 28, 29, 30, 31, 32, 33, 34, 35, 36, 13, 14, 15, 16, 17, 18, 19, 20, 21] rfl rfl rfl rfl (by decide) rfl rfl) 24 rfl dX11_herEndWithout_17 (Nat.le_of_ble_eq_true rfl) (zrm rfl) ?_
  refine z_aload_n C dX11_herEndWithout_20 0 rfl ?_
  refine rw_g_X11_50_XSUDV_X C dX11_herEndWithout_21 ?_
  refine z_iload_n C dX11_herEndWithout_24 1 rfl ?_
  refine z_iconst C 1 dX11_herEndWithout_25 (by decide) ?_
  refine z_iadd C dX11_herEndWithout_26 ?_
  refine z_aload_n C dX11_herEndWithout_27 0 rfl ?_
  refine rw_g_X11_29_XSUDV_X C dX11_herEndWithout_28 ?_
  refine rw_g_X11_137_XSUDV_S C dX11_herEndWithout_31 ?_
  obtain ⟨y3, hy3, h⟩ := bind_o h
  refine rw_c_X11_140 C (Ct.frame (cC_goThrough hy3) (w := wdX G qX qR qS qP qC qU qD qV qT sX ++ (wdS G qS sS ++ (wdU G qU sU ++ (wdC G qD (qS 0) y2 ++ (wdU G qV sV))))) (w' := wdX G qX qR qS qP qC qU qD qV qT sX ++ (wdS G qS sS ++ (wdU G qU sU ++ (wdC G qD (qS 0) y3 ++ (wdU G qV sV))))) (wr := wdX G qX qR qS qP qC qU qD qV qT sX ++ (wdU G qU sU ++ (wdU G qV sV))) [24, 25, 26, 27, 28, 29, 30, 31, 32, 33, 34, 35, 36, 37, 38, 4, 5, 6, 7, 8, 9, 10, 11, 12, 13, 14] [0, 1, 2, 3, 15, 16, 17, 18, 19, 20, 21, 22, 23, 39, 40, 41, 42, 43, 44, 45, 46, 47] [0, 1, 2, 3, 37, 38, 39, 40, 41, 42, 43, 44, 45, 46, 47, 4, 5, 6, 7, 8, 9, 10, 11, 12, 22, 23, 24, 25, 26, 27, 28, 29, 30, 31, 32, 33, 34, 35, 36, 13, 14, 15, 16, 17, 18, 19, 20, 21] rfl rfl rfl rfl (by decide) rfl rfl) 24 rfl dX11_herEndWithout_34 (Nat.le_of_ble_eq_true rfl) (zrm rfl) ?_
  refine z_aload_n C dX11_herEndWithout_37 0 rfl ?_
  refine rw_g_X11_53_XSUDV_X C dX11_herEndWithout_38 ?_
  refine z_aload_n C dX11_herEndWithout_41 0 rfl ?_
  refine rw_g_X11_50_XSUDV_X C dX11_herEndWithout_42 ?_
  obtain ⟨y4, hy4, h⟩ := bind_o h
  refine rw_c_X11_144 C (Ct.frame (cU_reckon hy4) (w := wdX G qX qR qS qP qC qU qD qV qT sX ++ (wdS G qS sS ++ (wdU G qU sU ++ (wdC G qD (qS 0) y3 ++ (wdU G qV sV))))) (w' := wdX G qX qR qS qP qC qU qD qV qT sX ++ (wdS G qS sS ++ (wdU G qU sU ++ (wdC G qD (qS 0) y3 ++ (wdU G qV y4))))) (wr := wdX G qX qR qS qP qC qU qD qV qT sX ++ (wdU G qU sU)) [39, 40, 41, 42, 43, 44, 45, 46, 47, 24, 25, 26, 27, 28, 29, 30, 31, 32, 33, 34, 35, 36, 37, 38, 4, 5, 6, 7, 8, 9, 10, 11, 12, 13, 14] [0, 1, 2, 3, 15, 16, 17, 18, 19, 20, 21, 22, 23] [0, 1, 2, 3, 37, 38, 39, 40, 41, 42, 43, 44, 45, 46, 47, 4, 5, 6, 7, 8, 9, 10, 11, 12, 22, 23, 24, 25, 26, 27, 28, 29, 30, 31, 32, 33, 34, 35, 36, 13, 14, 15, 16, 17, 18, 19, 20, 21] rfl rfl rfl rfl (by decide) rfl rfl) 39 rfl dX11_herEndWithout_45 (Nat.le_of_ble_eq_true rfl) (zrm rfl) ?_
  refine z_aload_n C dX11_herEndWithout_48 0 rfl ?_
  refine rw_g_X11_53_XSUDV_X C dX11_herEndWithout_49 ?_
  obtain ⟨y5, hy5, h⟩ := bind_o h
  refine rw_c_X11_249 C (Ct.frame (cU_herEndCut hy5) (w := wdX G qX qR qS qP qC qU qD qV qT sX ++ (wdS G qS sS ++ (wdU G qU sU ++ (wdC G qD (qS 0) y3 ++ (wdU G qV y4))))) (w' := wdX G qX qR qS qP qC qU qD qV qT sX ++ (wdS G qS sS ++ (wdU G qU sU ++ (wdC G qD (qS 0) y3 ++ (wdU G qV y4))))) (wr := wdX G qX qR qS qP qC qU qD qV qT sX ++ (wdS G qS sS ++ (wdU G qU sU ++ (wdC G qD (qS 0) y3)))) [39, 40, 41, 42, 43, 44, 45, 46, 47] [0, 1, 2, 3, 4, 5, 6, 7, 8, 9, 10, 11, 12, 13, 14, 15, 16, 17, 18, 19, 20, 21, 22, 23, 24, 25, 26, 27, 28, 29, 30, 31, 32, 33, 34, 35, 36, 37, 38] [0, 1, 2, 3, 4, 5, 6, 7, 8, 9, 10, 11, 12, 13, 14, 15, 16, 17, 18, 19, 20, 21, 22, 23, 24, 25, 26, 27, 28, 29, 30, 31, 32, 33, 34, 35, 36, 37, 38, 39, 40, 41, 42, 43, 44, 45, 46, 47] rfl rfl rfl rfl (by decide) rfl rfl) 39 rfl dX11_herEndWithout_52 (Nat.le_of_ble_eq_true rfl) (zrm rfl) ?_
  replace h := Option.some.inj h
  subst h
  exact z_lret1 C O dX11_herEndWithout_55 (qS 0) rfl rfl
set_option maxHeartbeats 4000000 in
set_option maxRecDepth 100000 in
theorem kX_hangs_l30b {x : zX} {G : zG} {qX qR qS qP qC qU qD qV qT : Nat → Nat} {sX : zSt} {sS : zSt} {sU : zSt} {out : Int64 × zSt × zSt} (C : zC x G RX11 cX11_hangs 9 (some .long) rmX11_hangs) (O : zO1 x G (some (.long out.1)) (fun z : Nat => wdX G qX qR qS qP qC qU qD qV qT sX ++ (wdS G qS sS ++ (wdU G qU sU ++ (wdC G qD z out.2.1 ++ (wdU G qV out.2.2))))) 0 0) {K30 : zSt → zSt → zSt → zSt → zSt → Int64 → Int64 → Int32 → Int32 → Option (Int64 × zSt × zSt)} (hK30 : ∀ (sD : zSt) (sV : zSt) (rD : Nat) (x1 : Int64) (x3 : Int64) (x5 : Int32) (x6 : Int32), K30 sX sS sU sD sV x1 x3 x5 x6 = some out → zW x G 0 0 30 [(0, .ref (qX 0)), (1, .long x1), (3, .long x3), (5, .int x5), (6, .int x6)] [] (wdX G qX qR qS qP qC qU qD qV qT sX ++ (wdS G qS sS ++ (wdU G qU sU ++ (wdC G qD rD sD ++ (wdU G qV sV)))))) {sD : zSt} {sV : zSt} {rD : Nat} {x1 : Int64} {x3 : Int64} {x5 : Int32} {x6 : Int32} (h : fX_hangs_l30b K30 sX sS sU sD sV x1 x3 x5 x6 = some out) : zW x G 0 0 30 [(0, .ref (qX 0)), (1, .long x1), (3, .long x3), (5, .int x5), (6, .int x6)] [] (wdX G qX qR qS qP qC qU qD qV qT sX ++ (wdS G qS sS ++ (wdU G qU sU ++ (wdC G qD rD sD ++ (wdU G qV sV))))) := by
  unfold fX_hangs_l30b at h
  refine z_iload C dX11_hangs_30 4 rfl ?_
  refine z_aload_n C dX11_hangs_32 0 rfl ?_
  refine rw_g_X11_29_XSUDV_X C dX11_hangs_33 ?_
  refine rw_g_X11_137_XSUDV_S C dX11_hangs_36 ?_
  refine z_icmp_ge C dX11_hangs_39 87 (by decide) h (fun h => ?_) (fun h => ?_)
  · refine z_iload C dX11_hangs_87 3 rfl ?_
    refine z_i2l C dX11_hangs_89 ?_
    replace h := Option.some.inj h
    subst h
    exact z_lret1 C O dX11_hangs_90 rD rfl rfl
  · refine z_aload_n C dX11_hangs_42 0 rfl ?_
    refine rw_g_X11_29_XSUDV_X C dX11_hangs_43 ?_
    refine z_iload C dX11_hangs_46 4 rfl ?_
    obtain ⟨y2, hy2, h⟩ := bind_o h
    refine rw_c_X11_254 C (Ct.frame (cS_canBeLeftOut hy2) (w := wdX G qX qR qS qP qC qU qD qV qT sX ++ (wdS G qS sS ++ (wdU G qU sU ++ (wdC G qD rD sD ++ (wdU G qV sV))))) (w' := wdX G qX qR qS qP qC qU qD qV qT sX ++ (wdS G qS sS ++ (wdU G qU sU ++ (wdC G qD rD sD ++ (wdU G qV sV))))) (wr := wdX G qX qR qS qP qC qU qD qV qT sX ++ (wdU G qU sU ++ (wdC G qD rD sD ++ (wdU G qV sV)))) [4, 5, 6, 7, 8, 9, 10, 11, 12, 13, 14] [0, 1, 2, 3, 15, 16, 17, 18, 19, 20, 21, 22, 23, 24, 25, 26, 27, 28, 29, 30, 31, 32, 33, 34, 35, 36, 37, 38, 39, 40, 41, 42, 43, 44, 45, 46, 47] [0, 1, 2, 3, 37, 38, 39, 40, 41, 42, 43, 44, 45, 46, 47, 4, 5, 6, 7, 8, 9, 10, 11, 12, 13, 14, 15, 16, 17, 18, 19, 20, 21, 22, 23, 24, 25, 26, 27, 28, 29, 30, 31, 32, 33, 34, 35, 36] rfl rfl rfl rfl (by decide) rfl rfl) 4 rfl dX11_hangs_48 (Nat.le_of_ble_eq_true rfl) (zrm rfl) ?_
    refine z_ifb_eq C dX11_hangs_51 81 (by decide) h (fun h => ?_) (fun h => ?_)
    · refine z_iinc C dX11_hangs_81 4 rfl 1 (by decide) (by decide) (lvr := [(0, .ref (qX 0)), (1, .long x1), (3, .long x3), (5, .int x5)]) rfl h (fun x6_3 h => ?_)
      refine z_goto C dX11_hangs_84 30 (by decide) ?_
      refine z_perm [1, 2, 3, 4, 0] (lv' := [(0, .ref (qX 0)), (1, .long x1), (3, .long x3), (5, .int x5), (6, .int x6_3)]) rfl ?_
      exact hK30 _ _ _ _ _ _ _ h
    · refine z_aload_n C dX11_hangs_54 0 rfl ?_
      refine z_iload C dX11_hangs_55 4 rfl ?_
      obtain ⟨y4, hy4, h⟩ := bind_o h
      refine rw_c_X11_257 C (cX_herEndWithout hy4) 0 rfl dX11_hangs_57 (Nat.le_of_ble_eq_true rfl) (zrm rfl) (fun rD5 => ?_)
      refine z_lload_n C dX11_hangs_60 1 rfl ?_
      refine z_lsub C dX11_hangs_61 ?_
      refine rw_math_X11_233 C dX11_hangs_62 (Nat.le_of_ble_eq_true rfl) (Nat.le_of_ble_eq_true rfl) (Nat.zero_le _) (Nat.zero_le _) ?_
      refine z_lstoreN C dX11_hangs_65 (by decide) (lvr := [(0, .ref (qX 0)), (1, .long x1), (3, .long x3), (5, .int x5), (6, .int x6)]) rfl h (fun x7_6 h => ?_)
      refine z_lload C dX11_hangs_67 0 rfl ?_
      refine z_lload_n C dX11_hangs_69 3 rfl ?_
      refine z_lcmp_le C dX11_hangs_70 dX11_hangs_71 81 (by decide) h (fun h => ?_) (fun h => ?_)
      · refine z_iinc C dX11_hangs_81 5 rfl 1 (by decide) (by decide) (lvr := [(7, .long x7_6), (0, .ref (qX 0)), (1, .long x1), (3, .long x3), (5, .int x5)]) rfl h (fun x6_7 h => ?_)
        refine z_goto C dX11_hangs_84 30 (by decide) ?_
        refine z_perm [2, 3, 4, 5, 0] (lv' := [(0, .ref (qX 0)), (1, .long x1), (3, .long x3), (5, .int x5), (6, .int x6_7)]) rfl ?_
        exact hK30 _ _ _ _ _ _ _ h
      · refine z_lload C dX11_hangs_74 0 rfl ?_
        refine z_lstore_n C dX11_hangs_76 (by decide) (lvr := [(7, .long x7_6), (0, .ref (qX 0)), (1, .long x1), (5, .int x5), (6, .int x6)]) rfl ?_
        refine z_iload C dX11_hangs_77 5 rfl ?_
        refine z_istore C dX11_hangs_79 (by decide) (lvr := [(3, .long x7_6), (7, .long x7_6), (0, .ref (qX 0)), (1, .long x1), (6, .int x6)]) rfl ?_
        refine z_iinc C dX11_hangs_81 5 rfl 1 (by decide) (by decide) (lvr := [(5, .int x6), (3, .long x7_6), (7, .long x7_6), (0, .ref (qX 0)), (1, .long x1)]) rfl h (fun x6_8 h => ?_)
        refine z_goto C dX11_hangs_84 30 (by decide) ?_
        refine z_perm [4, 5, 2, 1, 0] (lv' := [(0, .ref (qX 0)), (1, .long x1), (3, .long x7_6), (5, .int x6), (6, .int x6_8)]) rfl ?_
        exact hK30 _ _ _ _ _ _ _ h
set_option maxHeartbeats 4000000 in
set_option maxRecDepth 100000 in
theorem kX_hangs_l30 {x : zX} {G : zG} {qX qR qS qP qC qU qD qV qT : Nat → Nat} {sX : zSt} {sS : zSt} {sU : zSt} {out : Int64 × zSt × zSt} (C : zC x G RX11 cX11_hangs 9 (some .long) rmX11_hangs) (O : zO1 x G (some (.long out.1)) (fun z : Nat => wdX G qX qR qS qP qC qU qD qV qT sX ++ (wdS G qS sS ++ (wdU G qU sU ++ (wdC G qD z out.2.1 ++ (wdU G qV out.2.2))))) 0 0)  : ∀ (n : Nat) {sD : zSt} {sV : zSt} {rD : Nat} {x1 : Int64} {x3 : Int64} {x5 : Int32} {x6 : Int32}, fX_hangs_l30  n sX sS sU sD sV x1 x3 x5 x6 = some out → zW x G 0 0 30 [(0, .ref (qX 0)), (1, .long x1), (3, .long x3), (5, .int x5), (6, .int x6)] [] (wdX G qX qR qS qP qC qU qD qV qT sX ++ (wdS G qS sS ++ (wdU G qU sU ++ (wdC G qD rD sD ++ (wdU G qV sV))))) := by
  intro n
  induction n with
  | zero =>
    intro sD sV rD x1 x3 x5 x6 h
    have h : (none : Option (Int64 × zSt × zSt)) = some out := h
    cases h
  | succ n ih =>
    intro sD sV rD x1 x3 x5 x6 h
    exact kX_hangs_l30b C O (K30 := fun v0 v1 v2 v3 v4 v5 v6 v7 v8 => fX_hangs_l30  n v0 v1 v2 v3 v4 v5 v6 v7 v8) (fun sD sV rD x1 x3 x5 x6 h => ih h) h
set_option maxHeartbeats 4000000 in
set_option maxRecDepth 100000 in
theorem cX_hangs {l : Launch} {G : zG} {qX qR qS qP qC qU qD qV qT : Nat → Nat} {rD : Nat} {sX : zSt} {sS : zSt} {sU : zSt} {sD : zSt} {sV : zSt}  {out : Int64 × zSt × zSt} (h : fX_hangs sX sS sU sD sV  = some out) : Ctr l G yX11_hangs cX11_hangs 9 (some .long) rmX11_hangs [.ref (qX 0)] (wdX G qX qR qS qP qC qU qD qV qT sX ++ (wdS G qS sS ++ (wdU G qU sU ++ (wdC G qD rD sD ++ (wdU G qV sV))))) (fun _ => (some (.long out.1))) (fun z : Nat => wdX G qX qR qS qP qC qU qD qV qT sX ++ (wdS G qS sS ++ (wdU G qU sU ++ (wdC G qD z out.2.1 ++ (wdU G qV out.2.2))))) := by
  refine zMetr (own := RX11) rfl (by decide) (Nat.le_of_ble_eq_true rfl) (fun x hl C hnm O => ?_)
  show zW x G 0 0 0 [(0, .ref (qX 0))] [] _
  unfold fX_hangs at h
  refine z_aload_n C dX11_hangs_0 0 rfl ?_
  refine rw_g_X11_130_XSUDV_X C dX11_hangs_1 ?_
  refine z_if_ne C dX11_hangs_4 11 (by decide) h (fun h => ?_) (fun h => ?_)
  · refine z_aload_n C dX11_hangs_11 0 rfl ?_
    refine rw_g_X11_46_XSUDV_X C dX11_hangs_12 ?_
    obtain ⟨y1, hy1, h⟩ := bind_o h
    refine rw_c_X11_249 C (Ct.frame (cU_herEndCut hy1) (w := wdX G qX qR qS qP qC qU qD qV qT sX ++ (wdS G qS sS ++ (wdU G qU sU ++ (wdC G qD rD sD ++ (wdU G qV sV))))) (w' := wdX G qX qR qS qP qC qU qD qV qT sX ++ (wdS G qS sS ++ (wdU G qU sU ++ (wdC G qD rD sD ++ (wdU G qV sV))))) (wr := wdX G qX qR qS qP qC qU qD qV qT sX ++ (wdS G qS sS ++ (wdC G qD rD sD ++ (wdU G qV sV)))) [15, 16, 17, 18, 19, 20, 21, 22, 23] [0, 1, 2, 3, 4, 5, 6, 7, 8, 9, 10, 11, 12, 13, 14, 24, 25, 26, 27, 28, 29, 30, 31, 32, 33, 34, 35, 36, 37, 38, 39, 40, 41, 42, 43, 44, 45, 46, 47] [0, 1, 2, 3, 4, 5, 6, 7, 8, 9, 10, 11, 12, 13, 14, 39, 40, 41, 42, 43, 44, 45, 46, 47, 15, 16, 17, 18, 19, 20, 21, 22, 23, 24, 25, 26, 27, 28, 29, 30, 31, 32, 33, 34, 35, 36, 37, 38] rfl rfl rfl rfl (by decide) rfl rfl) 15 rfl dX11_hangs_15 (Nat.le_of_ble_eq_true rfl) (zrm rfl) ?_
    refine z_lstore_n C dX11_hangs_18 (by decide) (lvr := [(0, .ref (qX 0))]) rfl ?_
    refine z_ldc2 C rw_u_755 dX11_hangs_19 ?_
    refine z_lstore_n C dX11_hangs_22 (by decide) (lvr := [(1, .long y1), (0, .ref (qX 0))]) rfl ?_
    refine z_ldc C rw_u_744 dX11_hangs_23 ?_
    refine z_istore C dX11_hangs_25 (by decide) (lvr := [(3, .long (-1)), (1, .long y1), (0, .ref (qX 0))]) rfl ?_
    refine z_iconst C 0 dX11_hangs_27 (by decide) ?_
    refine z_istore C dX11_hangs_28 (by decide) (lvr := [(5, .int (-1000000)), (3, .long (-1)), (1, .long y1), (0, .ref (qX 0))]) rfl ?_
    refine z_perm [4, 3, 2, 1, 0] (lv' := [(0, .ref (qX 0)), (1, .long y1), (3, .long (-1)), (5, .int (-1000000)), (6, .int 0)]) rfl ?_
    exact kX_hangs_l30 C O  zF h
  · refine z_ldc2 C rw_u_697 dX11_hangs_7 ?_
    replace h := Option.some.inj h
    subst h
    exact z_lret1 C O dX11_hangs_10 rD rfl rfl
set_option maxHeartbeats 4000000 in
set_option maxRecDepth 100000 in
theorem cX_isNoWish {l : Launch} {G : zG}   {a0 : Int32} {out : Bool} (h : fX_isNoWish  a0 = some out) : Ct l G yX11_isNoWish cX11_isNoWish 1 (some .boolean) rmX11_isNoWish [.int a0] ([]) (some (.int (zb out))) ([]) := by
  refine zMet (own := RX11) rfl (by decide) (Nat.le_of_ble_eq_true rfl) (fun x hl C O => ?_)
  show zW x G 0 0 0 [(0, .int a0)] [] _
  unfold fX_isNoWish at h
  refine z_iload_n C dX11_isNoWish_0 0 rfl ?_
  refine z_sipush C (-9999) dX11_isNoWish_1 (by decide) ?_
  refine z_icmp_lt C dX11_isNoWish_4 14 (by decide) h (fun h => ?_) (fun h => ?_)
  · refine z_iconst C 1 dX11_isNoWish_14 (by decide) ?_
    refine z_goto C dX11_isNoWish_15 19 (by decide) ?_
    replace h := Option.some.inj h
    subst h
    exact z_zret C O dX11_isNoWish_19 (zb_nar true) rfl rfl
  · refine z_iload_n C dX11_isNoWish_7 0 rfl ?_
    refine z_sipush C 9999 dX11_isNoWish_8 (by decide) ?_
    refine z_icmp_le C dX11_isNoWish_11 18 (by decide) h (fun h => ?_) (fun h => ?_)
    · refine z_iconst C 0 dX11_isNoWish_18 (by decide) ?_
      replace h := Option.some.inj h
      subst h
      exact z_zret C O dX11_isNoWish_19 (zb_nar false) rfl rfl
    · refine z_iconst C 1 dX11_isNoWish_14 (by decide) ?_
      refine z_goto C dX11_isNoWish_15 19 (by decide) ?_
      replace h := Option.some.inj h
      subst h
      exact z_zret C O dX11_isNoWish_19 (zb_nar true) rfl rfl
set_option maxHeartbeats 4000000 in
set_option maxRecDepth 100000 in
theorem kX_beforehand_l55b {x : zX} {G : zG} {qX qR qS qP qC qU qD qV qT : Nat → Nat} {sX : zSt} {sS : zSt} {sU : zSt} {out : Int64 × zSt × zSt} (C : zC x G RX11 cX11_beforehand 5 (some .long) rmX11_beforehand) (O : zO1 x G (some (.long out.1)) (fun z : Nat => wdX G qX qR qS qP qC qU qD qV qT sX ++ (wdS G qS sS ++ (wdU G qU sU ++ (wdC G qD z out.2.1 ++ (wdU G qV out.2.2))))) 0 0) {K47 : zSt → zSt → zSt → zSt → zSt → Int32 → Int32 → Int32 → Option (Int64 × zSt × zSt)} (hK47 : ∀ (sD : zSt) (sV : zSt) (rD : Nat) (x1 : Int32) (x2 : Int32) (x3 : Int32), K47 sX sS sU sD sV x1 x2 x3 = some out → zW x G 0 0 47 [(0, .ref (qX 0)), (1, .int x1), (2, .int x2), (3, .int x3)] [] (wdX G qX qR qS qP qC qU qD qV qT sX ++ (wdS G qS sS ++ (wdU G qU sU ++ (wdC G qD rD sD ++ (wdU G qV sV)))))) {K55 : zSt → zSt → zSt → zSt → zSt → Int32 → Int32 → Int32 → Int32 → Option (Int64 × zSt × zSt)} (hK55 : ∀ (sD : zSt) (sV : zSt) (rD : Nat) (x1 : Int32) (x2 : Int32) (x3 : Int32) (x4 : Int32), K55 sX sS sU sD sV x1 x2 x3 x4 = some out → zW x G 0 0 55 [(0, .ref (qX 0)), (1, .int x1), (2, .int x2), (3, .int x3), (4, .int x4)] [] (wdX G qX qR qS qP qC qU qD qV qT sX ++ (wdS G qS sS ++ (wdU G qU sU ++ (wdC G qD rD sD ++ (wdU G qV sV)))))) {sD : zSt} {sV : zSt} {rD : Nat} {x1 : Int32} {x2 : Int32} {x3 : Int32} {x4 : Int32} (h : fX_beforehand_l55b K47 K55 sX sS sU sD sV x1 x2 x3 x4 = some out) : zW x G 0 0 55 [(0, .ref (qX 0)), (1, .int x1), (2, .int x2), (3, .int x3), (4, .int x4)] [] (wdX G qX qR qS qP qC qU qD qV qT sX ++ (wdS G qS sS ++ (wdU G qU sU ++ (wdC G qD rD sD ++ (wdU G qV sV))))) := by
  unfold fX_beforehand_l55b at h
  refine z_iload C dX11_beforehand_55 4 rfl ?_
  refine z_iconst C 3 dX11_beforehand_57 (by decide) ?_
  refine z_icmp_ge C dX11_beforehand_58 135 (by decide) h (fun h => ?_) (fun h => ?_)
  · refine z_iinc C dX11_beforehand_135 3 rfl 1 (by decide) (by decide) (lvr := [(0, .ref (qX 0)), (1, .int x1), (2, .int x2), (4, .int x4)]) rfl h (fun x3_4 h => ?_)
    refine z_goto C dX11_beforehand_138 47 (by decide) ?_
    refine z_perm [1, 2, 3, 0] (lv' := [(0, .ref (qX 0)), (1, .int x1), (2, .int x2), (3, .int x3_4)]) rfl ?_
    exact hK47 _ _ _ _ _ _ h
  · refine z_aload_n C dX11_beforehand_61 0 rfl ?_
    refine rw_g_X11_50_XSUDV_X C dX11_beforehand_62 ?_
    refine z_aload_n C dX11_beforehand_65 0 rfl ?_
    refine rw_g_X11_29_XSUDV_X C dX11_beforehand_66 ?_
    obtain ⟨y5, hy5, h⟩ := bind_o h
    refine rw_c_X11_134 C (Ct.frame (cC_begin hy5) (w := wdX G qX qR qS qP qC qU qD qV qT sX ++ (wdS G qS sS ++ (wdU G qU sU ++ (wdC G qD rD sD ++ (wdU G qV sV))))) (w' := wdX G qX qR qS qP qC qU qD qV qT sX ++ (wdS G qS sS ++ (wdU G qU sU ++ (wdC G qD (qS 0) y5 ++ (wdU G qV sV))))) (wr := wdX G qX qR qS qP qC qU qD qV qT sX ++ (wdS G qS sS ++ (wdU G qU sU ++ (wdU G qV sV)))) [24, 25, 26, 27, 28, 29, 30, 31, 32, 33, 34, 35, 36, 37, 38] [0, 1, 2, 3, 4, 5, 6, 7, 8, 9, 10, 11, 12, 13, 14, 15, 16, 17, 18, 19, 20, 21, 22, 23, 39, 40, 41, 42, 43, 44, 45, 46, 47] [0, 1, 2, 3, 4, 5, 6, 7, 8, 9, 10, 11, 12, 13, 14, 15, 16, 17, 18, 19, 20, 21, 22, 23, 33, 34, 35, 36, 37, 38, 39, 40, 41, 42, 43, 44, 45, 46, 47, 24, 25, 26, 27, 28, 29, 30, 31, 32] rfl rfl rfl rfl (by decide) rfl rfl) 24 rfl dX11_beforehand_69 (Nat.le_of_ble_eq_true rfl) (zrm rfl) ?_
    refine z_aload_n C dX11_beforehand_72 0 rfl ?_
    refine rw_g_X11_50_XSUDV_X C dX11_beforehand_73 ?_
    refine rw_g_X11_268_XSUDV_D C dX11_beforehand_76 ?_
    refine z_iload_n C dX11_beforehand_79 3 rfl ?_
    refine z_iload C dX11_beforehand_80 4 rfl ?_
    refine rw_s_XSUDV_D_2 C dX11_beforehand_82 h (fun sD6 h => ?_)
    refine z_aload_n C dX11_beforehand_83 0 rfl ?_
    refine rw_g_X11_50_XSUDV_X C dX11_beforehand_84 ?_
    refine z_iconst C 0 dX11_beforehand_87 (by decide) ?_
    refine z_aload_n C dX11_beforehand_88 0 rfl ?_
    refine rw_g_X11_29_XSUDV_X C dX11_beforehand_89 ?_
    refine rw_g_X11_137_XSUDV_S C dX11_beforehand_92 ?_
    obtain ⟨y7, hy7, h⟩ := bind_o h
    refine rw_c_X11_140 C (Ct.frame (cC_goThrough hy7) (w := wdX G qX qR qS qP qC qU qD qV qT sX ++ (wdS G qS sS ++ (wdU G qU sU ++ (wdC G qD (qS 0) sD6 ++ (wdU G qV sV))))) (w' := wdX G qX qR qS qP qC qU qD qV qT sX ++ (wdS G qS sS ++ (wdU G qU sU ++ (wdC G qD (qS 0) y7 ++ (wdU G qV sV))))) (wr := wdX G qX qR qS qP qC qU qD qV qT sX ++ (wdU G qU sU ++ (wdU G qV sV))) [24, 25, 26, 27, 28, 29, 30, 31, 32, 33, 34, 35, 36, 37, 38, 4, 5, 6, 7, 8, 9, 10, 11, 12, 13, 14] [0, 1, 2, 3, 15, 16, 17, 18, 19, 20, 21, 22, 23, 39, 40, 41, 42, 43, 44, 45, 46, 47] [0, 1, 2, 3, 37, 38, 39, 40, 41, 42, 43, 44, 45, 46, 47, 4, 5, 6, 7, 8, 9, 10, 11, 12, 22, 23, 24, 25, 26, 27, 28, 29, 30, 31, 32, 33, 34, 35, 36, 13, 14, 15, 16, 17, 18, 19, 20, 21] rfl rfl rfl rfl (by decide) rfl rfl) 24 rfl dX11_beforehand_95 (Nat.le_of_ble_eq_true rfl) (zrm rfl) ?_
    refine z_aload_n C dX11_beforehand_98 0 rfl ?_
    refine rw_g_X11_53_XSUDV_X C dX11_beforehand_99 ?_
    refine z_aload_n C dX11_beforehand_102 0 rfl ?_
    refine rw_g_X11_50_XSUDV_X C dX11_beforehand_103 ?_
    obtain ⟨y8, hy8, h⟩ := bind_o h
    refine rw_c_X11_144 C (Ct.frame (cU_reckon hy8) (w := wdX G qX qR qS qP qC qU qD qV qT sX ++ (wdS G qS sS ++ (wdU G qU sU ++ (wdC G qD (qS 0) y7 ++ (wdU G qV sV))))) (w' := wdX G qX qR qS qP qC qU qD qV qT sX ++ (wdS G qS sS ++ (wdU G qU sU ++ (wdC G qD (qS 0) y7 ++ (wdU G qV y8))))) (wr := wdX G qX qR qS qP qC qU qD qV qT sX ++ (wdU G qU sU)) [39, 40, 41, 42, 43, 44, 45, 46, 47, 24, 25, 26, 27, 28, 29, 30, 31, 32, 33, 34, 35, 36, 37, 38, 4, 5, 6, 7, 8, 9, 10, 11, 12, 13, 14] [0, 1, 2, 3, 15, 16, 17, 18, 19, 20, 21, 22, 23] [0, 1, 2, 3, 37, 38, 39, 40, 41, 42, 43, 44, 45, 46, 47, 4, 5, 6, 7, 8, 9, 10, 11, 12, 22, 23, 24, 25, 26, 27, 28, 29, 30, 31, 32, 33, 34, 35, 36, 13, 14, 15, 16, 17, 18, 19, 20, 21] rfl rfl rfl rfl (by decide) rfl rfl) 39 rfl dX11_beforehand_106 (Nat.le_of_ble_eq_true rfl) (zrm rfl) ?_
    refine z_aload_n C dX11_beforehand_109 0 rfl ?_
    refine rw_g_X11_53_XSUDV_X C dX11_beforehand_110 ?_
    refine z_iload_n C dX11_beforehand_113 1 rfl ?_
    refine z_iload_n C dX11_beforehand_114 2 rfl ?_
    obtain ⟨y9, hy9, h⟩ := bind_o h
    refine rw_c_X11_263 C (Ct.frame (cU_grants hy9) (w := wdX G qX qR qS qP qC qU qD qV qT sX ++ (wdS G qS sS ++ (wdU G qU sU ++ (wdC G qD (qS 0) y7 ++ (wdU G qV y8))))) (w' := wdX G qX qR qS qP qC qU qD qV qT sX ++ (wdS G qS sS ++ (wdU G qU sU ++ (wdC G qD (qS 0) y7 ++ (wdU G qV y8))))) (wr := wdX G qX qR qS qP qC qU qD qV qT sX ++ (wdS G qS sS ++ (wdU G qU sU ++ (wdC G qD (qS 0) y7)))) [39, 40, 41, 42, 43, 44, 45, 46, 47] [0, 1, 2, 3, 4, 5, 6, 7, 8, 9, 10, 11, 12, 13, 14, 15, 16, 17, 18, 19, 20, 21, 22, 23, 24, 25, 26, 27, 28, 29, 30, 31, 32, 33, 34, 35, 36, 37, 38] [0, 1, 2, 3, 4, 5, 6, 7, 8, 9, 10, 11, 12, 13, 14, 15, 16, 17, 18, 19, 20, 21, 22, 23, 24, 25, 26, 27, 28, 29, 30, 31, 32, 33, 34, 35, 36, 37, 38, 39, 40, 41, 42, 43, 44, 45, 46, 47] rfl rfl rfl rfl (by decide) rfl rfl) 39 rfl dX11_beforehand_115 (Nat.le_of_ble_eq_true rfl) (zrm rfl) ?_
    refine z_ifb_eq C dX11_beforehand_118 129 (by decide) h (fun h => ?_) (fun h => ?_)
    · refine z_iinc C dX11_beforehand_129 4 rfl 1 (by decide) (by decide) (lvr := [(0, .ref (qX 0)), (1, .int x1), (2, .int x2), (3, .int x3)]) rfl h (fun x4_10 h => ?_)
      refine z_goto C dX11_beforehand_132 55 (by decide) ?_
      refine z_perm [1, 2, 3, 4, 0] (lv' := [(0, .ref (qX 0)), (1, .int x1), (2, .int x2), (3, .int x3), (4, .int x4_10)]) rfl ?_
      exact hK55 _ _ _ _ _ _ _ h
    · refine z_iload_n C dX11_beforehand_121 3 rfl ?_
      refine z_iconst C 3 dX11_beforehand_122 (by decide) ?_
      refine z_imul C dX11_beforehand_123 ?_
      refine z_iload C dX11_beforehand_124 4 rfl ?_
      refine z_iadd C dX11_beforehand_126 ?_
      refine z_i2l C dX11_beforehand_127 ?_
      replace h := Option.some.inj h
      subst h
      exact z_lret1 C O dX11_beforehand_128 (qS 0) rfl rfl
set_option maxHeartbeats 4000000 in
set_option maxRecDepth 100000 in
theorem kX_beforehand_l55 {x : zX} {G : zG} {qX qR qS qP qC qU qD qV qT : Nat → Nat} {sX : zSt} {sS : zSt} {sU : zSt} {out : Int64 × zSt × zSt} (C : zC x G RX11 cX11_beforehand 5 (some .long) rmX11_beforehand) (O : zO1 x G (some (.long out.1)) (fun z : Nat => wdX G qX qR qS qP qC qU qD qV qT sX ++ (wdS G qS sS ++ (wdU G qU sU ++ (wdC G qD z out.2.1 ++ (wdU G qV out.2.2))))) 0 0) {K47 : zSt → zSt → zSt → zSt → zSt → Int32 → Int32 → Int32 → Option (Int64 × zSt × zSt)} (hK47 : ∀ (sD : zSt) (sV : zSt) (rD : Nat) (x1 : Int32) (x2 : Int32) (x3 : Int32), K47 sX sS sU sD sV x1 x2 x3 = some out → zW x G 0 0 47 [(0, .ref (qX 0)), (1, .int x1), (2, .int x2), (3, .int x3)] [] (wdX G qX qR qS qP qC qU qD qV qT sX ++ (wdS G qS sS ++ (wdU G qU sU ++ (wdC G qD rD sD ++ (wdU G qV sV)))))) : ∀ (n : Nat) {sD : zSt} {sV : zSt} {rD : Nat} {x1 : Int32} {x2 : Int32} {x3 : Int32} {x4 : Int32}, fX_beforehand_l55 K47 n sX sS sU sD sV x1 x2 x3 x4 = some out → zW x G 0 0 55 [(0, .ref (qX 0)), (1, .int x1), (2, .int x2), (3, .int x3), (4, .int x4)] [] (wdX G qX qR qS qP qC qU qD qV qT sX ++ (wdS G qS sS ++ (wdU G qU sU ++ (wdC G qD rD sD ++ (wdU G qV sV))))) := by
  intro n
  induction n with
  | zero =>
    intro sD sV rD x1 x2 x3 x4 h
    have h : (none : Option (Int64 × zSt × zSt)) = some out := h
    cases h
  | succ n ih =>
    intro sD sV rD x1 x2 x3 x4 h
    exact kX_beforehand_l55b C O hK47 (K55 := fun v0 v1 v2 v3 v4 v5 v6 v7 v8 => fX_beforehand_l55 K47 n v0 v1 v2 v3 v4 v5 v6 v7 v8) (fun sD sV rD x1 x2 x3 x4 h => ih h) h
set_option maxHeartbeats 4000000 in
set_option maxRecDepth 100000 in
theorem kX_beforehand_l47b {x : zX} {G : zG} {qX qR qS qP qC qU qD qV qT : Nat → Nat} {sX : zSt} {sS : zSt} {sU : zSt} {out : Int64 × zSt × zSt} (C : zC x G RX11 cX11_beforehand 5 (some .long) rmX11_beforehand) (O : zO1 x G (some (.long out.1)) (fun z : Nat => wdX G qX qR qS qP qC qU qD qV qT sX ++ (wdS G qS sS ++ (wdU G qU sU ++ (wdC G qD z out.2.1 ++ (wdU G qV out.2.2))))) 0 0) {K47 : zSt → zSt → zSt → zSt → zSt → Int32 → Int32 → Int32 → Option (Int64 × zSt × zSt)} (hK47 : ∀ (sD : zSt) (sV : zSt) (rD : Nat) (x1 : Int32) (x2 : Int32) (x3 : Int32), K47 sX sS sU sD sV x1 x2 x3 = some out → zW x G 0 0 47 [(0, .ref (qX 0)), (1, .int x1), (2, .int x2), (3, .int x3)] [] (wdX G qX qR qS qP qC qU qD qV qT sX ++ (wdS G qS sS ++ (wdU G qU sU ++ (wdC G qD rD sD ++ (wdU G qV sV)))))) {sD : zSt} {sV : zSt} {rD : Nat} {x1 : Int32} {x2 : Int32} {x3 : Int32} (h : fX_beforehand_l47b K47 sX sS sU sD sV x1 x2 x3 = some out) : zW x G 0 0 47 [(0, .ref (qX 0)), (1, .int x1), (2, .int x2), (3, .int x3)] [] (wdX G qX qR qS qP qC qU qD qV qT sX ++ (wdS G qS sS ++ (wdU G qU sU ++ (wdC G qD rD sD ++ (wdU G qV sV))))) := by
  unfold fX_beforehand_l47b at h
  refine z_iload_n C dX11_beforehand_47 3 rfl ?_
  refine z_iconst C 5 dX11_beforehand_48 (by decide) ?_
  refine z_icmp_ge C dX11_beforehand_49 141 (by decide) h (fun h => ?_) (fun h => ?_)
  · refine z_ldc2 C rw_u_687 dX11_beforehand_141 ?_
    replace h := Option.some.inj h
    subst h
    exact z_lret1 C O dX11_beforehand_144 rD rfl rfl
  · refine z_iconst C 0 dX11_beforehand_52 (by decide) ?_
    refine z_istore C dX11_beforehand_53 (by decide) (lvr := [(0, .ref (qX 0)), (1, .int x1), (2, .int x2), (3, .int x3)]) rfl ?_
    refine z_perm [1, 2, 3, 4, 0] (lv' := [(0, .ref (qX 0)), (1, .int x1), (2, .int x2), (3, .int x3), (4, .int 0)]) rfl ?_
    exact kX_beforehand_l55 C O hK47 zF h
set_option maxHeartbeats 4000000 in
set_option maxRecDepth 100000 in
theorem kX_beforehand_l47 {x : zX} {G : zG} {qX qR qS qP qC qU qD qV qT : Nat → Nat} {sX : zSt} {sS : zSt} {sU : zSt} {out : Int64 × zSt × zSt} (C : zC x G RX11 cX11_beforehand 5 (some .long) rmX11_beforehand) (O : zO1 x G (some (.long out.1)) (fun z : Nat => wdX G qX qR qS qP qC qU qD qV qT sX ++ (wdS G qS sS ++ (wdU G qU sU ++ (wdC G qD z out.2.1 ++ (wdU G qV out.2.2))))) 0 0)  : ∀ (n : Nat) {sD : zSt} {sV : zSt} {rD : Nat} {x1 : Int32} {x2 : Int32} {x3 : Int32}, fX_beforehand_l47  n sX sS sU sD sV x1 x2 x3 = some out → zW x G 0 0 47 [(0, .ref (qX 0)), (1, .int x1), (2, .int x2), (3, .int x3)] [] (wdX G qX qR qS qP qC qU qD qV qT sX ++ (wdS G qS sS ++ (wdU G qU sU ++ (wdC G qD rD sD ++ (wdU G qV sV))))) := by
  intro n
  induction n with
  | zero =>
    intro sD sV rD x1 x2 x3 h
    have h : (none : Option (Int64 × zSt × zSt)) = some out := h
    cases h
  | succ n ih =>
    intro sD sV rD x1 x2 x3 h
    exact kX_beforehand_l47b C O (K47 := fun v0 v1 v2 v3 v4 v5 v6 v7 => fX_beforehand_l47  n v0 v1 v2 v3 v4 v5 v6 v7) (fun sD sV rD x1 x2 x3 h => ih h) h
set_option maxHeartbeats 4000000 in
set_option maxRecDepth 100000 in
theorem cX_beforehand {l : Launch} {G : zG} {qX qR qS qP qC qU qD qV qT : Nat → Nat} {rD : Nat} {sX : zSt} {sS : zSt} {sU : zSt} {sD : zSt} {sV : zSt} {a0 : Int32} {a1 : Int32} {out : Int64 × zSt × zSt} (h : fX_beforehand sX sS sU sD sV a0 a1 = some out) : Ctr l G yX11_beforehand cX11_beforehand 5 (some .long) rmX11_beforehand [.ref (qX 0), .int a0, .int a1] (wdX G qX qR qS qP qC qU qD qV qT sX ++ (wdS G qS sS ++ (wdU G qU sU ++ (wdC G qD rD sD ++ (wdU G qV sV))))) (fun _ => (some (.long out.1))) (fun z : Nat => wdX G qX qR qS qP qC qU qD qV qT sX ++ (wdS G qS sS ++ (wdU G qU sU ++ (wdC G qD z out.2.1 ++ (wdU G qV out.2.2))))) := by
  refine zMetr (own := RX11) rfl (by decide) (Nat.le_of_ble_eq_true rfl) (fun x hl C hnm O => ?_)
  show zW x G 0 0 0 [(0, .ref (qX 0)), (1, .int a0), (2, .int a1)] [] _
  unfold fX_beforehand at h
  refine z_iload_n C dX11_beforehand_0 1 rfl ?_
  obtain ⟨y1, hy1, h⟩ := bind_o h
  refine rw_c_X11_260 C (Ct.frame0 (cX_isNoWish hy1)) dX11_beforehand_1 (Nat.le_of_ble_eq_true rfl) (zrm rfl) ?_
  refine z_ifb_ne C dX11_beforehand_4 14 (by decide) h (fun h => ?_) (fun h => ?_)
  · refine z_ldc2 C rw_u_403 dX11_beforehand_14 ?_
    replace h := Option.some.inj h
    subst h
    exact z_lret1 C O dX11_beforehand_17 rD rfl rfl
  · refine z_iload_n C dX11_beforehand_7 2 rfl ?_
    obtain ⟨y2, hy2, h⟩ := bind_o h
    refine rw_c_X11_260 C (Ct.frame0 (cX_isNoWish hy2)) dX11_beforehand_8 (Nat.le_of_ble_eq_true rfl) (zrm rfl) ?_
    refine z_ifb_eq C dX11_beforehand_11 18 (by decide) h (fun h => ?_) (fun h => ?_)
    · refine z_aload_n C dX11_beforehand_18 0 rfl ?_
      refine rw_g_X11_130_XSUDV_X C dX11_beforehand_19 ?_
      refine z_if_ne C dX11_beforehand_22 29 (by decide) h (fun h => ?_) (fun h => ?_)
      · refine z_aload_n C dX11_beforehand_29 0 rfl ?_
        refine rw_g_X11_46_XSUDV_X C dX11_beforehand_30 ?_
        refine z_iload_n C dX11_beforehand_33 1 rfl ?_
        refine z_iload_n C dX11_beforehand_34 2 rfl ?_
        obtain ⟨y3, hy3, h⟩ := bind_o h
        refine rw_c_X11_263 C (Ct.frame (cU_grants hy3) (w := wdX G qX qR qS qP qC qU qD qV qT sX ++ (wdS G qS sS ++ (wdU G qU sU ++ (wdC G qD rD sD ++ (wdU G qV sV))))) (w' := wdX G qX qR qS qP qC qU qD qV qT sX ++ (wdS G qS sS ++ (wdU G qU sU ++ (wdC G qD rD sD ++ (wdU G qV sV))))) (wr := wdX G qX qR qS qP qC qU qD qV qT sX ++ (wdS G qS sS ++ (wdC G qD rD sD ++ (wdU G qV sV)))) [15, 16, 17, 18, 19, 20, 21, 22, 23] [0, 1, 2, 3, 4, 5, 6, 7, 8, 9, 10, 11, 12, 13, 14, 24, 25, 26, 27, 28, 29, 30, 31, 32, 33, 34, 35, 36, 37, 38, 39, 40, 41, 42, 43, 44, 45, 46, 47] [0, 1, 2, 3, 4, 5, 6, 7, 8, 9, 10, 11, 12, 13, 14, 39, 40, 41, 42, 43, 44, 45, 46, 47, 15, 16, 17, 18, 19, 20, 21, 22, 23, 24, 25, 26, 27, 28, 29, 30, 31, 32, 33, 34, 35, 36, 37, 38] rfl rfl rfl rfl (by decide) rfl rfl) 15 rfl dX11_beforehand_35 (Nat.le_of_ble_eq_true rfl) (zrm rfl) ?_
        refine z_ifb_eq C dX11_beforehand_38 45 (by decide) h (fun h => ?_) (fun h => ?_)
        · refine z_iconst C 0 dX11_beforehand_45 (by decide) ?_
          refine z_istore_n C dX11_beforehand_46 (by decide) (lvr := [(0, .ref (qX 0)), (1, .int a0), (2, .int a1)]) rfl ?_
          refine z_perm [1, 2, 3, 0] (lv' := [(0, .ref (qX 0)), (1, .int a0), (2, .int a1), (3, .int 0)]) rfl ?_
          exact kX_beforehand_l47 C O  zF h
        · refine z_ldc2 C rw_u_775 dX11_beforehand_41 ?_
          replace h := Option.some.inj h
          subst h
          exact z_lret1 C O dX11_beforehand_44 rD rfl rfl
      · refine z_ldc2 C rw_u_697 dX11_beforehand_25 ?_
        replace h := Option.some.inj h
        subst h
        exact z_lret1 C O dX11_beforehand_28 rD rfl rfl
    · refine z_ldc2 C rw_u_403 dX11_beforehand_14 ?_
      replace h := Option.some.inj h
      subst h
      exact z_lret1 C O dX11_beforehand_17 rD rfl rfl
set_option maxHeartbeats 4000000 in
set_option maxRecDepth 100000 in
theorem cX_trace {l : Launch} {G : zG} {qX qR qS qP qC qU qD qV qT : Nat → Nat} {sX : zSt} {sT : zSt} {a0 : Int32} {out : Int32} (h : fX_trace sX sT a0 = some out) : Ct l G yX11_trace cX11_trace 2 (some .int) rmX11_trace [.ref (qX 0), .int a0] (wdX G qX qR qS qP qC qU qD qV qT sX ++ (wdT G qT sT)) (some (.int out)) (wdX G qX qR qS qP qC qU qD qV qT sX ++ (wdT G qT sT)) := by
  refine zMet (own := RX11) rfl (by decide) (Nat.le_of_ble_eq_true rfl) (fun x hl C O => ?_)
  show zW x G 0 0 0 [(0, .ref (qX 0)), (1, .int a0)] [] _
  unfold fX_trace at h
  refine z_iload_n C dX11_trace_0 1 rfl ?_
  refine z_if_lt C dX11_trace_1 27 (by decide) h (fun h => ?_) (fun h => ?_)
  · refine z_ldc C rw_u_744 dX11_trace_27 ?_
    replace h := Option.some.inj h
    subst h
    exact z_iret C O dX11_trace_29 rfl rfl
  · refine z_iload_n C dX11_trace_4 1 rfl ?_
    refine z_aload_n C dX11_trace_5 0 rfl ?_
    refine rw_g_X11_59_XT_X C dX11_trace_6 ?_
    refine rw_g_X11_290_XT_T C dX11_trace_9 ?_
    refine z_icmp_ge C dX11_trace_12 27 (by decide) h (fun h => ?_) (fun h => ?_)
    · refine z_ldc C rw_u_744 dX11_trace_27 ?_
      replace h := Option.some.inj h
      subst h
      exact z_iret C O dX11_trace_29 rfl rfl
    · refine z_aload_n C dX11_trace_15 0 rfl ?_
      refine rw_g_X11_59_XT_X C dX11_trace_16 ?_
      refine rw_g_X11_291_XT_T C dX11_trace_19 ?_
      refine z_iload_n C dX11_trace_22 1 rfl ?_
      refine rw_l_XT_T_0 C dX11_trace_23 h (fun h => ?_)
      refine z_goto C dX11_trace_24 29 (by decide) ?_
      replace h := Option.some.inj h
      subst h
      exact z_iret C O dX11_trace_29 rfl rfl
set_option maxHeartbeats 4000000 in
set_option maxRecDepth 100000 in
theorem kX_rowsThatAre_l4b {x : zX} {G : zG} {qX qR qS qP qC qU qD qV qT : Nat → Nat} {sX : zSt} {out : Int32} (C : zC x G RX11 cX11_rowsThatAre 3 (some .int) rmX11_rowsThatAre) (O : zO x G (some (.int out)) (wdX G qX qR qS qP qC qU qD qV qT sX) 0 0) {K4 : zSt → Int32 → Int32 → Option (Int32)} (hK4 : ∀  (x1 : Int32) (x2 : Int32), K4 sX x1 x2 = some out → zW x G 0 0 4 [(0, .ref (qX 0)), (1, .int x1), (2, .int x2)] [] (wdX G qX qR qS qP qC qU qD qV qT sX))  {x1 : Int32} {x2 : Int32} (h : fX_rowsThatAre_l4b K4 sX x1 x2 = some out) : zW x G 0 0 4 [(0, .ref (qX 0)), (1, .int x1), (2, .int x2)] [] (wdX G qX qR qS qP qC qU qD qV qT sX) := by
  unfold fX_rowsThatAre_l4b at h
  refine z_iload_n C dX11_rowsThatAre_4 2 rfl ?_
  refine z_bipush C 8 dX11_rowsThatAre_5 (by decide) ?_
  refine z_icmp_ge C dX11_rowsThatAre_7 27 (by decide) h (fun h => ?_) (fun h => ?_)
  · refine z_iload_n C dX11_rowsThatAre_27 1 rfl ?_
    replace h := Option.some.inj h
    subst h
    exact z_iret C O dX11_rowsThatAre_28 rfl rfl
  · refine z_aload_n C dX11_rowsThatAre_10 0 rfl ?_
    refine z_iload_n C dX11_rowsThatAre_11 2 rfl ?_
    obtain ⟨y1, hy1, h⟩ := bind_o h
    refine rw_c_X11_83 C (cX_isMissing hy1) 0 rfl dX11_rowsThatAre_12 (Nat.le_of_ble_eq_true rfl) (zrm rfl) ?_
    refine z_ifb_ne C dX11_rowsThatAre_15 21 (by decide) h (fun h => ?_) (fun h => ?_)
    · refine z_iinc C dX11_rowsThatAre_21 2 rfl 1 (by decide) (by decide) (lvr := [(0, .ref (qX 0)), (1, .int x1)]) rfl h (fun x2_2 h => ?_)
      refine z_goto C dX11_rowsThatAre_24 4 (by decide) ?_
      refine z_perm [1, 2, 0] (lv' := [(0, .ref (qX 0)), (1, .int x1), (2, .int x2_2)]) rfl ?_
      exact hK4   _ _ h
    · refine z_iinc C dX11_rowsThatAre_18 1 rfl 1 (by decide) (by decide) (lvr := [(0, .ref (qX 0)), (2, .int x2)]) rfl h (fun x1_3 h => ?_)
      refine z_iinc C dX11_rowsThatAre_21 2 rfl 1 (by decide) (by decide) (lvr := [(1, .int x1_3), (0, .ref (qX 0))]) rfl h (fun x2_4 h => ?_)
      refine z_goto C dX11_rowsThatAre_24 4 (by decide) ?_
      refine z_perm [2, 1, 0] (lv' := [(0, .ref (qX 0)), (1, .int x1_3), (2, .int x2_4)]) rfl ?_
      exact hK4   _ _ h
set_option maxHeartbeats 4000000 in
set_option maxRecDepth 100000 in
theorem kX_rowsThatAre_l4 {x : zX} {G : zG} {qX qR qS qP qC qU qD qV qT : Nat → Nat} {sX : zSt} {out : Int32} (C : zC x G RX11 cX11_rowsThatAre 3 (some .int) rmX11_rowsThatAre) (O : zO x G (some (.int out)) (wdX G qX qR qS qP qC qU qD qV qT sX) 0 0)  : ∀ (n : Nat)  {x1 : Int32} {x2 : Int32}, fX_rowsThatAre_l4  n sX x1 x2 = some out → zW x G 0 0 4 [(0, .ref (qX 0)), (1, .int x1), (2, .int x2)] [] (wdX G qX qR qS qP qC qU qD qV qT sX) := by
  intro n
  induction n with
  | zero =>
    intro  x1 x2 h
    have h : (none : Option (Int32)) = some out := h
    cases h
  | succ n ih =>
    intro  x1 x2 h
    exact kX_rowsThatAre_l4b C O (K4 := fun v0 v1 v2 => fX_rowsThatAre_l4  n v0 v1 v2) (fun  x1 x2 h => ih h) h
set_option maxHeartbeats 4000000 in
set_option maxRecDepth 100000 in
theorem cX_rowsThatAre {l : Launch} {G : zG} {qX qR qS qP qC qU qD qV qT : Nat → Nat} {sX : zSt}  {out : Int32} (h : fX_rowsThatAre sX  = some out) : Ct l G yX11_rowsThatAre cX11_rowsThatAre 3 (some .int) rmX11_rowsThatAre [.ref (qX 0)] (wdX G qX qR qS qP qC qU qD qV qT sX) (some (.int out)) (wdX G qX qR qS qP qC qU qD qV qT sX) := by
  refine zMet (own := RX11) rfl (by decide) (Nat.le_of_ble_eq_true rfl) (fun x hl C O => ?_)
  show zW x G 0 0 0 [(0, .ref (qX 0))] [] _
  unfold fX_rowsThatAre at h
  refine z_iconst C 0 dX11_rowsThatAre_0 (by decide) ?_
  refine z_istore_n C dX11_rowsThatAre_1 (by decide) (lvr := [(0, .ref (qX 0))]) rfl ?_
  refine z_iconst C 0 dX11_rowsThatAre_2 (by decide) ?_
  refine z_istore_n C dX11_rowsThatAre_3 (by decide) (lvr := [(1, .int 0), (0, .ref (qX 0))]) rfl ?_
  refine z_perm [2, 1, 0] (lv' := [(0, .ref (qX 0)), (1, .int 0), (2, .int 0)]) rfl ?_
  exact kX_rowsThatAre_l4 C O  zF h
set_option maxHeartbeats 4000000 in
set_option maxRecDepth 100000 in
theorem cX_count {l : Launch} {G : zG} {qX qR qS qP qC qU qD qV qT : Nat → Nat} {rC : Nat} {sX : zSt} {sR : zSt} {sS : zSt} {sC : zSt} {a0 : Int32} {out : Int64} (h : fX_count sX sR sS sC a0 = some out) : Ct l G yX11_count cX11_count 2 (some .long) rmX11_count [.ref (qX 0), .int a0] (wdX G qX qR qS qP qC qU qD qV qT sX ++ (wdR G qR sR ++ (wdS G qS sS ++ (wdC G qC rC sC)))) (some (.long out)) (wdX G qX qR qS qP qC qU qD qV qT sX ++ (wdR G qR sR ++ (wdS G qS sS ++ (wdC G qC rC sC)))) := by
  refine zMet (own := RX11) rfl (by decide) (Nat.le_of_ble_eq_true rfl) (fun x hl C O => ?_)
  show zW x G 0 0 0 [(0, .ref (qX 0)), (1, .int a0)] [] _
  unfold fX_count at h
  refine z_iload_n C dX11_count_0 1 rfl ?_
  by_cases hc0 : a0 = 0
  · refine z_tcase (off := 43) C dX11_count_1 0 hc0 (by decide) (by decide) (by decide) 44 (by decide) ?_
    replace h := zite_t h hc0
    refine z_aload_n C dX11_count_44 0 rfl ?_
    obtain ⟨y1, hy1, h⟩ := bind_o h
    refine rw_c_X11_294 C (Ct.frame (cX_rowsThatAre hy1) (w := wdX G qX qR qS qP qC qU qD qV qT sX ++ (wdR G qR sR ++ (wdS G qS sS ++ (wdC G qC rC sC)))) (w' := wdX G qX qR qS qP qC qU qD qV qT sX ++ (wdR G qR sR ++ (wdS G qS sS ++ (wdC G qC rC sC)))) (wr := wdR G qR sR ++ (wdS G qS sS ++ (wdC G qC rC sC))) [0, 1, 2, 3] [4, 5, 6, 7, 8, 9, 10, 11, 12, 13, 14, 15, 16, 17, 18, 19, 20, 21, 22, 23, 24, 25, 26, 27, 28, 29, 30, 31] [28, 29, 30, 31, 0, 1, 2, 3, 4, 5, 6, 7, 8, 9, 10, 11, 12, 13, 14, 15, 16, 17, 18, 19, 20, 21, 22, 23, 24, 25, 26, 27] rfl rfl rfl rfl (by decide) rfl rfl) 0 rfl dX11_count_45 (Nat.le_of_ble_eq_true rfl) (zrm rfl) ?_
    refine z_i2l C dX11_count_48 ?_
    replace h := Option.some.inj h
    subst h
    exact z_lret C O dX11_count_49 rfl rfl
  · replace h := zite_f h hc0
    by_cases hc1 : a0 = 1
    · refine z_tcase (off := 49) C dX11_count_1 1 hc1 (by decide) (by decide) (by decide) 50 (by decide) ?_
      replace h := zite_t h hc1
      refine z_aload_n C dX11_count_50 0 rfl ?_
      refine rw_g_X11_29_XRSC_X C dX11_count_51 ?_
      refine rw_g_X11_242_XRSC_S C dX11_count_54 ?_
      refine z_i2l C dX11_count_57 ?_
      replace h := Option.some.inj h
      subst h
      exact z_lret C O dX11_count_58 rfl rfl
    · replace h := zite_f h hc1
      by_cases hc2 : a0 = 2
      · refine z_tcase (off := 58) C dX11_count_1 2 hc2 (by decide) (by decide) (by decide) 59 (by decide) ?_
        replace h := zite_t h hc2
        refine z_aload_n C dX11_count_59 0 rfl ?_
        refine rw_g_X11_29_XRSC_X C dX11_count_60 ?_
        refine rw_g_X11_137_XRSC_S C dX11_count_63 ?_
        refine z_i2l C dX11_count_66 ?_
        replace h := Option.some.inj h
        subst h
        exact z_lret C O dX11_count_67 rfl rfl
      · replace h := zite_f h hc2
        by_cases hc3 : a0 = 3
        · refine z_tcase (off := 67) C dX11_count_1 3 hc3 (by decide) (by decide) (by decide) 68 (by decide) ?_
          replace h := zite_t h hc3
          refine z_aload_n C dX11_count_68 0 rfl ?_
          refine rw_g_X11_39_XRSC_X C dX11_count_69 ?_
          refine rw_g_X11_158_XRSC_C C dX11_count_72 ?_
          refine z_i2l C dX11_count_75 ?_
          replace h := Option.some.inj h
          subst h
          exact z_lret C O dX11_count_76 rfl rfl
        · replace h := zite_f h hc3
          by_cases hc4 : a0 = 4
          · refine z_tcase (off := 76) C dX11_count_1 4 hc4 (by decide) (by decide) (by decide) 77 (by decide) ?_
            replace h := zite_t h hc4
            refine z_aload_n C dX11_count_77 0 rfl ?_
            refine rw_g_X11_39_XRSC_X C dX11_count_78 ?_
            refine rw_g_X11_298_XRSC_C C dX11_count_81 ?_
            refine z_i2l C dX11_count_84 ?_
            replace h := Option.some.inj h
            subst h
            exact z_lret C O dX11_count_85 rfl rfl
          · replace h := zite_f h hc4
            by_cases hc5 : a0 = 5
            · refine z_tcase (off := 85) C dX11_count_1 5 hc5 (by decide) (by decide) (by decide) 86 (by decide) ?_
              replace h := zite_t h hc5
              refine z_aload_n C dX11_count_86 0 rfl ?_
              refine rw_g_X11_22_XRSC_X C dX11_count_87 ?_
              refine rw_g_X11_106_XRSC_R C dX11_count_90 ?_
              refine z_i2l C dX11_count_93 ?_
              replace h := Option.some.inj h
              subst h
              exact z_lret C O dX11_count_94 rfl rfl
            · replace h := zite_f h hc5
              by_cases hc6 : a0 = 6
              · refine z_tcase (off := 94) C dX11_count_1 6 hc6 (by decide) (by decide) (by decide) 95 (by decide) ?_
                replace h := zite_t h hc6
                refine z_aload_n C dX11_count_95 0 rfl ?_
                refine rw_g_X11_130_XRSC_X C dX11_count_96 ?_
                refine z_if_eq C dX11_count_99 113 (by decide) h (fun h => ?_) (fun h => ?_)
                · refine z_ldc2 C rw_u_687 dX11_count_113 ?_
                  replace h := Option.some.inj h
                  subst h
                  exact z_lret C O dX11_count_116 rfl rfl
                · refine z_aload_n C dX11_count_102 0 rfl ?_
                  refine rw_g_X11_39_XRSC_X C dX11_count_103 ?_
                  refine rw_g_X11_301_XRSC_C C dX11_count_106 ?_
                  refine z_i2l C dX11_count_109 ?_
                  refine z_goto C dX11_count_110 116 (by decide) ?_
                  replace h := Option.some.inj h
                  subst h
                  exact z_lret C O dX11_count_116 rfl rfl
              · replace h := zite_f h hc6
                refine z_tout C dX11_count_1 (ztoutL 7 (by decide) (by intro k hk; match k, hk with | 0, _ => exact hc0 | 1, _ => exact hc1 | 2, _ => exact hc2 | 3, _ => exact hc3 | 4, _ => exact hc4 | 5, _ => exact hc5 | 6, _ => exact hc6 | k + 7, hk => exact absurd hk (by omega))) 117 (by decide) ?_
                refine z_ldc2 C rw_u_403 dX11_count_117 ?_
                replace h := Option.some.inj h
                subst h
                exact z_lret C O dX11_count_120 rfl rfl
set_option maxHeartbeats 4000000 in
set_option maxRecDepth 100000 in
theorem cX_status {l : Launch} {G : zG} {qX qR qS qP qC qU qD qV qT : Nat → Nat} {sX : zSt}  {out : Int32} (h : fX_status sX  = some out) : Ct l G yX11_status cX11_status 1 (some .int) rmX11_status [.ref (qX 0)] (wdX G qX qR qS qP qC qU qD qV qT sX) (some (.int out)) (wdX G qX qR qS qP qC qU qD qV qT sX) := by
  refine zMet (own := RX11) rfl (by decide) (Nat.le_of_ble_eq_true rfl) (fun x hl C O => ?_)
  show zW x G 0 0 0 [(0, .ref (qX 0))] [] _
  unfold fX_status at h
  refine z_aload_n C dX11_status_0 0 rfl ?_
  refine rw_g_X11_100_X_X C dX11_status_1 ?_
  replace h := Option.some.inj h
  subst h
  exact z_iret C O dX11_status_4 rfl rfl

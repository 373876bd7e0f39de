section
-- ===== PART A: goes FIRST, ahead of the names: the tables' words, and 'selects' of the private methods out of them =====
/-- a private method of a class that the tables say can be made, by its rows of tables_1 -/
def lw_okq (q : MethodName × Nat) : Prop := (q.1.cls ≠ "java/lang/invoke/MethodHandle" ∧ q.1.cls ≠ "java/lang/invoke/VarHandle") ∧ Cond.instantiable q.1.cls q.2 ∈ tables_1 ∧ Cond.privateMethod q.1 ∈ tables_1 ∧ Cond.instanceMethod q.1 ∈ tables_1
theorem lw_p0 : lw_okq (⟨"WhatWasHers", "found", "(I)J"⟩, 14) := ⟨⟨by decide +kernel, by decide +kernel⟩, List.mem_of_getElem? (i := 22) (by decide +kernel), List.mem_of_getElem? (i := 335) (by decide +kernel), List.mem_of_getElem? (i := 336) (by decide +kernel)⟩
theorem lw_p1 : lw_okq (⟨"WhatWasHers", "fine", "(J)J"⟩, 14) := ⟨⟨by decide +kernel, by decide +kernel⟩, List.mem_of_getElem? (i := 22) (by decide +kernel), List.mem_of_getElem? (i := 340) (by decide +kernel), List.mem_of_getElem? (i := 341) (by decide +kernel)⟩
theorem lw_p2 : lw_okq (⟨"WhatWasHers", "isMissing", "(I)Z"⟩, 14) := ⟨⟨by decide +kernel, by decide +kernel⟩, List.mem_of_getElem? (i := 22) (by decide +kernel), List.mem_of_getElem? (i := 348) (by decide +kernel), List.mem_of_getElem? (i := 349) (by decide +kernel)⟩
theorem lw_p3 : lw_okq (⟨"WhatWasHers", "lacksItems", "(III)Z"⟩, 14) := ⟨⟨by decide +kernel, by decide +kernel⟩, List.mem_of_getElem? (i := 22) (by decide +kernel), List.mem_of_getElem? (i := 359) (by decide +kernel), List.mem_of_getElem? (i := 360) (by decide +kernel)⟩
theorem lw_p4 : lw_okq (⟨"WhatWasHers$Reader", "step", "()V"⟩, 8) := ⟨⟨by decide +kernel, by decide +kernel⟩, List.mem_of_getElem? (i := 30) (by decide +kernel), List.mem_of_getElem? (i := 391) (by decide +kernel), List.mem_of_getElem? (i := 392) (by decide +kernel)⟩
theorem lw_p5 : lw_okq (⟨"WhatWasHers$Reader", "behindRun", "(ICC)I"⟩, 8) := ⟨⟨by decide +kernel, by decide +kernel⟩, List.mem_of_getElem? (i := 30) (by decide +kernel), List.mem_of_getElem? (i := 398) (by decide +kernel), List.mem_of_getElem? (i := 399) (by decide +kernel)⟩
theorem lw_p6 : lw_okq (⟨"WhatWasHers$Reader", "takeNumber", "()V"⟩, 8) := ⟨⟨by decide +kernel, by decide +kernel⟩, List.mem_of_getElem? (i := 30) (by decide +kernel), List.mem_of_getElem? (i := 402) (by decide +kernel), List.mem_of_getElem? (i := 403) (by decide +kernel)⟩
theorem lw_p7 : lw_okq (⟨"WhatWasHers$Reader", "readLaws", "(LWhatWasHers$Story;)V"⟩, 8) := ⟨⟨by decide +kernel, by decide +kernel⟩, List.mem_of_getElem? (i := 30) (by decide +kernel), List.mem_of_getElem? (i := 406) (by decide +kernel), List.mem_of_getElem? (i := 407) (by decide +kernel)⟩
theorem lw_p8 : lw_okq (⟨"WhatWasHers$Reader", "choice", "(Ljava/lang/String;)I"⟩, 8) := ⟨⟨by decide +kernel, by decide +kernel⟩, List.mem_of_getElem? (i := 30) (by decide +kernel), List.mem_of_getElem? (i := 411) (by decide +kernel), List.mem_of_getElem? (i := 412) (by decide +kernel)⟩
theorem lw_p9 : lw_okq (⟨"WhatWasHers$Reader", "isWord", "(Ljava/lang/String;II)Z"⟩, 8) := ⟨⟨by decide +kernel, by decide +kernel⟩, List.mem_of_getElem? (i := 30) (by decide +kernel), List.mem_of_getElem? (i := 463) (by decide +kernel), List.mem_of_getElem? (i := 464) (by decide +kernel)⟩
theorem lw_p10 : lw_okq (⟨"WhatWasHers$Reader", "fail", "(I)V"⟩, 8) := ⟨⟨by decide +kernel, by decide +kernel⟩, List.mem_of_getElem? (i := 30) (by decide +kernel), List.mem_of_getElem? (i := 467) (by decide +kernel), List.mem_of_getElem? (i := 468) (by decide +kernel)⟩
theorem lw_p11 : lw_okq (⟨"WhatWasHers$Reader", "readLaw", "(LWhatWasHers$Story;I)V"⟩, 8) := ⟨⟨by decide +kernel, by decide +kernel⟩, List.mem_of_getElem? (i := 30) (by decide +kernel), List.mem_of_getElem? (i := 471) (by decide +kernel), List.mem_of_getElem? (i := 472) (by decide +kernel)⟩
theorem lw_p12 : lw_okq (⟨"WhatWasHers$Reader", "word", "(Ljava/lang/String;)I"⟩, 8) := ⟨⟨by decide +kernel, by decide +kernel⟩, List.mem_of_getElem? (i := 30) (by decide +kernel), List.mem_of_getElem? (i := 476) (by decide +kernel), List.mem_of_getElem? (i := 477) (by decide +kernel)⟩
theorem lw_p13 : lw_okq (⟨"WhatWasHers$Reader", "number", "(II)I"⟩, 8) := ⟨⟨by decide +kernel, by decide +kernel⟩, List.mem_of_getElem? (i := 30) (by decide +kernel), List.mem_of_getElem? (i := 483) (by decide +kernel), List.mem_of_getElem? (i := 484) (by decide +kernel)⟩
theorem lw_p14 : lw_okq (⟨"WhatWasHers$Reader", "semicolon", "()V"⟩, 8) := ⟨⟨by decide +kernel, by decide +kernel⟩, List.mem_of_getElem? (i := 30) (by decide +kernel), List.mem_of_getElem? (i := 487) (by decide +kernel), List.mem_of_getElem? (i := 488) (by decide +kernel)⟩
theorem lw_p15 : lw_okq (⟨"WhatWasHers$Reader", "readEvents", "(LWhatWasHers$Story;)V"⟩, 8) := ⟨⟨by decide +kernel, by decide +kernel⟩, List.mem_of_getElem? (i := 30) (by decide +kernel), List.mem_of_getElem? (i := 491) (by decide +kernel), List.mem_of_getElem? (i := 492) (by decide +kernel)⟩
def lw_privs_1 : List (MethodName × Nat) := [(⟨"WhatWasHers", "found", "(I)J"⟩, 14), (⟨"WhatWasHers", "fine", "(J)J"⟩, 14), (⟨"WhatWasHers", "isMissing", "(I)Z"⟩, 14), (⟨"WhatWasHers", "lacksItems", "(III)Z"⟩, 14), (⟨"WhatWasHers$Reader", "step", "()V"⟩, 8), (⟨"WhatWasHers$Reader", "behindRun", "(ICC)I"⟩, 8), (⟨"WhatWasHers$Reader", "takeNumber", "()V"⟩, 8), (⟨"WhatWasHers$Reader", "readLaws", "(LWhatWasHers$Story;)V"⟩, 8), (⟨"WhatWasHers$Reader", "choice", "(Ljava/lang/String;)I"⟩, 8), (⟨"WhatWasHers$Reader", "isWord", "(Ljava/lang/String;II)Z"⟩, 8), (⟨"WhatWasHers$Reader", "fail", "(I)V"⟩, 8), (⟨"WhatWasHers$Reader", "readLaw", "(LWhatWasHers$Story;I)V"⟩, 8), (⟨"WhatWasHers$Reader", "word", "(Ljava/lang/String;)I"⟩, 8), (⟨"WhatWasHers$Reader", "number", "(II)I"⟩, 8), (⟨"WhatWasHers$Reader", "semicolon", "()V"⟩, 8), (⟨"WhatWasHers$Reader", "readEvents", "(LWhatWasHers$Story;)V"⟩, 8)]
theorem lw_r1 : ∀ q ∈ lw_privs_1, lw_okq q := List.forall_mem_cons.mpr ⟨lw_p0, List.forall_mem_cons.mpr ⟨lw_p1, List.forall_mem_cons.mpr ⟨lw_p2, List.forall_mem_cons.mpr ⟨lw_p3, List.forall_mem_cons.mpr ⟨lw_p4, List.forall_mem_cons.mpr ⟨lw_p5, List.forall_mem_cons.mpr ⟨lw_p6, List.forall_mem_cons.mpr ⟨lw_p7, List.forall_mem_cons.mpr ⟨lw_p8, List.forall_mem_cons.mpr ⟨lw_p9, List.forall_mem_cons.mpr ⟨lw_p10, List.forall_mem_cons.mpr ⟨lw_p11, List.forall_mem_cons.mpr ⟨lw_p12, List.forall_mem_cons.mpr ⟨lw_p13, List.forall_mem_cons.mpr ⟨lw_p14, List.forall_mem_cons.mpr ⟨lw_p15, fun _ h => absurd h List.not_mem_nil⟩⟩⟩⟩⟩⟩⟩⟩⟩⟩⟩⟩⟩⟩⟩⟩
theorem lw_p16 : lw_okq (⟨"WhatWasHers$Reader", "readEvent", "(LWhatWasHers$Story;II)V"⟩, 8) := ⟨⟨by decide +kernel, by decide +kernel⟩, List.mem_of_getElem? (i := 30) (by decide +kernel), List.mem_of_getElem? (i := 496) (by decide +kernel), List.mem_of_getElem? (i := 497) (by decide +kernel)⟩
theorem lw_p17 : lw_okq (⟨"WhatWasHers$Course", "goOn", "(IIII)V"⟩, 18) := ⟨⟨by decide +kernel, by decide +kernel⟩, List.mem_of_getElem? (i := 133) (by decide +kernel), List.mem_of_getElem? (i := 512) (by decide +kernel), List.mem_of_getElem? (i := 513) (by decide +kernel)⟩
theorem lw_p18 : lw_okq (⟨"WhatWasHers$Course", "takeIn", "(III)V"⟩, 18) := ⟨⟨by decide +kernel, by decide +kernel⟩, List.mem_of_getElem? (i := 133) (by decide +kernel), List.mem_of_getElem? (i := 516) (by decide +kernel), List.mem_of_getElem? (i := 517) (by decide +kernel)⟩
theorem lw_p19 : lw_okq (⟨"WhatWasHers$Course", "fall", "(III)V"⟩, 18) := ⟨⟨by decide +kernel, by decide +kernel⟩, List.mem_of_getElem? (i := 133) (by decide +kernel), List.mem_of_getElem? (i := 520) (by decide +kernel), List.mem_of_getElem? (i := 521) (by decide +kernel)⟩
theorem lw_p20 : lw_okq (⟨"WhatWasHers$Course", "notePut", "(III)V"⟩, 18) := ⟨⟨by decide +kernel, by decide +kernel⟩, List.mem_of_getElem? (i := 133) (by decide +kernel), List.mem_of_getElem? (i := 539) (by decide +kernel), List.mem_of_getElem? (i := 540) (by decide +kernel)⟩
theorem lw_p21 : lw_okq (⟨"WhatWasHers$Sums", "addThings", "(LWhatWasHers$Course;)V"⟩, 9) := ⟨⟨by decide +kernel, by decide +kernel⟩, List.mem_of_getElem? (i := 223) (by decide +kernel), List.mem_of_getElem? (i := 555) (by decide +kernel), List.mem_of_getElem? (i := 556) (by decide +kernel)⟩
theorem lw_p22 : lw_okq (⟨"WhatWasHers$Sums", "addPuts", "(LWhatWasHers$Course;I)V"⟩, 9) := ⟨⟨by decide +kernel, by decide +kernel⟩, List.mem_of_getElem? (i := 223) (by decide +kernel), List.mem_of_getElem? (i := 559) (by decide +kernel), List.mem_of_getElem? (i := 560) (by decide +kernel)⟩
theorem lw_p23 : lw_okq (⟨"WhatWasHers$Sums", "solveParts", "()V"⟩, 9) := ⟨⟨by decide +kernel, by decide +kernel⟩, List.mem_of_getElem? (i := 223) (by decide +kernel), List.mem_of_getElem? (i := 573) (by decide +kernel), List.mem_of_getElem? (i := 574) (by decide +kernel)⟩
theorem lw_p24 : lw_okq (⟨"WhatWasHers$Sums", "cameOrOne", "(I)J"⟩, 9) := ⟨⟨by decide +kernel, by decide +kernel⟩, List.mem_of_getElem? (i := 223) (by decide +kernel), List.mem_of_getElem? (i := 577) (by decide +kernel), List.mem_of_getElem? (i := 578) (by decide +kernel)⟩
theorem lw_p25 : lw_okq (⟨"WhatWasHers$Sums", "determinant", "(I)J"⟩, 9) := ⟨⟨by decide +kernel, by decide +kernel⟩, List.mem_of_getElem? (i := 223) (by decide +kernel), List.mem_of_getElem? (i := 582) (by decide +kernel), List.mem_of_getElem? (i := 583) (by decide +kernel)⟩
theorem lw_p26 : lw_okq (⟨"WhatWasHers$Sums", "cell", "(III)J"⟩, 9) := ⟨⟨by decide +kernel, by decide +kernel⟩, List.mem_of_getElem? (i := 223) (by decide +kernel), List.mem_of_getElem? (i := 586) (by decide +kernel), List.mem_of_getElem? (i := 587) (by decide +kernel)⟩
theorem lw_p27 : lw_okq (⟨"WhatWasHers$Sums", "minor", "(III)J"⟩, 9) := ⟨⟨by decide +kernel, by decide +kernel⟩, List.mem_of_getElem? (i := 223) (by decide +kernel), List.mem_of_getElem? (i := 590) (by decide +kernel), List.mem_of_getElem? (i := 591) (by decide +kernel)⟩
theorem lw_p28 : lw_okq (⟨"WhatWasHers$Sums", "addNets", "()V"⟩, 9) := ⟨⟨by decide +kernel, by decide +kernel⟩, List.mem_of_getElem? (i := 223) (by decide +kernel), List.mem_of_getElem? (i := 594) (by decide +kernel), List.mem_of_getElem? (i := 595) (by decide +kernel)⟩
theorem lw_p29 : lw_okq (⟨"WhatWasHers", "isNoThing", "(I)Z"⟩, 14) := ⟨⟨by decide +kernel, by decide +kernel⟩, List.mem_of_getElem? (i := 22) (by decide +kernel), List.mem_of_getElem? (i := 607) (by decide +kernel), List.mem_of_getElem? (i := 608) (by decide +kernel)⟩
theorem lw_p30 : lw_okq (⟨"WhatWasHers", "herEndWithout", "(I)J"⟩, 14) := ⟨⟨by decide +kernel, by decide +kernel⟩, List.mem_of_getElem? (i := 22) (by decide +kernel), List.mem_of_getElem? (i := 691) (by decide +kernel), List.mem_of_getElem? (i := 692) (by decide +kernel)⟩
theorem lw_p31 : lw_okq (⟨"WhatWasHers", "toldThing", "(I)LWhatWasHers$Thing;"⟩, 14) := ⟨⟨by decide +kernel, by decide +kernel⟩, List.mem_of_getElem? (i := 22) (by decide +kernel), List.mem_of_getElem? (i := 711) (by decide +kernel), List.mem_of_getElem? (i := 712) (by decide +kernel)⟩
def lw_privs_2 : List (MethodName × Nat) := [(⟨"WhatWasHers$Reader", "readEvent", "(LWhatWasHers$Story;II)V"⟩, 8), (⟨"WhatWasHers$Course", "goOn", "(IIII)V"⟩, 18), (⟨"WhatWasHers$Course", "takeIn", "(III)V"⟩, 18), (⟨"WhatWasHers$Course", "fall", "(III)V"⟩, 18), (⟨"WhatWasHers$Course", "notePut", "(III)V"⟩, 18), (⟨"WhatWasHers$Sums", "addThings", "(LWhatWasHers$Course;)V"⟩, 9), (⟨"WhatWasHers$Sums", "addPuts", "(LWhatWasHers$Course;I)V"⟩, 9), (⟨"WhatWasHers$Sums", "solveParts", "()V"⟩, 9), (⟨"WhatWasHers$Sums", "cameOrOne", "(I)J"⟩, 9), (⟨"WhatWasHers$Sums", "determinant", "(I)J"⟩, 9), (⟨"WhatWasHers$Sums", "cell", "(III)J"⟩, 9), (⟨"WhatWasHers$Sums", "minor", "(III)J"⟩, 9), (⟨"WhatWasHers$Sums", "addNets", "()V"⟩, 9), (⟨"WhatWasHers", "isNoThing", "(I)Z"⟩, 14), (⟨"WhatWasHers", "herEndWithout", "(I)J"⟩, 14), (⟨"WhatWasHers", "toldThing", "(I)LWhatWasHers$Thing;"⟩, 14)]
theorem lw_r2 : ∀ q ∈ lw_privs_2, lw_okq q := List.forall_mem_cons.mpr ⟨lw_p16, List.forall_mem_cons.mpr ⟨lw_p17, List.forall_mem_cons.mpr ⟨lw_p18, List.forall_mem_cons.mpr ⟨lw_p19, List.forall_mem_cons.mpr ⟨lw_p20, List.forall_mem_cons.mpr ⟨lw_p21, List.forall_mem_cons.mpr ⟨lw_p22, List.forall_mem_cons.mpr ⟨lw_p23, List.forall_mem_cons.mpr ⟨lw_p24, List.forall_mem_cons.mpr ⟨lw_p25, List.forall_mem_cons.mpr ⟨lw_p26, List.forall_mem_cons.mpr ⟨lw_p27, List.forall_mem_cons.mpr ⟨lw_p28, List.forall_mem_cons.mpr ⟨lw_p29, List.forall_mem_cons.mpr ⟨lw_p30, List.forall_mem_cons.mpr ⟨lw_p31, fun _ h => absurd h List.not_mem_nil⟩⟩⟩⟩⟩⟩⟩⟩⟩⟩⟩⟩⟩⟩⟩⟩
theorem lw_p32 : lw_okq (⟨"WhatWasHers", "rowsThatAre", "()I"⟩, 14) := ⟨⟨by decide +kernel, by decide +kernel⟩, List.mem_of_getElem? (i := 22) (by decide +kernel), List.mem_of_getElem? (i := 877) (by decide +kernel), List.mem_of_getElem? (i := 878) (by decide +kernel)⟩
theorem lw_p33 : lw_okq (⟨"WhatWasHersModel", "finding", "(I)J"⟩, 55) := ⟨⟨by decide +kernel, by decide +kernel⟩, List.mem_of_getElem? (i := 885) (by decide +kernel), List.mem_of_getElem? (i := 1070) (by decide +kernel), List.mem_of_getElem? (i := 1071) (by decide +kernel)⟩
theorem lw_p34 : lw_okq (⟨"WhatWasHersModel", "next", "()V"⟩, 55) := ⟨⟨by decide +kernel, by decide +kernel⟩, List.mem_of_getElem? (i := 885) (by decide +kernel), List.mem_of_getElem? (i := 1098) (by decide +kernel), List.mem_of_getElem? (i := 1099) (by decide +kernel)⟩
theorem lw_p35 : lw_okq (⟨"WhatWasHersModel", "byteAt", "(I)I"⟩, 55) := ⟨⟨by decide +kernel, by decide +kernel⟩, List.mem_of_getElem? (i := 885) (by decide +kernel), List.mem_of_getElem? (i := 1102) (by decide +kernel), List.mem_of_getElem? (i := 1103) (by decide +kernel)⟩
theorem lw_p36 : lw_okq (⟨"WhatWasHersModel", "readLaw", "()V"⟩, 55) := ⟨⟨by decide +kernel, by decide +kernel⟩, List.mem_of_getElem? (i := 885) (by decide +kernel), List.mem_of_getElem? (i := 1113) (by decide +kernel), List.mem_of_getElem? (i := 1114) (by decide +kernel)⟩
theorem lw_p37 : lw_okq (⟨"WhatWasHersModel", "word", "()J"⟩, 55) := ⟨⟨by decide +kernel, by decide +kernel⟩, List.mem_of_getElem? (i := 885) (by decide +kernel), List.mem_of_getElem? (i := 1117) (by decide +kernel), List.mem_of_getElem? (i := 1118) (by decide +kernel)⟩
theorem lw_p38 : lw_okq (⟨"WhatWasHersModel", "bad", "(I)V"⟩, 55) := ⟨⟨by decide +kernel, by decide +kernel⟩, List.mem_of_getElem? (i := 885) (by decide +kernel), List.mem_of_getElem? (i := 1122) (by decide +kernel), List.mem_of_getElem? (i := 1123) (by decide +kernel)⟩
theorem lw_p39 : lw_okq (⟨"WhatWasHersModel", "must", "(Z)V"⟩, 55) := ⟨⟨by decide +kernel, by decide +kernel⟩, List.mem_of_getElem? (i := 885) (by decide +kernel), List.mem_of_getElem? (i := 1126) (by decide +kernel), List.mem_of_getElem? (i := 1127) (by decide +kernel)⟩
theorem lw_p40 : lw_okq (⟨"WhatWasHersModel", "oneOf", "(JJJJJ)I"⟩, 55) := ⟨⟨by decide +kernel, by decide +kernel⟩, List.mem_of_getElem? (i := 885) (by decide +kernel), List.mem_of_getElem? (i := 1133) (by decide +kernel), List.mem_of_getElem? (i := 1134) (by decide +kernel)⟩
theorem lw_p41 : lw_okq (⟨"WhatWasHersModel", "numberIn", "(II)I"⟩, 55) := ⟨⟨by decide +kernel, by decide +kernel⟩, List.mem_of_getElem? (i := 885) (by decide +kernel), List.mem_of_getElem? (i := 1145) (by decide +kernel), List.mem_of_getElem? (i := 1146) (by decide +kernel)⟩
theorem lw_p42 : lw_okq (⟨"WhatWasHersModel", "mustEnd", "()V"⟩, 55) := ⟨⟨by decide +kernel, by decide +kernel⟩, List.mem_of_getElem? (i := 885) (by decide +kernel), List.mem_of_getElem? (i := 1149) (by decide +kernel), List.mem_of_getElem? (i := 1150) (by decide +kernel)⟩
theorem lw_p43 : lw_okq (⟨"WhatWasHersModel", "readEvent", "(I)V"⟩, 55) := ⟨⟨by decide +kernel, by decide +kernel⟩, List.mem_of_getElem? (i := 885) (by decide +kernel), List.mem_of_getElem? (i := 1153) (by decide +kernel), List.mem_of_getElem? (i := 1154) (by decide +kernel)⟩
theorem lw_p44 : lw_okq (⟨"WhatWasHersModel", "kindOfWord", "()I"⟩, 55) := ⟨⟨by decide +kernel, by decide +kernel⟩, List.mem_of_getElem? (i := 885) (by decide +kernel), List.mem_of_getElem? (i := 1157) (by decide +kernel), List.mem_of_getElem? (i := 1158) (by decide +kernel)⟩
theorem lw_p45 : lw_okq (⟨"WhatWasHersModel", "readNumbers", "(II)V"⟩, 55) := ⟨⟨by decide +kernel, by decide +kernel⟩, List.mem_of_getElem? (i := 885) (by decide +kernel), List.mem_of_getElem? (i := 1168) (by decide +kernel), List.mem_of_getElem? (i := 1169) (by decide +kernel)⟩
theorem lw_p46 : lw_okq (⟨"WhatWasHersModel", "isThing", "(I)Z"⟩, 55) := ⟨⟨by decide +kernel, by decide +kernel⟩, List.mem_of_getElem? (i := 885) (by decide +kernel), List.mem_of_getElem? (i := 1185) (by decide +kernel), List.mem_of_getElem? (i := 1186) (by decide +kernel)⟩
theorem lw_p47 : lw_okq (⟨"WhatWasHersModel", "goThrough", "(IIIIII)V"⟩, 55) := ⟨⟨by decide +kernel, by decide +kernel⟩, List.mem_of_getElem? (i := 885) (by decide +kernel), List.mem_of_getElem? (i := 1190) (by decide +kernel), List.mem_of_getElem? (i := 1191) (by decide +kernel)⟩
def lw_privs_3 : List (MethodName × Nat) := [(⟨"WhatWasHers", "rowsThatAre", "()I"⟩, 14), (⟨"WhatWasHersModel", "finding", "(I)J"⟩, 55), (⟨"WhatWasHersModel", "next", "()V"⟩, 55), (⟨"WhatWasHersModel", "byteAt", "(I)I"⟩, 55), (⟨"WhatWasHersModel", "readLaw", "()V"⟩, 55), (⟨"WhatWasHersModel", "word", "()J"⟩, 55), (⟨"WhatWasHersModel", "bad", "(I)V"⟩, 55), (⟨"WhatWasHersModel", "must", "(Z)V"⟩, 55), (⟨"WhatWasHersModel", "oneOf", "(JJJJJ)I"⟩, 55), (⟨"WhatWasHersModel", "numberIn", "(II)I"⟩, 55), (⟨"WhatWasHersModel", "mustEnd", "()V"⟩, 55), (⟨"WhatWasHersModel", "readEvent", "(I)V"⟩, 55), (⟨"WhatWasHersModel", "kindOfWord", "()I"⟩, 55), (⟨"WhatWasHersModel", "readNumbers", "(II)V"⟩, 55), (⟨"WhatWasHersModel", "isThing", "(I)Z"⟩, 55), (⟨"WhatWasHersModel", "goThrough", "(IIIIII)V"⟩, 55)]
theorem lw_r3 : ∀ q ∈ lw_privs_3, lw_okq q := List.forall_mem_cons.mpr ⟨lw_p32, List.forall_mem_cons.mpr ⟨lw_p33, List.forall_mem_cons.mpr ⟨lw_p34, List.forall_mem_cons.mpr ⟨lw_p35, List.forall_mem_cons.mpr ⟨lw_p36, List.forall_mem_cons.mpr ⟨lw_p37, List.forall_mem_cons.mpr ⟨lw_p38, List.forall_mem_cons.mpr ⟨lw_p39, List.forall_mem_cons.mpr ⟨lw_p40, List.forall_mem_cons.mpr ⟨lw_p41, List.forall_mem_cons.mpr ⟨lw_p42, List.forall_mem_cons.mpr ⟨lw_p43, List.forall_mem_cons.mpr ⟨lw_p44, List.forall_mem_cons.mpr ⟨lw_p45, List.forall_mem_cons.mpr ⟨lw_p46, List.forall_mem_cons.mpr ⟨lw_p47, fun _ h => absurd h List.not_mem_nil⟩⟩⟩⟩⟩⟩⟩⟩⟩⟩⟩⟩⟩⟩⟩⟩
theorem lw_p48 : lw_okq (⟨"WhatWasHersModel", "move", "(II)V"⟩, 55) := ⟨⟨by decide +kernel, by decide +kernel⟩, List.mem_of_getElem? (i := 885) (by decide +kernel), List.mem_of_getElem? (i := 1194) (by decide +kernel), List.mem_of_getElem? (i := 1195) (by decide +kernel)⟩
theorem lw_p49 : lw_okq (⟨"WhatWasHersModel", "fall", "(III)V"⟩, 55) := ⟨⟨by decide +kernel, by decide +kernel⟩, List.mem_of_getElem? (i := 885) (by decide +kernel), List.mem_of_getElem? (i := 1198) (by decide +kernel), List.mem_of_getElem? (i := 1199) (by decide +kernel)⟩
theorem lw_p50 : lw_okq (⟨"WhatWasHersModel", "byLaw", "(I)I"⟩, 55) := ⟨⟨by decide +kernel, by decide +kernel⟩, List.mem_of_getElem? (i := 885) (by decide +kernel), List.mem_of_getElem? (i := 1202) (by decide +kernel), List.mem_of_getElem? (i := 1203) (by decide +kernel)⟩
theorem lw_p51 : lw_okq (⟨"WhatWasHersModel", "happen", "(I)V"⟩, 55) := ⟨⟨by decide +kernel, by decide +kernel⟩, List.mem_of_getElem? (i := 885) (by decide +kernel), List.mem_of_getElem? (i := 1206) (by decide +kernel), List.mem_of_getElem? (i := 1207) (by decide +kernel)⟩
theorem lw_p52 : lw_okq (⟨"WhatWasHersModel", "putIn", "(III)V"⟩, 55) := ⟨⟨by decide +kernel, by decide +kernel⟩, List.mem_of_getElem? (i := 885) (by decide +kernel), List.mem_of_getElem? (i := 1210) (by decide +kernel), List.mem_of_getElem? (i := 1211) (by decide +kernel)⟩
theorem lw_p53 : lw_okq (⟨"WhatWasHersModel", "bring", "(II)V"⟩, 55) := ⟨⟨by decide +kernel, by decide +kernel⟩, List.mem_of_getElem? (i := 885) (by decide +kernel), List.mem_of_getElem? (i := 1214) (by decide +kernel), List.mem_of_getElem? (i := 1215) (by decide +kernel)⟩
theorem lw_p54 : lw_okq (⟨"WhatWasHersModel", "goAll", "()V"⟩, 55) := ⟨⟨by decide +kernel, by decide +kernel⟩, List.mem_of_getElem? (i := 885) (by decide +kernel), List.mem_of_getElem? (i := 1224) (by decide +kernel), List.mem_of_getElem? (i := 1225) (by decide +kernel)⟩
theorem lw_p55 : lw_okq (⟨"WhatWasHersModel", "putsInto", "(I)I"⟩, 55) := ⟨⟨by decide +kernel, by decide +kernel⟩, List.mem_of_getElem? (i := 885) (by decide +kernel), List.mem_of_getElem? (i := 1228) (by decide +kernel), List.mem_of_getElem? (i := 1229) (by decide +kernel)⟩
theorem lw_p56 : lw_okq (⟨"WhatWasHersModel", "isPurse", "(I)Z"⟩, 55) := ⟨⟨by decide +kernel, by decide +kernel⟩, List.mem_of_getElem? (i := 885) (by decide +kernel), List.mem_of_getElem? (i := 1241) (by decide +kernel), List.mem_of_getElem? (i := 1242) (by decide +kernel)⟩
theorem lw_p57 : lw_okq (⟨"WhatWasHersModel", "laySums", "()V"⟩, 55) := ⟨⟨by decide +kernel, by decide +kernel⟩, List.mem_of_getElem? (i := 885) (by decide +kernel), List.mem_of_getElem? (i := 1246) (by decide +kernel), List.mem_of_getElem? (i := 1247) (by decide +kernel)⟩
theorem lw_p58 : lw_okq (⟨"WhatWasHersModel", "layNets", "()V"⟩, 55) := ⟨⟨by decide +kernel, by decide +kernel⟩, List.mem_of_getElem? (i := 885) (by decide +kernel), List.mem_of_getElem? (i := 1258) (by decide +kernel), List.mem_of_getElem? (i := 1259) (by decide +kernel)⟩
theorem lw_p59 : lw_okq (⟨"WhatWasHersModel", "laySides", "()V"⟩, 55) := ⟨⟨by decide +kernel, by decide +kernel⟩, List.mem_of_getElem? (i := 885) (by decide +kernel), List.mem_of_getElem? (i := 1262) (by decide +kernel), List.mem_of_getElem? (i := 1263) (by decide +kernel)⟩
theorem lw_p60 : lw_okq (⟨"WhatWasHersModel", "determinant", "()J"⟩, 55) := ⟨⟨by decide +kernel, by decide +kernel⟩, List.mem_of_getElem? (i := 885) (by decide +kernel), List.mem_of_getElem? (i := 1266) (by decide +kernel), List.mem_of_getElem? (i := 1267) (by decide +kernel)⟩
theorem lw_p61 : lw_okq (⟨"WhatWasHersModel", "minor", "(IIII)J"⟩, 55) := ⟨⟨by decide +kernel, by decide +kernel⟩, List.mem_of_getElem? (i := 885) (by decide +kernel), List.mem_of_getElem? (i := 1270) (by decide +kernel), List.mem_of_getElem? (i := 1271) (by decide +kernel)⟩
theorem lw_p62 : lw_okq (⟨"WhatWasHersModel", "endOf", "(I)J"⟩, 55) := ⟨⟨by decide +kernel, by decide +kernel⟩, List.mem_of_getElem? (i := 885) (by decide +kernel), List.mem_of_getElem? (i := 1285) (by decide +kernel), List.mem_of_getElem? (i := 1286) (by decide +kernel)⟩
theorem lw_p63 : lw_okq (⟨"WhatWasHersModel", "isWished", "(IIII)Z"⟩, 55) := ⟨⟨by decide +kernel, by decide +kernel⟩, List.mem_of_getElem? (i := 885) (by decide +kernel), List.mem_of_getElem? (i := 1304) (by decide +kernel), List.mem_of_getElem? (i := 1305) (by decide +kernel)⟩
def lw_privs_4 : List (MethodName × Nat) := [(⟨"WhatWasHersModel", "move", "(II)V"⟩, 55), (⟨"WhatWasHersModel", "fall", "(III)V"⟩, 55), (⟨"WhatWasHersModel", "byLaw", "(I)I"⟩, 55), (⟨"WhatWasHersModel", "happen", "(I)V"⟩, 55), (⟨"WhatWasHersModel", "putIn", "(III)V"⟩, 55), (⟨"WhatWasHersModel", "bring", "(II)V"⟩, 55), (⟨"WhatWasHersModel", "goAll", "()V"⟩, 55), (⟨"WhatWasHersModel", "putsInto", "(I)I"⟩, 55), (⟨"WhatWasHersModel", "isPurse", "(I)Z"⟩, 55), (⟨"WhatWasHersModel", "laySums", "()V"⟩, 55), (⟨"WhatWasHersModel", "layNets", "()V"⟩, 55), (⟨"WhatWasHersModel", "laySides", "()V"⟩, 55), (⟨"WhatWasHersModel", "determinant", "()J"⟩, 55), (⟨"WhatWasHersModel", "minor", "(IIII)J"⟩, 55), (⟨"WhatWasHersModel", "endOf", "(I)J"⟩, 55), (⟨"WhatWasHersModel", "isWished", "(IIII)Z"⟩, 55)]
theorem lw_r4 : ∀ q ∈ lw_privs_4, lw_okq q := List.forall_mem_cons.mpr ⟨lw_p48, List.forall_mem_cons.mpr ⟨lw_p49, List.forall_mem_cons.mpr ⟨lw_p50, List.forall_mem_cons.mpr ⟨lw_p51, List.forall_mem_cons.mpr ⟨lw_p52, List.forall_mem_cons.mpr ⟨lw_p53, List.forall_mem_cons.mpr ⟨lw_p54, List.forall_mem_cons.mpr ⟨lw_p55, List.forall_mem_cons.mpr ⟨lw_p56, List.forall_mem_cons.mpr ⟨lw_p57, List.forall_mem_cons.mpr ⟨lw_p58, List.forall_mem_cons.mpr ⟨lw_p59, List.forall_mem_cons.mpr ⟨lw_p60, List.forall_mem_cons.mpr ⟨lw_p61, List.forall_mem_cons.mpr ⟨lw_p62, List.forall_mem_cons.mpr ⟨lw_p63, fun _ h => absurd h List.not_mem_nil⟩⟩⟩⟩⟩⟩⟩⟩⟩⟩⟩⟩⟩⟩⟩⟩
theorem lw_p64 : lw_okq (⟨"WhatWasHersModel", "kindOf", "(I)I"⟩, 55) := ⟨⟨by decide +kernel, by decide +kernel⟩, List.mem_of_getElem? (i := 885) (by decide +kernel), List.mem_of_getElem? (i := 1313) (by decide +kernel), List.mem_of_getElem? (i := 1314) (by decide +kernel)⟩
theorem lw_p65 : lw_okq (⟨"WhatWasHersModel", "isFed", "(I)Z"⟩, 55) := ⟨⟨by decide +kernel, by decide +kernel⟩, List.mem_of_getElem? (i := 885) (by decide +kernel), List.mem_of_getElem? (i := 1317) (by decide +kernel), List.mem_of_getElem? (i := 1318) (by decide +kernel)⟩
theorem lw_p66 : lw_okq (⟨"WhatWasHersModel", "sizeOf", "(II)I"⟩, 55) := ⟨⟨by decide +kernel, by decide +kernel⟩, List.mem_of_getElem? (i := 885) (by decide +kernel), List.mem_of_getElem? (i := 1334) (by decide +kernel), List.mem_of_getElem? (i := 1335) (by decide +kernel)⟩
theorem lw_p67 : lw_okq (⟨"WhatWasHersModel", "commonSize", "(I)I"⟩, 55) := ⟨⟨by decide +kernel, by decide +kernel⟩, List.mem_of_getElem? (i := 885) (by decide +kernel), List.mem_of_getElem? (i := 1338) (by decide +kernel), List.mem_of_getElem? (i := 1339) (by decide +kernel)⟩
theorem lw_p68 : lw_okq (⟨"WhatWasHersModel", "began", "(I)V"⟩, 55) := ⟨⟨by decide +kernel, by decide +kernel⟩, List.mem_of_getElem? (i := 885) (by decide +kernel), List.mem_of_getElem? (i := 1342) (by decide +kernel), List.mem_of_getElem? (i := 1343) (by decide +kernel)⟩
theorem lw_p69 : lw_okq (⟨"WhatWasHersModel", "markOf", "(II)I"⟩, 55) := ⟨⟨by decide +kernel, by decide +kernel⟩, List.mem_of_getElem? (i := 885) (by decide +kernel), List.mem_of_getElem? (i := 1346) (by decide +kernel), List.mem_of_getElem? (i := 1347) (by decide +kernel)⟩
def lw_privs_5 : List (MethodName × Nat) := [(⟨"WhatWasHersModel", "kindOf", "(I)I"⟩, 55), (⟨"WhatWasHersModel", "isFed", "(I)Z"⟩, 55), (⟨"WhatWasHersModel", "sizeOf", "(II)I"⟩, 55), (⟨"WhatWasHersModel", "commonSize", "(I)I"⟩, 55), (⟨"WhatWasHersModel", "began", "(I)V"⟩, 55), (⟨"WhatWasHersModel", "markOf", "(II)I"⟩, 55)]
theorem lw_r5 : ∀ q ∈ lw_privs_5, lw_okq q := List.forall_mem_cons.mpr ⟨lw_p64, List.forall_mem_cons.mpr ⟨lw_p65, List.forall_mem_cons.mpr ⟨lw_p66, List.forall_mem_cons.mpr ⟨lw_p67, List.forall_mem_cons.mpr ⟨lw_p68, List.forall_mem_cons.mpr ⟨lw_p69, fun _ h => absurd h List.not_mem_nil⟩⟩⟩⟩⟩⟩
def lw_privs : List (MethodName × Nat) := lw_privs_1 ++ (lw_privs_2 ++ (lw_privs_3 ++ (lw_privs_4 ++ (lw_privs_5))))
def lw_tbl : List Cond := k2_sels lw_privs ++ tables_1
theorem lw_privs_ok : ∀ q ∈ lw_privs, lw_okq q := by
  show ∀ q ∈ lw_privs_1 ++ (lw_privs_2 ++ (lw_privs_3 ++ (lw_privs_4 ++ (lw_privs_5)))), lw_okq q
  exact List.forall_mem_append.mpr ⟨lw_r1, List.forall_mem_append.mpr ⟨lw_r2, List.forall_mem_append.mpr ⟨lw_r3, List.forall_mem_append.mpr ⟨lw_r4, lw_r5⟩⟩⟩⟩
end
section
/-! ===== BEGIN words of one list among another's, by their places ===== -/
theorem goodIn_r {big : List Cond} (ws : List Cond) (ps : List Nat) (hp : ws = ps.filterMap (fun i => big[i]?)) (h : ws.all goodWord = true) : GoodIn big ws := by
  intro w hw
  have h1 := List.all_eq_true.mp h w hw
  rw [hp] at hw
  obtain ⟨i, -, hi⟩ := List.mem_filterMap.mp hw
  have hm : w ∈ big := by first | exact List.mem_of_getElem? hi | exact List.getElem?_mem hi
  exact ⟨hm, good_of_word h1⟩
theorem goodIn_app {big a b : List Cond} (ha : GoodIn big a) (hb : GoodIn big b) : GoodIn big (a ++ b) := fun w h => (List.mem_append.mp h).elim (ha w) (hb w)
theorem goodIn_ca {big a b : List Cond} {c : Cond} (ha : GoodIn big (c :: a)) (hb : GoodIn big b) : GoodIn big (c :: (a ++ b)) := fun w h => (List.mem_cons.mp h).elim (fun e => ha w (List.mem_cons.mpr (Or.inl e))) (fun h => (List.mem_append.mp h).elim (fun h => ha w (List.mem_cons.mpr (Or.inr h))) (hb w))
theorem goodIn_sub {big ws : List Cond} (hm : ∀ w ∈ ws, w ∈ big) (h : ws.all goodWord = true) : GoodIn big ws := fun w hw => ⟨hm w hw, good_of_word (List.all_eq_true.mp h w hw)⟩
/-! ===== END ===== -/

/-! ===== BEGIN printed: names, fields, word lists, decode rows ===== -/
def RX0 : String := "WhatWasHers$Changed"
def TX0 : u_T := fun k => match k with
  | 0 => ("WhatWasHers$Thing", "number", "I", true)
  | 1 => ("WhatWasHers$Thing", "course", "LWhatWasHers$Course;", true)
  | _ => ("WhatWasHers$Thing", "left", "LWhatWasHers$Trace;", true)
def tyX0 : Nat → FieldType := fun k => match k with
  | 0 => .int
  | 1 => .object "WhatWasHers$Course"
  | _ => .object "WhatWasHers$Trace"
abbrev wsX00 : List Cond := u_ws RX0 TX0 3
theorem nmX0 : ∀ a, a < 3 → ∀ b, b < 3 → a ≠ b → (TX0 a).2.1 ≠ (TX0 b).2.1 := by decide +kernel
theorem tyX0_ok : ∀ k, k < 3 → parseFieldDescriptor (TX0 k).2.2.1 = some (tyX0 k) := by decide +kernel
abbrev cX0_init : ByteArray := prog_2_method_1_code
def yX0_init : MethodName := ⟨RX0, "<init>", "(ILWhatWasHers$Course;LWhatWasHers$Trace;)V"⟩
abbrev cX0_size : ByteArray := prog_2_method_2_code
def yX0_size : MethodName := ⟨RX0, "size", "()J"⟩
abbrev cX0_mark : ByteArray := prog_2_method_3_code
def yX0_mark : MethodName := ⟨RX0, "mark", "()J"⟩
def RX1 : String := "WhatWasHers$Common"
def TX1 : u_T := fun k => match k with
  | 0 => ("WhatWasHers$Thing", "number", "I", true)
  | 1 => ("WhatWasHers$Thing", "course", "LWhatWasHers$Course;", true)
  | _ => ("WhatWasHers$Thing", "left", "LWhatWasHers$Trace;", true)
def tyX1 : Nat → FieldType := fun k => match k with
  | 0 => .int
  | 1 => .object "WhatWasHers$Course"
  | _ => .object "WhatWasHers$Trace"
abbrev wsX10 : List Cond := u_ws RX1 TX1 3
theorem nmX1 : ∀ a, a < 3 → ∀ b, b < 3 → a ≠ b → (TX1 a).2.1 ≠ (TX1 b).2.1 := by decide +kernel
theorem tyX1_ok : ∀ k, k < 3 → parseFieldDescriptor (TX1 k).2.2.1 = some (tyX1 k) := by decide +kernel
abbrev cX1_init : ByteArray := prog_3_method_1_code
def yX1_init : MethodName := ⟨RX1, "<init>", "(ILWhatWasHers$Course;LWhatWasHers$Trace;)V"⟩
abbrev cX1_size : ByteArray := prog_3_method_2_code
def yX1_size : MethodName := ⟨RX1, "size", "()J"⟩
def RX2 : String := "WhatWasHers$Course"
def TX2 : u_T := fun k => match k with
  | 0 => ("WhatWasHers$Course", "story", "LWhatWasHers$Story;", false)
  | 1 => ("WhatWasHers$Course", "law", "I", false)
  | 2 => ("WhatWasHers$Course", "agreed", "[I", true)
  | 3 => ("WhatWasHers$Course", "debts", "[I", true)
  | 4 => ("WhatWasHers$Course", "things", "I", false)
  | 5 => ("WhatWasHers$Course", "cameBy", "[I", true)
  | 6 => ("WhatWasHers$Course", "cameWorth", "[I", true)
  | 7 => ("WhatWasHers$Course", "firstPurse", "[I", true)
  | 8 => ("WhatWasHers$Course", "inPurse", "[I", true)
  | 9 => ("WhatWasHers$Course", "reason", "[I", true)
  | 10 => ("WhatWasHers$Course", "fellBy", "[I", true)
  | 11 => ("WhatWasHers$Course", "worth", "[I", true)
  | 12 => ("WhatWasHers$Course", "putsInto", "[I", true)
  | 13 => ("WhatWasHers$Course", "puts", "I", false)
  | 14 => ("WhatWasHers$Course", "putThing", "[I", true)
  | 15 => ("WhatWasHers$Course", "putPurse", "[I", true)
  | 16 => ("WhatWasHers$Course", "putSum", "[I", true)
  | _ => ("WhatWasHers$Course", "putWeight", "[I", true)
def tyX2 : Nat → FieldType := fun k => match k with
  | 0 => .object "WhatWasHers$Story"
  | 1 => .int
  | 2 => .array .int
  | 3 => .array .int
  | 4 => .int
  | 5 => .array .int
  | 6 => .array .int
  | 7 => .array .int
  | 8 => .array .int
  | 9 => .array .int
  | 10 => .array .int
  | 11 => .array .int
  | 12 => .array .int
  | 13 => .int
  | 14 => .array .int
  | 15 => .array .int
  | 16 => .array .int
  | _ => .array .int
abbrev wsX20 : List Cond := u_ws RX2 TX2 18
theorem nmX2 : ∀ a, a < 18 → ∀ b, b < 18 → a ≠ b → (TX2 a).2.1 ≠ (TX2 b).2.1 := by decide +kernel
theorem tyX2_ok : ∀ k, k < 18 → parseFieldDescriptor (TX2 k).2.2.1 = some (tyX2 k) := by decide +kernel
abbrev cX2_init : ByteArray := prog_4_method_1_code
def yX2_init : MethodName := ⟨RX2, "<init>", "()V"⟩
abbrev cX2_begin : ByteArray := prog_4_method_2_code
def yX2_begin : MethodName := ⟨RX2, "begin", "(LWhatWasHers$Story;)V"⟩
abbrev cX2_goThrough : ByteArray := prog_4_method_3_code
def yX2_goThrough : MethodName := ⟨RX2, "goThrough", "(II)V"⟩
abbrev cX2_goOn : ByteArray := prog_4_method_4_code
def yX2_goOn : MethodName := ⟨RX2, "goOn", "(IIII)V"⟩
abbrev cX2_moveTo : ByteArray := prog_4_method_5_code
def yX2_moveTo : MethodName := ⟨RX2, "moveTo", "(II)V"⟩
abbrev cX2_takeIn : ByteArray := prog_4_method_6_code
def yX2_takeIn : MethodName := ⟨RX2, "takeIn", "(III)V"⟩
abbrev cX2_fall : ByteArray := prog_4_method_7_code
def yX2_fall : MethodName := ⟨RX2, "fall", "(III)V"⟩
abbrev cX2_notePut : ByteArray := prog_4_method_8_code
def yX2_notePut : MethodName := ⟨RX2, "notePut", "(III)V"⟩
abbrev cX2_isFedByAnother : ByteArray := prog_4_method_9_code
def yX2_isFedByAnother : MethodName := ⟨RX2, "isFedByAnother", "(I)Z"⟩
def RX3 : String := "WhatWasHers$Fed"
def TX3 : u_T := fun k => match k with
  | 0 => ("WhatWasHers$Thing", "number", "I", true)
  | 1 => ("WhatWasHers$Thing", "course", "LWhatWasHers$Course;", true)
  | _ => ("WhatWasHers$Thing", "left", "LWhatWasHers$Trace;", true)
def tyX3 : Nat → FieldType := fun k => match k with
  | 0 => .int
  | 1 => .object "WhatWasHers$Course"
  | _ => .object "WhatWasHers$Trace"
abbrev wsX30 : List Cond := u_ws RX3 TX3 3
theorem nmX3 : ∀ a, a < 3 → ∀ b, b < 3 → a ≠ b → (TX3 a).2.1 ≠ (TX3 b).2.1 := by decide +kernel
theorem tyX3_ok : ∀ k, k < 3 → parseFieldDescriptor (TX3 k).2.2.1 = some (tyX3 k) := by decide +kernel
abbrev cX3_init : ByteArray := prog_5_method_1_code
def yX3_init : MethodName := ⟨RX3, "<init>", "(ILWhatWasHers$Course;LWhatWasHers$Trace;)V"⟩
abbrev cX3_size : ByteArray := prog_5_method_2_code
def yX3_size : MethodName := ⟨RX3, "size", "()J"⟩
def RX4 : String := "WhatWasHers$Made"
def TX4 : u_T := fun k => match k with
  | 0 => ("WhatWasHers$Thing", "number", "I", true)
  | 1 => ("WhatWasHers$Thing", "course", "LWhatWasHers$Course;", true)
  | _ => ("WhatWasHers$Thing", "left", "LWhatWasHers$Trace;", true)
def tyX4 : Nat → FieldType := fun k => match k with
  | 0 => .int
  | 1 => .object "WhatWasHers$Course"
  | _ => .object "WhatWasHers$Trace"
abbrev wsX40 : List Cond := u_ws RX4 TX4 3
theorem nmX4 : ∀ a, a < 3 → ∀ b, b < 3 → a ≠ b → (TX4 a).2.1 ≠ (TX4 b).2.1 := by decide +kernel
theorem tyX4_ok : ∀ k, k < 3 → parseFieldDescriptor (TX4 k).2.2.1 = some (tyX4 k) := by decide +kernel
abbrev cX4_init : ByteArray := prog_6_method_1_code
def yX4_init : MethodName := ⟨RX4, "<init>", "(ILWhatWasHers$Course;LWhatWasHers$Trace;)V"⟩
abbrev cX4_mark : ByteArray := prog_6_method_2_code
def yX4_mark : MethodName := ⟨RX4, "mark", "()J"⟩
def RX5 : String := "WhatWasHers$Own"
def TX5 : u_T := fun k => match k with
  | 0 => ("WhatWasHers$Thing", "number", "I", true)
  | 1 => ("WhatWasHers$Thing", "course", "LWhatWasHers$Course;", true)
  | _ => ("WhatWasHers$Thing", "left", "LWhatWasHers$Trace;", true)
def tyX5 : Nat → FieldType := fun k => match k with
  | 0 => .int
  | 1 => .object "WhatWasHers$Course"
  | _ => .object "WhatWasHers$Trace"
abbrev wsX50 : List Cond := u_ws RX5 TX5 3
theorem nmX5 : ∀ a, a < 3 → ∀ b, b < 3 → a ≠ b → (TX5 a).2.1 ≠ (TX5 b).2.1 := by decide +kernel
theorem tyX5_ok : ∀ k, k < 3 → parseFieldDescriptor (TX5 k).2.2.1 = some (tyX5 k) := by decide +kernel
abbrev cX5_init : ByteArray := prog_7_method_1_code
def yX5_init : MethodName := ⟨RX5, "<init>", "(ILWhatWasHers$Course;LWhatWasHers$Trace;)V"⟩
abbrev cX5_size : ByteArray := prog_7_method_2_code
def yX5_size : MethodName := ⟨RX5, "size", "()J"⟩
abbrev cX5_mark : ByteArray := prog_7_method_3_code
def yX5_mark : MethodName := ⟨RX5, "mark", "()J"⟩
def RX6 : String := "WhatWasHers$Reader"
def TX6 : u_T := fun k => match k with
  | 0 => ("WhatWasHers$Reader", "tape", "[B", true)
  | 1 => ("WhatWasHers$Reader", "length", "I", false)
  | 2 => ("WhatWasHers$Reader", "wrong", "I", false)
  | 3 => ("WhatWasHers$Reader", "wrongPlace", "I", false)
  | 4 => ("WhatWasHers$Reader", "sort", "I", false)
  | 5 => ("WhatWasHers$Reader", "start", "I", false)
  | 6 => ("WhatWasHers$Reader", "behind", "I", false)
  | _ => ("WhatWasHers$Reader", "value", "I", false)
def tyX6 : Nat → FieldType := fun k => match k with
  | 0 => .array .byte
  | 1 => .int
  | 2 => .int
  | 3 => .int
  | 4 => .int
  | 5 => .int
  | 6 => .int
  | _ => .int
abbrev wsX60 : List Cond := u_ws RX6 TX6 8
theorem nmX6 : ∀ a, a < 8 → ∀ b, b < 8 → a ≠ b → (TX6 a).2.1 ≠ (TX6 b).2.1 := by decide +kernel
theorem tyX6_ok : ∀ k, k < 8 → parseFieldDescriptor (TX6 k).2.2.1 = some (tyX6 k) := by decide +kernel
abbrev cX6_init : ByteArray := prog_8_method_1_code
def yX6_init : MethodName := ⟨RX6, "<init>", "()V"⟩
abbrev cX6_append : ByteArray := prog_8_method_2_code
def yX6_append : MethodName := ⟨RX6, "append", "(B)V"⟩
abbrev cX6_readInto : ByteArray := prog_8_method_3_code
def yX6_readInto : MethodName := ⟨RX6, "readInto", "(LWhatWasHers$Story;)V"⟩
abbrev cX6_readLaws : ByteArray := prog_8_method_4_code
def yX6_readLaws : MethodName := ⟨RX6, "readLaws", "(LWhatWasHers$Story;)V"⟩
abbrev cX6_readLaw : ByteArray := prog_8_method_5_code
def yX6_readLaw : MethodName := ⟨RX6, "readLaw", "(LWhatWasHers$Story;I)V"⟩
abbrev cX6_readEvents : ByteArray := prog_8_method_6_code
def yX6_readEvents : MethodName := ⟨RX6, "readEvents", "(LWhatWasHers$Story;)V"⟩
abbrev cX6_readEvent : ByteArray := prog_8_method_7_code
def yX6_readEvent : MethodName := ⟨RX6, "readEvent", "(LWhatWasHers$Story;II)V"⟩
abbrev cX6_word : ByteArray := prog_8_method_8_code
def yX6_word : MethodName := ⟨RX6, "word", "(Ljava/lang/String;)I"⟩
abbrev cX6_number : ByteArray := prog_8_method_9_code
def yX6_number : MethodName := ⟨RX6, "number", "(II)I"⟩
abbrev cX6_semicolon : ByteArray := prog_8_method_10_code
def yX6_semicolon : MethodName := ⟨RX6, "semicolon", "()V"⟩
abbrev cX6_fail : ByteArray := prog_8_method_11_code
def yX6_fail : MethodName := ⟨RX6, "fail", "(I)V"⟩
abbrev cX6_choice : ByteArray := prog_8_method_12_code
def yX6_choice : MethodName := ⟨RX6, "choice", "(Ljava/lang/String;)I"⟩
abbrev cX6_isWord : ByteArray := prog_8_method_13_code
def yX6_isWord : MethodName := ⟨RX6, "isWord", "(Ljava/lang/String;II)Z"⟩
abbrev cX6_step : ByteArray := prog_8_method_14_code
def yX6_step : MethodName := ⟨RX6, "step", "()V"⟩
abbrev cX6_takeNumber : ByteArray := prog_8_method_15_code
def yX6_takeNumber : MethodName := ⟨RX6, "takeNumber", "()V"⟩
abbrev cX6_isIn : ByteArray := prog_8_method_16_code
def yX6_isIn : MethodName := ⟨RX6, "isIn", "(BCC)Z"⟩
abbrev cX6_behindRun : ByteArray := prog_8_method_17_code
def yX6_behindRun : MethodName := ⟨RX6, "behindRun", "(ICC)I"⟩
def RX7 : String := "WhatWasHers$Story"
def TX7 : u_T := fun k => match k with
  | 0 => ("WhatWasHers$Story", "laws", "I", false)
  | 1 => ("WhatWasHers$Story", "events", "I", false)
  | 2 => ("WhatWasHers$Story", "things", "I", false)
  | 3 => ("WhatWasHers$Story", "places", "[I", true)
  | 4 => ("WhatWasHers$Story", "mix", "[I", true)
  | 5 => ("WhatWasHers$Story", "owe", "[I", true)
  | 6 => ("WhatWasHers$Story", "move", "[I", true)
  | 7 => ("WhatWasHers$Story", "hundredths", "[I", true)
  | 8 => ("WhatWasHers$Story", "what", "[I", true)
  | 9 => ("WhatWasHers$Story", "day", "[I", true)
  | 10 => ("WhatWasHers$Story", "first", "[I", true)
  | 11 => ("WhatWasHers$Story", "second", "[I", true)
  | _ => ("WhatWasHers$Story", "third", "[I", true)
def tyX7 : Nat → FieldType := fun k => match k with
  | 0 => .int
  | 1 => .int
  | 2 => .int
  | 3 => .array .int
  | 4 => .array .int
  | 5 => .array .int
  | 6 => .array .int
  | 7 => .array .int
  | 8 => .array .int
  | 9 => .array .int
  | 10 => .array .int
  | 11 => .array .int
  | _ => .array .int
abbrev wsX70 : List Cond := u_ws RX7 TX7 13
theorem nmX7 : ∀ a, a < 13 → ∀ b, b < 13 → a ≠ b → (TX7 a).2.1 ≠ (TX7 b).2.1 := by decide +kernel
theorem tyX7_ok : ∀ k, k < 13 → parseFieldDescriptor (TX7 k).2.2.1 = some (tyX7 k) := by decide +kernel
abbrev cX7_init : ByteArray := prog_9_method_1_code
def yX7_init : MethodName := ⟨RX7, "<init>", "()V"⟩
abbrev cX7_clear : ByteArray := prog_9_method_2_code
def yX7_clear : MethodName := ⟨RX7, "clear", "()V"⟩
abbrev cX7_firstEventFrom : ByteArray := prog_9_method_3_code
def yX7_firstEventFrom : MethodName := ⟨RX7, "firstEventFrom", "(I)I"⟩
abbrev cX7_canBeLeftOut : ByteArray := prog_9_method_4_code
def yX7_canBeLeftOut : MethodName := ⟨RX7, "canBeLeftOut", "(I)Z"⟩
abbrev cX7_movesAll : ByteArray := prog_9_method_5_code
def yX7_movesAll : MethodName := ⟨RX7, "movesAll", "(I)Z"⟩
abbrev cX7_way : ByteArray := prog_9_method_6_code
def yX7_way : MethodName := ⟨RX7, "way", "(I)I"⟩
abbrev cX7_purseOfComer : ByteArray := prog_9_method_7_code
def yX7_purseOfComer : MethodName := ⟨RX7, "purseOfComer", "(II)I"⟩
abbrev cX7_purseOfPayers : ByteArray := prog_9_method_8_code
def yX7_purseOfPayers : MethodName := ⟨RX7, "purseOfPayers", "(II)I"⟩
def RX8 : String := "WhatWasHers$Sums"
def TX8 : u_T := fun k => match k with
  | 0 => ("WhatWasHers$Sums", "has", "[J", true)
  | 1 => ("WhatWasHers$Sums", "came", "[J", true)
  | 2 => ("WhatWasHers$Sums", "thingsIn", "[I", true)
  | 3 => ("WhatWasHers$Sums", "fedInto", "[J", true)
  | 4 => ("WhatWasHers$Sums", "owedTop", "[J", true)
  | 5 => ("WhatWasHers$Sums", "netTop", "[J", true)
  | 6 => ("WhatWasHers$Sums", "endTop", "[J", true)
  | 7 => ("WhatWasHers$Sums", "bottom", "J", false)
  | _ => ("WhatWasHers$Sums", "matrix", "[J", true)
def tyX8 : Nat → FieldType := fun k => match k with
  | 0 => .array .long
  | 1 => .array .long
  | 2 => .array .int
  | 3 => .array .long
  | 4 => .array .long
  | 5 => .array .long
  | 6 => .array .long
  | 7 => .long
  | _ => .array .long
abbrev wsX80 : List Cond := u_ws RX8 TX8 9
theorem nmX8 : ∀ a, a < 9 → ∀ b, b < 9 → a ≠ b → (TX8 a).2.1 ≠ (TX8 b).2.1 := by decide +kernel
theorem tyX8_ok : ∀ k, k < 9 → parseFieldDescriptor (TX8 k).2.2.1 = some (tyX8 k) := by decide +kernel
abbrev cX8_init : ByteArray := prog_10_method_1_code
def yX8_init : MethodName := ⟨RX8, "<init>", "()V"⟩
abbrev cX8_reckon : ByteArray := prog_10_method_2_code
def yX8_reckon : MethodName := ⟨RX8, "reckon", "(LWhatWasHers$Course;)V"⟩
abbrev cX8_endBottom : ByteArray := prog_10_method_3_code
def yX8_endBottom : MethodName := ⟨RX8, "endBottom", "()J"⟩
abbrev cX8_herEndCut : ByteArray := prog_10_method_4_code
def yX8_herEndCut : MethodName := ⟨RX8, "herEndCut", "()J"⟩
abbrev cX8_grants : ByteArray := prog_10_method_5_code
def yX8_grants : MethodName := ⟨RX8, "grants", "(II)Z"⟩
abbrev cX8_addThings : ByteArray := prog_10_method_6_code
def yX8_addThings : MethodName := ⟨RX8, "addThings", "(LWhatWasHers$Course;)V"⟩
abbrev cX8_addPuts : ByteArray := prog_10_method_7_code
def yX8_addPuts : MethodName := ⟨RX8, "addPuts", "(LWhatWasHers$Course;I)V"⟩
abbrev cX8_claim : ByteArray := prog_10_method_8_code
def yX8_claim : MethodName := ⟨RX8, "claim", "(IIII)I"⟩
abbrev cX8_addNets : ByteArray := prog_10_method_9_code
def yX8_addNets : MethodName := ⟨RX8, "addNets", "()V"⟩
abbrev cX8_solveParts : ByteArray := prog_10_method_10_code
def yX8_solveParts : MethodName := ⟨RX8, "solveParts", "()V"⟩
abbrev cX8_cameOrOne : ByteArray := prog_10_method_11_code
def yX8_cameOrOne : MethodName := ⟨RX8, "cameOrOne", "(I)J"⟩
abbrev cX8_determinant : ByteArray := prog_10_method_12_code
def yX8_determinant : MethodName := ⟨RX8, "determinant", "(I)J"⟩
abbrev cX8_minor : ByteArray := prog_10_method_13_code
def yX8_minor : MethodName := ⟨RX8, "minor", "(III)J"⟩
abbrev cX8_cell : ByteArray := prog_10_method_14_code
def yX8_cell : MethodName := ⟨RX8, "cell", "(III)J"⟩
def RX9 : String := "WhatWasHers$Thing"
def TX9 : u_T := fun k => match k with
  | _ => ("", "", "", false)
def tyX9 : Nat → FieldType := fun k => match k with
  | _ => .int
abbrev wsX90 : List Cond := u_ws RX9 TX9 0
theorem nmX9 : ∀ a, a < 0 → ∀ b, b < 0 → a ≠ b → (TX9 a).2.1 ≠ (TX9 b).2.1 := by decide +kernel
theorem tyX9_ok : ∀ k, k < 0 → parseFieldDescriptor (TX9 k).2.2.1 = some (tyX9 k) := by decide +kernel
abbrev cX9_init : ByteArray := prog_11_method_1_code
def yX9_init : MethodName := ⟨RX9, "<init>", "(ILWhatWasHers$Course;LWhatWasHers$Trace;)V"⟩
abbrev cX9_size : ByteArray := prog_11_method_2_code
def yX9_size : MethodName := ⟨RX9, "size", "()J"⟩
abbrev cX9_mark : ByteArray := prog_11_method_3_code
def yX9_mark : MethodName := ⟨RX9, "mark", "()J"⟩
def RX10 : String := "WhatWasHers$Trace"
def TX10 : u_T := fun k => match k with
  | 0 => ("WhatWasHers$Trace", "numbers", "[I", true)
  | _ => ("WhatWasHers$Trace", "length", "I", false)
def tyX10 : Nat → FieldType := fun k => match k with
  | 0 => .array .int
  | _ => .int
abbrev wsX100 : List Cond := u_ws RX10 TX10 2
theorem nmX10 : ∀ a, a < 2 → ∀ b, b < 2 → a ≠ b → (TX10 a).2.1 ≠ (TX10 b).2.1 := by decide +kernel
theorem tyX10_ok : ∀ k, k < 2 → parseFieldDescriptor (TX10 k).2.2.1 = some (tyX10 k) := by decide +kernel
abbrev cX10_init : ByteArray := prog_12_method_1_code
def yX10_init : MethodName := ⟨RX10, "<init>", "()V"⟩
abbrev cX10_clear : ByteArray := prog_12_method_2_code
def yX10_clear : MethodName := ⟨RX10, "clear", "()V"⟩
abbrev cX10_leave : ByteArray := prog_12_method_3_code
def yX10_leave : MethodName := ⟨RX10, "leave", "(I)V"⟩
def RX11 : String := "WhatWasHers"
def TX11 : u_T := fun k => match k with
  | 0 => ("WhatWasHers", "lanes", "[I", true)
  | 1 => ("WhatWasHers", "sizes", "[I", true)
  | 2 => ("WhatWasHers", "items", "[I", true)
  | 3 => ("WhatWasHers", "latestFinding", "I", false)
  | 4 => ("WhatWasHers", "reader", "LWhatWasHers$Reader;", true)
  | 5 => ("WhatWasHers", "latestFault", "I", false)
  | 6 => ("WhatWasHers", "lived", "Z", false)
  | 7 => ("WhatWasHers", "story", "LWhatWasHers$Story;", false)
  | 8 => ("WhatWasHers", "spare", "LWhatWasHers$Story;", false)
  | 9 => ("WhatWasHers", "course", "LWhatWasHers$Course;", true)
  | 10 => ("WhatWasHers", "sums", "LWhatWasHers$Sums;", true)
  | 11 => ("WhatWasHers", "otherCourse", "LWhatWasHers$Course;", true)
  | 12 => ("WhatWasHers", "otherSums", "LWhatWasHers$Sums;", true)
  | _ => ("WhatWasHers", "left", "LWhatWasHers$Trace;", true)
def tyX11 : Nat → FieldType := fun k => match k with
  | 0 => .array .int
  | 1 => .array .int
  | 2 => .array .int
  | 3 => .int
  | 4 => .object "WhatWasHers$Reader"
  | 5 => .int
  | 6 => .boolean
  | 7 => .object "WhatWasHers$Story"
  | 8 => .object "WhatWasHers$Story"
  | 9 => .object "WhatWasHers$Course"
  | 10 => .object "WhatWasHers$Sums"
  | 11 => .object "WhatWasHers$Course"
  | 12 => .object "WhatWasHers$Sums"
  | _ => .object "WhatWasHers$Trace"
abbrev wsX110 : List Cond := u_ws RX11 TX11 14
theorem nmX11 : ∀ a, a < 14 → ∀ b, b < 14 → a ≠ b → (TX11 a).2.1 ≠ (TX11 b).2.1 := by decide +kernel
theorem tyX11_ok : ∀ k, k < 14 → parseFieldDescriptor (TX11 k).2.2.1 = some (tyX11 k) := by decide +kernel
abbrev cX11_init : ByteArray := prog_1_method_1_code
def yX11_init : MethodName := ⟨RX11, "<init>", "()V"⟩
abbrev cX11_row : ByteArray := prog_1_method_2_code
def yX11_row : MethodName := ⟨RX11, "row", "(III)J"⟩
abbrev cX11_set : ByteArray := prog_1_method_3_code
def yX11_set : MethodName := ⟨RX11, "set", "(III)J"⟩
abbrev cX11_copy : ByteArray := prog_1_method_4_code
def yX11_copy : MethodName := ⟨RX11, "copy", "(IIIII)J"⟩
abbrev cX11_drop : ByteArray := prog_1_method_5_code
def yX11_drop : MethodName := ⟨RX11, "drop", "(I)J"⟩
abbrev cX11_isNoRow : ByteArray := prog_1_method_6_code
def yX11_isNoRow : MethodName := ⟨RX11, "isNoRow", "(I)Z"⟩
abbrev cX11_isMissing : ByteArray := prog_1_method_7_code
def yX11_isMissing : MethodName := ⟨RX11, "isMissing", "(I)Z"⟩
abbrev cX11_lacksItems : ByteArray := prog_1_method_8_code
def yX11_lacksItems : MethodName := ⟨RX11, "lacksItems", "(III)Z"⟩
abbrev cX11_lowestBits : ByteArray := prog_1_method_9_code
def yX11_lowestBits : MethodName := ⟨RX11, "lowestBits", "(II)I"⟩
abbrev cX11_found : ByteArray := prog_1_method_10_code
def yX11_found : MethodName := ⟨RX11, "found", "(I)J"⟩
abbrev cX11_fine : ByteArray := prog_1_method_11_code
def yX11_fine : MethodName := ⟨RX11, "fine", "(J)J"⟩
abbrev cX11_feed : ByteArray := prog_1_method_12_code
def yX11_feed : MethodName := ⟨RX11, "feed", "(JI)J"⟩
abbrev cX11_life : ByteArray := prog_1_method_13_code
def yX11_life : MethodName := ⟨RX11, "life", "()J"⟩
abbrev cX11_fault : ByteArray := prog_1_method_14_code
def yX11_fault : MethodName := ⟨RX11, "fault", "()I"⟩
abbrev cX11_whose : ByteArray := prog_1_method_15_code
def yX11_whose : MethodName := ⟨RX11, "whose", "(II)J"⟩
abbrev cX11_thing : ByteArray := prog_1_method_16_code
def yX11_thing : MethodName := ⟨RX11, "thing", "(II)J"⟩
abbrev cX11_judge : ByteArray := prog_1_method_17_code
def yX11_judge : MethodName := ⟨RX11, "judge", "(II)J"⟩
abbrev cX11_isNoThing : ByteArray := prog_1_method_18_code
def yX11_isNoThing : MethodName := ⟨RX11, "isNoThing", "(I)Z"⟩
abbrev cX11_isNoDay : ByteArray := prog_1_method_19_code
def yX11_isNoDay : MethodName := ⟨RX11, "isNoDay", "(I)Z"⟩
abbrev cX11_isNoPurse : ByteArray := prog_1_method_20_code
def yX11_isNoPurse : MethodName := ⟨RX11, "isNoPurse", "(I)Z"⟩
abbrev cX11_purse : ByteArray := prog_1_method_21_code
def yX11_purse : MethodName := ⟨RX11, "purse", "(II)J"⟩
abbrev cX11_fed : ByteArray := prog_1_method_22_code
def yX11_fed : MethodName := ⟨RX11, "fed", "(II)J"⟩
abbrev cX11_owed : ByteArray := prog_1_method_23_code
def yX11_owed : MethodName := ⟨RX11, "owed", "(III)J"⟩
abbrev cX11_net : ByteArray := prog_1_method_24_code
def yX11_net : MethodName := ⟨RX11, "net", "(II)J"⟩
abbrev cX11_end : ByteArray := prog_1_method_25_code
def yX11_end : MethodName := ⟨RX11, "end", "(II)J"⟩
abbrev cX11_areNoPair : ByteArray := prog_1_method_26_code
def yX11_areNoPair : MethodName := ⟨RX11, "areNoPair", "(II)Z"⟩
abbrev cX11_isNoPart : ByteArray := prog_1_method_27_code
def yX11_isNoPart : MethodName := ⟨RX11, "isNoPart", "(I)Z"⟩
abbrev cX11_partOf : ByteArray := prog_1_method_28_code
def yX11_partOf : MethodName := ⟨RX11, "partOf", "(JJI)J"⟩
abbrev cX11_commonDivisor : ByteArray := prog_1_method_29_code
def yX11_commonDivisor : MethodName := ⟨RX11, "commonDivisor", "(JJ)J"⟩
abbrev cX11_beside : ByteArray := prog_1_method_30_code
def yX11_beside : MethodName := ⟨RX11, "beside", "(III)J"⟩
abbrev cX11_hangs : ByteArray := prog_1_method_31_code
def yX11_hangs : MethodName := ⟨RX11, "hangs", "()J"⟩
abbrev cX11_herEndWithout : ByteArray := prog_1_method_32_code
def yX11_herEndWithout : MethodName := ⟨RX11, "herEndWithout", "(I)J"⟩
abbrev cX11_beforehand : ByteArray := prog_1_method_33_code
def yX11_beforehand : MethodName := ⟨RX11, "beforehand", "(II)J"⟩
abbrev cX11_isNoWish : ByteArray := prog_1_method_34_code
def yX11_isNoWish : MethodName := ⟨RX11, "isNoWish", "(I)Z"⟩
abbrev cX11_kind : ByteArray := prog_1_method_35_code
def yX11_kind : MethodName := ⟨RX11, "kind", "(I)J"⟩
abbrev cX11_as : ByteArray := prog_1_method_36_code
def yX11_as : MethodName := ⟨RX11, "as", "(II)J"⟩
abbrev cX11_ask : ByteArray := prog_1_method_37_code
def yX11_ask : MethodName := ⟨RX11, "ask", "(II)J"⟩
abbrev cX11_trace : ByteArray := prog_1_method_38_code
def yX11_trace : MethodName := ⟨RX11, "trace", "(I)I"⟩
abbrev cX11_count : ByteArray := prog_1_method_39_code
def yX11_count : MethodName := ⟨RX11, "count", "(I)J"⟩
abbrev cX11_status : ByteArray := prog_1_method_40_code
def yX11_status : MethodName := ⟨RX11, "status", "()I"⟩
abbrev cX11_rowsThatAre : ByteArray := prog_1_method_41_code
def yX11_rowsThatAre : MethodName := ⟨RX11, "rowsThatAre", "()I"⟩
abbrev cX11_toldThing : ByteArray := prog_1_method_42_code
def yX11_toldThing : MethodName := ⟨RX11, "toldThing", "(I)LWhatWasHers$Thing;"⟩
abbrev cX11_isOfKind : ByteArray := prog_1_method_43_code
def yX11_isOfKind : MethodName := ⟨RX11, "isOfKind", "(LWhatWasHers$Thing;I)Z"⟩
def RX12 : String := "WhatWasHersModel"
def TX12 : u_T := fun k => match k with
  | 0 => ("WhatWasHersModel", "thrown", "I", false)
  | 1 => ("WhatWasHersModel", "status", "I", false)
  | 2 => ("WhatWasHersModel", "lane", "[I", true)
  | 3 => ("WhatWasHersModel", "many", "[I", true)
  | 4 => ("WhatWasHersModel", "item", "[I", true)
  | 5 => ("WhatWasHersModel", "isThere", "Z", false)
  | 6 => ("WhatWasHersModel", "laws", "I", false)
  | 7 => ("WhatWasHersModel", "events", "I", false)
  | 8 => ("WhatWasHersModel", "things", "I", false)
  | 9 => ("WhatWasHersModel", "law", "[I", true)
  | 10 => ("WhatWasHersModel", "event", "[I", true)
  | 11 => ("WhatWasHersModel", "newLaws", "I", false)
  | 12 => ("WhatWasHersModel", "newEvents", "I", false)
  | 13 => ("WhatWasHersModel", "newThings", "I", false)
  | 14 => ("WhatWasHersModel", "newLaw", "[I", true)
  | 15 => ("WhatWasHersModel", "newEvent", "[I", true)
  | 16 => ("WhatWasHersModel", "tape", "[I", true)
  | 17 => ("WhatWasHersModel", "taped", "I", false)
  | 18 => ("WhatWasHersModel", "latest", "I", false)
  | 19 => ("WhatWasHersModel", "length", "I", false)
  | 20 => ("WhatWasHersModel", "cursor", "I", false)
  | 21 => ("WhatWasHersModel", "token", "I", false)
  | 22 => ("WhatWasHersModel", "from", "I", false)
  | 23 => ("WhatWasHersModel", "till", "I", false)
  | 24 => ("WhatWasHersModel", "fault", "I", false)
  | 25 => ("WhatWasHersModel", "faultAt", "I", false)
  | 26 => ("WhatWasHersModel", "lawNow", "I", false)
  | 27 => ("WhatWasHersModel", "agreed", "[I", true)
  | 28 => ("WhatWasHersModel", "came", "I", false)
  | 29 => ("WhatWasHersModel", "purse", "[I", true)
  | 30 => ("WhatWasHersModel", "firstPurse", "[I", true)
  | 31 => ("WhatWasHersModel", "reason", "[I", true)
  | 32 => ("WhatWasHersModel", "cameBy", "[I", true)
  | 33 => ("WhatWasHersModel", "fellBy", "[I", true)
  | 34 => ("WhatWasHersModel", "worth", "[I", true)
  | 35 => ("WhatWasHersModel", "atCome", "[I", true)
  | 36 => ("WhatWasHersModel", "who", "[I", true)
  | 37 => ("WhatWasHersModel", "way", "[I", true)
  | 38 => ("WhatWasHersModel", "paid", "[I", true)
  | 39 => ("WhatWasHersModel", "debts", "[I", true)
  | 40 => ("WhatWasHersModel", "puts", "I", false)
  | 41 => ("WhatWasHersModel", "putInto", "[I", true)
  | 42 => ("WhatWasHersModel", "putBy", "[I", true)
  | 43 => ("WhatWasHersModel", "putSum", "[I", true)
  | 44 => ("WhatWasHersModel", "putWeight", "[I", true)
  | 45 => ("WhatWasHersModel", "has", "[J", true)
  | 46 => ("WhatWasHersModel", "into", "[J", true)
  | 47 => ("WhatWasHersModel", "fedInto", "[J", true)
  | 48 => ("WhatWasHersModel", "owing", "[J", true)
  | 49 => ("WhatWasHersModel", "whole", "J", false)
  | 50 => ("WhatWasHersModel", "nets", "[J", true)
  | 51 => ("WhatWasHersModel", "share", "[J", true)
  | 52 => ("WhatWasHersModel", "sides", "[J", true)
  | 53 => ("WhatWasHersModel", "trace", "[I", true)
  | _ => ("WhatWasHersModel", "traced", "I", false)
def tyX12 : Nat → FieldType := fun k => match k with
  | 0 => .int
  | 1 => .int
  | 2 => .array .int
  | 3 => .array .int
  | 4 => .array .int
  | 5 => .boolean
  | 6 => .int
  | 7 => .int
  | 8 => .int
  | 9 => .array .int
  | 10 => .array .int
  | 11 => .int
  | 12 => .int
  | 13 => .int
  | 14 => .array .int
  | 15 => .array .int
  | 16 => .array .int
  | 17 => .int
  | 18 => .int
  | 19 => .int
  | 20 => .int
  | 21 => .int
  | 22 => .int
  | 23 => .int
  | 24 => .int
  | 25 => .int
  | 26 => .int
  | 27 => .array .int
  | 28 => .int
  | 29 => .array .int
  | 30 => .array .int
  | 31 => .array .int
  | 32 => .array .int
  | 33 => .array .int
  | 34 => .array .int
  | 35 => .array .int
  | 36 => .array .int
  | 37 => .array .int
  | 38 => .array .int
  | 39 => .array .int
  | 40 => .int
  | 41 => .array .int
  | 42 => .array .int
  | 43 => .array .int
  | 44 => .array .int
  | 45 => .array .long
  | 46 => .array .long
  | 47 => .array .long
  | 48 => .array .long
  | 49 => .long
  | 50 => .array .long
  | 51 => .array .long
  | 52 => .array .long
  | 53 => .array .int
  | _ => .int
abbrev wsX120 : List Cond := u_ws RX12 TX12 55
theorem nmX12 : ∀ a, a < 55 → ∀ b, b < 55 → a ≠ b → (TX12 a).2.1 ≠ (TX12 b).2.1 := by decide +kernel
theorem tyX12_ok : ∀ k, k < 55 → parseFieldDescriptor (TX12 k).2.2.1 = some (tyX12 k) := by decide +kernel
abbrev cX12_init : ByteArray := prog_14_method_1_code
def yX12_init : MethodName := ⟨RX12, "<init>", "()V"⟩
abbrev cX12_in : ByteArray := prog_14_method_3_code
def yX12_in : MethodName := ⟨RX12, "in", "(JJJ)Z"⟩
abbrev cX12_finding : ByteArray := prog_14_method_4_code
def yX12_finding : MethodName := ⟨RX12, "finding", "(I)J"⟩
abbrev cX12_isRow : ByteArray := prog_14_method_5_code
def yX12_isRow : MethodName := ⟨RX12, "isRow", "(I)Z"⟩
abbrev cX12_row : ByteArray := prog_14_method_6_code
def yX12_row : MethodName := ⟨RX12, "row", "(III)J"⟩
abbrev cX12_set : ByteArray := prog_14_method_7_code
def yX12_set : MethodName := ⟨RX12, "set", "(III)J"⟩
abbrev cX12_copy : ByteArray := prog_14_method_8_code
def yX12_copy : MethodName := ⟨RX12, "copy", "(IIIII)J"⟩
abbrev cX12_drop : ByteArray := prog_14_method_9_code
def yX12_drop : MethodName := ⟨RX12, "drop", "(I)J"⟩
abbrev cX12_feed : ByteArray := prog_14_method_10_code
def yX12_feed : MethodName := ⟨RX12, "feed", "(JI)J"⟩
abbrev cX12_byteAt : ByteArray := prog_14_method_11_code
def yX12_byteAt : MethodName := ⟨RX12, "byteAt", "(I)I"⟩
abbrev cX12_isLetter : ByteArray := prog_14_method_12_code
def yX12_isLetter : MethodName := ⟨RX12, "isLetter", "(I)Z"⟩
abbrev cX12_isFigure : ByteArray := prog_14_method_13_code
def yX12_isFigure : MethodName := ⟨RX12, "isFigure", "(I)Z"⟩
abbrev cX12_next : ByteArray := prog_14_method_14_code
def yX12_next : MethodName := ⟨RX12, "next", "()V"⟩
abbrev cX12_bad : ByteArray := prog_14_method_15_code
def yX12_bad : MethodName := ⟨RX12, "bad", "(I)V"⟩
abbrev cX12_must : ByteArray := prog_14_method_16_code
def yX12_must : MethodName := ⟨RX12, "must", "(Z)V"⟩
abbrev cX12_word : ByteArray := prog_14_method_17_code
def yX12_word : MethodName := ⟨RX12, "word", "()J"⟩
abbrev cX12_numberIn : ByteArray := prog_14_method_18_code
def yX12_numberIn : MethodName := ⟨RX12, "numberIn", "(II)I"⟩
abbrev cX12_oneOf : ByteArray := prog_14_method_19_code
def yX12_oneOf : MethodName := ⟨RX12, "oneOf", "(JJJJJ)I"⟩
abbrev cX12_mustEnd : ByteArray := prog_14_method_20_code
def yX12_mustEnd : MethodName := ⟨RX12, "mustEnd", "()V"⟩
abbrev cX12_readLaw : ByteArray := prog_14_method_21_code
def yX12_readLaw : MethodName := ⟨RX12, "readLaw", "()V"⟩
abbrev cX12_kindOfWord : ByteArray := prog_14_method_22_code
def yX12_kindOfWord : MethodName := ⟨RX12, "kindOfWord", "()I"⟩
abbrev cX12_readNumbers : ByteArray := prog_14_method_23_code
def yX12_readNumbers : MethodName := ⟨RX12, "readNumbers", "(II)V"⟩
abbrev cX12_readEvent : ByteArray := prog_14_method_24_code
def yX12_readEvent : MethodName := ⟨RX12, "readEvent", "(I)V"⟩
abbrev cX12_life : ByteArray := prog_14_method_25_code
def yX12_life : MethodName := ⟨RX12, "life", "()J"⟩
abbrev cX12_fault : ByteArray := prog_14_method_26_code
def yX12_fault : MethodName := ⟨RX12, "fault", "()I"⟩
abbrev cX12_byLaw : ByteArray := prog_14_method_27_code
def yX12_byLaw : MethodName := ⟨RX12, "byLaw", "(I)I"⟩
abbrev cX12_fall : ByteArray := prog_14_method_28_code
def yX12_fall : MethodName := ⟨RX12, "fall", "(III)V"⟩
abbrev cX12_putIn : ByteArray := prog_14_method_29_code
def yX12_putIn : MethodName := ⟨RX12, "putIn", "(III)V"⟩
abbrev cX12_bring : ByteArray := prog_14_method_30_code
def yX12_bring : MethodName := ⟨RX12, "bring", "(II)V"⟩
abbrev cX12_move : ByteArray := prog_14_method_31_code
def yX12_move : MethodName := ⟨RX12, "move", "(II)V"⟩
abbrev cX12_happen : ByteArray := prog_14_method_32_code
def yX12_happen : MethodName := ⟨RX12, "happen", "(I)V"⟩
abbrev cX12_goThrough : ByteArray := prog_14_method_33_code
def yX12_goThrough : MethodName := ⟨RX12, "goThrough", "(IIIIII)V"⟩
abbrev cX12_goAll : ByteArray := prog_14_method_34_code
def yX12_goAll : MethodName := ⟨RX12, "goAll", "()V"⟩
abbrev cX12_isThing : ByteArray := prog_14_method_35_code
def yX12_isThing : MethodName := ⟨RX12, "isThing", "(I)Z"⟩
abbrev cX12_whose : ByteArray := prog_14_method_36_code
def yX12_whose : MethodName := ⟨RX12, "whose", "(II)J"⟩
abbrev cX12_putsInto : ByteArray := prog_14_method_37_code
def yX12_putsInto : MethodName := ⟨RX12, "putsInto", "(I)I"⟩
abbrev cX12_thing : ByteArray := prog_14_method_38_code
def yX12_thing : MethodName := ⟨RX12, "thing", "(II)J"⟩
abbrev cX12_judge : ByteArray := prog_14_method_39_code
def yX12_judge : MethodName := ⟨RX12, "judge", "(II)J"⟩
abbrev cX12_laySums : ByteArray := prog_14_method_40_code
def yX12_laySums : MethodName := ⟨RX12, "laySums", "()V"⟩
abbrev cX12_isPurse : ByteArray := prog_14_method_41_code
def yX12_isPurse : MethodName := ⟨RX12, "isPurse", "(I)Z"⟩
abbrev cX12_purse : ByteArray := prog_14_method_42_code
def yX12_purse : MethodName := ⟨RX12, "purse", "(II)J"⟩
abbrev cX12_fed : ByteArray := prog_14_method_43_code
def yX12_fed : MethodName := ⟨RX12, "fed", "(II)J"⟩
abbrev cX12_minor : ByteArray := prog_14_method_44_code
def yX12_minor : MethodName := ⟨RX12, "minor", "(IIII)J"⟩
abbrev cX12_determinant : ByteArray := prog_14_method_45_code
def yX12_determinant : MethodName := ⟨RX12, "determinant", "()J"⟩
abbrev cX12_laySides : ByteArray := prog_14_method_46_code
def yX12_laySides : MethodName := ⟨RX12, "laySides", "()V"⟩
abbrev cX12_layNets : ByteArray := prog_14_method_47_code
def yX12_layNets : MethodName := ⟨RX12, "layNets", "()V"⟩
abbrev cX12_partOf : ByteArray := prog_14_method_48_code
def yX12_partOf : MethodName := ⟨RX12, "partOf", "(JJI)J"⟩
abbrev cX12_owed : ByteArray := prog_14_method_49_code
def yX12_owed : MethodName := ⟨RX12, "owed", "(III)J"⟩
abbrev cX12_net : ByteArray := prog_14_method_50_code
def yX12_net : MethodName := ⟨RX12, "net", "(II)J"⟩
abbrev cX12_endOf : ByteArray := prog_14_method_51_code
def yX12_endOf : MethodName := ⟨RX12, "endOf", "(I)J"⟩
abbrev cX12_end : ByteArray := prog_14_method_52_code
def yX12_end : MethodName := ⟨RX12, "end", "(II)J"⟩
abbrev cX12_beside : ByteArray := prog_14_method_53_code
def yX12_beside : MethodName := ⟨RX12, "beside", "(III)J"⟩
abbrev cX12_hangs : ByteArray := prog_14_method_54_code
def yX12_hangs : MethodName := ⟨RX12, "hangs", "()J"⟩
abbrev cX12_isWished : ByteArray := prog_14_method_55_code
def yX12_isWished : MethodName := ⟨RX12, "isWished", "(IIII)Z"⟩
abbrev cX12_beforehand : ByteArray := prog_14_method_56_code
def yX12_beforehand : MethodName := ⟨RX12, "beforehand", "(II)J"⟩
abbrev cX12_isFed : ByteArray := prog_14_method_57_code
def yX12_isFed : MethodName := ⟨RX12, "isFed", "(I)Z"⟩
abbrev cX12_kindOf : ByteArray := prog_14_method_58_code
def yX12_kindOf : MethodName := ⟨RX12, "kindOf", "(I)I"⟩
abbrev cX12_isOf : ByteArray := prog_14_method_59_code
def yX12_isOf : MethodName := ⟨RX12, "isOf", "(II)Z"⟩
abbrev cX12_kind : ByteArray := prog_14_method_60_code
def yX12_kind : MethodName := ⟨RX12, "kind", "(I)J"⟩
abbrev cX12_as : ByteArray := prog_14_method_61_code
def yX12_as : MethodName := ⟨RX12, "as", "(II)J"⟩
abbrev cX12_began : ByteArray := prog_14_method_62_code
def yX12_began : MethodName := ⟨RX12, "began", "(I)V"⟩
abbrev cX12_commonSize : ByteArray := prog_14_method_63_code
def yX12_commonSize : MethodName := ⟨RX12, "commonSize", "(I)I"⟩
abbrev cX12_markOf : ByteArray := prog_14_method_64_code
def yX12_markOf : MethodName := ⟨RX12, "markOf", "(II)I"⟩
abbrev cX12_sizeOf : ByteArray := prog_14_method_65_code
def yX12_sizeOf : MethodName := ⟨RX12, "sizeOf", "(II)I"⟩
abbrev cX12_ask : ByteArray := prog_14_method_66_code
def yX12_ask : MethodName := ⟨RX12, "ask", "(II)J"⟩
abbrev cX12_trace : ByteArray := prog_14_method_67_code
def yX12_trace : MethodName := ⟨RX12, "trace", "(I)I"⟩
abbrev cX12_count : ByteArray := prog_14_method_68_code
def yX12_count : MethodName := ⟨RX12, "count", "(I)J"⟩
abbrev cX12_status : ByteArray := prog_14_method_69_code
def yX12_status : MethodName := ⟨RX12, "status", "()I"⟩
def RJ9 : String := "java/lang/Math"
def TJ9 : u_T := fun k => match k with
  | _ => ("", "", "", false)
def tyJ9 : Nat → FieldType := fun k => match k with
  | _ => .int
abbrev wsJ90 : List Cond := u_ws RJ9 TJ9 0
theorem nmJ9 : ∀ a, a < 0 → ∀ b, b < 0 → a ≠ b → (TJ9 a).2.1 ≠ (TJ9 b).2.1 := by decide +kernel
theorem tyJ9_ok : ∀ k, k < 0 → parseFieldDescriptor (TJ9 k).2.2.1 = some (tyJ9 k) := by decide +kernel
abbrev cJ9_abs_067f4 : ByteArray := prog_15_method_61_code
def yJ9_abs_067f4 : MethodName := ⟨RJ9, "abs", "(J)J"⟩
abbrev cJ9_max_7cf53 : ByteArray := prog_15_method_65_code
def yJ9_max_7cf53 : MethodName := ⟨RJ9, "max", "(II)I"⟩
abbrev cJ9_min_7cf53 : ByteArray := prog_15_method_69_code
def yJ9_min_7cf53 : MethodName := ⟨RJ9, "min", "(II)I"⟩
def RJ0 : String := "java/lang/String"
def TJ0 : u_T := fun k => match k with
  | _ => ("", "", "", false)
def tyJ0 : Nat → FieldType := fun k => match k with
  | _ => .int
abbrev wsJ00 : List Cond := u_ws RJ0 TJ0 0
theorem nmJ0 : ∀ a, a < 0 → ∀ b, b < 0 → a ≠ b → (TJ0 a).2.1 ≠ (TJ0 b).2.1 := by decide +kernel
theorem tyJ0_ok : ∀ k, k < 0 → parseFieldDescriptor (TJ0 k).2.2.1 = some (tyJ0 k) := by decide +kernel
abbrev cJ0_length_8abf5 : ByteArray := prog_16_method_54_code
def yJ0_length_8abf5 : MethodName := ⟨RJ0, "length", "()I"⟩
abbrev cJ0_charAt_5068e : ByteArray := prog_16_method_56_code
def yJ0_charAt_5068e : MethodName := ⟨RJ0, "charAt", "(I)C"⟩
abbrev cJ0_coder_7d493 : ByteArray := prog_16_method_152_code
def yJ0_coder_7d493 : MethodName := ⟨RJ0, "coder", "()B"⟩
abbrev cJ0_isLatin1_aae02 : ByteArray := prog_16_method_154_code
def yJ0_isLatin1_aae02 : MethodName := ⟨RJ0, "isLatin1", "()Z"⟩
abbrev cJ0_checkIndex_df160 : ByteArray := prog_16_method_155_code
def yJ0_checkIndex_df160 : MethodName := ⟨RJ0, "checkIndex", "(II)V"⟩
def RJ1 : String := "java/lang/StringLatin1"
def TJ1 : u_T := fun k => match k with
  | _ => ("", "", "", false)
def tyJ1 : Nat → FieldType := fun k => match k with
  | _ => .int
abbrev wsJ10 : List Cond := u_ws RJ1 TJ1 0
theorem nmJ1 : ∀ a, a < 0 → ∀ b, b < 0 → a ≠ b → (TJ1 a).2.1 ≠ (TJ1 b).2.1 := by decide +kernel
theorem tyJ1_ok : ∀ k, k < 0 → parseFieldDescriptor (TJ1 k).2.2.1 = some (tyJ1 k) := by decide +kernel
abbrev cJ1_charAt_3b067 : ByteArray := prog_17_method_2_code
def yJ1_charAt_3b067 : MethodName := ⟨RJ1, "charAt", "([BI)C"⟩
def RJ2 : String := "java/lang/StringUTF16"
def TJ2 : u_T := fun k => match k with
  | _ => ("", "", "", false)
def tyJ2 : Nat → FieldType := fun k => match k with
  | _ => .int
abbrev wsJ20 : List Cond := u_ws RJ2 TJ2 0
theorem nmJ2 : ∀ a, a < 0 → ∀ b, b < 0 → a ≠ b → (TJ2 a).2.1 ≠ (TJ2 b).2.1 := by decide +kernel
theorem tyJ2_ok : ∀ k, k < 0 → parseFieldDescriptor (TJ2 k).2.2.1 = some (tyJ2 k) := by decide +kernel
abbrev cJ2_getChar_3b067 : ByteArray := prog_18_method_5_code
def yJ2_getChar_3b067 : MethodName := ⟨RJ2, "getChar", "([BI)C"⟩
abbrev cJ2_length_9d52b : ByteArray := prog_18_method_6_code
def yJ2_length_9d52b : MethodName := ⟨RJ2, "length", "([B)I"⟩
abbrev cJ2_charAt_3b067 : ByteArray := prog_18_method_83_code
def yJ2_charAt_3b067 : MethodName := ⟨RJ2, "charAt", "([BI)C"⟩
abbrev cJ2_checkIndex_2214a : ByteArray := prog_18_method_91_code
def yJ2_checkIndex_2214a : MethodName := ⟨RJ2, "checkIndex", "(I[B)V"⟩
def RJ10 : String := "java/lang/System"
def TJ10 : u_T := fun k => match k with
  | _ => ("", "", "", false)
def tyJ10 : Nat → FieldType := fun k => match k with
  | _ => .int
abbrev wsJ100 : List Cond := u_ws RJ10 TJ10 0
theorem nmJ10 : ∀ a, a < 0 → ∀ b, b < 0 → a ≠ b → (TJ10 a).2.1 ≠ (TJ10 b).2.1 := by decide +kernel
theorem tyJ10_ok : ∀ k, k < 0 → parseFieldDescriptor (TJ10 k).2.2.1 = some (tyJ10 k) := by decide +kernel
def RJ7 : String := "java/util/Arrays"
def TJ7 : u_T := fun k => match k with
  | _ => ("", "", "", false)
def tyJ7 : Nat → FieldType := fun k => match k with
  | _ => .int
abbrev wsJ70 : List Cond := u_ws RJ7 TJ7 0
theorem nmJ7 : ∀ a, a < 0 → ∀ b, b < 0 → a ≠ b → (TJ7 a).2.1 ≠ (TJ7 b).2.1 := by decide +kernel
theorem tyJ7_ok : ∀ k, k < 0 → parseFieldDescriptor (TJ7 k).2.2.1 = some (tyJ7 k) := by decide +kernel
abbrev cJ7_fill_d0a16 : ByteArray := prog_20_method_101_code
def yJ7_fill_d0a16 : MethodName := ⟨RJ7, "fill", "([JJ)V"⟩
abbrev cJ7_fill_53178 : ByteArray := prog_20_method_103_code
def yJ7_fill_53178 : MethodName := ⟨RJ7, "fill", "([II)V"⟩
def RJ3 : String := "jdk/internal/util/Preconditions"
def TJ3 : u_T := fun k => match k with
  | _ => ("", "", "", false)
def tyJ3 : Nat → FieldType := fun k => match k with
  | _ => .int
abbrev wsJ30 : List Cond := u_ws RJ3 TJ3 0
theorem nmJ3 : ∀ a, a < 0 → ∀ b, b < 0 → a ≠ b → (TJ3 a).2.1 ≠ (TJ3 b).2.1 := by decide +kernel
theorem tyJ3_ok : ∀ k, k < 0 → parseFieldDescriptor (TJ3 k).2.2.1 = some (tyJ3 k) := by decide +kernel
abbrev cJ3_checkIndex_8e157 : ByteArray := prog_21_method_11_code
def yJ3_checkIndex_8e157 : MethodName := ⟨RJ3, "checkIndex", "(IILjava/util/function/BiFunction;)I"⟩
def RL : String := "WhatWasHersLaw"
abbrev cL_law : ByteArray := code
def yL_law : MethodName := ⟨RL, "law", "([I)Z"⟩
abbrev vwCl : List vw_C := [(RX0, TX0, 3), (RX1, TX1, 3), (RX2, TX2, 18), (RX3, TX3, 3), (RX4, TX4, 3), (RX5, TX5, 3), (RX6, TX6, 8), (RX7, TX7, 13), (RX8, TX8, 9), (RX10, TX10, 2), (RX11, TX11, 14), (RX12, TX12, 55)]
end
section
theorem dX0_init_0 : decode cX0_init 0 = .ok (.aload_n 0, 1) := by decide +kernel
theorem dX0_init_1 : decode cX0_init 1 = .ok (.iload_n 1, 1) := by decide +kernel
theorem dX0_init_2 : decode cX0_init 2 = .ok (.aload_n 2, 1) := by decide +kernel
theorem dX0_init_3 : decode cX0_init 3 = .ok (.aload_n 3, 1) := by decide +kernel
theorem dX0_init_4 : decode cX0_init 4 = .ok (.invokespecial 1, 3) := by decide +kernel
theorem dX0_init_7 : decode cX0_init 7 = .ok (.return_, 1) := by decide +kernel
theorem dX0_size_0 : decode cX0_size 0 = .ok (.aload_n 0, 1) := by decide +kernel
theorem dX0_size_1 : decode cX0_size 1 = .ok (.getfield 7, 3) := by decide +kernel
theorem dX0_size_4 : decode cX0_size 4 = .ok (.bipush 13, 2) := by decide +kernel
theorem dX0_size_6 : decode cX0_size 6 = .ok (.invokevirtual 13, 3) := by decide +kernel
theorem dX0_size_9 : decode cX0_size 9 = .ok (.aload_n 0, 1) := by decide +kernel
theorem dX0_size_10 : decode cX0_size 10 = .ok (.invokespecial 19, 3) := by decide +kernel
theorem dX0_size_13 : decode cX0_size 13 = .ok (.ldc2_w 23, 3) := by decide +kernel
theorem dX0_size_16 : decode cX0_size 16 = .ok (.lmul, 1) := by decide +kernel
theorem dX0_size_17 : decode cX0_size 17 = .ok (.lreturn, 1) := by decide +kernel
theorem dX0_mark_0 : decode cX0_mark 0 = .ok (.aload_n 0, 1) := by decide +kernel
theorem dX0_mark_1 : decode cX0_mark 1 = .ok (.getfield 7, 3) := by decide +kernel
theorem dX0_mark_4 : decode cX0_mark 4 = .ok (.bipush 23, 2) := by decide +kernel
theorem dX0_mark_6 : decode cX0_mark 6 = .ok (.invokevirtual 13, 3) := by decide +kernel
theorem dX0_mark_9 : decode cX0_mark 9 = .ok (.aload_n 0, 1) := by decide +kernel
theorem dX0_mark_10 : decode cX0_mark 10 = .ok (.invokespecial 25, 3) := by decide +kernel
theorem dX0_mark_13 : decode cX0_mark 13 = .ok (.ldc2_w 28, 3) := by decide +kernel
theorem dX0_mark_16 : decode cX0_mark 16 = .ok (.ladd, 1) := by decide +kernel
theorem dX0_mark_17 : decode cX0_mark 17 = .ok (.lreturn, 1) := by decide +kernel
theorem dX1_init_0 : decode cX1_init 0 = .ok (.aload_n 0, 1) := by decide +kernel
theorem dX1_init_1 : decode cX1_init 1 = .ok (.iload_n 1, 1) := by decide +kernel
theorem dX1_init_2 : decode cX1_init 2 = .ok (.aload_n 2, 1) := by decide +kernel
theorem dX1_init_3 : decode cX1_init 3 = .ok (.aload_n 3, 1) := by decide +kernel
theorem dX1_init_4 : decode cX1_init 4 = .ok (.invokespecial 1, 3) := by decide +kernel
theorem dX1_init_7 : decode cX1_init 7 = .ok (.return_, 1) := by decide +kernel
theorem dX1_size_0 : decode cX1_size 0 = .ok (.aload_n 0, 1) := by decide +kernel
theorem dX1_size_1 : decode cX1_size 1 = .ok (.getfield 7, 3) := by decide +kernel
theorem dX1_size_4 : decode cX1_size 4 = .ok (.bipush 14, 2) := by decide +kernel
theorem dX1_size_6 : decode cX1_size 6 = .ok (.invokevirtual 13, 3) := by decide +kernel
theorem dX1_size_9 : decode cX1_size 9 = .ok (.aload_n 0, 1) := by decide +kernel
theorem dX1_size_10 : decode cX1_size 10 = .ok (.invokespecial 19, 3) := by decide +kernel
theorem dX1_size_13 : decode cX1_size 13 = .ok (.ldc2_w 23, 3) := by decide +kernel
theorem dX1_size_16 : decode cX1_size 16 = .ok (.lmul, 1) := by decide +kernel
theorem dX1_size_17 : decode cX1_size 17 = .ok (.lreturn, 1) := by decide +kernel
theorem dX2_init_0 : decode cX2_init 0 = .ok (.aload_n 0, 1) := by decide +kernel
theorem dX2_init_1 : decode cX2_init 1 = .ok (.invokespecial 3, 3) := by decide +kernel
theorem dX2_init_4 : decode cX2_init 4 = .ok (.aload_n 0, 1) := by decide +kernel
theorem dX2_init_5 : decode cX2_init 5 = .ok (.new 9, 3) := by decide +kernel
theorem dX2_init_8 : decode cX2_init 8 = .ok (.dup, 1) := by decide +kernel
theorem dX2_init_9 : decode cX2_init 9 = .ok (.invokespecial 11, 3) := by decide +kernel
theorem dX2_init_12 : decode cX2_init 12 = .ok (.putfield 12, 3) := by decide +kernel
theorem dX2_init_15 : decode cX2_init 15 = .ok (.aload_n 0, 1) := by decide +kernel
theorem dX2_init_16 : decode cX2_init 16 = .ok (.iconst 5, 1) := by decide +kernel
theorem dX2_init_17 : decode cX2_init 17 = .ok (.newarray .int, 2) := by decide +kernel
theorem dX2_init_19 : decode cX2_init 19 = .ok (.putfield 18, 3) := by decide +kernel
theorem dX2_init_22 : decode cX2_init 22 = .ok (.aload_n 0, 1) := by decide +kernel
theorem dX2_init_23 : decode cX2_init 23 = .ok (.iconst 3, 1) := by decide +kernel
theorem dX2_init_24 : decode cX2_init 24 = .ok (.newarray .int, 2) := by decide +kernel
theorem dX2_init_26 : decode cX2_init 26 = .ok (.putfield 22, 3) := by decide +kernel
theorem dX2_init_29 : decode cX2_init 29 = .ok (.aload_n 0, 1) := by decide +kernel
theorem dX2_init_30 : decode cX2_init 30 = .ok (.bipush 10, 2) := by decide +kernel
theorem dX2_init_32 : decode cX2_init 32 = .ok (.newarray .int, 2) := by decide +kernel
theorem dX2_init_34 : decode cX2_init 34 = .ok (.putfield 25, 3) := by decide +kernel
theorem dX2_init_37 : decode cX2_init 37 = .ok (.aload_n 0, 1) := by decide +kernel
theorem dX2_init_38 : decode cX2_init 38 = .ok (.bipush 10, 2) := by decide +kernel
theorem dX2_init_40 : decode cX2_init 40 = .ok (.newarray .int, 2) := by decide +kernel
theorem dX2_init_42 : decode cX2_init 42 = .ok (.putfield 28, 3) := by decide +kernel
theorem dX2_init_45 : decode cX2_init 45 = .ok (.aload_n 0, 1) := by decide +kernel
theorem dX2_init_46 : decode cX2_init 46 = .ok (.bipush 10, 2) := by decide +kernel
theorem dX2_init_48 : decode cX2_init 48 = .ok (.newarray .int, 2) := by decide +kernel
theorem dX2_init_50 : decode cX2_init 50 = .ok (.putfield 31, 3) := by decide +kernel
theorem dX2_init_53 : decode cX2_init 53 = .ok (.aload_n 0, 1) := by decide +kernel
theorem dX2_init_54 : decode cX2_init 54 = .ok (.bipush 10, 2) := by decide +kernel
theorem dX2_init_56 : decode cX2_init 56 = .ok (.newarray .int, 2) := by decide +kernel
theorem dX2_init_58 : decode cX2_init 58 = .ok (.putfield 34, 3) := by decide +kernel
theorem dX2_init_61 : decode cX2_init 61 = .ok (.aload_n 0, 1) := by decide +kernel
theorem dX2_init_62 : decode cX2_init 62 = .ok (.bipush 10, 2) := by decide +kernel
theorem dX2_init_64 : decode cX2_init 64 = .ok (.newarray .int, 2) := by decide +kernel
theorem dX2_init_66 : decode cX2_init 66 = .ok (.putfield 37, 3) := by decide +kernel
theorem dX2_init_69 : decode cX2_init 69 = .ok (.aload_n 0, 1) := by decide +kernel
theorem dX2_init_70 : decode cX2_init 70 = .ok (.bipush 10, 2) := by decide +kernel
theorem dX2_init_72 : decode cX2_init 72 = .ok (.newarray .int, 2) := by decide +kernel
theorem dX2_init_74 : decode cX2_init 74 = .ok (.putfield 40, 3) := by decide +kernel
theorem dX2_init_77 : decode cX2_init 77 = .ok (.aload_n 0, 1) := by decide +kernel
theorem dX2_init_78 : decode cX2_init 78 = .ok (.bipush 10, 2) := by decide +kernel
theorem dX2_init_80 : decode cX2_init 80 = .ok (.newarray .int, 2) := by decide +kernel
theorem dX2_init_82 : decode cX2_init 82 = .ok (.putfield 43, 3) := by decide +kernel
theorem dX2_init_85 : decode cX2_init 85 = .ok (.aload_n 0, 1) := by decide +kernel
theorem dX2_init_86 : decode cX2_init 86 = .ok (.bipush 10, 2) := by decide +kernel
theorem dX2_init_88 : decode cX2_init 88 = .ok (.newarray .int, 2) := by decide +kernel
theorem dX2_init_90 : decode cX2_init 90 = .ok (.putfield 46, 3) := by decide +kernel
theorem dX2_init_93 : decode cX2_init 93 = .ok (.aload_n 0, 1) := by decide +kernel
theorem dX2_init_94 : decode cX2_init 94 = .ok (.bipush 50, 2) := by decide +kernel
theorem dX2_init_96 : decode cX2_init 96 = .ok (.newarray .int, 2) := by decide +kernel
theorem dX2_init_98 : decode cX2_init 98 = .ok (.putfield 49, 3) := by decide +kernel
theorem dX2_init_101 : decode cX2_init 101 = .ok (.aload_n 0, 1) := by decide +kernel
theorem dX2_init_102 : decode cX2_init 102 = .ok (.bipush 50, 2) := by decide +kernel
theorem dX2_init_104 : decode cX2_init 104 = .ok (.newarray .int, 2) := by decide +kernel
theorem dX2_init_106 : decode cX2_init 106 = .ok (.putfield 52, 3) := by decide +kernel
theorem dX2_init_109 : decode cX2_init 109 = .ok (.aload_n 0, 1) := by decide +kernel
theorem dX2_init_110 : decode cX2_init 110 = .ok (.bipush 50, 2) := by decide +kernel
theorem dX2_init_112 : decode cX2_init 112 = .ok (.newarray .int, 2) := by decide +kernel
theorem dX2_init_114 : decode cX2_init 114 = .ok (.putfield 55, 3) := by decide +kernel
theorem dX2_init_117 : decode cX2_init 117 = .ok (.aload_n 0, 1) := by decide +kernel
theorem dX2_init_118 : decode cX2_init 118 = .ok (.bipush 50, 2) := by decide +kernel
theorem dX2_init_120 : decode cX2_init 120 = .ok (.newarray .int, 2) := by decide +kernel
theorem dX2_init_122 : decode cX2_init 122 = .ok (.putfield 58, 3) := by decide +kernel
theorem dX2_init_125 : decode cX2_init 125 = .ok (.return_, 1) := by decide +kernel
theorem dX2_begin_0 : decode cX2_begin 0 = .ok (.aload_n 0, 1) := by decide +kernel
theorem dX2_begin_1 : decode cX2_begin 1 = .ok (.aload_n 1, 1) := by decide +kernel
theorem dX2_begin_2 : decode cX2_begin 2 = .ok (.putfield 12, 3) := by decide +kernel
theorem dX2_begin_5 : decode cX2_begin 5 = .ok (.aload_n 0, 1) := by decide +kernel
theorem dX2_begin_6 : decode cX2_begin 6 = .ok (.iconst 0, 1) := by decide +kernel
theorem dX2_begin_7 : decode cX2_begin 7 = .ok (.putfield 61, 3) := by decide +kernel
theorem dX2_begin_10 : decode cX2_begin 10 = .ok (.aload_n 0, 1) := by decide +kernel
theorem dX2_begin_11 : decode cX2_begin 11 = .ok (.iconst 0, 1) := by decide +kernel
theorem dX2_begin_12 : decode cX2_begin 12 = .ok (.putfield 65, 3) := by decide +kernel
theorem dX2_begin_15 : decode cX2_begin 15 = .ok (.aload_n 0, 1) := by decide +kernel
theorem dX2_begin_16 : decode cX2_begin 16 = .ok (.iconst 0, 1) := by decide +kernel
theorem dX2_begin_17 : decode cX2_begin 17 = .ok (.putfield 68, 3) := by decide +kernel
theorem dX2_begin_20 : decode cX2_begin 20 = .ok (.aload_n 0, 1) := by decide +kernel
theorem dX2_begin_21 : decode cX2_begin 21 = .ok (.getfield 18, 3) := by decide +kernel
theorem dX2_begin_24 : decode cX2_begin 24 = .ok (.ldc 71, 2) := by decide +kernel
theorem dX2_begin_26 : decode cX2_begin 26 = .ok (.invokestatic 72, 3) := by decide +kernel
theorem dX2_begin_29 : decode cX2_begin 29 = .ok (.aload_n 0, 1) := by decide +kernel
theorem dX2_begin_30 : decode cX2_begin 30 = .ok (.getfield 22, 3) := by decide +kernel
theorem dX2_begin_33 : decode cX2_begin 33 = .ok (.iconst 0, 1) := by decide +kernel
theorem dX2_begin_34 : decode cX2_begin 34 = .ok (.invokestatic 72, 3) := by decide +kernel
theorem dX2_begin_37 : decode cX2_begin 37 = .ok (.return_, 1) := by decide +kernel
theorem dX2_goThrough_0 : decode cX2_goThrough 0 = .ok (.iload_n 1, 1) := by decide +kernel
theorem dX2_goThrough_1 : decode cX2_goThrough 1 = .ok (.istore_n 3, 1) := by decide +kernel
theorem dX2_goThrough_2 : decode cX2_goThrough 2 = .ok (.iload_n 3, 1) := by decide +kernel
theorem dX2_goThrough_3 : decode cX2_goThrough 3 = .ok (.iload_n 2, 1) := by decide +kernel
theorem dX2_goThrough_4 : decode cX2_goThrough 4 = .ok (.if_icmp .ge 41, 3) := by decide +kernel
theorem dX2_goThrough_7 : decode cX2_goThrough 7 = .ok (.aload_n 0, 1) := by decide +kernel
theorem dX2_goThrough_8 : decode cX2_goThrough 8 = .ok (.iload_n 3, 1) := by decide +kernel
theorem dX2_goThrough_9 : decode cX2_goThrough 9 = .ok (.aload_n 0, 1) := by decide +kernel
theorem dX2_goThrough_10 : decode cX2_goThrough 10 = .ok (.getfield 12, 3) := by decide +kernel
theorem dX2_goThrough_13 : decode cX2_goThrough 13 = .ok (.getfield 78, 3) := by decide +kernel
theorem dX2_goThrough_16 : decode cX2_goThrough 16 = .ok (.iload_n 3, 1) := by decide +kernel
theorem dX2_goThrough_17 : decode cX2_goThrough 17 = .ok (.iaload, 1) := by decide +kernel
theorem dX2_goThrough_18 : decode cX2_goThrough 18 = .ok (.aload_n 0, 1) := by decide +kernel
theorem dX2_goThrough_19 : decode cX2_goThrough 19 = .ok (.getfield 12, 3) := by decide +kernel
theorem dX2_goThrough_22 : decode cX2_goThrough 22 = .ok (.getfield 81, 3) := by decide +kernel
theorem dX2_goThrough_25 : decode cX2_goThrough 25 = .ok (.iload_n 3, 1) := by decide +kernel
theorem dX2_goThrough_26 : decode cX2_goThrough 26 = .ok (.iaload, 1) := by decide +kernel
theorem dX2_goThrough_27 : decode cX2_goThrough 27 = .ok (.aload_n 0, 1) := by decide +kernel
theorem dX2_goThrough_28 : decode cX2_goThrough 28 = .ok (.getfield 12, 3) := by decide +kernel
theorem dX2_goThrough_31 : decode cX2_goThrough 31 = .ok (.getfield 84, 3) := by decide +kernel
theorem dX2_goThrough_34 : decode cX2_goThrough 34 = .ok (.iload_n 3, 1) := by decide +kernel
theorem dX2_goThrough_35 : decode cX2_goThrough 35 = .ok (.iaload, 1) := by decide +kernel
theorem dX2_goThrough_36 : decode cX2_goThrough 36 = .ok (.invokevirtual 87, 3) := by decide +kernel
theorem dX2_goThrough_39 : decode cX2_goThrough 39 = .ok (.iinc 3 1, 3) := by decide +kernel
theorem dX2_goThrough_42 : decode cX2_goThrough 42 = .ok (.goto (-40), 3) := by decide +kernel
theorem dX2_goThrough_45 : decode cX2_goThrough 45 = .ok (.return_, 1) := by decide +kernel
theorem dX2_goOn_0 : decode cX2_goOn 0 = .ok (.aload_n 0, 1) := by decide +kernel
theorem dX2_goOn_1 : decode cX2_goOn 1 = .ok (.getfield 12, 3) := by decide +kernel
theorem dX2_goOn_4 : decode cX2_goOn 4 = .ok (.getfield 91, 3) := by decide +kernel
theorem dX2_goOn_7 : decode cX2_goOn 7 = .ok (.iload_n 1, 1) := by decide +kernel
theorem dX2_goOn_8 : decode cX2_goOn 8 = .ok (.iaload, 1) := by decide +kernel
theorem dX2_goOn_9 : decode cX2_goOn 9 = .ok (.tableswitch 157 0 5 #[39, 51, 103, 125, 135, 148], 39) := by decide +kernel
theorem dX2_goOn_48 : decode cX2_goOn 48 = .ok (.aload_n 0, 1) := by decide +kernel
theorem dX2_goOn_49 : decode cX2_goOn 49 = .ok (.iload_n 1, 1) := by decide +kernel
theorem dX2_goOn_50 : decode cX2_goOn 50 = .ok (.iload 4, 2) := by decide +kernel
theorem dX2_goOn_52 : decode cX2_goOn 52 = .ok (.iload 4, 2) := by decide +kernel
theorem dX2_goOn_54 : decode cX2_goOn 54 = .ok (.invokevirtual 94, 3) := by decide +kernel
theorem dX2_goOn_57 : decode cX2_goOn 57 = .ok (.goto 116, 3) := by decide +kernel
theorem dX2_goOn_60 : decode cX2_goOn 60 = .ok (.aload_n 0, 1) := by decide +kernel
theorem dX2_goOn_61 : decode cX2_goOn 61 = .ok (.iload_n 1, 1) := by decide +kernel
theorem dX2_goOn_62 : decode cX2_goOn 62 = .ok (.iconst 0, 1) := by decide +kernel
theorem dX2_goOn_63 : decode cX2_goOn 63 = .ok (.iload_n 2, 1) := by decide +kernel
theorem dX2_goOn_64 : decode cX2_goOn 64 = .ok (.iload_n 3, 1) := by decide +kernel
theorem dX2_goOn_65 : decode cX2_goOn 65 = .ok (.iadd, 1) := by decide +kernel
theorem dX2_goOn_66 : decode cX2_goOn 66 = .ok (.iload 4, 2) := by decide +kernel
theorem dX2_goOn_68 : decode cX2_goOn 68 = .ok (.iadd, 1) := by decide +kernel
theorem dX2_goOn_69 : decode cX2_goOn 69 = .ok (.invokevirtual 94, 3) := by decide +kernel
theorem dX2_goOn_72 : decode cX2_goOn 72 = .ok (.aload_n 0, 1) := by decide +kernel
theorem dX2_goOn_73 : decode cX2_goOn 73 = .ok (.aload_n 0, 1) := by decide +kernel
theorem dX2_goOn_74 : decode cX2_goOn 74 = .ok (.getfield 65, 3) := by decide +kernel
theorem dX2_goOn_77 : decode cX2_goOn 77 = .ok (.iconst 1, 1) := by decide +kernel
theorem dX2_goOn_78 : decode cX2_goOn 78 = .ok (.isub, 1) := by decide +kernel
theorem dX2_goOn_79 : decode cX2_goOn 79 = .ok (.iconst 0, 1) := by decide +kernel
theorem dX2_goOn_80 : decode cX2_goOn 80 = .ok (.iload_n 2, 1) := by decide +kernel
theorem dX2_goOn_81 : decode cX2_goOn 81 = .ok (.invokevirtual 98, 3) := by decide +kernel
theorem dX2_goOn_84 : decode cX2_goOn 84 = .ok (.aload_n 0, 1) := by decide +kernel
theorem dX2_goOn_85 : decode cX2_goOn 85 = .ok (.aload_n 0, 1) := by decide +kernel
theorem dX2_goOn_86 : decode cX2_goOn 86 = .ok (.getfield 65, 3) := by decide +kernel
theorem dX2_goOn_89 : decode cX2_goOn 89 = .ok (.iconst 1, 1) := by decide +kernel
theorem dX2_goOn_90 : decode cX2_goOn 90 = .ok (.isub, 1) := by decide +kernel
theorem dX2_goOn_91 : decode cX2_goOn 91 = .ok (.iconst 1, 1) := by decide +kernel
theorem dX2_goOn_92 : decode cX2_goOn 92 = .ok (.iload_n 3, 1) := by decide +kernel
theorem dX2_goOn_93 : decode cX2_goOn 93 = .ok (.invokevirtual 98, 3) := by decide +kernel
theorem dX2_goOn_96 : decode cX2_goOn 96 = .ok (.aload_n 0, 1) := by decide +kernel
theorem dX2_goOn_97 : decode cX2_goOn 97 = .ok (.aload_n 0, 1) := by decide +kernel
theorem dX2_goOn_98 : decode cX2_goOn 98 = .ok (.getfield 65, 3) := by decide +kernel
theorem dX2_goOn_101 : decode cX2_goOn 101 = .ok (.iconst 1, 1) := by decide +kernel
theorem dX2_goOn_102 : decode cX2_goOn 102 = .ok (.isub, 1) := by decide +kernel
theorem dX2_goOn_103 : decode cX2_goOn 103 = .ok (.iconst 2, 1) := by decide +kernel
theorem dX2_goOn_104 : decode cX2_goOn 104 = .ok (.iload 4, 2) := by decide +kernel
theorem dX2_goOn_106 : decode cX2_goOn 106 = .ok (.invokevirtual 98, 3) := by decide +kernel
theorem dX2_goOn_109 : decode cX2_goOn 109 = .ok (.goto 64, 3) := by decide +kernel
theorem dX2_goOn_112 : decode cX2_goOn 112 = .ok (.aload_n 0, 1) := by decide +kernel
theorem dX2_goOn_113 : decode cX2_goOn 113 = .ok (.getfield 43, 3) := by decide +kernel
theorem dX2_goOn_116 : decode cX2_goOn 116 = .ok (.iload_n 2, 1) := by decide +kernel
theorem dX2_goOn_117 : decode cX2_goOn 117 = .ok (.dup2, 1) := by decide +kernel
theorem dX2_goOn_118 : decode cX2_goOn 118 = .ok (.iaload, 1) := by decide +kernel
theorem dX2_goOn_119 : decode cX2_goOn 119 = .ok (.iload 4, 2) := by decide +kernel
theorem dX2_goOn_121 : decode cX2_goOn 121 = .ok (.iadd, 1) := by decide +kernel
theorem dX2_goOn_122 : decode cX2_goOn 122 = .ok (.iastore, 1) := by decide +kernel
theorem dX2_goOn_123 : decode cX2_goOn 123 = .ok (.aload_n 0, 1) := by decide +kernel
theorem dX2_goOn_124 : decode cX2_goOn 124 = .ok (.iload_n 2, 1) := by decide +kernel
theorem dX2_goOn_125 : decode cX2_goOn 125 = .ok (.iload_n 3, 1) := by decide +kernel
theorem dX2_goOn_126 : decode cX2_goOn 126 = .ok (.iload 4, 2) := by decide +kernel
theorem dX2_goOn_128 : decode cX2_goOn 128 = .ok (.invokevirtual 98, 3) := by decide +kernel
theorem dX2_goOn_131 : decode cX2_goOn 131 = .ok (.goto 42, 3) := by decide +kernel
theorem dX2_goOn_134 : decode cX2_goOn 134 = .ok (.aload_n 0, 1) := by decide +kernel
theorem dX2_goOn_135 : decode cX2_goOn 135 = .ok (.getfield 43, 3) := by decide +kernel
theorem dX2_goOn_138 : decode cX2_goOn 138 = .ok (.iload_n 2, 1) := by decide +kernel
theorem dX2_goOn_139 : decode cX2_goOn 139 = .ok (.iload_n 3, 1) := by decide +kernel
theorem dX2_goOn_140 : decode cX2_goOn 140 = .ok (.iastore, 1) := by decide +kernel
theorem dX2_goOn_141 : decode cX2_goOn 141 = .ok (.goto 32, 3) := by decide +kernel
theorem dX2_goOn_144 : decode cX2_goOn 144 = .ok (.aload_n 0, 1) := by decide +kernel
theorem dX2_goOn_145 : decode cX2_goOn 145 = .ok (.getfield 22, 3) := by decide +kernel
theorem dX2_goOn_148 : decode cX2_goOn 148 = .ok (.iload_n 2, 1) := by decide +kernel
theorem dX2_goOn_149 : decode cX2_goOn 149 = .ok (.dup2, 1) := by decide +kernel
theorem dX2_goOn_150 : decode cX2_goOn 150 = .ok (.iaload, 1) := by decide +kernel
theorem dX2_goOn_151 : decode cX2_goOn 151 = .ok (.iload_n 3, 1) := by decide +kernel
theorem dX2_goOn_152 : decode cX2_goOn 152 = .ok (.iadd, 1) := by decide +kernel
theorem dX2_goOn_153 : decode cX2_goOn 153 = .ok (.iastore, 1) := by decide +kernel
theorem dX2_goOn_154 : decode cX2_goOn 154 = .ok (.goto 19, 3) := by decide +kernel
theorem dX2_goOn_157 : decode cX2_goOn 157 = .ok (.aload_n 0, 1) := by decide +kernel
theorem dX2_goOn_158 : decode cX2_goOn 158 = .ok (.iload_n 2, 1) := by decide +kernel
theorem dX2_goOn_159 : decode cX2_goOn 159 = .ok (.iload_n 1, 1) := by decide +kernel
theorem dX2_goOn_160 : decode cX2_goOn 160 = .ok (.invokevirtual 101, 3) := by decide +kernel
theorem dX2_goOn_163 : decode cX2_goOn 163 = .ok (.goto 10, 3) := by decide +kernel
theorem dX2_goOn_166 : decode cX2_goOn 166 = .ok (.aload_n 0, 1) := by decide +kernel
theorem dX2_goOn_167 : decode cX2_goOn 167 = .ok (.getfield 18, 3) := by decide +kernel
theorem dX2_goOn_170 : decode cX2_goOn 170 = .ok (.iload_n 2, 1) := by decide +kernel
theorem dX2_goOn_171 : decode cX2_goOn 171 = .ok (.iload_n 3, 1) := by decide +kernel
theorem dX2_goOn_172 : decode cX2_goOn 172 = .ok (.iastore, 1) := by decide +kernel
theorem dX2_goOn_173 : decode cX2_goOn 173 = .ok (.return_, 1) := by decide +kernel
theorem dX2_moveTo_0 : decode cX2_moveTo 0 = .ok (.aload_n 0, 1) := by decide +kernel
theorem dX2_moveTo_1 : decode cX2_moveTo 1 = .ok (.iload_n 1, 1) := by decide +kernel
theorem dX2_moveTo_2 : decode cX2_moveTo 2 = .ok (.putfield 61, 3) := by decide +kernel
theorem dX2_moveTo_5 : decode cX2_moveTo 5 = .ok (.aload_n 0, 1) := by decide +kernel
theorem dX2_moveTo_6 : decode cX2_moveTo 6 = .ok (.getfield 12, 3) := by decide +kernel
theorem dX2_moveTo_9 : decode cX2_moveTo 9 = .ok (.iload_n 1, 1) := by decide +kernel
theorem dX2_moveTo_10 : decode cX2_moveTo 10 = .ok (.invokevirtual 105, 3) := by decide +kernel
theorem dX2_moveTo_13 : decode cX2_moveTo 13 = .ok (.ifCond .eq 26, 3) := by decide +kernel
theorem dX2_moveTo_16 : decode cX2_moveTo 16 = .ok (.iconst 0, 1) := by decide +kernel
theorem dX2_moveTo_17 : decode cX2_moveTo 17 = .ok (.istore_n 3, 1) := by decide +kernel
theorem dX2_moveTo_18 : decode cX2_moveTo 18 = .ok (.iload_n 3, 1) := by decide +kernel
theorem dX2_moveTo_19 : decode cX2_moveTo 19 = .ok (.aload_n 0, 1) := by decide +kernel
theorem dX2_moveTo_20 : decode cX2_moveTo 20 = .ok (.getfield 65, 3) := by decide +kernel
theorem dX2_moveTo_23 : decode cX2_moveTo 23 = .ok (.if_icmp .ge 16, 3) := by decide +kernel
theorem dX2_moveTo_26 : decode cX2_moveTo 26 = .ok (.aload_n 0, 1) := by decide +kernel
theorem dX2_moveTo_27 : decode cX2_moveTo 27 = .ok (.iload_n 3, 1) := by decide +kernel
theorem dX2_moveTo_28 : decode cX2_moveTo 28 = .ok (.iload_n 2, 1) := by decide +kernel
theorem dX2_moveTo_29 : decode cX2_moveTo 29 = .ok (.iconst 2, 1) := by decide +kernel
theorem dX2_moveTo_30 : decode cX2_moveTo 30 = .ok (.invokevirtual 109, 3) := by decide +kernel
theorem dX2_moveTo_33 : decode cX2_moveTo 33 = .ok (.iinc 3 1, 3) := by decide +kernel
theorem dX2_moveTo_36 : decode cX2_moveTo 36 = .ok (.goto (-18), 3) := by decide +kernel
theorem dX2_moveTo_39 : decode cX2_moveTo 39 = .ok (.return_, 1) := by decide +kernel
theorem dX2_takeIn_0 : decode cX2_takeIn 0 = .ok (.aload_n 0, 1) := by decide +kernel
theorem dX2_takeIn_1 : decode cX2_takeIn 1 = .ok (.getfield 65, 3) := by decide +kernel
theorem dX2_takeIn_4 : decode cX2_takeIn 4 = .ok (.bipush 10, 2) := by decide +kernel
theorem dX2_takeIn_6 : decode cX2_takeIn 6 = .ok (.if_icmp .lt 4, 3) := by decide +kernel
theorem dX2_takeIn_9 : decode cX2_takeIn 9 = .ok (.return_, 1) := by decide +kernel
theorem dX2_takeIn_10 : decode cX2_takeIn 10 = .ok (.aload_n 0, 1) := by decide +kernel
theorem dX2_takeIn_11 : decode cX2_takeIn 11 = .ok (.getfield 65, 3) := by decide +kernel
theorem dX2_takeIn_14 : decode cX2_takeIn 14 = .ok (.istore 4, 2) := by decide +kernel
theorem dX2_takeIn_16 : decode cX2_takeIn 16 = .ok (.aload_n 0, 1) := by decide +kernel
theorem dX2_takeIn_17 : decode cX2_takeIn 17 = .ok (.dup, 1) := by decide +kernel
theorem dX2_takeIn_18 : decode cX2_takeIn 18 = .ok (.getfield 65, 3) := by decide +kernel
theorem dX2_takeIn_21 : decode cX2_takeIn 21 = .ok (.iconst 1, 1) := by decide +kernel
theorem dX2_takeIn_22 : decode cX2_takeIn 22 = .ok (.iadd, 1) := by decide +kernel
theorem dX2_takeIn_23 : decode cX2_takeIn 23 = .ok (.putfield 65, 3) := by decide +kernel
theorem dX2_takeIn_26 : decode cX2_takeIn 26 = .ok (.aload_n 0, 1) := by decide +kernel
theorem dX2_takeIn_27 : decode cX2_takeIn 27 = .ok (.getfield 25, 3) := by decide +kernel
theorem dX2_takeIn_30 : decode cX2_takeIn 30 = .ok (.iload 4, 2) := by decide +kernel
theorem dX2_takeIn_32 : decode cX2_takeIn 32 = .ok (.iload_n 1, 1) := by decide +kernel
theorem dX2_takeIn_33 : decode cX2_takeIn 33 = .ok (.iastore, 1) := by decide +kernel
theorem dX2_takeIn_34 : decode cX2_takeIn 34 = .ok (.aload_n 0, 1) := by decide +kernel
theorem dX2_takeIn_35 : decode cX2_takeIn 35 = .ok (.getfield 28, 3) := by decide +kernel
theorem dX2_takeIn_38 : decode cX2_takeIn 38 = .ok (.iload 4, 2) := by decide +kernel
theorem dX2_takeIn_40 : decode cX2_takeIn 40 = .ok (.iload_n 2, 1) := by decide +kernel
theorem dX2_takeIn_41 : decode cX2_takeIn 41 = .ok (.iastore, 1) := by decide +kernel
theorem dX2_takeIn_42 : decode cX2_takeIn 42 = .ok (.aload_n 0, 1) := by decide +kernel
theorem dX2_takeIn_43 : decode cX2_takeIn 43 = .ok (.getfield 43, 3) := by decide +kernel
theorem dX2_takeIn_46 : decode cX2_takeIn 46 = .ok (.iload 4, 2) := by decide +kernel
theorem dX2_takeIn_48 : decode cX2_takeIn 48 = .ok (.iload_n 3, 1) := by decide +kernel
theorem dX2_takeIn_49 : decode cX2_takeIn 49 = .ok (.iastore, 1) := by decide +kernel
theorem dX2_takeIn_50 : decode cX2_takeIn 50 = .ok (.aload_n 0, 1) := by decide +kernel
theorem dX2_takeIn_51 : decode cX2_takeIn 51 = .ok (.getfield 46, 3) := by decide +kernel
theorem dX2_takeIn_54 : decode cX2_takeIn 54 = .ok (.iload 4, 2) := by decide +kernel
theorem dX2_takeIn_56 : decode cX2_takeIn 56 = .ok (.iconst 0, 1) := by decide +kernel
theorem dX2_takeIn_57 : decode cX2_takeIn 57 = .ok (.iastore, 1) := by decide +kernel
theorem dX2_takeIn_58 : decode cX2_takeIn 58 = .ok (.aload_n 0, 1) := by decide +kernel
theorem dX2_takeIn_59 : decode cX2_takeIn 59 = .ok (.iload 4, 2) := by decide +kernel
theorem dX2_takeIn_61 : decode cX2_takeIn 61 = .ok (.iload_n 1, 1) := by decide +kernel
theorem dX2_takeIn_62 : decode cX2_takeIn 62 = .ok (.iconst 0, 1) := by decide +kernel
theorem dX2_takeIn_63 : decode cX2_takeIn 63 = .ok (.invokevirtual 109, 3) := by decide +kernel
theorem dX2_takeIn_66 : decode cX2_takeIn 66 = .ok (.aload_n 0, 1) := by decide +kernel
theorem dX2_takeIn_67 : decode cX2_takeIn 67 = .ok (.getfield 31, 3) := by decide +kernel
theorem dX2_takeIn_70 : decode cX2_takeIn 70 = .ok (.iload 4, 2) := by decide +kernel
theorem dX2_takeIn_72 : decode cX2_takeIn 72 = .ok (.aload_n 0, 1) := by decide +kernel
theorem dX2_takeIn_73 : decode cX2_takeIn 73 = .ok (.getfield 34, 3) := by decide +kernel
theorem dX2_takeIn_76 : decode cX2_takeIn 76 = .ok (.iload 4, 2) := by decide +kernel
theorem dX2_takeIn_78 : decode cX2_takeIn 78 = .ok (.iaload, 1) := by decide +kernel
theorem dX2_takeIn_79 : decode cX2_takeIn 79 = .ok (.iastore, 1) := by decide +kernel
theorem dX2_takeIn_80 : decode cX2_takeIn 80 = .ok (.return_, 1) := by decide +kernel
theorem dX2_fall_0 : decode cX2_fall 0 = .ok (.aload_n 0, 1) := by decide +kernel
theorem dX2_fall_1 : decode cX2_fall 1 = .ok (.getfield 25, 3) := by decide +kernel
theorem dX2_fall_4 : decode cX2_fall 4 = .ok (.iload_n 1, 1) := by decide +kernel
theorem dX2_fall_5 : decode cX2_fall 5 = .ok (.iaload, 1) := by decide +kernel
theorem dX2_fall_6 : decode cX2_fall 6 = .ok (.istore 4, 2) := by decide +kernel
theorem dX2_fall_8 : decode cX2_fall 8 = .ok (.aload_n 0, 1) := by decide +kernel
theorem dX2_fall_9 : decode cX2_fall 9 = .ok (.getfield 12, 3) := by decide +kernel
theorem dX2_fall_12 : decode cX2_fall 12 = .ok (.iload 4, 2) := by decide +kernel
theorem dX2_fall_14 : decode cX2_fall 14 = .ok (.invokevirtual 112, 3) := by decide +kernel
theorem dX2_fall_17 : decode cX2_fall 17 = .ok (.istore 5, 2) := by decide +kernel
theorem dX2_fall_19 : decode cX2_fall 19 = .ok (.aload_n 0, 1) := by decide +kernel
theorem dX2_fall_20 : decode cX2_fall 20 = .ok (.getfield 40, 3) := by decide +kernel
theorem dX2_fall_23 : decode cX2_fall 23 = .ok (.iload_n 1, 1) := by decide +kernel
theorem dX2_fall_24 : decode cX2_fall 24 = .ok (.iload_n 2, 1) := by decide +kernel
theorem dX2_fall_25 : decode cX2_fall 25 = .ok (.iastore, 1) := by decide +kernel
theorem dX2_fall_26 : decode cX2_fall 26 = .ok (.aload_n 0, 1) := by decide +kernel
theorem dX2_fall_27 : decode cX2_fall 27 = .ok (.getfield 18, 3) := by decide +kernel
theorem dX2_fall_30 : decode cX2_fall 30 = .ok (.iload 5, 2) := by decide +kernel
theorem dX2_fall_32 : decode cX2_fall 32 = .ok (.iaload, 1) := by decide +kernel
theorem dX2_fall_33 : decode cX2_fall 33 = .ok (.ldc 71, 2) := by decide +kernel
theorem dX2_fall_35 : decode cX2_fall 35 = .ok (.if_icmp .eq 24, 3) := by decide +kernel
theorem dX2_fall_38 : decode cX2_fall 38 = .ok (.aload_n 0, 1) := by decide +kernel
theorem dX2_fall_39 : decode cX2_fall 39 = .ok (.getfield 34, 3) := by decide +kernel
theorem dX2_fall_42 : decode cX2_fall 42 = .ok (.iload_n 1, 1) := by decide +kernel
theorem dX2_fall_43 : decode cX2_fall 43 = .ok (.aload_n 0, 1) := by decide +kernel
theorem dX2_fall_44 : decode cX2_fall 44 = .ok (.getfield 18, 3) := by decide +kernel
theorem dX2_fall_47 : decode cX2_fall 47 = .ok (.iload 5, 2) := by decide +kernel
theorem dX2_fall_49 : decode cX2_fall 49 = .ok (.iaload, 1) := by decide +kernel
theorem dX2_fall_50 : decode cX2_fall 50 = .ok (.iastore, 1) := by decide +kernel
theorem dX2_fall_51 : decode cX2_fall 51 = .ok (.aload_n 0, 1) := by decide +kernel
theorem dX2_fall_52 : decode cX2_fall 52 = .ok (.getfield 37, 3) := by decide +kernel
theorem dX2_fall_55 : decode cX2_fall 55 = .ok (.iload_n 1, 1) := by decide +kernel
theorem dX2_fall_56 : decode cX2_fall 56 = .ok (.iconst 1, 1) := by decide +kernel
theorem dX2_fall_57 : decode cX2_fall 57 = .ok (.iastore, 1) := by decide +kernel
theorem dX2_fall_58 : decode cX2_fall 58 = .ok (.return_, 1) := by decide +kernel
theorem dX2_fall_59 : decode cX2_fall 59 = .ok (.aload_n 0, 1) := by decide +kernel
theorem dX2_fall_60 : decode cX2_fall 60 = .ok (.getfield 34, 3) := by decide +kernel
theorem dX2_fall_63 : decode cX2_fall 63 = .ok (.iload_n 1, 1) := by decide +kernel
theorem dX2_fall_64 : decode cX2_fall 64 = .ok (.iload 5, 2) := by decide +kernel
theorem dX2_fall_66 : decode cX2_fall 66 = .ok (.iconst 4, 1) := by decide +kernel
theorem dX2_fall_67 : decode cX2_fall 67 = .ok (.if_icmp .ne 19, 3) := by decide +kernel
theorem dX2_fall_70 : decode cX2_fall 70 = .ok (.aload_n 0, 1) := by decide +kernel
theorem dX2_fall_71 : decode cX2_fall 71 = .ok (.getfield 12, 3) := by decide +kernel
theorem dX2_fall_74 : decode cX2_fall 74 = .ok (.aload_n 0, 1) := by decide +kernel
theorem dX2_fall_75 : decode cX2_fall 75 = .ok (.getfield 61, 3) := by decide +kernel
theorem dX2_fall_78 : decode cX2_fall 78 = .ok (.iload 4, 2) := by decide +kernel
theorem dX2_fall_80 : decode cX2_fall 80 = .ok (.invokevirtual 116, 3) := by decide +kernel
theorem dX2_fall_83 : decode cX2_fall 83 = .ok (.goto 16, 3) := by decide +kernel
theorem dX2_fall_86 : decode cX2_fall 86 = .ok (.aload_n 0, 1) := by decide +kernel
theorem dX2_fall_87 : decode cX2_fall 87 = .ok (.getfield 12, 3) := by decide +kernel
theorem dX2_fall_90 : decode cX2_fall 90 = .ok (.aload_n 0, 1) := by decide +kernel
theorem dX2_fall_91 : decode cX2_fall 91 = .ok (.getfield 61, 3) := by decide +kernel
theorem dX2_fall_94 : decode cX2_fall 94 = .ok (.iload 4, 2) := by decide +kernel
theorem dX2_fall_96 : decode cX2_fall 96 = .ok (.invokevirtual 120, 3) := by decide +kernel
theorem dX2_fall_99 : decode cX2_fall 99 = .ok (.iastore, 1) := by decide +kernel
theorem dX2_fall_100 : decode cX2_fall 100 = .ok (.aload_n 0, 1) := by decide +kernel
theorem dX2_fall_101 : decode cX2_fall 101 = .ok (.getfield 37, 3) := by decide +kernel
theorem dX2_fall_104 : decode cX2_fall 104 = .ok (.iload_n 1, 1) := by decide +kernel
theorem dX2_fall_105 : decode cX2_fall 105 = .ok (.iload_n 3, 1) := by decide +kernel
theorem dX2_fall_106 : decode cX2_fall 106 = .ok (.iastore, 1) := by decide +kernel
theorem dX2_fall_107 : decode cX2_fall 107 = .ok (.return_, 1) := by decide +kernel
theorem dX2_notePut_0 : decode cX2_notePut 0 = .ok (.iload_n 3, 1) := by decide +kernel
theorem dX2_notePut_1 : decode cX2_notePut 1 = .ok (.ifCond .le 16, 3) := by decide +kernel
theorem dX2_notePut_4 : decode cX2_notePut 4 = .ok (.iload_n 1, 1) := by decide +kernel
theorem dX2_notePut_5 : decode cX2_notePut 5 = .ok (.ifCond .lt 12, 3) := by decide +kernel
theorem dX2_notePut_8 : decode cX2_notePut 8 = .ok (.aload_n 0, 1) := by decide +kernel
theorem dX2_notePut_9 : decode cX2_notePut 9 = .ok (.getfield 68, 3) := by decide +kernel
theorem dX2_notePut_12 : decode cX2_notePut 12 = .ok (.bipush 50, 2) := by decide +kernel
theorem dX2_notePut_14 : decode cX2_notePut 14 = .ok (.if_icmp .lt 4, 3) := by decide +kernel
theorem dX2_notePut_17 : decode cX2_notePut 17 = .ok (.return_, 1) := by decide +kernel
theorem dX2_notePut_18 : decode cX2_notePut 18 = .ok (.aload_n 0, 1) := by decide +kernel
theorem dX2_notePut_19 : decode cX2_notePut 19 = .ok (.getfield 49, 3) := by decide +kernel
theorem dX2_notePut_22 : decode cX2_notePut 22 = .ok (.aload_n 0, 1) := by decide +kernel
theorem dX2_notePut_23 : decode cX2_notePut 23 = .ok (.getfield 68, 3) := by decide +kernel
theorem dX2_notePut_26 : decode cX2_notePut 26 = .ok (.iload_n 1, 1) := by decide +kernel
theorem dX2_notePut_27 : decode cX2_notePut 27 = .ok (.iastore, 1) := by decide +kernel
theorem dX2_notePut_28 : decode cX2_notePut 28 = .ok (.aload_n 0, 1) := by decide +kernel
theorem dX2_notePut_29 : decode cX2_notePut 29 = .ok (.getfield 52, 3) := by decide +kernel
theorem dX2_notePut_32 : decode cX2_notePut 32 = .ok (.aload_n 0, 1) := by decide +kernel
theorem dX2_notePut_33 : decode cX2_notePut 33 = .ok (.getfield 68, 3) := by decide +kernel
theorem dX2_notePut_36 : decode cX2_notePut 36 = .ok (.iload_n 2, 1) := by decide +kernel
theorem dX2_notePut_37 : decode cX2_notePut 37 = .ok (.iastore, 1) := by decide +kernel
theorem dX2_notePut_38 : decode cX2_notePut 38 = .ok (.aload_n 0, 1) := by decide +kernel
theorem dX2_notePut_39 : decode cX2_notePut 39 = .ok (.getfield 55, 3) := by decide +kernel
theorem dX2_notePut_42 : decode cX2_notePut 42 = .ok (.aload_n 0, 1) := by decide +kernel
theorem dX2_notePut_43 : decode cX2_notePut 43 = .ok (.getfield 68, 3) := by decide +kernel
theorem dX2_notePut_46 : decode cX2_notePut 46 = .ok (.iload_n 3, 1) := by decide +kernel
theorem dX2_notePut_47 : decode cX2_notePut 47 = .ok (.iastore, 1) := by decide +kernel
theorem dX2_notePut_48 : decode cX2_notePut 48 = .ok (.aload_n 0, 1) := by decide +kernel
theorem dX2_notePut_49 : decode cX2_notePut 49 = .ok (.getfield 58, 3) := by decide +kernel
theorem dX2_notePut_52 : decode cX2_notePut 52 = .ok (.aload_n 0, 1) := by decide +kernel
theorem dX2_notePut_53 : decode cX2_notePut 53 = .ok (.getfield 68, 3) := by decide +kernel
theorem dX2_notePut_56 : decode cX2_notePut 56 = .ok (.aload_n 0, 1) := by decide +kernel
theorem dX2_notePut_57 : decode cX2_notePut 57 = .ok (.getfield 43, 3) := by decide +kernel
theorem dX2_notePut_60 : decode cX2_notePut 60 = .ok (.iload_n 1, 1) := by decide +kernel
theorem dX2_notePut_61 : decode cX2_notePut 61 = .ok (.iaload, 1) := by decide +kernel
theorem dX2_notePut_62 : decode cX2_notePut 62 = .ok (.iastore, 1) := by decide +kernel
theorem dX2_notePut_63 : decode cX2_notePut 63 = .ok (.aload_n 0, 1) := by decide +kernel
theorem dX2_notePut_64 : decode cX2_notePut 64 = .ok (.dup, 1) := by decide +kernel
theorem dX2_notePut_65 : decode cX2_notePut 65 = .ok (.getfield 68, 3) := by decide +kernel
theorem dX2_notePut_68 : decode cX2_notePut 68 = .ok (.iconst 1, 1) := by decide +kernel
theorem dX2_notePut_69 : decode cX2_notePut 69 = .ok (.iadd, 1) := by decide +kernel
theorem dX2_notePut_70 : decode cX2_notePut 70 = .ok (.putfield 68, 3) := by decide +kernel
theorem dX2_notePut_73 : decode cX2_notePut 73 = .ok (.aload_n 0, 1) := by decide +kernel
theorem dX2_notePut_74 : decode cX2_notePut 74 = .ok (.getfield 46, 3) := by decide +kernel
theorem dX2_notePut_77 : decode cX2_notePut 77 = .ok (.iload_n 1, 1) := by decide +kernel
theorem dX2_notePut_78 : decode cX2_notePut 78 = .ok (.dup2, 1) := by decide +kernel
theorem dX2_notePut_79 : decode cX2_notePut 79 = .ok (.iaload, 1) := by decide +kernel
theorem dX2_notePut_80 : decode cX2_notePut 80 = .ok (.iconst 1, 1) := by decide +kernel
theorem dX2_notePut_81 : decode cX2_notePut 81 = .ok (.iadd, 1) := by decide +kernel
theorem dX2_notePut_82 : decode cX2_notePut 82 = .ok (.iastore, 1) := by decide +kernel
theorem dX2_notePut_83 : decode cX2_notePut 83 = .ok (.return_, 1) := by decide +kernel
theorem dX2_isFedByAnother_0 : decode cX2_isFedByAnother 0 = .ok (.iconst 0, 1) := by decide +kernel
theorem dX2_isFedByAnother_1 : decode cX2_isFedByAnother 1 = .ok (.istore_n 2, 1) := by decide +kernel
theorem dX2_isFedByAnother_2 : decode cX2_isFedByAnother 2 = .ok (.iload_n 2, 1) := by decide +kernel
theorem dX2_isFedByAnother_3 : decode cX2_isFedByAnother 3 = .ok (.aload_n 0, 1) := by decide +kernel
theorem dX2_isFedByAnother_4 : decode cX2_isFedByAnother 4 = .ok (.getfield 68, 3) := by decide +kernel
theorem dX2_isFedByAnother_7 : decode cX2_isFedByAnother 7 = .ok (.if_icmp .ge 36, 3) := by decide +kernel
theorem dX2_isFedByAnother_10 : decode cX2_isFedByAnother 10 = .ok (.aload_n 0, 1) := by decide +kernel
theorem dX2_isFedByAnother_11 : decode cX2_isFedByAnother 11 = .ok (.getfield 49, 3) := by decide +kernel
theorem dX2_isFedByAnother_14 : decode cX2_isFedByAnother 14 = .ok (.iload_n 2, 1) := by decide +kernel
theorem dX2_isFedByAnother_15 : decode cX2_isFedByAnother 15 = .ok (.iaload, 1) := by decide +kernel
theorem dX2_isFedByAnother_16 : decode cX2_isFedByAnother 16 = .ok (.iload_n 1, 1) := by decide +kernel
theorem dX2_isFedByAnother_17 : decode cX2_isFedByAnother 17 = .ok (.if_icmp .ne 20, 3) := by decide +kernel
theorem dX2_isFedByAnother_20 : decode cX2_isFedByAnother 20 = .ok (.aload_n 0, 1) := by decide +kernel
theorem dX2_isFedByAnother_21 : decode cX2_isFedByAnother 21 = .ok (.getfield 52, 3) := by decide +kernel
theorem dX2_isFedByAnother_24 : decode cX2_isFedByAnother 24 = .ok (.iload_n 2, 1) := by decide +kernel
theorem dX2_isFedByAnother_25 : decode cX2_isFedByAnother 25 = .ok (.iaload, 1) := by decide +kernel
theorem dX2_isFedByAnother_26 : decode cX2_isFedByAnother 26 = .ok (.aload_n 0, 1) := by decide +kernel
theorem dX2_isFedByAnother_27 : decode cX2_isFedByAnother 27 = .ok (.getfield 34, 3) := by decide +kernel
theorem dX2_isFedByAnother_30 : decode cX2_isFedByAnother 30 = .ok (.iload_n 1, 1) := by decide +kernel
theorem dX2_isFedByAnother_31 : decode cX2_isFedByAnother 31 = .ok (.iaload, 1) := by decide +kernel
theorem dX2_isFedByAnother_32 : decode cX2_isFedByAnother 32 = .ok (.if_icmp .eq 5, 3) := by decide +kernel
theorem dX2_isFedByAnother_35 : decode cX2_isFedByAnother 35 = .ok (.iconst 1, 1) := by decide +kernel
theorem dX2_isFedByAnother_36 : decode cX2_isFedByAnother 36 = .ok (.ireturn, 1) := by decide +kernel
theorem dX2_isFedByAnother_37 : decode cX2_isFedByAnother 37 = .ok (.iinc 2 1, 3) := by decide +kernel
theorem dX2_isFedByAnother_40 : decode cX2_isFedByAnother 40 = .ok (.goto (-38), 3) := by decide +kernel
theorem dX2_isFedByAnother_43 : decode cX2_isFedByAnother 43 = .ok (.iconst 0, 1) := by decide +kernel
theorem dX2_isFedByAnother_44 : decode cX2_isFedByAnother 44 = .ok (.ireturn, 1) := by decide +kernel
theorem dX3_init_0 : decode cX3_init 0 = .ok (.aload_n 0, 1) := by decide +kernel
theorem dX3_init_1 : decode cX3_init 1 = .ok (.iload_n 1, 1) := by decide +kernel
theorem dX3_init_2 : decode cX3_init 2 = .ok (.aload_n 2, 1) := by decide +kernel
theorem dX3_init_3 : decode cX3_init 3 = .ok (.aload_n 3, 1) := by decide +kernel
theorem dX3_init_4 : decode cX3_init 4 = .ok (.invokespecial 1, 3) := by decide +kernel
theorem dX3_init_7 : decode cX3_init 7 = .ok (.return_, 1) := by decide +kernel
theorem dX3_size_0 : decode cX3_size 0 = .ok (.aload_n 0, 1) := by decide +kernel
theorem dX3_size_1 : decode cX3_size 1 = .ok (.getfield 7, 3) := by decide +kernel
theorem dX3_size_4 : decode cX3_size 4 = .ok (.bipush 12, 2) := by decide +kernel
theorem dX3_size_6 : decode cX3_size 6 = .ok (.invokevirtual 13, 3) := by decide +kernel
theorem dX3_size_9 : decode cX3_size 9 = .ok (.aload_n 0, 1) := by decide +kernel
theorem dX3_size_10 : decode cX3_size 10 = .ok (.invokespecial 19, 3) := by decide +kernel
theorem dX3_size_13 : decode cX3_size 13 = .ok (.aload_n 0, 1) := by decide +kernel
theorem dX3_size_14 : decode cX3_size 14 = .ok (.getfield 23, 3) := by decide +kernel
theorem dX3_size_17 : decode cX3_size 17 = .ok (.getfield 27, 3) := by decide +kernel
theorem dX3_size_20 : decode cX3_size 20 = .ok (.aload_n 0, 1) := by decide +kernel
theorem dX3_size_21 : decode cX3_size 21 = .ok (.getfield 33, 3) := by decide +kernel
theorem dX3_size_24 : decode cX3_size 24 = .ok (.iaload, 1) := by decide +kernel
theorem dX3_size_25 : decode cX3_size 25 = .ok (.i2l, 1) := by decide +kernel
theorem dX3_size_26 : decode cX3_size 26 = .ok (.lsub, 1) := by decide +kernel
theorem dX3_size_27 : decode cX3_size 27 = .ok (.lreturn, 1) := by decide +kernel
theorem dX4_init_0 : decode cX4_init 0 = .ok (.aload_n 0, 1) := by decide +kernel
theorem dX4_init_1 : decode cX4_init 1 = .ok (.iload_n 1, 1) := by decide +kernel
theorem dX4_init_2 : decode cX4_init 2 = .ok (.aload_n 2, 1) := by decide +kernel
theorem dX4_init_3 : decode cX4_init 3 = .ok (.aload_n 3, 1) := by decide +kernel
theorem dX4_init_4 : decode cX4_init 4 = .ok (.invokespecial 1, 3) := by decide +kernel
theorem dX4_init_7 : decode cX4_init 7 = .ok (.return_, 1) := by decide +kernel
theorem dX4_mark_0 : decode cX4_mark 0 = .ok (.aload_n 0, 1) := by decide +kernel
theorem dX4_mark_1 : decode cX4_mark 1 = .ok (.getfield 7, 3) := by decide +kernel
theorem dX4_mark_4 : decode cX4_mark 4 = .ok (.bipush 22, 2) := by decide +kernel
theorem dX4_mark_6 : decode cX4_mark 6 = .ok (.invokevirtual 13, 3) := by decide +kernel
theorem dX4_mark_9 : decode cX4_mark 9 = .ok (.aload_n 0, 1) := by decide +kernel
theorem dX4_mark_10 : decode cX4_mark 10 = .ok (.invokespecial 19, 3) := by decide +kernel
theorem dX4_mark_13 : decode cX4_mark 13 = .ok (.aload_n 0, 1) := by decide +kernel
theorem dX4_mark_14 : decode cX4_mark 14 = .ok (.invokevirtual 23, 3) := by decide +kernel
theorem dX4_mark_17 : decode cX4_mark 17 = .ok (.ladd, 1) := by decide +kernel
theorem dX4_mark_18 : decode cX4_mark 18 = .ok (.lreturn, 1) := by decide +kernel
theorem dX5_init_0 : decode cX5_init 0 = .ok (.aload_n 0, 1) := by decide +kernel
theorem dX5_init_1 : decode cX5_init 1 = .ok (.iload_n 1, 1) := by decide +kernel
theorem dX5_init_2 : decode cX5_init 2 = .ok (.aload_n 2, 1) := by decide +kernel
theorem dX5_init_3 : decode cX5_init 3 = .ok (.aload_n 3, 1) := by decide +kernel
theorem dX5_init_4 : decode cX5_init 4 = .ok (.invokespecial 1, 3) := by decide +kernel
theorem dX5_init_7 : decode cX5_init 7 = .ok (.return_, 1) := by decide +kernel
theorem dX5_size_0 : decode cX5_size 0 = .ok (.aload_n 0, 1) := by decide +kernel
theorem dX5_size_1 : decode cX5_size 1 = .ok (.getfield 7, 3) := by decide +kernel
theorem dX5_size_4 : decode cX5_size 4 = .ok (.bipush 11, 2) := by decide +kernel
theorem dX5_size_6 : decode cX5_size 6 = .ok (.invokevirtual 13, 3) := by decide +kernel
theorem dX5_size_9 : decode cX5_size 9 = .ok (.aload_n 0, 1) := by decide +kernel
theorem dX5_size_10 : decode cX5_size 10 = .ok (.invokespecial 19, 3) := by decide +kernel
theorem dX5_size_13 : decode cX5_size 13 = .ok (.aload_n 0, 1) := by decide +kernel
theorem dX5_size_14 : decode cX5_size 14 = .ok (.invokevirtual 23, 3) := by decide +kernel
theorem dX5_size_17 : decode cX5_size 17 = .ok (.ladd, 1) := by decide +kernel
theorem dX5_size_18 : decode cX5_size 18 = .ok (.lreturn, 1) := by decide +kernel
theorem dX5_mark_0 : decode cX5_mark 0 = .ok (.aload_n 0, 1) := by decide +kernel
theorem dX5_mark_1 : decode cX5_mark 1 = .ok (.getfield 7, 3) := by decide +kernel
theorem dX5_mark_4 : decode cX5_mark 4 = .ok (.bipush 21, 2) := by decide +kernel
theorem dX5_mark_6 : decode cX5_mark 6 = .ok (.invokevirtual 13, 3) := by decide +kernel
theorem dX5_mark_9 : decode cX5_mark 9 = .ok (.aload_n 0, 1) := by decide +kernel
theorem dX5_mark_10 : decode cX5_mark 10 = .ok (.invokespecial 26, 3) := by decide +kernel
theorem dX5_mark_13 : decode cX5_mark 13 = .ok (.bipush 10, 2) := by decide +kernel
theorem dX5_mark_15 : decode cX5_mark 15 = .ok (.aload_n 0, 1) := by decide +kernel
theorem dX5_mark_16 : decode cX5_mark 16 = .ok (.getfield 27, 3) := by decide +kernel
theorem dX5_mark_19 : decode cX5_mark 19 = .ok (.getfield 31, 3) := by decide +kernel
theorem dX5_mark_22 : decode cX5_mark 22 = .ok (.aload_n 0, 1) := by decide +kernel
theorem dX5_mark_23 : decode cX5_mark 23 = .ok (.getfield 37, 3) := by decide +kernel
theorem dX5_mark_26 : decode cX5_mark 26 = .ok (.iaload, 1) := by decide +kernel
theorem dX5_mark_27 : decode cX5_mark 27 = .ok (.imul, 1) := by decide +kernel
theorem dX5_mark_28 : decode cX5_mark 28 = .ok (.i2l, 1) := by decide +kernel
theorem dX5_mark_29 : decode cX5_mark 29 = .ok (.ladd, 1) := by decide +kernel
theorem dX5_mark_30 : decode cX5_mark 30 = .ok (.lreturn, 1) := by decide +kernel
theorem dX6_init_0 : decode cX6_init 0 = .ok (.aload_n 0, 1) := by decide +kernel
theorem dX6_init_1 : decode cX6_init 1 = .ok (.invokespecial 3, 3) := by decide +kernel
theorem dX6_init_4 : decode cX6_init 4 = .ok (.aload_n 0, 1) := by decide +kernel
theorem dX6_init_5 : decode cX6_init 5 = .ok (.sipush 500, 3) := by decide +kernel
theorem dX6_init_8 : decode cX6_init 8 = .ok (.newarray .byte, 2) := by decide +kernel
theorem dX6_init_10 : decode cX6_init 10 = .ok (.putfield 9, 3) := by decide +kernel
theorem dX6_init_13 : decode cX6_init 13 = .ok (.return_, 1) := by decide +kernel
theorem dX6_append_0 : decode cX6_append 0 = .ok (.aload_n 0, 1) := by decide +kernel
theorem dX6_append_1 : decode cX6_append 1 = .ok (.getfield 15, 3) := by decide +kernel
theorem dX6_append_4 : decode cX6_append 4 = .ok (.sipush 500, 3) := by decide +kernel
theorem dX6_append_7 : decode cX6_append 7 = .ok (.if_icmp .ge 23, 3) := by decide +kernel
theorem dX6_append_10 : decode cX6_append 10 = .ok (.aload_n 0, 1) := by decide +kernel
theorem dX6_append_11 : decode cX6_append 11 = .ok (.getfield 9, 3) := by decide +kernel
theorem dX6_append_14 : decode cX6_append 14 = .ok (.aload_n 0, 1) := by decide +kernel
theorem dX6_append_15 : decode cX6_append 15 = .ok (.getfield 15, 3) := by decide +kernel
theorem dX6_append_18 : decode cX6_append 18 = .ok (.iload_n 1, 1) := by decide +kernel
theorem dX6_append_19 : decode cX6_append 19 = .ok (.bastore, 1) := by decide +kernel
theorem dX6_append_20 : decode cX6_append 20 = .ok (.aload_n 0, 1) := by decide +kernel
theorem dX6_append_21 : decode cX6_append 21 = .ok (.dup, 1) := by decide +kernel
theorem dX6_append_22 : decode cX6_append 22 = .ok (.getfield 15, 3) := by decide +kernel
theorem dX6_append_25 : decode cX6_append 25 = .ok (.iconst 1, 1) := by decide +kernel
theorem dX6_append_26 : decode cX6_append 26 = .ok (.iadd, 1) := by decide +kernel
theorem dX6_append_27 : decode cX6_append 27 = .ok (.putfield 15, 3) := by decide +kernel
theorem dX6_append_30 : decode cX6_append 30 = .ok (.return_, 1) := by decide +kernel
theorem dX6_readInto_0 : decode cX6_readInto 0 = .ok (.aload_n 1, 1) := by decide +kernel
theorem dX6_readInto_1 : decode cX6_readInto 1 = .ok (.invokevirtual 19, 3) := by decide +kernel
theorem dX6_readInto_4 : decode cX6_readInto 4 = .ok (.aload_n 0, 1) := by decide +kernel
theorem dX6_readInto_5 : decode cX6_readInto 5 = .ok (.iconst 0, 1) := by decide +kernel
theorem dX6_readInto_6 : decode cX6_readInto 6 = .ok (.putfield 24, 3) := by decide +kernel
theorem dX6_readInto_9 : decode cX6_readInto 9 = .ok (.aload_n 0, 1) := by decide +kernel
theorem dX6_readInto_10 : decode cX6_readInto 10 = .ok (.iconst 0, 1) := by decide +kernel
theorem dX6_readInto_11 : decode cX6_readInto 11 = .ok (.putfield 27, 3) := by decide +kernel
theorem dX6_readInto_14 : decode cX6_readInto 14 = .ok (.aload_n 0, 1) := by decide +kernel
theorem dX6_readInto_15 : decode cX6_readInto 15 = .ok (.iconst 0, 1) := by decide +kernel
theorem dX6_readInto_16 : decode cX6_readInto 16 = .ok (.putfield 30, 3) := by decide +kernel
theorem dX6_readInto_19 : decode cX6_readInto 19 = .ok (.aload_n 0, 1) := by decide +kernel
theorem dX6_readInto_20 : decode cX6_readInto 20 = .ok (.invokevirtual 33, 3) := by decide +kernel
theorem dX6_readInto_23 : decode cX6_readInto 23 = .ok (.aload_n 0, 1) := by decide +kernel
theorem dX6_readInto_24 : decode cX6_readInto 24 = .ok (.aload_n 1, 1) := by decide +kernel
theorem dX6_readInto_25 : decode cX6_readInto 25 = .ok (.invokevirtual 36, 3) := by decide +kernel
theorem dX6_readInto_28 : decode cX6_readInto 28 = .ok (.aload_n 0, 1) := by decide +kernel
theorem dX6_readInto_29 : decode cX6_readInto 29 = .ok (.aload_n 1, 1) := by decide +kernel
theorem dX6_readInto_30 : decode cX6_readInto 30 = .ok (.invokevirtual 40, 3) := by decide +kernel
theorem dX6_readInto_33 : decode cX6_readInto 33 = .ok (.aload_n 0, 1) := by decide +kernel
theorem dX6_readInto_34 : decode cX6_readInto 34 = .ok (.iconst 0, 1) := by decide +kernel
theorem dX6_readInto_35 : decode cX6_readInto 35 = .ok (.putfield 15, 3) := by decide +kernel
theorem dX6_readInto_38 : decode cX6_readInto 38 = .ok (.return_, 1) := by decide +kernel
theorem dX6_readLaws_0 : decode cX6_readLaws 0 = .ok (.aload_n 0, 1) := by decide +kernel
theorem dX6_readLaws_1 : decode cX6_readLaws 1 = .ok (.ldc 43, 2) := by decide +kernel
theorem dX6_readLaws_3 : decode cX6_readLaws 3 = .ok (.invokevirtual 45, 3) := by decide +kernel
theorem dX6_readLaws_6 : decode cX6_readLaws 6 = .ok (.ifCond .ge 8, 3) := by decide +kernel
theorem dX6_readLaws_9 : decode cX6_readLaws 9 = .ok (.aload_n 0, 1) := by decide +kernel
theorem dX6_readLaws_10 : decode cX6_readLaws 10 = .ok (.iconst 1, 1) := by decide +kernel
theorem dX6_readLaws_11 : decode cX6_readLaws 11 = .ok (.invokevirtual 49, 3) := by decide +kernel
theorem dX6_readLaws_14 : decode cX6_readLaws 14 = .ok (.iconst 0, 1) := by decide +kernel
theorem dX6_readLaws_15 : decode cX6_readLaws 15 = .ok (.istore_n 2, 1) := by decide +kernel
theorem dX6_readLaws_16 : decode cX6_readLaws 16 = .ok (.iload_n 2, 1) := by decide +kernel
theorem dX6_readLaws_17 : decode cX6_readLaws 17 = .ok (.iconst 4, 1) := by decide +kernel
theorem dX6_readLaws_18 : decode cX6_readLaws 18 = .ok (.if_icmp .gt 60, 3) := by decide +kernel
theorem dX6_readLaws_21 : decode cX6_readLaws 21 = .ok (.aload_n 0, 1) := by decide +kernel
theorem dX6_readLaws_22 : decode cX6_readLaws 22 = .ok (.getfield 24, 3) := by decide +kernel
theorem dX6_readLaws_25 : decode cX6_readLaws 25 = .ok (.ifCond .ne 53, 3) := by decide +kernel
theorem dX6_readLaws_28 : decode cX6_readLaws 28 = .ok (.aload_n 0, 1) := by decide +kernel
theorem dX6_readLaws_29 : decode cX6_readLaws 29 = .ok (.ldc 43, 2) := by decide +kernel
theorem dX6_readLaws_31 : decode cX6_readLaws 31 = .ok (.invokevirtual 45, 3) := by decide +kernel
theorem dX6_readLaws_34 : decode cX6_readLaws 34 = .ok (.ifCond .ne 44, 3) := by decide +kernel
theorem dX6_readLaws_37 : decode cX6_readLaws 37 = .ok (.aload_n 1, 1) := by decide +kernel
theorem dX6_readLaws_38 : decode cX6_readLaws 38 = .ok (.getfield 53, 3) := by decide +kernel
theorem dX6_readLaws_41 : decode cX6_readLaws 41 = .ok (.iconst 4, 1) := by decide +kernel
theorem dX6_readLaws_42 : decode cX6_readLaws 42 = .ok (.if_icmp .lt 11, 3) := by decide +kernel
theorem dX6_readLaws_45 : decode cX6_readLaws 45 = .ok (.aload_n 0, 1) := by decide +kernel
theorem dX6_readLaws_46 : decode cX6_readLaws 46 = .ok (.iconst 3, 1) := by decide +kernel
theorem dX6_readLaws_47 : decode cX6_readLaws 47 = .ok (.invokevirtual 49, 3) := by decide +kernel
theorem dX6_readLaws_50 : decode cX6_readLaws 50 = .ok (.goto 22, 3) := by decide +kernel
theorem dX6_readLaws_53 : decode cX6_readLaws 53 = .ok (.aload_n 0, 1) := by decide +kernel
theorem dX6_readLaws_54 : decode cX6_readLaws 54 = .ok (.aload_n 1, 1) := by decide +kernel
theorem dX6_readLaws_55 : decode cX6_readLaws 55 = .ok (.aload_n 1, 1) := by decide +kernel
theorem dX6_readLaws_56 : decode cX6_readLaws 56 = .ok (.getfield 53, 3) := by decide +kernel
theorem dX6_readLaws_59 : decode cX6_readLaws 59 = .ok (.invokevirtual 56, 3) := by decide +kernel
theorem dX6_readLaws_62 : decode cX6_readLaws 62 = .ok (.aload_n 1, 1) := by decide +kernel
theorem dX6_readLaws_63 : decode cX6_readLaws 63 = .ok (.dup, 1) := by decide +kernel
theorem dX6_readLaws_64 : decode cX6_readLaws 64 = .ok (.getfield 53, 3) := by decide +kernel
theorem dX6_readLaws_67 : decode cX6_readLaws 67 = .ok (.iconst 1, 1) := by decide +kernel
theorem dX6_readLaws_68 : decode cX6_readLaws 68 = .ok (.iadd, 1) := by decide +kernel
theorem dX6_readLaws_69 : decode cX6_readLaws 69 = .ok (.putfield 53, 3) := by decide +kernel
theorem dX6_readLaws_72 : decode cX6_readLaws 72 = .ok (.iinc 2 1, 3) := by decide +kernel
theorem dX6_readLaws_75 : decode cX6_readLaws 75 = .ok (.goto (-59), 3) := by decide +kernel
theorem dX6_readLaws_78 : decode cX6_readLaws 78 = .ok (.return_, 1) := by decide +kernel
theorem dX6_readLaw_0 : decode cX6_readLaw 0 = .ok (.aload_n 0, 1) := by decide +kernel
theorem dX6_readLaw_1 : decode cX6_readLaw 1 = .ok (.invokevirtual 33, 3) := by decide +kernel
theorem dX6_readLaw_4 : decode cX6_readLaw 4 = .ok (.iconst 0, 1) := by decide +kernel
theorem dX6_readLaw_5 : decode cX6_readLaw 5 = .ok (.istore_n 3, 1) := by decide +kernel
theorem dX6_readLaw_6 : decode cX6_readLaw 6 = .ok (.iload_n 3, 1) := by decide +kernel
theorem dX6_readLaw_7 : decode cX6_readLaw 7 = .ok (.iconst 4, 1) := by decide +kernel
theorem dX6_readLaw_8 : decode cX6_readLaw 8 = .ok (.if_icmp .ge 25, 3) := by decide +kernel
theorem dX6_readLaw_11 : decode cX6_readLaw 11 = .ok (.aload_n 1, 1) := by decide +kernel
theorem dX6_readLaw_12 : decode cX6_readLaw 12 = .ok (.getfield 60, 3) := by decide +kernel
theorem dX6_readLaw_15 : decode cX6_readLaw 15 = .ok (.iload_n 2, 1) := by decide +kernel
theorem dX6_readLaw_16 : decode cX6_readLaw 16 = .ok (.iconst 4, 1) := by decide +kernel
theorem dX6_readLaw_17 : decode cX6_readLaw 17 = .ok (.imul, 1) := by decide +kernel
theorem dX6_readLaw_18 : decode cX6_readLaw 18 = .ok (.iload_n 3, 1) := by decide +kernel
theorem dX6_readLaw_19 : decode cX6_readLaw 19 = .ok (.iadd, 1) := by decide +kernel
theorem dX6_readLaw_20 : decode cX6_readLaw 20 = .ok (.aload_n 0, 1) := by decide +kernel
theorem dX6_readLaw_21 : decode cX6_readLaw 21 = .ok (.ldc 64, 2) := by decide +kernel
theorem dX6_readLaw_23 : decode cX6_readLaw 23 = .ok (.invokevirtual 66, 3) := by decide +kernel
theorem dX6_readLaw_26 : decode cX6_readLaw 26 = .ok (.iastore, 1) := by decide +kernel
theorem dX6_readLaw_27 : decode cX6_readLaw 27 = .ok (.iinc 3 1, 3) := by decide +kernel
theorem dX6_readLaw_30 : decode cX6_readLaw 30 = .ok (.goto (-24), 3) := by decide +kernel
theorem dX6_readLaw_33 : decode cX6_readLaw 33 = .ok (.aload_n 1, 1) := by decide +kernel
theorem dX6_readLaw_34 : decode cX6_readLaw 34 = .ok (.getfield 69, 3) := by decide +kernel
theorem dX6_readLaw_37 : decode cX6_readLaw 37 = .ok (.iload_n 2, 1) := by decide +kernel
theorem dX6_readLaw_38 : decode cX6_readLaw 38 = .ok (.aload_n 0, 1) := by decide +kernel
theorem dX6_readLaw_39 : decode cX6_readLaw 39 = .ok (.ldc 72, 2) := by decide +kernel
theorem dX6_readLaw_41 : decode cX6_readLaw 41 = .ok (.invokevirtual 66, 3) := by decide +kernel
theorem dX6_readLaw_44 : decode cX6_readLaw 44 = .ok (.iastore, 1) := by decide +kernel
theorem dX6_readLaw_45 : decode cX6_readLaw 45 = .ok (.aload_n 1, 1) := by decide +kernel
theorem dX6_readLaw_46 : decode cX6_readLaw 46 = .ok (.getfield 74, 3) := by decide +kernel
theorem dX6_readLaw_49 : decode cX6_readLaw 49 = .ok (.iload_n 2, 1) := by decide +kernel
theorem dX6_readLaw_50 : decode cX6_readLaw 50 = .ok (.aload_n 0, 1) := by decide +kernel
theorem dX6_readLaw_51 : decode cX6_readLaw 51 = .ok (.ldc 77, 2) := by decide +kernel
theorem dX6_readLaw_53 : decode cX6_readLaw 53 = .ok (.invokevirtual 66, 3) := by decide +kernel
theorem dX6_readLaw_56 : decode cX6_readLaw 56 = .ok (.iastore, 1) := by decide +kernel
theorem dX6_readLaw_57 : decode cX6_readLaw 57 = .ok (.aload_n 1, 1) := by decide +kernel
theorem dX6_readLaw_58 : decode cX6_readLaw 58 = .ok (.getfield 79, 3) := by decide +kernel
theorem dX6_readLaw_61 : decode cX6_readLaw 61 = .ok (.iload_n 2, 1) := by decide +kernel
theorem dX6_readLaw_62 : decode cX6_readLaw 62 = .ok (.aload_n 0, 1) := by decide +kernel
theorem dX6_readLaw_63 : decode cX6_readLaw 63 = .ok (.ldc 82, 2) := by decide +kernel
theorem dX6_readLaw_65 : decode cX6_readLaw 65 = .ok (.invokevirtual 66, 3) := by decide +kernel
theorem dX6_readLaw_68 : decode cX6_readLaw 68 = .ok (.iastore, 1) := by decide +kernel
theorem dX6_readLaw_69 : decode cX6_readLaw 69 = .ok (.aload_n 1, 1) := by decide +kernel
theorem dX6_readLaw_70 : decode cX6_readLaw 70 = .ok (.getfield 84, 3) := by decide +kernel
theorem dX6_readLaw_73 : decode cX6_readLaw 73 = .ok (.iload_n 2, 1) := by decide +kernel
theorem dX6_readLaw_74 : decode cX6_readLaw 74 = .ok (.aload_n 0, 1) := by decide +kernel
theorem dX6_readLaw_75 : decode cX6_readLaw 75 = .ok (.iconst 0, 1) := by decide +kernel
theorem dX6_readLaw_76 : decode cX6_readLaw 76 = .ok (.bipush 100, 2) := by decide +kernel
theorem dX6_readLaw_78 : decode cX6_readLaw 78 = .ok (.invokevirtual 87, 3) := by decide +kernel
theorem dX6_readLaw_81 : decode cX6_readLaw 81 = .ok (.iastore, 1) := by decide +kernel
theorem dX6_readLaw_82 : decode cX6_readLaw 82 = .ok (.aload_n 0, 1) := by decide +kernel
theorem dX6_readLaw_83 : decode cX6_readLaw 83 = .ok (.invokevirtual 91, 3) := by decide +kernel
theorem dX6_readLaw_86 : decode cX6_readLaw 86 = .ok (.return_, 1) := by decide +kernel
theorem dX6_readEvents_0 : decode cX6_readEvents 0 = .ok (.iconst 0, 1) := by decide +kernel
theorem dX6_readEvents_1 : decode cX6_readEvents 1 = .ok (.istore_n 2, 1) := by decide +kernel
theorem dX6_readEvents_2 : decode cX6_readEvents 2 = .ok (.iload_n 2, 1) := by decide +kernel
theorem dX6_readEvents_3 : decode cX6_readEvents 3 = .ok (.bipush 30, 2) := by decide +kernel
theorem dX6_readEvents_5 : decode cX6_readEvents 5 = .ok (.if_icmp .gt 128, 3) := by decide +kernel
theorem dX6_readEvents_8 : decode cX6_readEvents 8 = .ok (.aload_n 0, 1) := by decide +kernel
theorem dX6_readEvents_9 : decode cX6_readEvents 9 = .ok (.getfield 24, 3) := by decide +kernel
theorem dX6_readEvents_12 : decode cX6_readEvents 12 = .ok (.ifCond .ne 121, 3) := by decide +kernel
theorem dX6_readEvents_15 : decode cX6_readEvents 15 = .ok (.aload_n 0, 1) := by decide +kernel
theorem dX6_readEvents_16 : decode cX6_readEvents 16 = .ok (.getfield 94, 3) := by decide +kernel
theorem dX6_readEvents_19 : decode cX6_readEvents 19 = .ok (.ifCond .eq 114, 3) := by decide +kernel
theorem dX6_readEvents_22 : decode cX6_readEvents 22 = .ok (.aload_n 0, 1) := by decide +kernel
theorem dX6_readEvents_23 : decode cX6_readEvents 23 = .ok (.ldc 97, 2) := by decide +kernel
theorem dX6_readEvents_25 : decode cX6_readEvents 25 = .ok (.invokevirtual 45, 3) := by decide +kernel
theorem dX6_readEvents_28 : decode cX6_readEvents 28 = .ok (.istore_n 3, 1) := by decide +kernel
theorem dX6_readEvents_29 : decode cX6_readEvents 29 = .ok (.iload_n 3, 1) := by decide +kernel
theorem dX6_readEvents_30 : decode cX6_readEvents 30 = .ok (.ifCond .eq 8, 3) := by decide +kernel
theorem dX6_readEvents_33 : decode cX6_readEvents 33 = .ok (.iload_n 3, 1) := by decide +kernel
theorem dX6_readEvents_34 : decode cX6_readEvents 34 = .ok (.iconst 1, 1) := by decide +kernel
theorem dX6_readEvents_35 : decode cX6_readEvents 35 = .ok (.if_icmp .ne 7, 3) := by decide +kernel
theorem dX6_readEvents_38 : decode cX6_readEvents 38 = .ok (.iconst 1, 1) := by decide +kernel
theorem dX6_readEvents_39 : decode cX6_readEvents 39 = .ok (.goto 4, 3) := by decide +kernel
theorem dX6_readEvents_42 : decode cX6_readEvents 42 = .ok (.iconst 0, 1) := by decide +kernel
theorem dX6_readEvents_43 : decode cX6_readEvents 43 = .ok (.istore 4, 2) := by decide +kernel
theorem dX6_readEvents_45 : decode cX6_readEvents 45 = .ok (.iload_n 3, 1) := by decide +kernel
theorem dX6_readEvents_46 : decode cX6_readEvents 46 = .ok (.ifCond .ge 11, 3) := by decide +kernel
theorem dX6_readEvents_49 : decode cX6_readEvents 49 = .ok (.aload_n 0, 1) := by decide +kernel
theorem dX6_readEvents_50 : decode cX6_readEvents 50 = .ok (.iconst 1, 1) := by decide +kernel
theorem dX6_readEvents_51 : decode cX6_readEvents 51 = .ok (.invokevirtual 49, 3) := by decide +kernel
theorem dX6_readEvents_54 : decode cX6_readEvents 54 = .ok (.goto 73, 3) := by decide +kernel
theorem dX6_readEvents_57 : decode cX6_readEvents 57 = .ok (.aload_n 1, 1) := by decide +kernel
theorem dX6_readEvents_58 : decode cX6_readEvents 58 = .ok (.getfield 99, 3) := by decide +kernel
theorem dX6_readEvents_61 : decode cX6_readEvents 61 = .ok (.bipush 30, 2) := by decide +kernel
theorem dX6_readEvents_63 : decode cX6_readEvents 63 = .ok (.if_icmp .ge 17, 3) := by decide +kernel
theorem dX6_readEvents_66 : decode cX6_readEvents 66 = .ok (.iload 4, 2) := by decide +kernel
theorem dX6_readEvents_68 : decode cX6_readEvents 68 = .ok (.ifCond .eq 20, 3) := by decide +kernel
theorem dX6_readEvents_71 : decode cX6_readEvents 71 = .ok (.aload_n 1, 1) := by decide +kernel
theorem dX6_readEvents_72 : decode cX6_readEvents 72 = .ok (.getfield 102, 3) := by decide +kernel
theorem dX6_readEvents_75 : decode cX6_readEvents 75 = .ok (.bipush 10, 2) := by decide +kernel
theorem dX6_readEvents_77 : decode cX6_readEvents 77 = .ok (.if_icmp .lt 11, 3) := by decide +kernel
theorem dX6_readEvents_80 : decode cX6_readEvents 80 = .ok (.aload_n 0, 1) := by decide +kernel
theorem dX6_readEvents_81 : decode cX6_readEvents 81 = .ok (.iconst 3, 1) := by decide +kernel
theorem dX6_readEvents_82 : decode cX6_readEvents 82 = .ok (.invokevirtual 49, 3) := by decide +kernel
theorem dX6_readEvents_85 : decode cX6_readEvents 85 = .ok (.goto 42, 3) := by decide +kernel
theorem dX6_readEvents_88 : decode cX6_readEvents 88 = .ok (.aload_n 0, 1) := by decide +kernel
theorem dX6_readEvents_89 : decode cX6_readEvents 89 = .ok (.aload_n 1, 1) := by decide +kernel
theorem dX6_readEvents_90 : decode cX6_readEvents 90 = .ok (.aload_n 1, 1) := by decide +kernel
theorem dX6_readEvents_91 : decode cX6_readEvents 91 = .ok (.getfield 99, 3) := by decide +kernel
theorem dX6_readEvents_94 : decode cX6_readEvents 94 = .ok (.iload_n 3, 1) := by decide +kernel
theorem dX6_readEvents_95 : decode cX6_readEvents 95 = .ok (.invokevirtual 105, 3) := by decide +kernel
theorem dX6_readEvents_98 : decode cX6_readEvents 98 = .ok (.aload_n 1, 1) := by decide +kernel
theorem dX6_readEvents_99 : decode cX6_readEvents 99 = .ok (.dup, 1) := by decide +kernel
theorem dX6_readEvents_100 : decode cX6_readEvents 100 = .ok (.getfield 99, 3) := by decide +kernel
theorem dX6_readEvents_103 : decode cX6_readEvents 103 = .ok (.iconst 1, 1) := by decide +kernel
theorem dX6_readEvents_104 : decode cX6_readEvents 104 = .ok (.iadd, 1) := by decide +kernel
theorem dX6_readEvents_105 : decode cX6_readEvents 105 = .ok (.putfield 99, 3) := by decide +kernel
theorem dX6_readEvents_108 : decode cX6_readEvents 108 = .ok (.aload_n 1, 1) := by decide +kernel
theorem dX6_readEvents_109 : decode cX6_readEvents 109 = .ok (.dup, 1) := by decide +kernel
theorem dX6_readEvents_110 : decode cX6_readEvents 110 = .ok (.getfield 102, 3) := by decide +kernel
theorem dX6_readEvents_113 : decode cX6_readEvents 113 = .ok (.iload 4, 2) := by decide +kernel
theorem dX6_readEvents_115 : decode cX6_readEvents 115 = .ok (.ifCond .eq 7, 3) := by decide +kernel
theorem dX6_readEvents_118 : decode cX6_readEvents 118 = .ok (.iconst 1, 1) := by decide +kernel
theorem dX6_readEvents_119 : decode cX6_readEvents 119 = .ok (.goto 4, 3) := by decide +kernel
theorem dX6_readEvents_122 : decode cX6_readEvents 122 = .ok (.iconst 0, 1) := by decide +kernel
theorem dX6_readEvents_123 : decode cX6_readEvents 123 = .ok (.iadd, 1) := by decide +kernel
theorem dX6_readEvents_124 : decode cX6_readEvents 124 = .ok (.putfield 102, 3) := by decide +kernel
theorem dX6_readEvents_127 : decode cX6_readEvents 127 = .ok (.iinc 2 1, 3) := by decide +kernel
theorem dX6_readEvents_130 : decode cX6_readEvents 130 = .ok (.goto (-128), 3) := by decide +kernel
theorem dX6_readEvents_133 : decode cX6_readEvents 133 = .ok (.return_, 1) := by decide +kernel
theorem dX6_readEvent_0 : decode cX6_readEvent 0 = .ok (.aload_n 0, 1) := by decide +kernel
theorem dX6_readEvent_1 : decode cX6_readEvent 1 = .ok (.invokevirtual 33, 3) := by decide +kernel
theorem dX6_readEvent_4 : decode cX6_readEvent 4 = .ok (.aload_n 1, 1) := by decide +kernel
theorem dX6_readEvent_5 : decode cX6_readEvent 5 = .ok (.getfield 109, 3) := by decide +kernel
theorem dX6_readEvent_8 : decode cX6_readEvent 8 = .ok (.iload_n 2, 1) := by decide +kernel
theorem dX6_readEvent_9 : decode cX6_readEvent 9 = .ok (.iload_n 3, 1) := by decide +kernel
theorem dX6_readEvent_10 : decode cX6_readEvent 10 = .ok (.iastore, 1) := by decide +kernel
theorem dX6_readEvent_11 : decode cX6_readEvent 11 = .ok (.aload_n 1, 1) := by decide +kernel
theorem dX6_readEvent_12 : decode cX6_readEvent 12 = .ok (.getfield 112, 3) := by decide +kernel
theorem dX6_readEvent_15 : decode cX6_readEvent 15 = .ok (.iload_n 2, 1) := by decide +kernel
theorem dX6_readEvent_16 : decode cX6_readEvent 16 = .ok (.aload_n 0, 1) := by decide +kernel
theorem dX6_readEvent_17 : decode cX6_readEvent 17 = .ok (.iload_n 2, 1) := by decide +kernel
theorem dX6_readEvent_18 : decode cX6_readEvent 18 = .ok (.ifCond .ne 7, 3) := by decide +kernel
theorem dX6_readEvent_21 : decode cX6_readEvent 21 = .ok (.iconst 0, 1) := by decide +kernel
theorem dX6_readEvent_22 : decode cX6_readEvent 22 = .ok (.goto 11, 3) := by decide +kernel
theorem dX6_readEvent_25 : decode cX6_readEvent 25 = .ok (.aload_n 1, 1) := by decide +kernel
theorem dX6_readEvent_26 : decode cX6_readEvent 26 = .ok (.getfield 112, 3) := by decide +kernel
theorem dX6_readEvent_29 : decode cX6_readEvent 29 = .ok (.iload_n 2, 1) := by decide +kernel
theorem dX6_readEvent_30 : decode cX6_readEvent 30 = .ok (.iconst 1, 1) := by decide +kernel
theorem dX6_readEvent_31 : decode cX6_readEvent 31 = .ok (.isub, 1) := by decide +kernel
theorem dX6_readEvent_32 : decode cX6_readEvent 32 = .ok (.iaload, 1) := by decide +kernel
theorem dX6_readEvent_33 : decode cX6_readEvent 33 = .ok (.sipush 999, 3) := by decide +kernel
theorem dX6_readEvent_36 : decode cX6_readEvent 36 = .ok (.invokevirtual 87, 3) := by decide +kernel
theorem dX6_readEvent_39 : decode cX6_readEvent 39 = .ok (.iastore, 1) := by decide +kernel
theorem dX6_readEvent_40 : decode cX6_readEvent 40 = .ok (.iload_n 3, 1) := by decide +kernel
theorem dX6_readEvent_41 : decode cX6_readEvent 41 = .ok (.tableswitch 281 0 5 #[39, 79, 155, 200, 233, 261], 39) := by decide +kernel
theorem dX6_readEvent_80 : decode cX6_readEvent 80 = .ok (.aload_n 1, 1) := by decide +kernel
theorem dX6_readEvent_81 : decode cX6_readEvent 81 = .ok (.getfield 115, 3) := by decide +kernel
theorem dX6_readEvent_84 : decode cX6_readEvent 84 = .ok (.iload_n 2, 1) := by decide +kernel
theorem dX6_readEvent_85 : decode cX6_readEvent 85 = .ok (.aload_n 0, 1) := by decide +kernel
theorem dX6_readEvent_86 : decode cX6_readEvent 86 = .ok (.ldc 118, 2) := by decide +kernel
theorem dX6_readEvent_88 : decode cX6_readEvent 88 = .ok (.invokevirtual 66, 3) := by decide +kernel
theorem dX6_readEvent_91 : decode cX6_readEvent 91 = .ok (.iastore, 1) := by decide +kernel
theorem dX6_readEvent_92 : decode cX6_readEvent 92 = .ok (.aload_n 1, 1) := by decide +kernel
theorem dX6_readEvent_93 : decode cX6_readEvent 93 = .ok (.getfield 120, 3) := by decide +kernel
theorem dX6_readEvent_96 : decode cX6_readEvent 96 = .ok (.iload_n 2, 1) := by decide +kernel
theorem dX6_readEvent_97 : decode cX6_readEvent 97 = .ok (.aload_n 0, 1) := by decide +kernel
theorem dX6_readEvent_98 : decode cX6_readEvent 98 = .ok (.iconst 0, 1) := by decide +kernel
theorem dX6_readEvent_99 : decode cX6_readEvent 99 = .ok (.iconst 1, 1) := by decide +kernel
theorem dX6_readEvent_100 : decode cX6_readEvent 100 = .ok (.invokevirtual 87, 3) := by decide +kernel
theorem dX6_readEvent_103 : decode cX6_readEvent 103 = .ok (.iastore, 1) := by decide +kernel
theorem dX6_readEvent_104 : decode cX6_readEvent 104 = .ok (.aload_n 1, 1) := by decide +kernel
theorem dX6_readEvent_105 : decode cX6_readEvent 105 = .ok (.getfield 123, 3) := by decide +kernel
theorem dX6_readEvent_108 : decode cX6_readEvent 108 = .ok (.iload_n 2, 1) := by decide +kernel
theorem dX6_readEvent_109 : decode cX6_readEvent 109 = .ok (.aload_n 0, 1) := by decide +kernel
theorem dX6_readEvent_110 : decode cX6_readEvent 110 = .ok (.iconst 1, 1) := by decide +kernel
theorem dX6_readEvent_111 : decode cX6_readEvent 111 = .ok (.bipush 99, 2) := by decide +kernel
theorem dX6_readEvent_113 : decode cX6_readEvent 113 = .ok (.invokevirtual 87, 3) := by decide +kernel
theorem dX6_readEvent_116 : decode cX6_readEvent 116 = .ok (.iastore, 1) := by decide +kernel
theorem dX6_readEvent_117 : decode cX6_readEvent 117 = .ok (.goto 229, 3) := by decide +kernel
theorem dX6_readEvent_120 : decode cX6_readEvent 120 = .ok (.aload_n 1, 1) := by decide +kernel
theorem dX6_readEvent_121 : decode cX6_readEvent 121 = .ok (.getfield 115, 3) := by decide +kernel
theorem dX6_readEvent_124 : decode cX6_readEvent 124 = .ok (.iload_n 2, 1) := by decide +kernel
theorem dX6_readEvent_125 : decode cX6_readEvent 125 = .ok (.aload_n 0, 1) := by decide +kernel
theorem dX6_readEvent_126 : decode cX6_readEvent 126 = .ok (.iconst 0, 1) := by decide +kernel
theorem dX6_readEvent_127 : decode cX6_readEvent 127 = .ok (.bipush 99, 2) := by decide +kernel
theorem dX6_readEvent_129 : decode cX6_readEvent 129 = .ok (.invokevirtual 87, 3) := by decide +kernel
theorem dX6_readEvent_132 : decode cX6_readEvent 132 = .ok (.iastore, 1) := by decide +kernel
theorem dX6_readEvent_133 : decode cX6_readEvent 133 = .ok (.aload_n 1, 1) := by decide +kernel
theorem dX6_readEvent_134 : decode cX6_readEvent 134 = .ok (.getfield 120, 3) := by decide +kernel
theorem dX6_readEvent_137 : decode cX6_readEvent 137 = .ok (.iload_n 2, 1) := by decide +kernel
theorem dX6_readEvent_138 : decode cX6_readEvent 138 = .ok (.aload_n 0, 1) := by decide +kernel
theorem dX6_readEvent_139 : decode cX6_readEvent 139 = .ok (.iconst 0, 1) := by decide +kernel
theorem dX6_readEvent_140 : decode cX6_readEvent 140 = .ok (.bipush 99, 2) := by decide +kernel
theorem dX6_readEvent_142 : decode cX6_readEvent 142 = .ok (.invokevirtual 87, 3) := by decide +kernel
theorem dX6_readEvent_145 : decode cX6_readEvent 145 = .ok (.iastore, 1) := by decide +kernel
theorem dX6_readEvent_146 : decode cX6_readEvent 146 = .ok (.aload_n 1, 1) := by decide +kernel
theorem dX6_readEvent_147 : decode cX6_readEvent 147 = .ok (.getfield 115, 3) := by decide +kernel
theorem dX6_readEvent_150 : decode cX6_readEvent 150 = .ok (.iload_n 2, 1) := by decide +kernel
theorem dX6_readEvent_151 : decode cX6_readEvent 151 = .ok (.iaload, 1) := by decide +kernel
theorem dX6_readEvent_152 : decode cX6_readEvent 152 = .ok (.ifCond .ne 16, 3) := by decide +kernel
theorem dX6_readEvent_155 : decode cX6_readEvent 155 = .ok (.aload_n 1, 1) := by decide +kernel
theorem dX6_readEvent_156 : decode cX6_readEvent 156 = .ok (.getfield 120, 3) := by decide +kernel
theorem dX6_readEvent_159 : decode cX6_readEvent 159 = .ok (.iload_n 2, 1) := by decide +kernel
theorem dX6_readEvent_160 : decode cX6_readEvent 160 = .ok (.iaload, 1) := by decide +kernel
theorem dX6_readEvent_161 : decode cX6_readEvent 161 = .ok (.ifCond .ne 7, 3) := by decide +kernel
theorem dX6_readEvent_164 : decode cX6_readEvent 164 = .ok (.iconst 1, 1) := by decide +kernel
theorem dX6_readEvent_165 : decode cX6_readEvent 165 = .ok (.goto 4, 3) := by decide +kernel
theorem dX6_readEvent_168 : decode cX6_readEvent 168 = .ok (.iconst 0, 1) := by decide +kernel
theorem dX6_readEvent_169 : decode cX6_readEvent 169 = .ok (.istore 4, 2) := by decide +kernel
theorem dX6_readEvent_171 : decode cX6_readEvent 171 = .ok (.aload_n 1, 1) := by decide +kernel
theorem dX6_readEvent_172 : decode cX6_readEvent 172 = .ok (.getfield 123, 3) := by decide +kernel
theorem dX6_readEvent_175 : decode cX6_readEvent 175 = .ok (.iload_n 2, 1) := by decide +kernel
theorem dX6_readEvent_176 : decode cX6_readEvent 176 = .ok (.aload_n 0, 1) := by decide +kernel
theorem dX6_readEvent_177 : decode cX6_readEvent 177 = .ok (.iload 4, 2) := by decide +kernel
theorem dX6_readEvent_179 : decode cX6_readEvent 179 = .ok (.ifCond .eq 7, 3) := by decide +kernel
theorem dX6_readEvent_182 : decode cX6_readEvent 182 = .ok (.iconst 1, 1) := by decide +kernel
theorem dX6_readEvent_183 : decode cX6_readEvent 183 = .ok (.goto 4, 3) := by decide +kernel
theorem dX6_readEvent_186 : decode cX6_readEvent 186 = .ok (.iconst 0, 1) := by decide +kernel
theorem dX6_readEvent_187 : decode cX6_readEvent 187 = .ok (.bipush 99, 2) := by decide +kernel
theorem dX6_readEvent_189 : decode cX6_readEvent 189 = .ok (.invokevirtual 87, 3) := by decide +kernel
theorem dX6_readEvent_192 : decode cX6_readEvent 192 = .ok (.iastore, 1) := by decide +kernel
theorem dX6_readEvent_193 : decode cX6_readEvent 193 = .ok (.goto 153, 3) := by decide +kernel
theorem dX6_readEvent_196 : decode cX6_readEvent 196 = .ok (.aload_n 1, 1) := by decide +kernel
theorem dX6_readEvent_197 : decode cX6_readEvent 197 = .ok (.getfield 115, 3) := by decide +kernel
theorem dX6_readEvent_200 : decode cX6_readEvent 200 = .ok (.iload_n 2, 1) := by decide +kernel
theorem dX6_readEvent_201 : decode cX6_readEvent 201 = .ok (.aload_n 0, 1) := by decide +kernel
theorem dX6_readEvent_202 : decode cX6_readEvent 202 = .ok (.iconst 0, 1) := by decide +kernel
theorem dX6_readEvent_203 : decode cX6_readEvent 203 = .ok (.aload_n 1, 1) := by decide +kernel
theorem dX6_readEvent_204 : decode cX6_readEvent 204 = .ok (.getfield 102, 3) := by decide +kernel
theorem dX6_readEvent_207 : decode cX6_readEvent 207 = .ok (.iconst 1, 1) := by decide +kernel
theorem dX6_readEvent_208 : decode cX6_readEvent 208 = .ok (.isub, 1) := by decide +kernel
theorem dX6_readEvent_209 : decode cX6_readEvent 209 = .ok (.invokevirtual 87, 3) := by decide +kernel
theorem dX6_readEvent_212 : decode cX6_readEvent 212 = .ok (.iastore, 1) := by decide +kernel
theorem dX6_readEvent_213 : decode cX6_readEvent 213 = .ok (.aload_n 1, 1) := by decide +kernel
theorem dX6_readEvent_214 : decode cX6_readEvent 214 = .ok (.getfield 120, 3) := by decide +kernel
theorem dX6_readEvent_217 : decode cX6_readEvent 217 = .ok (.iload_n 2, 1) := by decide +kernel
theorem dX6_readEvent_218 : decode cX6_readEvent 218 = .ok (.aload_n 0, 1) := by decide +kernel
theorem dX6_readEvent_219 : decode cX6_readEvent 219 = .ok (.iconst 0, 1) := by decide +kernel
theorem dX6_readEvent_220 : decode cX6_readEvent 220 = .ok (.iconst 2, 1) := by decide +kernel
theorem dX6_readEvent_221 : decode cX6_readEvent 221 = .ok (.invokevirtual 87, 3) := by decide +kernel
theorem dX6_readEvent_224 : decode cX6_readEvent 224 = .ok (.iastore, 1) := by decide +kernel
theorem dX6_readEvent_225 : decode cX6_readEvent 225 = .ok (.aload_n 1, 1) := by decide +kernel
theorem dX6_readEvent_226 : decode cX6_readEvent 226 = .ok (.getfield 123, 3) := by decide +kernel
theorem dX6_readEvent_229 : decode cX6_readEvent 229 = .ok (.iload_n 2, 1) := by decide +kernel
theorem dX6_readEvent_230 : decode cX6_readEvent 230 = .ok (.aload_n 0, 1) := by decide +kernel
theorem dX6_readEvent_231 : decode cX6_readEvent 231 = .ok (.iconst 1, 1) := by decide +kernel
theorem dX6_readEvent_232 : decode cX6_readEvent 232 = .ok (.bipush 99, 2) := by decide +kernel
theorem dX6_readEvent_234 : decode cX6_readEvent 234 = .ok (.invokevirtual 87, 3) := by decide +kernel
theorem dX6_readEvent_237 : decode cX6_readEvent 237 = .ok (.iastore, 1) := by decide +kernel
theorem dX6_readEvent_238 : decode cX6_readEvent 238 = .ok (.goto 108, 3) := by decide +kernel
theorem dX6_readEvent_241 : decode cX6_readEvent 241 = .ok (.aload_n 1, 1) := by decide +kernel
theorem dX6_readEvent_242 : decode cX6_readEvent 242 = .ok (.getfield 115, 3) := by decide +kernel
theorem dX6_readEvent_245 : decode cX6_readEvent 245 = .ok (.iload_n 2, 1) := by decide +kernel
theorem dX6_readEvent_246 : decode cX6_readEvent 246 = .ok (.aload_n 0, 1) := by decide +kernel
theorem dX6_readEvent_247 : decode cX6_readEvent 247 = .ok (.iconst 0, 1) := by decide +kernel
theorem dX6_readEvent_248 : decode cX6_readEvent 248 = .ok (.aload_n 1, 1) := by decide +kernel
theorem dX6_readEvent_249 : decode cX6_readEvent 249 = .ok (.getfield 102, 3) := by decide +kernel
theorem dX6_readEvent_252 : decode cX6_readEvent 252 = .ok (.iconst 1, 1) := by decide +kernel
theorem dX6_readEvent_253 : decode cX6_readEvent 253 = .ok (.isub, 1) := by decide +kernel
theorem dX6_readEvent_254 : decode cX6_readEvent 254 = .ok (.invokevirtual 87, 3) := by decide +kernel
theorem dX6_readEvent_257 : decode cX6_readEvent 257 = .ok (.iastore, 1) := by decide +kernel
theorem dX6_readEvent_258 : decode cX6_readEvent 258 = .ok (.aload_n 1, 1) := by decide +kernel
theorem dX6_readEvent_259 : decode cX6_readEvent 259 = .ok (.getfield 120, 3) := by decide +kernel
theorem dX6_readEvent_262 : decode cX6_readEvent 262 = .ok (.iload_n 2, 1) := by decide +kernel
theorem dX6_readEvent_263 : decode cX6_readEvent 263 = .ok (.aload_n 0, 1) := by decide +kernel
theorem dX6_readEvent_264 : decode cX6_readEvent 264 = .ok (.iconst 0, 1) := by decide +kernel
theorem dX6_readEvent_265 : decode cX6_readEvent 265 = .ok (.bipush 99, 2) := by decide +kernel
theorem dX6_readEvent_267 : decode cX6_readEvent 267 = .ok (.invokevirtual 87, 3) := by decide +kernel
theorem dX6_readEvent_270 : decode cX6_readEvent 270 = .ok (.iastore, 1) := by decide +kernel
theorem dX6_readEvent_271 : decode cX6_readEvent 271 = .ok (.goto 75, 3) := by decide +kernel
theorem dX6_readEvent_274 : decode cX6_readEvent 274 = .ok (.aload_n 1, 1) := by decide +kernel
theorem dX6_readEvent_275 : decode cX6_readEvent 275 = .ok (.getfield 115, 3) := by decide +kernel
theorem dX6_readEvent_278 : decode cX6_readEvent 278 = .ok (.iload_n 2, 1) := by decide +kernel
theorem dX6_readEvent_279 : decode cX6_readEvent 279 = .ok (.aload_n 0, 1) := by decide +kernel
theorem dX6_readEvent_280 : decode cX6_readEvent 280 = .ok (.iconst 0, 1) := by decide +kernel
theorem dX6_readEvent_281 : decode cX6_readEvent 281 = .ok (.iconst 2, 1) := by decide +kernel
theorem dX6_readEvent_282 : decode cX6_readEvent 282 = .ok (.invokevirtual 87, 3) := by decide +kernel
theorem dX6_readEvent_285 : decode cX6_readEvent 285 = .ok (.iastore, 1) := by decide +kernel
theorem dX6_readEvent_286 : decode cX6_readEvent 286 = .ok (.aload_n 1, 1) := by decide +kernel
theorem dX6_readEvent_287 : decode cX6_readEvent 287 = .ok (.getfield 120, 3) := by decide +kernel
theorem dX6_readEvent_290 : decode cX6_readEvent 290 = .ok (.iload_n 2, 1) := by decide +kernel
theorem dX6_readEvent_291 : decode cX6_readEvent 291 = .ok (.aload_n 0, 1) := by decide +kernel
theorem dX6_readEvent_292 : decode cX6_readEvent 292 = .ok (.iconst 1, 1) := by decide +kernel
theorem dX6_readEvent_293 : decode cX6_readEvent 293 = .ok (.bipush 99, 2) := by decide +kernel
theorem dX6_readEvent_295 : decode cX6_readEvent 295 = .ok (.invokevirtual 87, 3) := by decide +kernel
theorem dX6_readEvent_298 : decode cX6_readEvent 298 = .ok (.iastore, 1) := by decide +kernel
theorem dX6_readEvent_299 : decode cX6_readEvent 299 = .ok (.goto 47, 3) := by decide +kernel
theorem dX6_readEvent_302 : decode cX6_readEvent 302 = .ok (.aload_n 1, 1) := by decide +kernel
theorem dX6_readEvent_303 : decode cX6_readEvent 303 = .ok (.getfield 115, 3) := by decide +kernel
theorem dX6_readEvent_306 : decode cX6_readEvent 306 = .ok (.iload_n 2, 1) := by decide +kernel
theorem dX6_readEvent_307 : decode cX6_readEvent 307 = .ok (.aload_n 0, 1) := by decide +kernel
theorem dX6_readEvent_308 : decode cX6_readEvent 308 = .ok (.iconst 0, 1) := by decide +kernel
theorem dX6_readEvent_309 : decode cX6_readEvent 309 = .ok (.aload_n 1, 1) := by decide +kernel
theorem dX6_readEvent_310 : decode cX6_readEvent 310 = .ok (.getfield 53, 3) := by decide +kernel
theorem dX6_readEvent_313 : decode cX6_readEvent 313 = .ok (.iconst 1, 1) := by decide +kernel
theorem dX6_readEvent_314 : decode cX6_readEvent 314 = .ok (.isub, 1) := by decide +kernel
theorem dX6_readEvent_315 : decode cX6_readEvent 315 = .ok (.invokevirtual 87, 3) := by decide +kernel
theorem dX6_readEvent_318 : decode cX6_readEvent 318 = .ok (.iastore, 1) := by decide +kernel
theorem dX6_readEvent_319 : decode cX6_readEvent 319 = .ok (.goto 27, 3) := by decide +kernel
theorem dX6_readEvent_322 : decode cX6_readEvent 322 = .ok (.aload_n 1, 1) := by decide +kernel
theorem dX6_readEvent_323 : decode cX6_readEvent 323 = .ok (.getfield 115, 3) := by decide +kernel
theorem dX6_readEvent_326 : decode cX6_readEvent 326 = .ok (.iload_n 2, 1) := by decide +kernel
theorem dX6_readEvent_327 : decode cX6_readEvent 327 = .ok (.aload_n 0, 1) := by decide +kernel
theorem dX6_readEvent_328 : decode cX6_readEvent 328 = .ok (.iconst 0, 1) := by decide +kernel
theorem dX6_readEvent_329 : decode cX6_readEvent 329 = .ok (.iconst 4, 1) := by decide +kernel
theorem dX6_readEvent_330 : decode cX6_readEvent 330 = .ok (.invokevirtual 87, 3) := by decide +kernel
theorem dX6_readEvent_333 : decode cX6_readEvent 333 = .ok (.iastore, 1) := by decide +kernel
theorem dX6_readEvent_334 : decode cX6_readEvent 334 = .ok (.aload_n 1, 1) := by decide +kernel
theorem dX6_readEvent_335 : decode cX6_readEvent 335 = .ok (.getfield 120, 3) := by decide +kernel
theorem dX6_readEvent_338 : decode cX6_readEvent 338 = .ok (.iload_n 2, 1) := by decide +kernel
theorem dX6_readEvent_339 : decode cX6_readEvent 339 = .ok (.aload_n 0, 1) := by decide +kernel
theorem dX6_readEvent_340 : decode cX6_readEvent 340 = .ok (.iconst 0, 1) := by decide +kernel
theorem dX6_readEvent_341 : decode cX6_readEvent 341 = .ok (.iconst 2, 1) := by decide +kernel
theorem dX6_readEvent_342 : decode cX6_readEvent 342 = .ok (.invokevirtual 87, 3) := by decide +kernel
theorem dX6_readEvent_345 : decode cX6_readEvent 345 = .ok (.iastore, 1) := by decide +kernel
theorem dX6_readEvent_346 : decode cX6_readEvent 346 = .ok (.aload_n 0, 1) := by decide +kernel
theorem dX6_readEvent_347 : decode cX6_readEvent 347 = .ok (.invokevirtual 91, 3) := by decide +kernel
theorem dX6_readEvent_350 : decode cX6_readEvent 350 = .ok (.return_, 1) := by decide +kernel
theorem dX6_word_0 : decode cX6_word 0 = .ok (.aload_n 0, 1) := by decide +kernel
theorem dX6_word_1 : decode cX6_word 1 = .ok (.aload_n 1, 1) := by decide +kernel
theorem dX6_word_2 : decode cX6_word 2 = .ok (.invokevirtual 45, 3) := by decide +kernel
theorem dX6_word_5 : decode cX6_word 5 = .ok (.istore_n 2, 1) := by decide +kernel
theorem dX6_word_6 : decode cX6_word 6 = .ok (.iload_n 2, 1) := by decide +kernel
theorem dX6_word_7 : decode cX6_word 7 = .ok (.ifCond .ge 10, 3) := by decide +kernel
theorem dX6_word_10 : decode cX6_word 10 = .ok (.aload_n 0, 1) := by decide +kernel
theorem dX6_word_11 : decode cX6_word 11 = .ok (.iconst 1, 1) := by decide +kernel
theorem dX6_word_12 : decode cX6_word 12 = .ok (.invokevirtual 49, 3) := by decide +kernel
theorem dX6_word_15 : decode cX6_word 15 = .ok (.iconst 0, 1) := by decide +kernel
theorem dX6_word_16 : decode cX6_word 16 = .ok (.ireturn, 1) := by decide +kernel
theorem dX6_word_17 : decode cX6_word 17 = .ok (.aload_n 0, 1) := by decide +kernel
theorem dX6_word_18 : decode cX6_word 18 = .ok (.invokevirtual 33, 3) := by decide +kernel
theorem dX6_word_21 : decode cX6_word 21 = .ok (.iload_n 2, 1) := by decide +kernel
theorem dX6_word_22 : decode cX6_word 22 = .ok (.ireturn, 1) := by decide +kernel
theorem dX6_number_0 : decode cX6_number 0 = .ok (.aload_n 0, 1) := by decide +kernel
theorem dX6_number_1 : decode cX6_number 1 = .ok (.getfield 126, 3) := by decide +kernel
theorem dX6_number_4 : decode cX6_number 4 = .ok (.istore_n 3, 1) := by decide +kernel
theorem dX6_number_5 : decode cX6_number 5 = .ok (.aload_n 0, 1) := by decide +kernel
theorem dX6_number_6 : decode cX6_number 6 = .ok (.getfield 94, 3) := by decide +kernel
theorem dX6_number_9 : decode cX6_number 9 = .ok (.iconst 2, 1) := by decide +kernel
theorem dX6_number_10 : decode cX6_number 10 = .ok (.if_icmp .eq 10, 3) := by decide +kernel
theorem dX6_number_13 : decode cX6_number 13 = .ok (.aload_n 0, 1) := by decide +kernel
theorem dX6_number_14 : decode cX6_number 14 = .ok (.iconst 1, 1) := by decide +kernel
theorem dX6_number_15 : decode cX6_number 15 = .ok (.invokevirtual 49, 3) := by decide +kernel
theorem dX6_number_18 : decode cX6_number 18 = .ok (.iconst 0, 1) := by decide +kernel
theorem dX6_number_19 : decode cX6_number 19 = .ok (.ireturn, 1) := by decide +kernel
theorem dX6_number_20 : decode cX6_number 20 = .ok (.iload_n 3, 1) := by decide +kernel
theorem dX6_number_21 : decode cX6_number 21 = .ok (.iload_n 1, 1) := by decide +kernel
theorem dX6_number_22 : decode cX6_number 22 = .ok (.if_icmp .lt 8, 3) := by decide +kernel
theorem dX6_number_25 : decode cX6_number 25 = .ok (.iload_n 3, 1) := by decide +kernel
theorem dX6_number_26 : decode cX6_number 26 = .ok (.iload_n 2, 1) := by decide +kernel
theorem dX6_number_27 : decode cX6_number 27 = .ok (.if_icmp .le 10, 3) := by decide +kernel
theorem dX6_number_30 : decode cX6_number 30 = .ok (.aload_n 0, 1) := by decide +kernel
theorem dX6_number_31 : decode cX6_number 31 = .ok (.iconst 2, 1) := by decide +kernel
theorem dX6_number_32 : decode cX6_number 32 = .ok (.invokevirtual 49, 3) := by decide +kernel
theorem dX6_number_35 : decode cX6_number 35 = .ok (.iconst 0, 1) := by decide +kernel
theorem dX6_number_36 : decode cX6_number 36 = .ok (.ireturn, 1) := by decide +kernel
theorem dX6_number_37 : decode cX6_number 37 = .ok (.aload_n 0, 1) := by decide +kernel
theorem dX6_number_38 : decode cX6_number 38 = .ok (.invokevirtual 33, 3) := by decide +kernel
theorem dX6_number_41 : decode cX6_number 41 = .ok (.iload_n 3, 1) := by decide +kernel
theorem dX6_number_42 : decode cX6_number 42 = .ok (.ireturn, 1) := by decide +kernel
theorem dX6_semicolon_0 : decode cX6_semicolon 0 = .ok (.aload_n 0, 1) := by decide +kernel
theorem dX6_semicolon_1 : decode cX6_semicolon 1 = .ok (.getfield 94, 3) := by decide +kernel
theorem dX6_semicolon_4 : decode cX6_semicolon 4 = .ok (.iconst 3, 1) := by decide +kernel
theorem dX6_semicolon_5 : decode cX6_semicolon 5 = .ok (.if_icmp .ne 10, 3) := by decide +kernel
theorem dX6_semicolon_8 : decode cX6_semicolon 8 = .ok (.aload_n 0, 1) := by decide +kernel
theorem dX6_semicolon_9 : decode cX6_semicolon 9 = .ok (.invokevirtual 33, 3) := by decide +kernel
theorem dX6_semicolon_12 : decode cX6_semicolon 12 = .ok (.goto 8, 3) := by decide +kernel
theorem dX6_semicolon_15 : decode cX6_semicolon 15 = .ok (.aload_n 0, 1) := by decide +kernel
theorem dX6_semicolon_16 : decode cX6_semicolon 16 = .ok (.iconst 1, 1) := by decide +kernel
theorem dX6_semicolon_17 : decode cX6_semicolon 17 = .ok (.invokevirtual 49, 3) := by decide +kernel
theorem dX6_semicolon_20 : decode cX6_semicolon 20 = .ok (.return_, 1) := by decide +kernel
theorem dX6_fail_0 : decode cX6_fail 0 = .ok (.aload_n 0, 1) := by decide +kernel
theorem dX6_fail_1 : decode cX6_fail 1 = .ok (.getfield 24, 3) := by decide +kernel
theorem dX6_fail_4 : decode cX6_fail 4 = .ok (.ifCond .ne 16, 3) := by decide +kernel
theorem dX6_fail_7 : decode cX6_fail 7 = .ok (.aload_n 0, 1) := by decide +kernel
theorem dX6_fail_8 : decode cX6_fail 8 = .ok (.iload_n 1, 1) := by decide +kernel
theorem dX6_fail_9 : decode cX6_fail 9 = .ok (.putfield 24, 3) := by decide +kernel
theorem dX6_fail_12 : decode cX6_fail 12 = .ok (.aload_n 0, 1) := by decide +kernel
theorem dX6_fail_13 : decode cX6_fail 13 = .ok (.aload_n 0, 1) := by decide +kernel
theorem dX6_fail_14 : decode cX6_fail 14 = .ok (.getfield 129, 3) := by decide +kernel
theorem dX6_fail_17 : decode cX6_fail 17 = .ok (.putfield 27, 3) := by decide +kernel
theorem dX6_fail_20 : decode cX6_fail 20 = .ok (.return_, 1) := by decide +kernel
theorem dX6_choice_0 : decode cX6_choice 0 = .ok (.aload_n 0, 1) := by decide +kernel
theorem dX6_choice_1 : decode cX6_choice 1 = .ok (.getfield 94, 3) := by decide +kernel
theorem dX6_choice_4 : decode cX6_choice 4 = .ok (.iconst 1, 1) := by decide +kernel
theorem dX6_choice_5 : decode cX6_choice 5 = .ok (.if_icmp .eq 5, 3) := by decide +kernel
theorem dX6_choice_8 : decode cX6_choice 8 = .ok (.iconst (-1), 1) := by decide +kernel
theorem dX6_choice_9 : decode cX6_choice 9 = .ok (.ireturn, 1) := by decide +kernel
theorem dX6_choice_10 : decode cX6_choice 10 = .ok (.iconst 0, 1) := by decide +kernel
theorem dX6_choice_11 : decode cX6_choice 11 = .ok (.istore_n 2, 1) := by decide +kernel
theorem dX6_choice_12 : decode cX6_choice 12 = .ok (.iconst 0, 1) := by decide +kernel
theorem dX6_choice_13 : decode cX6_choice 13 = .ok (.istore_n 3, 1) := by decide +kernel
theorem dX6_choice_14 : decode cX6_choice 14 = .ok (.iconst 0, 1) := by decide +kernel
theorem dX6_choice_15 : decode cX6_choice 15 = .ok (.istore 4, 2) := by decide +kernel
theorem dX6_choice_17 : decode cX6_choice 17 = .ok (.iload 4, 2) := by decide +kernel
theorem dX6_choice_19 : decode cX6_choice 19 = .ok (.aload_n 1, 1) := by decide +kernel
theorem dX6_choice_20 : decode cX6_choice 20 = .ok (.invokevirtual 132, 3) := by decide +kernel
theorem dX6_choice_23 : decode cX6_choice 23 = .ok (.if_icmp .gt 50, 3) := by decide +kernel
theorem dX6_choice_26 : decode cX6_choice 26 = .ok (.iload 4, 2) := by decide +kernel
theorem dX6_choice_28 : decode cX6_choice 28 = .ok (.aload_n 1, 1) := by decide +kernel
theorem dX6_choice_29 : decode cX6_choice 29 = .ok (.invokevirtual 132, 3) := by decide +kernel
theorem dX6_choice_32 : decode cX6_choice 32 = .ok (.if_icmp .eq 14, 3) := by decide +kernel
theorem dX6_choice_35 : decode cX6_choice 35 = .ok (.aload_n 1, 1) := by decide +kernel
theorem dX6_choice_36 : decode cX6_choice 36 = .ok (.iload 4, 2) := by decide +kernel
theorem dX6_choice_38 : decode cX6_choice 38 = .ok (.invokevirtual 137, 3) := by decide +kernel
theorem dX6_choice_41 : decode cX6_choice 41 = .ok (.bipush 32, 2) := by decide +kernel
theorem dX6_choice_43 : decode cX6_choice 43 = .ok (.if_icmp .ne 24, 3) := by decide +kernel
theorem dX6_choice_46 : decode cX6_choice 46 = .ok (.aload_n 0, 1) := by decide +kernel
theorem dX6_choice_47 : decode cX6_choice 47 = .ok (.aload_n 1, 1) := by decide +kernel
theorem dX6_choice_48 : decode cX6_choice 48 = .ok (.iload_n 3, 1) := by decide +kernel
theorem dX6_choice_49 : decode cX6_choice 49 = .ok (.iload 4, 2) := by decide +kernel
theorem dX6_choice_51 : decode cX6_choice 51 = .ok (.invokevirtual 141, 3) := by decide +kernel
theorem dX6_choice_54 : decode cX6_choice 54 = .ok (.ifCond .eq 5, 3) := by decide +kernel
theorem dX6_choice_57 : decode cX6_choice 57 = .ok (.iload_n 2, 1) := by decide +kernel
theorem dX6_choice_58 : decode cX6_choice 58 = .ok (.ireturn, 1) := by decide +kernel
theorem dX6_choice_59 : decode cX6_choice 59 = .ok (.iinc 2 1, 3) := by decide +kernel
theorem dX6_choice_62 : decode cX6_choice 62 = .ok (.iload 4, 2) := by decide +kernel
theorem dX6_choice_64 : decode cX6_choice 64 = .ok (.iconst 1, 1) := by decide +kernel
theorem dX6_choice_65 : decode cX6_choice 65 = .ok (.iadd, 1) := by decide +kernel
theorem dX6_choice_66 : decode cX6_choice 66 = .ok (.istore_n 3, 1) := by decide +kernel
theorem dX6_choice_67 : decode cX6_choice 67 = .ok (.iinc 4 1, 3) := by decide +kernel
theorem dX6_choice_70 : decode cX6_choice 70 = .ok (.goto (-53), 3) := by decide +kernel
theorem dX6_choice_73 : decode cX6_choice 73 = .ok (.iconst (-1), 1) := by decide +kernel
theorem dX6_choice_74 : decode cX6_choice 74 = .ok (.ireturn, 1) := by decide +kernel
theorem dX6_isWord_0 : decode cX6_isWord 0 = .ok (.iload_n 3, 1) := by decide +kernel
theorem dX6_isWord_1 : decode cX6_isWord 1 = .ok (.iload_n 2, 1) := by decide +kernel
theorem dX6_isWord_2 : decode cX6_isWord 2 = .ok (.isub, 1) := by decide +kernel
theorem dX6_isWord_3 : decode cX6_isWord 3 = .ok (.aload_n 0, 1) := by decide +kernel
theorem dX6_isWord_4 : decode cX6_isWord 4 = .ok (.getfield 30, 3) := by decide +kernel
theorem dX6_isWord_7 : decode cX6_isWord 7 = .ok (.aload_n 0, 1) := by decide +kernel
theorem dX6_isWord_8 : decode cX6_isWord 8 = .ok (.getfield 129, 3) := by decide +kernel
theorem dX6_isWord_11 : decode cX6_isWord 11 = .ok (.isub, 1) := by decide +kernel
theorem dX6_isWord_12 : decode cX6_isWord 12 = .ok (.if_icmp .eq 5, 3) := by decide +kernel
theorem dX6_isWord_15 : decode cX6_isWord 15 = .ok (.iconst 0, 1) := by decide +kernel
theorem dX6_isWord_16 : decode cX6_isWord 16 = .ok (.ireturn, 1) := by decide +kernel
theorem dX6_isWord_17 : decode cX6_isWord 17 = .ok (.iload_n 2, 1) := by decide +kernel
theorem dX6_isWord_18 : decode cX6_isWord 18 = .ok (.istore 4, 2) := by decide +kernel
theorem dX6_isWord_20 : decode cX6_isWord 20 = .ok (.iload 4, 2) := by decide +kernel
theorem dX6_isWord_22 : decode cX6_isWord 22 = .ok (.iload_n 3, 1) := by decide +kernel
theorem dX6_isWord_23 : decode cX6_isWord 23 = .ok (.if_icmp .ge 34, 3) := by decide +kernel
theorem dX6_isWord_26 : decode cX6_isWord 26 = .ok (.aload_n 1, 1) := by decide +kernel
theorem dX6_isWord_27 : decode cX6_isWord 27 = .ok (.iload 4, 2) := by decide +kernel
theorem dX6_isWord_29 : decode cX6_isWord 29 = .ok (.invokevirtual 137, 3) := by decide +kernel
theorem dX6_isWord_32 : decode cX6_isWord 32 = .ok (.aload_n 0, 1) := by decide +kernel
theorem dX6_isWord_33 : decode cX6_isWord 33 = .ok (.getfield 9, 3) := by decide +kernel
theorem dX6_isWord_36 : decode cX6_isWord 36 = .ok (.aload_n 0, 1) := by decide +kernel
theorem dX6_isWord_37 : decode cX6_isWord 37 = .ok (.getfield 129, 3) := by decide +kernel
theorem dX6_isWord_40 : decode cX6_isWord 40 = .ok (.iload 4, 2) := by decide +kernel
theorem dX6_isWord_42 : decode cX6_isWord 42 = .ok (.iadd, 1) := by decide +kernel
theorem dX6_isWord_43 : decode cX6_isWord 43 = .ok (.iload_n 2, 1) := by decide +kernel
theorem dX6_isWord_44 : decode cX6_isWord 44 = .ok (.isub, 1) := by decide +kernel
theorem dX6_isWord_45 : decode cX6_isWord 45 = .ok (.baload, 1) := by decide +kernel
theorem dX6_isWord_46 : decode cX6_isWord 46 = .ok (.if_icmp .eq 5, 3) := by decide +kernel
theorem dX6_isWord_49 : decode cX6_isWord 49 = .ok (.iconst 0, 1) := by decide +kernel
theorem dX6_isWord_50 : decode cX6_isWord 50 = .ok (.ireturn, 1) := by decide +kernel
theorem dX6_isWord_51 : decode cX6_isWord 51 = .ok (.iinc 4 1, 3) := by decide +kernel
theorem dX6_isWord_54 : decode cX6_isWord 54 = .ok (.goto (-34), 3) := by decide +kernel
theorem dX6_isWord_57 : decode cX6_isWord 57 = .ok (.iconst 1, 1) := by decide +kernel
theorem dX6_isWord_58 : decode cX6_isWord 58 = .ok (.ireturn, 1) := by decide +kernel
theorem dX6_step_0 : decode cX6_step 0 = .ok (.aload_n 0, 1) := by decide +kernel
theorem dX6_step_1 : decode cX6_step 1 = .ok (.getfield 24, 3) := by decide +kernel
theorem dX6_step_4 : decode cX6_step 4 = .ok (.ifCond .eq 4, 3) := by decide +kernel
theorem dX6_step_7 : decode cX6_step 7 = .ok (.return_, 1) := by decide +kernel
theorem dX6_step_8 : decode cX6_step 8 = .ok (.aload_n 0, 1) := by decide +kernel
theorem dX6_step_9 : decode cX6_step 9 = .ok (.aload_n 0, 1) := by decide +kernel
theorem dX6_step_10 : decode cX6_step 10 = .ok (.getfield 30, 3) := by decide +kernel
theorem dX6_step_13 : decode cX6_step 13 = .ok (.putfield 129, 3) := by decide +kernel
theorem dX6_step_16 : decode cX6_step 16 = .ok (.aload_n 0, 1) := by decide +kernel
theorem dX6_step_17 : decode cX6_step 17 = .ok (.getfield 129, 3) := by decide +kernel
theorem dX6_step_20 : decode cX6_step 20 = .ok (.aload_n 0, 1) := by decide +kernel
theorem dX6_step_21 : decode cX6_step 21 = .ok (.getfield 15, 3) := by decide +kernel
theorem dX6_step_24 : decode cX6_step 24 = .ok (.if_icmp .ge 44, 3) := by decide +kernel
theorem dX6_step_27 : decode cX6_step 27 = .ok (.aload_n 0, 1) := by decide +kernel
theorem dX6_step_28 : decode cX6_step 28 = .ok (.getfield 9, 3) := by decide +kernel
theorem dX6_step_31 : decode cX6_step 31 = .ok (.aload_n 0, 1) := by decide +kernel
theorem dX6_step_32 : decode cX6_step 32 = .ok (.getfield 129, 3) := by decide +kernel
theorem dX6_step_35 : decode cX6_step 35 = .ok (.baload, 1) := by decide +kernel
theorem dX6_step_36 : decode cX6_step 36 = .ok (.bipush 32, 2) := by decide +kernel
theorem dX6_step_38 : decode cX6_step 38 = .ok (.if_icmp .eq 17, 3) := by decide +kernel
theorem dX6_step_41 : decode cX6_step 41 = .ok (.aload_n 0, 1) := by decide +kernel
theorem dX6_step_42 : decode cX6_step 42 = .ok (.getfield 9, 3) := by decide +kernel
theorem dX6_step_45 : decode cX6_step 45 = .ok (.aload_n 0, 1) := by decide +kernel
theorem dX6_step_46 : decode cX6_step 46 = .ok (.getfield 129, 3) := by decide +kernel
theorem dX6_step_49 : decode cX6_step 49 = .ok (.baload, 1) := by decide +kernel
theorem dX6_step_50 : decode cX6_step 50 = .ok (.bipush 10, 2) := by decide +kernel
theorem dX6_step_52 : decode cX6_step 52 = .ok (.if_icmp .ne 16, 3) := by decide +kernel
theorem dX6_step_55 : decode cX6_step 55 = .ok (.aload_n 0, 1) := by decide +kernel
theorem dX6_step_56 : decode cX6_step 56 = .ok (.dup, 1) := by decide +kernel
theorem dX6_step_57 : decode cX6_step 57 = .ok (.getfield 129, 3) := by decide +kernel
theorem dX6_step_60 : decode cX6_step 60 = .ok (.iconst 1, 1) := by decide +kernel
theorem dX6_step_61 : decode cX6_step 61 = .ok (.iadd, 1) := by decide +kernel
theorem dX6_step_62 : decode cX6_step 62 = .ok (.putfield 129, 3) := by decide +kernel
theorem dX6_step_65 : decode cX6_step 65 = .ok (.goto (-49), 3) := by decide +kernel
theorem dX6_step_68 : decode cX6_step 68 = .ok (.aload_n 0, 1) := by decide +kernel
theorem dX6_step_69 : decode cX6_step 69 = .ok (.getfield 129, 3) := by decide +kernel
theorem dX6_step_72 : decode cX6_step 72 = .ok (.aload_n 0, 1) := by decide +kernel
theorem dX6_step_73 : decode cX6_step 73 = .ok (.getfield 15, 3) := by decide +kernel
theorem dX6_step_76 : decode cX6_step 76 = .ok (.if_icmp .lt 19, 3) := by decide +kernel
theorem dX6_step_79 : decode cX6_step 79 = .ok (.aload_n 0, 1) := by decide +kernel
theorem dX6_step_80 : decode cX6_step 80 = .ok (.iconst 0, 1) := by decide +kernel
theorem dX6_step_81 : decode cX6_step 81 = .ok (.putfield 94, 3) := by decide +kernel
theorem dX6_step_84 : decode cX6_step 84 = .ok (.aload_n 0, 1) := by decide +kernel
theorem dX6_step_85 : decode cX6_step 85 = .ok (.aload_n 0, 1) := by decide +kernel
theorem dX6_step_86 : decode cX6_step 86 = .ok (.getfield 129, 3) := by decide +kernel
theorem dX6_step_89 : decode cX6_step 89 = .ok (.putfield 30, 3) := by decide +kernel
theorem dX6_step_92 : decode cX6_step 92 = .ok (.goto 121, 3) := by decide +kernel
theorem dX6_step_95 : decode cX6_step 95 = .ok (.aload_n 0, 1) := by decide +kernel
theorem dX6_step_96 : decode cX6_step 96 = .ok (.getfield 9, 3) := by decide +kernel
theorem dX6_step_99 : decode cX6_step 99 = .ok (.aload_n 0, 1) := by decide +kernel
theorem dX6_step_100 : decode cX6_step 100 = .ok (.getfield 129, 3) := by decide +kernel
theorem dX6_step_103 : decode cX6_step 103 = .ok (.baload, 1) := by decide +kernel
theorem dX6_step_104 : decode cX6_step 104 = .ok (.bipush 97, 2) := by decide +kernel
theorem dX6_step_106 : decode cX6_step 106 = .ok (.bipush 122, 2) := by decide +kernel
theorem dX6_step_108 : decode cX6_step 108 = .ok (.invokestatic 145, 3) := by decide +kernel
theorem dX6_step_111 : decode cX6_step 111 = .ok (.ifCond .eq 27, 3) := by decide +kernel
theorem dX6_step_114 : decode cX6_step 114 = .ok (.aload_n 0, 1) := by decide +kernel
theorem dX6_step_115 : decode cX6_step 115 = .ok (.iconst 1, 1) := by decide +kernel
theorem dX6_step_116 : decode cX6_step 116 = .ok (.putfield 94, 3) := by decide +kernel
theorem dX6_step_119 : decode cX6_step 119 = .ok (.aload_n 0, 1) := by decide +kernel
theorem dX6_step_120 : decode cX6_step 120 = .ok (.aload_n 0, 1) := by decide +kernel
theorem dX6_step_121 : decode cX6_step 121 = .ok (.aload_n 0, 1) := by decide +kernel
theorem dX6_step_122 : decode cX6_step 122 = .ok (.getfield 129, 3) := by decide +kernel
theorem dX6_step_125 : decode cX6_step 125 = .ok (.bipush 97, 2) := by decide +kernel
theorem dX6_step_127 : decode cX6_step 127 = .ok (.bipush 122, 2) := by decide +kernel
theorem dX6_step_129 : decode cX6_step 129 = .ok (.invokevirtual 149, 3) := by decide +kernel
theorem dX6_step_132 : decode cX6_step 132 = .ok (.putfield 30, 3) := by decide +kernel
theorem dX6_step_135 : decode cX6_step 135 = .ok (.goto 78, 3) := by decide +kernel
theorem dX6_step_138 : decode cX6_step 138 = .ok (.aload_n 0, 1) := by decide +kernel
theorem dX6_step_139 : decode cX6_step 139 = .ok (.getfield 9, 3) := by decide +kernel
theorem dX6_step_142 : decode cX6_step 142 = .ok (.aload_n 0, 1) := by decide +kernel
theorem dX6_step_143 : decode cX6_step 143 = .ok (.getfield 129, 3) := by decide +kernel
theorem dX6_step_146 : decode cX6_step 146 = .ok (.baload, 1) := by decide +kernel
theorem dX6_step_147 : decode cX6_step 147 = .ok (.bipush 48, 2) := by decide +kernel
theorem dX6_step_149 : decode cX6_step 149 = .ok (.bipush 57, 2) := by decide +kernel
theorem dX6_step_151 : decode cX6_step 151 = .ok (.invokestatic 145, 3) := by decide +kernel
theorem dX6_step_154 : decode cX6_step 154 = .ok (.ifCond .eq 26, 3) := by decide +kernel
theorem dX6_step_157 : decode cX6_step 157 = .ok (.aload_n 0, 1) := by decide +kernel
theorem dX6_step_158 : decode cX6_step 158 = .ok (.aload_n 0, 1) := by decide +kernel
theorem dX6_step_159 : decode cX6_step 159 = .ok (.aload_n 0, 1) := by decide +kernel
theorem dX6_step_160 : decode cX6_step 160 = .ok (.getfield 129, 3) := by decide +kernel
theorem dX6_step_163 : decode cX6_step 163 = .ok (.bipush 48, 2) := by decide +kernel
theorem dX6_step_165 : decode cX6_step 165 = .ok (.bipush 57, 2) := by decide +kernel
theorem dX6_step_167 : decode cX6_step 167 = .ok (.invokevirtual 149, 3) := by decide +kernel
theorem dX6_step_170 : decode cX6_step 170 = .ok (.putfield 30, 3) := by decide +kernel
theorem dX6_step_173 : decode cX6_step 173 = .ok (.aload_n 0, 1) := by decide +kernel
theorem dX6_step_174 : decode cX6_step 174 = .ok (.invokevirtual 153, 3) := by decide +kernel
theorem dX6_step_177 : decode cX6_step 177 = .ok (.goto 36, 3) := by decide +kernel
theorem dX6_step_180 : decode cX6_step 180 = .ok (.aload_n 0, 1) := by decide +kernel
theorem dX6_step_181 : decode cX6_step 181 = .ok (.aload_n 0, 1) := by decide +kernel
theorem dX6_step_182 : decode cX6_step 182 = .ok (.getfield 9, 3) := by decide +kernel
theorem dX6_step_185 : decode cX6_step 185 = .ok (.aload_n 0, 1) := by decide +kernel
theorem dX6_step_186 : decode cX6_step 186 = .ok (.getfield 129, 3) := by decide +kernel
theorem dX6_step_189 : decode cX6_step 189 = .ok (.baload, 1) := by decide +kernel
theorem dX6_step_190 : decode cX6_step 190 = .ok (.bipush 59, 2) := by decide +kernel
theorem dX6_step_192 : decode cX6_step 192 = .ok (.if_icmp .ne 7, 3) := by decide +kernel
theorem dX6_step_195 : decode cX6_step 195 = .ok (.iconst 3, 1) := by decide +kernel
theorem dX6_step_196 : decode cX6_step 196 = .ok (.goto 4, 3) := by decide +kernel
theorem dX6_step_199 : decode cX6_step 199 = .ok (.iconst 4, 1) := by decide +kernel
theorem dX6_step_200 : decode cX6_step 200 = .ok (.putfield 94, 3) := by decide +kernel
theorem dX6_step_203 : decode cX6_step 203 = .ok (.aload_n 0, 1) := by decide +kernel
theorem dX6_step_204 : decode cX6_step 204 = .ok (.aload_n 0, 1) := by decide +kernel
theorem dX6_step_205 : decode cX6_step 205 = .ok (.getfield 129, 3) := by decide +kernel
theorem dX6_step_208 : decode cX6_step 208 = .ok (.iconst 1, 1) := by decide +kernel
theorem dX6_step_209 : decode cX6_step 209 = .ok (.iadd, 1) := by decide +kernel
theorem dX6_step_210 : decode cX6_step 210 = .ok (.putfield 30, 3) := by decide +kernel
theorem dX6_step_213 : decode cX6_step 213 = .ok (.return_, 1) := by decide +kernel
theorem dX6_takeNumber_0 : decode cX6_takeNumber 0 = .ok (.aload_n 0, 1) := by decide +kernel
theorem dX6_takeNumber_1 : decode cX6_takeNumber 1 = .ok (.iconst 0, 1) := by decide +kernel
theorem dX6_takeNumber_2 : decode cX6_takeNumber 2 = .ok (.putfield 126, 3) := by decide +kernel
theorem dX6_takeNumber_5 : decode cX6_takeNumber 5 = .ok (.aload_n 0, 1) := by decide +kernel
theorem dX6_takeNumber_6 : decode cX6_takeNumber 6 = .ok (.getfield 30, 3) := by decide +kernel
theorem dX6_takeNumber_9 : decode cX6_takeNumber 9 = .ok (.aload_n 0, 1) := by decide +kernel
theorem dX6_takeNumber_10 : decode cX6_takeNumber 10 = .ok (.getfield 129, 3) := by decide +kernel
theorem dX6_takeNumber_13 : decode cX6_takeNumber 13 = .ok (.isub, 1) := by decide +kernel
theorem dX6_takeNumber_14 : decode cX6_takeNumber 14 = .ok (.iconst 3, 1) := by decide +kernel
theorem dX6_takeNumber_15 : decode cX6_takeNumber 15 = .ok (.if_icmp .le 9, 3) := by decide +kernel
theorem dX6_takeNumber_18 : decode cX6_takeNumber 18 = .ok (.aload_n 0, 1) := by decide +kernel
theorem dX6_takeNumber_19 : decode cX6_takeNumber 19 = .ok (.iconst 4, 1) := by decide +kernel
theorem dX6_takeNumber_20 : decode cX6_takeNumber 20 = .ok (.putfield 94, 3) := by decide +kernel
theorem dX6_takeNumber_23 : decode cX6_takeNumber 23 = .ok (.return_, 1) := by decide +kernel
theorem dX6_takeNumber_24 : decode cX6_takeNumber 24 = .ok (.aload_n 0, 1) := by decide +kernel
theorem dX6_takeNumber_25 : decode cX6_takeNumber 25 = .ok (.iconst 2, 1) := by decide +kernel
theorem dX6_takeNumber_26 : decode cX6_takeNumber 26 = .ok (.putfield 94, 3) := by decide +kernel
theorem dX6_takeNumber_29 : decode cX6_takeNumber 29 = .ok (.aload_n 0, 1) := by decide +kernel
theorem dX6_takeNumber_30 : decode cX6_takeNumber 30 = .ok (.getfield 129, 3) := by decide +kernel
theorem dX6_takeNumber_33 : decode cX6_takeNumber 33 = .ok (.istore_n 1, 1) := by decide +kernel
theorem dX6_takeNumber_34 : decode cX6_takeNumber 34 = .ok (.iload_n 1, 1) := by decide +kernel
theorem dX6_takeNumber_35 : decode cX6_takeNumber 35 = .ok (.aload_n 0, 1) := by decide +kernel
theorem dX6_takeNumber_36 : decode cX6_takeNumber 36 = .ok (.getfield 30, 3) := by decide +kernel
theorem dX6_takeNumber_39 : decode cX6_takeNumber 39 = .ok (.if_icmp .ge 30, 3) := by decide +kernel
theorem dX6_takeNumber_42 : decode cX6_takeNumber 42 = .ok (.aload_n 0, 1) := by decide +kernel
theorem dX6_takeNumber_43 : decode cX6_takeNumber 43 = .ok (.aload_n 0, 1) := by decide +kernel
theorem dX6_takeNumber_44 : decode cX6_takeNumber 44 = .ok (.getfield 126, 3) := by decide +kernel
theorem dX6_takeNumber_47 : decode cX6_takeNumber 47 = .ok (.bipush 10, 2) := by decide +kernel
theorem dX6_takeNumber_49 : decode cX6_takeNumber 49 = .ok (.imul, 1) := by decide +kernel
theorem dX6_takeNumber_50 : decode cX6_takeNumber 50 = .ok (.aload_n 0, 1) := by decide +kernel
theorem dX6_takeNumber_51 : decode cX6_takeNumber 51 = .ok (.getfield 9, 3) := by decide +kernel
theorem dX6_takeNumber_54 : decode cX6_takeNumber 54 = .ok (.iload_n 1, 1) := by decide +kernel
theorem dX6_takeNumber_55 : decode cX6_takeNumber 55 = .ok (.baload, 1) := by decide +kernel
theorem dX6_takeNumber_56 : decode cX6_takeNumber 56 = .ok (.bipush 48, 2) := by decide +kernel
theorem dX6_takeNumber_58 : decode cX6_takeNumber 58 = .ok (.isub, 1) := by decide +kernel
theorem dX6_takeNumber_59 : decode cX6_takeNumber 59 = .ok (.iadd, 1) := by decide +kernel
theorem dX6_takeNumber_60 : decode cX6_takeNumber 60 = .ok (.putfield 126, 3) := by decide +kernel
theorem dX6_takeNumber_63 : decode cX6_takeNumber 63 = .ok (.iinc 1 1, 3) := by decide +kernel
theorem dX6_takeNumber_66 : decode cX6_takeNumber 66 = .ok (.goto (-32), 3) := by decide +kernel
theorem dX6_takeNumber_69 : decode cX6_takeNumber 69 = .ok (.return_, 1) := by decide +kernel
theorem dX6_isIn_0 : decode cX6_isIn 0 = .ok (.iload_n 0, 1) := by decide +kernel
theorem dX6_isIn_1 : decode cX6_isIn 1 = .ok (.iload_n 1, 1) := by decide +kernel
theorem dX6_isIn_2 : decode cX6_isIn 2 = .ok (.if_icmp .lt 12, 3) := by decide +kernel
theorem dX6_isIn_5 : decode cX6_isIn 5 = .ok (.iload_n 0, 1) := by decide +kernel
theorem dX6_isIn_6 : decode cX6_isIn 6 = .ok (.iload_n 2, 1) := by decide +kernel
theorem dX6_isIn_7 : decode cX6_isIn 7 = .ok (.if_icmp .gt 7, 3) := by decide +kernel
theorem dX6_isIn_10 : decode cX6_isIn 10 = .ok (.iconst 1, 1) := by decide +kernel
theorem dX6_isIn_11 : decode cX6_isIn 11 = .ok (.goto 4, 3) := by decide +kernel
theorem dX6_isIn_14 : decode cX6_isIn 14 = .ok (.iconst 0, 1) := by decide +kernel
theorem dX6_isIn_15 : decode cX6_isIn 15 = .ok (.ireturn, 1) := by decide +kernel
theorem dX6_behindRun_0 : decode cX6_behindRun 0 = .ok (.iload_n 1, 1) := by decide +kernel
theorem dX6_behindRun_1 : decode cX6_behindRun 1 = .ok (.istore 4, 2) := by decide +kernel
theorem dX6_behindRun_3 : decode cX6_behindRun 3 = .ok (.iload 4, 2) := by decide +kernel
theorem dX6_behindRun_5 : decode cX6_behindRun 5 = .ok (.aload_n 0, 1) := by decide +kernel
theorem dX6_behindRun_6 : decode cX6_behindRun 6 = .ok (.getfield 15, 3) := by decide +kernel
theorem dX6_behindRun_9 : decode cX6_behindRun 9 = .ok (.if_icmp .ge 31, 3) := by decide +kernel
theorem dX6_behindRun_12 : decode cX6_behindRun 12 = .ok (.aload_n 0, 1) := by decide +kernel
theorem dX6_behindRun_13 : decode cX6_behindRun 13 = .ok (.getfield 9, 3) := by decide +kernel
theorem dX6_behindRun_16 : decode cX6_behindRun 16 = .ok (.iload 4, 2) := by decide +kernel
theorem dX6_behindRun_18 : decode cX6_behindRun 18 = .ok (.baload, 1) := by decide +kernel
theorem dX6_behindRun_19 : decode cX6_behindRun 19 = .ok (.iload_n 2, 1) := by decide +kernel
theorem dX6_behindRun_20 : decode cX6_behindRun 20 = .ok (.if_icmp .lt 20, 3) := by decide +kernel
theorem dX6_behindRun_23 : decode cX6_behindRun 23 = .ok (.aload_n 0, 1) := by decide +kernel
theorem dX6_behindRun_24 : decode cX6_behindRun 24 = .ok (.getfield 9, 3) := by decide +kernel
theorem dX6_behindRun_27 : decode cX6_behindRun 27 = .ok (.iload 4, 2) := by decide +kernel
theorem dX6_behindRun_29 : decode cX6_behindRun 29 = .ok (.baload, 1) := by decide +kernel
theorem dX6_behindRun_30 : decode cX6_behindRun 30 = .ok (.iload_n 3, 1) := by decide +kernel
theorem dX6_behindRun_31 : decode cX6_behindRun 31 = .ok (.if_icmp .gt 9, 3) := by decide +kernel
theorem dX6_behindRun_34 : decode cX6_behindRun 34 = .ok (.iinc 4 1, 3) := by decide +kernel
theorem dX6_behindRun_37 : decode cX6_behindRun 37 = .ok (.goto (-34), 3) := by decide +kernel
theorem dX6_behindRun_40 : decode cX6_behindRun 40 = .ok (.iload 4, 2) := by decide +kernel
theorem dX6_behindRun_42 : decode cX6_behindRun 42 = .ok (.ireturn, 1) := by decide +kernel
theorem dX7_init_0 : decode cX7_init 0 = .ok (.aload_n 0, 1) := by decide +kernel
theorem dX7_init_1 : decode cX7_init 1 = .ok (.invokespecial 3, 3) := by decide +kernel
theorem dX7_init_4 : decode cX7_init 4 = .ok (.aload_n 0, 1) := by decide +kernel
theorem dX7_init_5 : decode cX7_init 5 = .ok (.bipush 16, 2) := by decide +kernel
theorem dX7_init_7 : decode cX7_init 7 = .ok (.newarray .int, 2) := by decide +kernel
theorem dX7_init_9 : decode cX7_init 9 = .ok (.putfield 11, 3) := by decide +kernel
theorem dX7_init_12 : decode cX7_init 12 = .ok (.aload_n 0, 1) := by decide +kernel
theorem dX7_init_13 : decode cX7_init 13 = .ok (.iconst 4, 1) := by decide +kernel
theorem dX7_init_14 : decode cX7_init 14 = .ok (.newarray .int, 2) := by decide +kernel
theorem dX7_init_16 : decode cX7_init 16 = .ok (.putfield 15, 3) := by decide +kernel
theorem dX7_init_19 : decode cX7_init 19 = .ok (.aload_n 0, 1) := by decide +kernel
theorem dX7_init_20 : decode cX7_init 20 = .ok (.iconst 4, 1) := by decide +kernel
theorem dX7_init_21 : decode cX7_init 21 = .ok (.newarray .int, 2) := by decide +kernel
theorem dX7_init_23 : decode cX7_init 23 = .ok (.putfield 18, 3) := by decide +kernel
theorem dX7_init_26 : decode cX7_init 26 = .ok (.aload_n 0, 1) := by decide +kernel
theorem dX7_init_27 : decode cX7_init 27 = .ok (.iconst 4, 1) := by decide +kernel
theorem dX7_init_28 : decode cX7_init 28 = .ok (.newarray .int, 2) := by decide +kernel
theorem dX7_init_30 : decode cX7_init 30 = .ok (.putfield 21, 3) := by decide +kernel
theorem dX7_init_33 : decode cX7_init 33 = .ok (.aload_n 0, 1) := by decide +kernel
theorem dX7_init_34 : decode cX7_init 34 = .ok (.iconst 4, 1) := by decide +kernel
theorem dX7_init_35 : decode cX7_init 35 = .ok (.newarray .int, 2) := by decide +kernel
theorem dX7_init_37 : decode cX7_init 37 = .ok (.putfield 24, 3) := by decide +kernel
theorem dX7_init_40 : decode cX7_init 40 = .ok (.aload_n 0, 1) := by decide +kernel
theorem dX7_init_41 : decode cX7_init 41 = .ok (.bipush 30, 2) := by decide +kernel
theorem dX7_init_43 : decode cX7_init 43 = .ok (.newarray .int, 2) := by decide +kernel
theorem dX7_init_45 : decode cX7_init 45 = .ok (.putfield 27, 3) := by decide +kernel
theorem dX7_init_48 : decode cX7_init 48 = .ok (.aload_n 0, 1) := by decide +kernel
theorem dX7_init_49 : decode cX7_init 49 = .ok (.bipush 30, 2) := by decide +kernel
theorem dX7_init_51 : decode cX7_init 51 = .ok (.newarray .int, 2) := by decide +kernel
theorem dX7_init_53 : decode cX7_init 53 = .ok (.putfield 30, 3) := by decide +kernel
theorem dX7_init_56 : decode cX7_init 56 = .ok (.aload_n 0, 1) := by decide +kernel
theorem dX7_init_57 : decode cX7_init 57 = .ok (.bipush 30, 2) := by decide +kernel
theorem dX7_init_59 : decode cX7_init 59 = .ok (.newarray .int, 2) := by decide +kernel
theorem dX7_init_61 : decode cX7_init 61 = .ok (.putfield 33, 3) := by decide +kernel
theorem dX7_init_64 : decode cX7_init 64 = .ok (.aload_n 0, 1) := by decide +kernel
theorem dX7_init_65 : decode cX7_init 65 = .ok (.bipush 30, 2) := by decide +kernel
theorem dX7_init_67 : decode cX7_init 67 = .ok (.newarray .int, 2) := by decide +kernel
theorem dX7_init_69 : decode cX7_init 69 = .ok (.putfield 36, 3) := by decide +kernel
theorem dX7_init_72 : decode cX7_init 72 = .ok (.aload_n 0, 1) := by decide +kernel
theorem dX7_init_73 : decode cX7_init 73 = .ok (.bipush 30, 2) := by decide +kernel
theorem dX7_init_75 : decode cX7_init 75 = .ok (.newarray .int, 2) := by decide +kernel
theorem dX7_init_77 : decode cX7_init 77 = .ok (.putfield 39, 3) := by decide +kernel
theorem dX7_init_80 : decode cX7_init 80 = .ok (.return_, 1) := by decide +kernel
theorem dX7_clear_0 : decode cX7_clear 0 = .ok (.aload_n 0, 1) := by decide +kernel
theorem dX7_clear_1 : decode cX7_clear 1 = .ok (.iconst 0, 1) := by decide +kernel
theorem dX7_clear_2 : decode cX7_clear 2 = .ok (.putfield 42, 3) := by decide +kernel
theorem dX7_clear_5 : decode cX7_clear 5 = .ok (.aload_n 0, 1) := by decide +kernel
theorem dX7_clear_6 : decode cX7_clear 6 = .ok (.iconst 0, 1) := by decide +kernel
theorem dX7_clear_7 : decode cX7_clear 7 = .ok (.putfield 46, 3) := by decide +kernel
theorem dX7_clear_10 : decode cX7_clear 10 = .ok (.aload_n 0, 1) := by decide +kernel
theorem dX7_clear_11 : decode cX7_clear 11 = .ok (.iconst 0, 1) := by decide +kernel
theorem dX7_clear_12 : decode cX7_clear 12 = .ok (.putfield 49, 3) := by decide +kernel
theorem dX7_clear_15 : decode cX7_clear 15 = .ok (.return_, 1) := by decide +kernel
theorem dX7_firstEventFrom_0 : decode cX7_firstEventFrom 0 = .ok (.iconst 0, 1) := by decide +kernel
theorem dX7_firstEventFrom_1 : decode cX7_firstEventFrom 1 = .ok (.istore_n 2, 1) := by decide +kernel
theorem dX7_firstEventFrom_2 : decode cX7_firstEventFrom 2 = .ok (.iload_n 2, 1) := by decide +kernel
theorem dX7_firstEventFrom_3 : decode cX7_firstEventFrom 3 = .ok (.aload_n 0, 1) := by decide +kernel
theorem dX7_firstEventFrom_4 : decode cX7_firstEventFrom 4 = .ok (.getfield 46, 3) := by decide +kernel
theorem dX7_firstEventFrom_7 : decode cX7_firstEventFrom 7 = .ok (.if_icmp .ge 19, 3) := by decide +kernel
theorem dX7_firstEventFrom_10 : decode cX7_firstEventFrom 10 = .ok (.aload_n 0, 1) := by decide +kernel
theorem dX7_firstEventFrom_11 : decode cX7_firstEventFrom 11 = .ok (.getfield 30, 3) := by decide +kernel
theorem dX7_firstEventFrom_14 : decode cX7_firstEventFrom 14 = .ok (.iload_n 2, 1) := by decide +kernel
theorem dX7_firstEventFrom_15 : decode cX7_firstEventFrom 15 = .ok (.iaload, 1) := by decide +kernel
theorem dX7_firstEventFrom_16 : decode cX7_firstEventFrom 16 = .ok (.iload_n 1, 1) := by decide +kernel
theorem dX7_firstEventFrom_17 : decode cX7_firstEventFrom 17 = .ok (.if_icmp .ge 9, 3) := by decide +kernel
theorem dX7_firstEventFrom_20 : decode cX7_firstEventFrom 20 = .ok (.iinc 2 1, 3) := by decide +kernel
theorem dX7_firstEventFrom_23 : decode cX7_firstEventFrom 23 = .ok (.goto (-21), 3) := by decide +kernel
end
section
theorem dX7_firstEventFrom_26 : decode cX7_firstEventFrom 26 = .ok (.iload_n 2, 1) := by decide +kernel
theorem dX7_firstEventFrom_27 : decode cX7_firstEventFrom 27 = .ok (.ireturn, 1) := by decide +kernel
theorem dX7_canBeLeftOut_0 : decode cX7_canBeLeftOut 0 = .ok (.aload_n 0, 1) := by decide +kernel
theorem dX7_canBeLeftOut_1 : decode cX7_canBeLeftOut 1 = .ok (.getfield 27, 3) := by decide +kernel
theorem dX7_canBeLeftOut_4 : decode cX7_canBeLeftOut 4 = .ok (.iload_n 1, 1) := by decide +kernel
theorem dX7_canBeLeftOut_5 : decode cX7_canBeLeftOut 5 = .ok (.iaload, 1) := by decide +kernel
theorem dX7_canBeLeftOut_6 : decode cX7_canBeLeftOut 6 = .ok (.istore_n 2, 1) := by decide +kernel
theorem dX7_canBeLeftOut_7 : decode cX7_canBeLeftOut 7 = .ok (.iload_n 2, 1) := by decide +kernel
theorem dX7_canBeLeftOut_8 : decode cX7_canBeLeftOut 8 = .ok (.iconst 2, 1) := by decide +kernel
theorem dX7_canBeLeftOut_9 : decode cX7_canBeLeftOut 9 = .ok (.if_icmp .eq 19, 3) := by decide +kernel
theorem dX7_canBeLeftOut_12 : decode cX7_canBeLeftOut 12 = .ok (.iload_n 2, 1) := by decide +kernel
theorem dX7_canBeLeftOut_13 : decode cX7_canBeLeftOut 13 = .ok (.iconst 3, 1) := by decide +kernel
theorem dX7_canBeLeftOut_14 : decode cX7_canBeLeftOut 14 = .ok (.if_icmp .eq 14, 3) := by decide +kernel
theorem dX7_canBeLeftOut_17 : decode cX7_canBeLeftOut 17 = .ok (.iload_n 2, 1) := by decide +kernel
theorem dX7_canBeLeftOut_18 : decode cX7_canBeLeftOut 18 = .ok (.iconst 4, 1) := by decide +kernel
theorem dX7_canBeLeftOut_19 : decode cX7_canBeLeftOut 19 = .ok (.if_icmp .eq 9, 3) := by decide +kernel
theorem dX7_canBeLeftOut_22 : decode cX7_canBeLeftOut 22 = .ok (.iload_n 2, 1) := by decide +kernel
theorem dX7_canBeLeftOut_23 : decode cX7_canBeLeftOut 23 = .ok (.bipush 6, 2) := by decide +kernel
theorem dX7_canBeLeftOut_25 : decode cX7_canBeLeftOut 25 = .ok (.if_icmp .ne 7, 3) := by decide +kernel
theorem dX7_canBeLeftOut_28 : decode cX7_canBeLeftOut 28 = .ok (.iconst 1, 1) := by decide +kernel
theorem dX7_canBeLeftOut_29 : decode cX7_canBeLeftOut 29 = .ok (.goto 4, 3) := by decide +kernel
theorem dX7_canBeLeftOut_32 : decode cX7_canBeLeftOut 32 = .ok (.iconst 0, 1) := by decide +kernel
theorem dX7_canBeLeftOut_33 : decode cX7_canBeLeftOut 33 = .ok (.ireturn, 1) := by decide +kernel
theorem dX7_movesAll_0 : decode cX7_movesAll 0 = .ok (.aload_n 0, 1) := by decide +kernel
theorem dX7_movesAll_1 : decode cX7_movesAll 1 = .ok (.getfield 21, 3) := by decide +kernel
theorem dX7_movesAll_4 : decode cX7_movesAll 4 = .ok (.iload_n 1, 1) := by decide +kernel
theorem dX7_movesAll_5 : decode cX7_movesAll 5 = .ok (.iaload, 1) := by decide +kernel
theorem dX7_movesAll_6 : decode cX7_movesAll 6 = .ok (.iconst 1, 1) := by decide +kernel
theorem dX7_movesAll_7 : decode cX7_movesAll 7 = .ok (.if_icmp .ne 7, 3) := by decide +kernel
theorem dX7_movesAll_10 : decode cX7_movesAll 10 = .ok (.iconst 1, 1) := by decide +kernel
theorem dX7_movesAll_11 : decode cX7_movesAll 11 = .ok (.goto 4, 3) := by decide +kernel
theorem dX7_movesAll_14 : decode cX7_movesAll 14 = .ok (.iconst 0, 1) := by decide +kernel
theorem dX7_movesAll_15 : decode cX7_movesAll 15 = .ok (.ireturn, 1) := by decide +kernel
theorem dX7_way_0 : decode cX7_way 0 = .ok (.aload_n 0, 1) := by decide +kernel
theorem dX7_way_1 : decode cX7_way 1 = .ok (.getfield 27, 3) := by decide +kernel
theorem dX7_way_4 : decode cX7_way 4 = .ok (.iload_n 1, 1) := by decide +kernel
theorem dX7_way_5 : decode cX7_way 5 = .ok (.iaload, 1) := by decide +kernel
theorem dX7_way_6 : decode cX7_way 6 = .ok (.ifCond .ne 12, 3) := by decide +kernel
theorem dX7_way_9 : decode cX7_way 9 = .ok (.aload_n 0, 1) := by decide +kernel
theorem dX7_way_10 : decode cX7_way 10 = .ok (.getfield 33, 3) := by decide +kernel
theorem dX7_way_13 : decode cX7_way 13 = .ok (.iload_n 1, 1) := by decide +kernel
theorem dX7_way_14 : decode cX7_way 14 = .ok (.iaload, 1) := by decide +kernel
theorem dX7_way_15 : decode cX7_way 15 = .ok (.goto 4, 3) := by decide +kernel
theorem dX7_way_18 : decode cX7_way 18 = .ok (.iconst 4, 1) := by decide +kernel
theorem dX7_way_19 : decode cX7_way 19 = .ok (.ireturn, 1) := by decide +kernel
theorem dX7_purseOfComer_0 : decode cX7_purseOfComer 0 = .ok (.aload_n 0, 1) := by decide +kernel
theorem dX7_purseOfComer_1 : decode cX7_purseOfComer 1 = .ok (.getfield 11, 3) := by decide +kernel
theorem dX7_purseOfComer_4 : decode cX7_purseOfComer 4 = .ok (.iload_n 1, 1) := by decide +kernel
theorem dX7_purseOfComer_5 : decode cX7_purseOfComer 5 = .ok (.iconst 4, 1) := by decide +kernel
theorem dX7_purseOfComer_6 : decode cX7_purseOfComer 6 = .ok (.imul, 1) := by decide +kernel
theorem dX7_purseOfComer_7 : decode cX7_purseOfComer 7 = .ok (.aload_n 0, 1) := by decide +kernel
theorem dX7_purseOfComer_8 : decode cX7_purseOfComer 8 = .ok (.getfield 33, 3) := by decide +kernel
theorem dX7_purseOfComer_11 : decode cX7_purseOfComer 11 = .ok (.iload_n 2, 1) := by decide +kernel
theorem dX7_purseOfComer_12 : decode cX7_purseOfComer 12 = .ok (.iaload, 1) := by decide +kernel
theorem dX7_purseOfComer_13 : decode cX7_purseOfComer 13 = .ok (.iadd, 1) := by decide +kernel
theorem dX7_purseOfComer_14 : decode cX7_purseOfComer 14 = .ok (.iaload, 1) := by decide +kernel
theorem dX7_purseOfComer_15 : decode cX7_purseOfComer 15 = .ok (.ifCond .ne 7, 3) := by decide +kernel
theorem dX7_purseOfComer_18 : decode cX7_purseOfComer 18 = .ok (.iconst 1, 1) := by decide +kernel
theorem dX7_purseOfComer_19 : decode cX7_purseOfComer 19 = .ok (.goto 4, 3) := by decide +kernel
theorem dX7_purseOfComer_22 : decode cX7_purseOfComer 22 = .ok (.iconst 0, 1) := by decide +kernel
theorem dX7_purseOfComer_23 : decode cX7_purseOfComer 23 = .ok (.istore_n 3, 1) := by decide +kernel
theorem dX7_purseOfComer_24 : decode cX7_purseOfComer 24 = .ok (.iload_n 3, 1) := by decide +kernel
theorem dX7_purseOfComer_25 : decode cX7_purseOfComer 25 = .ok (.ifCond .eq 12, 3) := by decide +kernel
theorem dX7_purseOfComer_28 : decode cX7_purseOfComer 28 = .ok (.aload_n 0, 1) := by decide +kernel
theorem dX7_purseOfComer_29 : decode cX7_purseOfComer 29 = .ok (.getfield 36, 3) := by decide +kernel
theorem dX7_purseOfComer_32 : decode cX7_purseOfComer 32 = .ok (.iload_n 2, 1) := by decide +kernel
theorem dX7_purseOfComer_33 : decode cX7_purseOfComer 33 = .ok (.iaload, 1) := by decide +kernel
theorem dX7_purseOfComer_34 : decode cX7_purseOfComer 34 = .ok (.goto 4, 3) := by decide +kernel
theorem dX7_purseOfComer_37 : decode cX7_purseOfComer 37 = .ok (.iconst 2, 1) := by decide +kernel
theorem dX7_purseOfComer_38 : decode cX7_purseOfComer 38 = .ok (.ireturn, 1) := by decide +kernel
theorem dX7_purseOfPayers_0 : decode cX7_purseOfPayers 0 = .ok (.aload_n 0, 1) := by decide +kernel
theorem dX7_purseOfPayers_1 : decode cX7_purseOfPayers 1 = .ok (.getfield 33, 3) := by decide +kernel
theorem dX7_purseOfPayers_4 : decode cX7_purseOfPayers 4 = .ok (.iload_n 2, 1) := by decide +kernel
theorem dX7_purseOfPayers_5 : decode cX7_purseOfPayers 5 = .ok (.iaload, 1) := by decide +kernel
theorem dX7_purseOfPayers_6 : decode cX7_purseOfPayers 6 = .ok (.istore_n 3, 1) := by decide +kernel
theorem dX7_purseOfPayers_7 : decode cX7_purseOfPayers 7 = .ok (.aload_n 0, 1) := by decide +kernel
theorem dX7_purseOfPayers_8 : decode cX7_purseOfPayers 8 = .ok (.getfield 36, 3) := by decide +kernel
theorem dX7_purseOfPayers_11 : decode cX7_purseOfPayers 11 = .ok (.iload_n 2, 1) := by decide +kernel
theorem dX7_purseOfPayers_12 : decode cX7_purseOfPayers 12 = .ok (.iaload, 1) := by decide +kernel
theorem dX7_purseOfPayers_13 : decode cX7_purseOfPayers 13 = .ok (.istore 4, 2) := by decide +kernel
theorem dX7_purseOfPayers_15 : decode cX7_purseOfPayers 15 = .ok (.aload_n 0, 1) := by decide +kernel
theorem dX7_purseOfPayers_16 : decode cX7_purseOfPayers 16 = .ok (.getfield 39, 3) := by decide +kernel
theorem dX7_purseOfPayers_19 : decode cX7_purseOfPayers 19 = .ok (.iload_n 2, 1) := by decide +kernel
theorem dX7_purseOfPayers_20 : decode cX7_purseOfPayers 20 = .ok (.iaload, 1) := by decide +kernel
theorem dX7_purseOfPayers_21 : decode cX7_purseOfPayers 21 = .ok (.istore 5, 2) := by decide +kernel
theorem dX7_purseOfPayers_23 : decode cX7_purseOfPayers 23 = .ok (.iload_n 3, 1) := by decide +kernel
theorem dX7_purseOfPayers_24 : decode cX7_purseOfPayers 24 = .ok (.iload 4, 2) := by decide +kernel
theorem dX7_purseOfPayers_26 : decode cX7_purseOfPayers 26 = .ok (.if_icmp .lt 7, 3) := by decide +kernel
theorem dX7_purseOfPayers_29 : decode cX7_purseOfPayers 29 = .ok (.iconst 0, 1) := by decide +kernel
theorem dX7_purseOfPayers_30 : decode cX7_purseOfPayers 30 = .ok (.goto 4, 3) := by decide +kernel
theorem dX7_purseOfPayers_33 : decode cX7_purseOfPayers 33 = .ok (.iconst 1, 1) := by decide +kernel
theorem dX7_purseOfPayers_34 : decode cX7_purseOfPayers 34 = .ok (.istore 6, 2) := by decide +kernel
theorem dX7_purseOfPayers_36 : decode cX7_purseOfPayers 36 = .ok (.iload 5, 2) := by decide +kernel
theorem dX7_purseOfPayers_38 : decode cX7_purseOfPayers 38 = .ok (.iload_n 3, 1) := by decide +kernel
theorem dX7_purseOfPayers_39 : decode cX7_purseOfPayers 39 = .ok (.iload 4, 2) := by decide +kernel
theorem dX7_purseOfPayers_41 : decode cX7_purseOfPayers 41 = .ok (.invokestatic 52, 3) := by decide +kernel
theorem dX7_purseOfPayers_44 : decode cX7_purseOfPayers 44 = .ok (.if_icmp .le 6, 3) := by decide +kernel
theorem dX7_purseOfPayers_47 : decode cX7_purseOfPayers 47 = .ok (.iconst 2, 1) := by decide +kernel
theorem dX7_purseOfPayers_48 : decode cX7_purseOfPayers 48 = .ok (.istore 6, 2) := by decide +kernel
theorem dX7_purseOfPayers_50 : decode cX7_purseOfPayers 50 = .ok (.aload_n 0, 1) := by decide +kernel
theorem dX7_purseOfPayers_51 : decode cX7_purseOfPayers 51 = .ok (.getfield 15, 3) := by decide +kernel
theorem dX7_purseOfPayers_54 : decode cX7_purseOfPayers 54 = .ok (.iload_n 1, 1) := by decide +kernel
theorem dX7_purseOfPayers_55 : decode cX7_purseOfPayers 55 = .ok (.iaload, 1) := by decide +kernel
theorem dX7_purseOfPayers_56 : decode cX7_purseOfPayers 56 = .ok (.ifCond .ne 6, 3) := by decide +kernel
theorem dX7_purseOfPayers_59 : decode cX7_purseOfPayers 59 = .ok (.iload 6, 2) := by decide +kernel
theorem dX7_purseOfPayers_61 : decode cX7_purseOfPayers 61 = .ok (.ireturn, 1) := by decide +kernel
theorem dX7_purseOfPayers_62 : decode cX7_purseOfPayers 62 = .ok (.iload_n 3, 1) := by decide +kernel
theorem dX7_purseOfPayers_63 : decode cX7_purseOfPayers 63 = .ok (.iload 4, 2) := by decide +kernel
theorem dX7_purseOfPayers_65 : decode cX7_purseOfPayers 65 = .ok (.invokestatic 52, 3) := by decide +kernel
theorem dX7_purseOfPayers_68 : decode cX7_purseOfPayers 68 = .ok (.iload 5, 2) := by decide +kernel
theorem dX7_purseOfPayers_70 : decode cX7_purseOfPayers 70 = .ok (.invokestatic 52, 3) := by decide +kernel
theorem dX7_purseOfPayers_73 : decode cX7_purseOfPayers 73 = .ok (.iload_n 3, 1) := by decide +kernel
theorem dX7_purseOfPayers_74 : decode cX7_purseOfPayers 74 = .ok (.iload 4, 2) := by decide +kernel
theorem dX7_purseOfPayers_76 : decode cX7_purseOfPayers 76 = .ok (.iadd, 1) := by decide +kernel
theorem dX7_purseOfPayers_77 : decode cX7_purseOfPayers 77 = .ok (.iload 5, 2) := by decide +kernel
theorem dX7_purseOfPayers_79 : decode cX7_purseOfPayers 79 = .ok (.iadd, 1) := by decide +kernel
theorem dX7_purseOfPayers_80 : decode cX7_purseOfPayers 80 = .ok (.if_icmp .ne 7, 3) := by decide +kernel
theorem dX7_purseOfPayers_83 : decode cX7_purseOfPayers 83 = .ok (.iconst 1, 1) := by decide +kernel
theorem dX7_purseOfPayers_84 : decode cX7_purseOfPayers 84 = .ok (.goto 4, 3) := by decide +kernel
theorem dX7_purseOfPayers_87 : decode cX7_purseOfPayers 87 = .ok (.iconst 0, 1) := by decide +kernel
theorem dX7_purseOfPayers_88 : decode cX7_purseOfPayers 88 = .ok (.istore 7, 2) := by decide +kernel
theorem dX7_purseOfPayers_90 : decode cX7_purseOfPayers 90 = .ok (.iload 7, 2) := by decide +kernel
theorem dX7_purseOfPayers_92 : decode cX7_purseOfPayers 92 = .ok (.ifCond .eq 8, 3) := by decide +kernel
theorem dX7_purseOfPayers_95 : decode cX7_purseOfPayers 95 = .ok (.iload 6, 2) := by decide +kernel
theorem dX7_purseOfPayers_97 : decode cX7_purseOfPayers 97 = .ok (.goto 4, 3) := by decide +kernel
theorem dX7_purseOfPayers_100 : decode cX7_purseOfPayers 100 = .ok (.iconst 2, 1) := by decide +kernel
theorem dX7_purseOfPayers_101 : decode cX7_purseOfPayers 101 = .ok (.ireturn, 1) := by decide +kernel
theorem dX8_init_0 : decode cX8_init 0 = .ok (.aload_n 0, 1) := by decide +kernel
theorem dX8_init_1 : decode cX8_init 1 = .ok (.invokespecial 3, 3) := by decide +kernel
theorem dX8_init_4 : decode cX8_init 4 = .ok (.aload_n 0, 1) := by decide +kernel
theorem dX8_init_5 : decode cX8_init 5 = .ok (.iconst 3, 1) := by decide +kernel
theorem dX8_init_6 : decode cX8_init 6 = .ok (.newarray .long, 2) := by decide +kernel
theorem dX8_init_8 : decode cX8_init 8 = .ok (.putfield 9, 3) := by decide +kernel
theorem dX8_init_11 : decode cX8_init 11 = .ok (.aload_n 0, 1) := by decide +kernel
theorem dX8_init_12 : decode cX8_init 12 = .ok (.iconst 3, 1) := by decide +kernel
theorem dX8_init_13 : decode cX8_init 13 = .ok (.newarray .long, 2) := by decide +kernel
theorem dX8_init_15 : decode cX8_init 15 = .ok (.putfield 15, 3) := by decide +kernel
theorem dX8_init_18 : decode cX8_init 18 = .ok (.aload_n 0, 1) := by decide +kernel
theorem dX8_init_19 : decode cX8_init 19 = .ok (.iconst 3, 1) := by decide +kernel
theorem dX8_init_20 : decode cX8_init 20 = .ok (.newarray .int, 2) := by decide +kernel
theorem dX8_init_22 : decode cX8_init 22 = .ok (.putfield 18, 3) := by decide +kernel
theorem dX8_init_25 : decode cX8_init 25 = .ok (.aload_n 0, 1) := by decide +kernel
theorem dX8_init_26 : decode cX8_init 26 = .ok (.bipush 9, 2) := by decide +kernel
theorem dX8_init_28 : decode cX8_init 28 = .ok (.newarray .long, 2) := by decide +kernel
theorem dX8_init_30 : decode cX8_init 30 = .ok (.putfield 22, 3) := by decide +kernel
theorem dX8_init_33 : decode cX8_init 33 = .ok (.aload_n 0, 1) := by decide +kernel
theorem dX8_init_34 : decode cX8_init 34 = .ok (.bipush 9, 2) := by decide +kernel
theorem dX8_init_36 : decode cX8_init 36 = .ok (.newarray .long, 2) := by decide +kernel
theorem dX8_init_38 : decode cX8_init 38 = .ok (.putfield 25, 3) := by decide +kernel
theorem dX8_init_41 : decode cX8_init 41 = .ok (.aload_n 0, 1) := by decide +kernel
theorem dX8_init_42 : decode cX8_init 42 = .ok (.iconst 3, 1) := by decide +kernel
theorem dX8_init_43 : decode cX8_init 43 = .ok (.newarray .long, 2) := by decide +kernel
theorem dX8_init_45 : decode cX8_init 45 = .ok (.putfield 28, 3) := by decide +kernel
theorem dX8_init_48 : decode cX8_init 48 = .ok (.aload_n 0, 1) := by decide +kernel
theorem dX8_init_49 : decode cX8_init 49 = .ok (.iconst 2, 1) := by decide +kernel
theorem dX8_init_50 : decode cX8_init 50 = .ok (.newarray .long, 2) := by decide +kernel
theorem dX8_init_52 : decode cX8_init 52 = .ok (.putfield 31, 3) := by decide +kernel
theorem dX8_init_55 : decode cX8_init 55 = .ok (.aload_n 0, 1) := by decide +kernel
theorem dX8_init_56 : decode cX8_init 56 = .ok (.lconst 1, 1) := by decide +kernel
theorem dX8_init_57 : decode cX8_init 57 = .ok (.putfield 34, 3) := by decide +kernel
theorem dX8_init_60 : decode cX8_init 60 = .ok (.aload_n 0, 1) := by decide +kernel
theorem dX8_init_61 : decode cX8_init 61 = .ok (.bipush 9, 2) := by decide +kernel
theorem dX8_init_63 : decode cX8_init 63 = .ok (.newarray .long, 2) := by decide +kernel
theorem dX8_init_65 : decode cX8_init 65 = .ok (.putfield 38, 3) := by decide +kernel
theorem dX8_init_68 : decode cX8_init 68 = .ok (.return_, 1) := by decide +kernel
theorem dX8_reckon_0 : decode cX8_reckon 0 = .ok (.aload_n 1, 1) := by decide +kernel
theorem dX8_reckon_1 : decode cX8_reckon 1 = .ok (.getfield 41, 3) := by decide +kernel
theorem dX8_reckon_4 : decode cX8_reckon 4 = .ok (.astore_n 2, 1) := by decide +kernel
theorem dX8_reckon_5 : decode cX8_reckon 5 = .ok (.aload_n 2, 1) := by decide +kernel
theorem dX8_reckon_6 : decode cX8_reckon 6 = .ok (.getfield 47, 3) := by decide +kernel
theorem dX8_reckon_9 : decode cX8_reckon 9 = .ok (.aload_n 1, 1) := by decide +kernel
theorem dX8_reckon_10 : decode cX8_reckon 10 = .ok (.getfield 52, 3) := by decide +kernel
theorem dX8_reckon_13 : decode cX8_reckon 13 = .ok (.iaload, 1) := by decide +kernel
theorem dX8_reckon_14 : decode cX8_reckon 14 = .ok (.istore_n 3, 1) := by decide +kernel
theorem dX8_reckon_15 : decode cX8_reckon 15 = .ok (.aload_n 0, 1) := by decide +kernel
theorem dX8_reckon_16 : decode cX8_reckon 16 = .ok (.aload_n 1, 1) := by decide +kernel
theorem dX8_reckon_17 : decode cX8_reckon 17 = .ok (.invokevirtual 56, 3) := by decide +kernel
theorem dX8_reckon_20 : decode cX8_reckon 20 = .ok (.aload_n 0, 1) := by decide +kernel
theorem dX8_reckon_21 : decode cX8_reckon 21 = .ok (.aload_n 1, 1) := by decide +kernel
theorem dX8_reckon_22 : decode cX8_reckon 22 = .ok (.iload_n 3, 1) := by decide +kernel
theorem dX8_reckon_23 : decode cX8_reckon 23 = .ok (.invokevirtual 60, 3) := by decide +kernel
theorem dX8_reckon_26 : decode cX8_reckon 26 = .ok (.aload_n 0, 1) := by decide +kernel
theorem dX8_reckon_27 : decode cX8_reckon 27 = .ok (.lconst 1, 1) := by decide +kernel
theorem dX8_reckon_28 : decode cX8_reckon 28 = .ok (.putfield 34, 3) := by decide +kernel
theorem dX8_reckon_31 : decode cX8_reckon 31 = .ok (.iload_n 3, 1) := by decide +kernel
theorem dX8_reckon_32 : decode cX8_reckon 32 = .ok (.iconst 1, 1) := by decide +kernel
theorem dX8_reckon_33 : decode cX8_reckon 33 = .ok (.if_icmp .ne 10, 3) := by decide +kernel
theorem dX8_reckon_36 : decode cX8_reckon 36 = .ok (.aload_n 0, 1) := by decide +kernel
theorem dX8_reckon_37 : decode cX8_reckon 37 = .ok (.invokevirtual 64, 3) := by decide +kernel
theorem dX8_reckon_40 : decode cX8_reckon 40 = .ok (.goto 7, 3) := by decide +kernel
theorem dX8_reckon_43 : decode cX8_reckon 43 = .ok (.aload_n 0, 1) := by decide +kernel
theorem dX8_reckon_44 : decode cX8_reckon 44 = .ok (.invokevirtual 67, 3) := by decide +kernel
theorem dX8_reckon_47 : decode cX8_reckon 47 = .ok (.aload_n 2, 1) := by decide +kernel
theorem dX8_reckon_48 : decode cX8_reckon 48 = .ok (.getfield 70, 3) := by decide +kernel
theorem dX8_reckon_51 : decode cX8_reckon 51 = .ok (.aload_n 1, 1) := by decide +kernel
theorem dX8_reckon_52 : decode cX8_reckon 52 = .ok (.getfield 52, 3) := by decide +kernel
theorem dX8_reckon_55 : decode cX8_reckon 55 = .ok (.iaload, 1) := by decide +kernel
theorem dX8_reckon_56 : decode cX8_reckon 56 = .ok (.istore 4, 2) := by decide +kernel
theorem dX8_reckon_58 : decode cX8_reckon 58 = .ok (.aload_n 0, 1) := by decide +kernel
theorem dX8_reckon_59 : decode cX8_reckon 59 = .ok (.getfield 31, 3) := by decide +kernel
theorem dX8_reckon_62 : decode cX8_reckon 62 = .ok (.iconst 0, 1) := by decide +kernel
theorem dX8_reckon_63 : decode cX8_reckon 63 = .ok (.ldc2_w 73, 3) := by decide +kernel
theorem dX8_reckon_66 : decode cX8_reckon 66 = .ok (.aload_n 0, 1) := by decide +kernel
theorem dX8_reckon_67 : decode cX8_reckon 67 = .ok (.getfield 28, 3) := by decide +kernel
theorem dX8_reckon_70 : decode cX8_reckon 70 = .ok (.iconst 0, 1) := by decide +kernel
theorem dX8_reckon_71 : decode cX8_reckon 71 = .ok (.laload, 1) := by decide +kernel
theorem dX8_reckon_72 : decode cX8_reckon 72 = .ok (.lmul, 1) := by decide +kernel
theorem dX8_reckon_73 : decode cX8_reckon 73 = .ok (.iload 4, 2) := by decide +kernel
theorem dX8_reckon_75 : decode cX8_reckon 75 = .ok (.i2l, 1) := by decide +kernel
theorem dX8_reckon_76 : decode cX8_reckon 76 = .ok (.aload_n 0, 1) := by decide +kernel
theorem dX8_reckon_77 : decode cX8_reckon 77 = .ok (.getfield 28, 3) := by decide +kernel
theorem dX8_reckon_80 : decode cX8_reckon 80 = .ok (.iconst 2, 1) := by decide +kernel
theorem dX8_reckon_81 : decode cX8_reckon 81 = .ok (.laload, 1) := by decide +kernel
theorem dX8_reckon_82 : decode cX8_reckon 82 = .ok (.lmul, 1) := by decide +kernel
theorem dX8_reckon_83 : decode cX8_reckon 83 = .ok (.ladd, 1) := by decide +kernel
theorem dX8_reckon_84 : decode cX8_reckon 84 = .ok (.lastore, 1) := by decide +kernel
theorem dX8_reckon_85 : decode cX8_reckon 85 = .ok (.aload_n 0, 1) := by decide +kernel
theorem dX8_reckon_86 : decode cX8_reckon 86 = .ok (.getfield 31, 3) := by decide +kernel
theorem dX8_reckon_89 : decode cX8_reckon 89 = .ok (.iconst 1, 1) := by decide +kernel
theorem dX8_reckon_90 : decode cX8_reckon 90 = .ok (.ldc2_w 73, 3) := by decide +kernel
theorem dX8_reckon_93 : decode cX8_reckon 93 = .ok (.aload_n 0, 1) := by decide +kernel
theorem dX8_reckon_94 : decode cX8_reckon 94 = .ok (.getfield 28, 3) := by decide +kernel
theorem dX8_reckon_97 : decode cX8_reckon 97 = .ok (.iconst 1, 1) := by decide +kernel
theorem dX8_reckon_98 : decode cX8_reckon 98 = .ok (.laload, 1) := by decide +kernel
theorem dX8_reckon_99 : decode cX8_reckon 99 = .ok (.lmul, 1) := by decide +kernel
theorem dX8_reckon_100 : decode cX8_reckon 100 = .ok (.bipush 100, 2) := by decide +kernel
theorem dX8_reckon_102 : decode cX8_reckon 102 = .ok (.iload 4, 2) := by decide +kernel
theorem dX8_reckon_104 : decode cX8_reckon 104 = .ok (.isub, 1) := by decide +kernel
theorem dX8_reckon_105 : decode cX8_reckon 105 = .ok (.i2l, 1) := by decide +kernel
theorem dX8_reckon_106 : decode cX8_reckon 106 = .ok (.aload_n 0, 1) := by decide +kernel
theorem dX8_reckon_107 : decode cX8_reckon 107 = .ok (.getfield 28, 3) := by decide +kernel
theorem dX8_reckon_110 : decode cX8_reckon 110 = .ok (.iconst 2, 1) := by decide +kernel
theorem dX8_reckon_111 : decode cX8_reckon 111 = .ok (.laload, 1) := by decide +kernel
theorem dX8_reckon_112 : decode cX8_reckon 112 = .ok (.lmul, 1) := by decide +kernel
theorem dX8_reckon_113 : decode cX8_reckon 113 = .ok (.ladd, 1) := by decide +kernel
theorem dX8_reckon_114 : decode cX8_reckon 114 = .ok (.lastore, 1) := by decide +kernel
theorem dX8_reckon_115 : decode cX8_reckon 115 = .ok (.return_, 1) := by decide +kernel
theorem dX8_endBottom_0 : decode cX8_endBottom 0 = .ok (.ldc2_w 73, 3) := by decide +kernel
theorem dX8_endBottom_3 : decode cX8_endBottom 3 = .ok (.aload_n 0, 1) := by decide +kernel
theorem dX8_endBottom_4 : decode cX8_endBottom 4 = .ok (.getfield 34, 3) := by decide +kernel
theorem dX8_endBottom_7 : decode cX8_endBottom 7 = .ok (.lmul, 1) := by decide +kernel
theorem dX8_endBottom_8 : decode cX8_endBottom 8 = .ok (.lreturn, 1) := by decide +kernel
theorem dX8_herEndCut_0 : decode cX8_herEndCut 0 = .ok (.aload_n 0, 1) := by decide +kernel
theorem dX8_herEndCut_1 : decode cX8_herEndCut 1 = .ok (.invokevirtual 75, 3) := by decide +kernel
theorem dX8_herEndCut_4 : decode cX8_herEndCut 4 = .ok (.lconst 0, 1) := by decide +kernel
theorem dX8_herEndCut_5 : decode cX8_herEndCut 5 = .ok (.lcmp, 1) := by decide +kernel
theorem dX8_herEndCut_6 : decode cX8_herEndCut 6 = .ok (.ifCond .le 17, 3) := by decide +kernel
theorem dX8_herEndCut_9 : decode cX8_herEndCut 9 = .ok (.aload_n 0, 1) := by decide +kernel
theorem dX8_herEndCut_10 : decode cX8_herEndCut 10 = .ok (.getfield 31, 3) := by decide +kernel
theorem dX8_herEndCut_13 : decode cX8_herEndCut 13 = .ok (.iconst 0, 1) := by decide +kernel
theorem dX8_herEndCut_14 : decode cX8_herEndCut 14 = .ok (.laload, 1) := by decide +kernel
theorem dX8_herEndCut_15 : decode cX8_herEndCut 15 = .ok (.aload_n 0, 1) := by decide +kernel
theorem dX8_herEndCut_16 : decode cX8_herEndCut 16 = .ok (.invokevirtual 75, 3) := by decide +kernel
theorem dX8_herEndCut_19 : decode cX8_herEndCut 19 = .ok (.ldiv, 1) := by decide +kernel
theorem dX8_herEndCut_20 : decode cX8_herEndCut 20 = .ok (.goto 4, 3) := by decide +kernel
theorem dX8_herEndCut_23 : decode cX8_herEndCut 23 = .ok (.lconst 0, 1) := by decide +kernel
theorem dX8_herEndCut_24 : decode cX8_herEndCut 24 = .ok (.lreturn, 1) := by decide +kernel
theorem dX8_grants_0 : decode cX8_grants 0 = .ok (.aload_n 0, 1) := by decide +kernel
theorem dX8_grants_1 : decode cX8_grants 1 = .ok (.getfield 31, 3) := by decide +kernel
theorem dX8_grants_4 : decode cX8_grants 4 = .ok (.iconst 0, 1) := by decide +kernel
theorem dX8_grants_5 : decode cX8_grants 5 = .ok (.laload, 1) := by decide +kernel
theorem dX8_grants_6 : decode cX8_grants 6 = .ok (.iload_n 1, 1) := by decide +kernel
theorem dX8_grants_7 : decode cX8_grants 7 = .ok (.i2l, 1) := by decide +kernel
theorem dX8_grants_8 : decode cX8_grants 8 = .ok (.aload_n 0, 1) := by decide +kernel
theorem dX8_grants_9 : decode cX8_grants 9 = .ok (.invokevirtual 75, 3) := by decide +kernel
theorem dX8_grants_12 : decode cX8_grants 12 = .ok (.lmul, 1) := by decide +kernel
theorem dX8_grants_13 : decode cX8_grants 13 = .ok (.lcmp, 1) := by decide +kernel
theorem dX8_grants_14 : decode cX8_grants 14 = .ok (.ifCond .lt 24, 3) := by decide +kernel
theorem dX8_grants_17 : decode cX8_grants 17 = .ok (.aload_n 0, 1) := by decide +kernel
theorem dX8_grants_18 : decode cX8_grants 18 = .ok (.getfield 31, 3) := by decide +kernel
theorem dX8_grants_21 : decode cX8_grants 21 = .ok (.iconst 1, 1) := by decide +kernel
theorem dX8_grants_22 : decode cX8_grants 22 = .ok (.laload, 1) := by decide +kernel
theorem dX8_grants_23 : decode cX8_grants 23 = .ok (.iload_n 2, 1) := by decide +kernel
theorem dX8_grants_24 : decode cX8_grants 24 = .ok (.i2l, 1) := by decide +kernel
theorem dX8_grants_25 : decode cX8_grants 25 = .ok (.aload_n 0, 1) := by decide +kernel
theorem dX8_grants_26 : decode cX8_grants 26 = .ok (.invokevirtual 75, 3) := by decide +kernel
theorem dX8_grants_29 : decode cX8_grants 29 = .ok (.lmul, 1) := by decide +kernel
theorem dX8_grants_30 : decode cX8_grants 30 = .ok (.lcmp, 1) := by decide +kernel
theorem dX8_grants_31 : decode cX8_grants 31 = .ok (.ifCond .lt 7, 3) := by decide +kernel
theorem dX8_grants_34 : decode cX8_grants 34 = .ok (.iconst 1, 1) := by decide +kernel
theorem dX8_grants_35 : decode cX8_grants 35 = .ok (.goto 4, 3) := by decide +kernel
theorem dX8_grants_38 : decode cX8_grants 38 = .ok (.iconst 0, 1) := by decide +kernel
theorem dX8_grants_39 : decode cX8_grants 39 = .ok (.ireturn, 1) := by decide +kernel
theorem dX8_addThings_0 : decode cX8_addThings 0 = .ok (.iconst 0, 1) := by decide +kernel
theorem dX8_addThings_1 : decode cX8_addThings 1 = .ok (.istore_n 2, 1) := by decide +kernel
theorem dX8_addThings_2 : decode cX8_addThings 2 = .ok (.iload_n 2, 1) := by decide +kernel
theorem dX8_addThings_3 : decode cX8_addThings 3 = .ok (.iconst 3, 1) := by decide +kernel
theorem dX8_addThings_4 : decode cX8_addThings 4 = .ok (.if_icmp .ge 37, 3) := by decide +kernel
theorem dX8_addThings_7 : decode cX8_addThings 7 = .ok (.aload_n 0, 1) := by decide +kernel
theorem dX8_addThings_8 : decode cX8_addThings 8 = .ok (.getfield 9, 3) := by decide +kernel
theorem dX8_addThings_11 : decode cX8_addThings 11 = .ok (.iload_n 2, 1) := by decide +kernel
theorem dX8_addThings_12 : decode cX8_addThings 12 = .ok (.aload_n 1, 1) := by decide +kernel
theorem dX8_addThings_13 : decode cX8_addThings 13 = .ok (.getfield 79, 3) := by decide +kernel
theorem dX8_addThings_16 : decode cX8_addThings 16 = .ok (.iload_n 2, 1) := by decide +kernel
theorem dX8_addThings_17 : decode cX8_addThings 17 = .ok (.iaload, 1) := by decide +kernel
theorem dX8_addThings_18 : decode cX8_addThings 18 = .ok (.ineg, 1) := by decide +kernel
theorem dX8_addThings_19 : decode cX8_addThings 19 = .ok (.i2l, 1) := by decide +kernel
theorem dX8_addThings_20 : decode cX8_addThings 20 = .ok (.lastore, 1) := by decide +kernel
theorem dX8_addThings_21 : decode cX8_addThings 21 = .ok (.aload_n 0, 1) := by decide +kernel
theorem dX8_addThings_22 : decode cX8_addThings 22 = .ok (.getfield 15, 3) := by decide +kernel
theorem dX8_addThings_25 : decode cX8_addThings 25 = .ok (.iload_n 2, 1) := by decide +kernel
theorem dX8_addThings_26 : decode cX8_addThings 26 = .ok (.lconst 0, 1) := by decide +kernel
theorem dX8_addThings_27 : decode cX8_addThings 27 = .ok (.lastore, 1) := by decide +kernel
theorem dX8_addThings_28 : decode cX8_addThings 28 = .ok (.aload_n 0, 1) := by decide +kernel
theorem dX8_addThings_29 : decode cX8_addThings 29 = .ok (.getfield 18, 3) := by decide +kernel
theorem dX8_addThings_32 : decode cX8_addThings 32 = .ok (.iload_n 2, 1) := by decide +kernel
theorem dX8_addThings_33 : decode cX8_addThings 33 = .ok (.iconst 0, 1) := by decide +kernel
theorem dX8_addThings_34 : decode cX8_addThings 34 = .ok (.iastore, 1) := by decide +kernel
theorem dX8_addThings_35 : decode cX8_addThings 35 = .ok (.iinc 2 1, 3) := by decide +kernel
theorem dX8_addThings_38 : decode cX8_addThings 38 = .ok (.goto (-36), 3) := by decide +kernel
theorem dX8_addThings_41 : decode cX8_addThings 41 = .ok (.iconst 0, 1) := by decide +kernel
theorem dX8_addThings_42 : decode cX8_addThings 42 = .ok (.istore_n 2, 1) := by decide +kernel
theorem dX8_addThings_43 : decode cX8_addThings 43 = .ok (.iload_n 2, 1) := by decide +kernel
theorem dX8_addThings_44 : decode cX8_addThings 44 = .ok (.aload_n 1, 1) := by decide +kernel
theorem dX8_addThings_45 : decode cX8_addThings 45 = .ok (.getfield 82, 3) := by decide +kernel
theorem dX8_addThings_48 : decode cX8_addThings 48 = .ok (.if_icmp .ge 58, 3) := by decide +kernel
theorem dX8_addThings_51 : decode cX8_addThings 51 = .ok (.aload_n 1, 1) := by decide +kernel
theorem dX8_addThings_52 : decode cX8_addThings 52 = .ok (.getfield 85, 3) := by decide +kernel
theorem dX8_addThings_55 : decode cX8_addThings 55 = .ok (.iload_n 2, 1) := by decide +kernel
theorem dX8_addThings_56 : decode cX8_addThings 56 = .ok (.iaload, 1) := by decide +kernel
theorem dX8_addThings_57 : decode cX8_addThings 57 = .ok (.istore_n 3, 1) := by decide +kernel
theorem dX8_addThings_58 : decode cX8_addThings 58 = .ok (.aload_n 0, 1) := by decide +kernel
theorem dX8_addThings_59 : decode cX8_addThings 59 = .ok (.getfield 9, 3) := by decide +kernel
theorem dX8_addThings_62 : decode cX8_addThings 62 = .ok (.iload_n 3, 1) := by decide +kernel
theorem dX8_addThings_63 : decode cX8_addThings 63 = .ok (.dup2, 1) := by decide +kernel
theorem dX8_addThings_64 : decode cX8_addThings 64 = .ok (.laload, 1) := by decide +kernel
theorem dX8_addThings_65 : decode cX8_addThings 65 = .ok (.aload_n 1, 1) := by decide +kernel
theorem dX8_addThings_66 : decode cX8_addThings 66 = .ok (.getfield 88, 3) := by decide +kernel
theorem dX8_addThings_69 : decode cX8_addThings 69 = .ok (.iload_n 2, 1) := by decide +kernel
theorem dX8_addThings_70 : decode cX8_addThings 70 = .ok (.iaload, 1) := by decide +kernel
theorem dX8_addThings_71 : decode cX8_addThings 71 = .ok (.i2l, 1) := by decide +kernel
theorem dX8_addThings_72 : decode cX8_addThings 72 = .ok (.ladd, 1) := by decide +kernel
theorem dX8_addThings_73 : decode cX8_addThings 73 = .ok (.lastore, 1) := by decide +kernel
theorem dX8_addThings_74 : decode cX8_addThings 74 = .ok (.aload_n 0, 1) := by decide +kernel
theorem dX8_addThings_75 : decode cX8_addThings 75 = .ok (.getfield 15, 3) := by decide +kernel
theorem dX8_addThings_78 : decode cX8_addThings 78 = .ok (.iload_n 3, 1) := by decide +kernel
theorem dX8_addThings_79 : decode cX8_addThings 79 = .ok (.dup2, 1) := by decide +kernel
theorem dX8_addThings_80 : decode cX8_addThings 80 = .ok (.laload, 1) := by decide +kernel
theorem dX8_addThings_81 : decode cX8_addThings 81 = .ok (.aload_n 1, 1) := by decide +kernel
theorem dX8_addThings_82 : decode cX8_addThings 82 = .ok (.getfield 91, 3) := by decide +kernel
theorem dX8_addThings_85 : decode cX8_addThings 85 = .ok (.iload_n 2, 1) := by decide +kernel
theorem dX8_addThings_86 : decode cX8_addThings 86 = .ok (.iaload, 1) := by decide +kernel
theorem dX8_addThings_87 : decode cX8_addThings 87 = .ok (.i2l, 1) := by decide +kernel
theorem dX8_addThings_88 : decode cX8_addThings 88 = .ok (.ladd, 1) := by decide +kernel
theorem dX8_addThings_89 : decode cX8_addThings 89 = .ok (.lastore, 1) := by decide +kernel
theorem dX8_addThings_90 : decode cX8_addThings 90 = .ok (.aload_n 0, 1) := by decide +kernel
theorem dX8_addThings_91 : decode cX8_addThings 91 = .ok (.getfield 18, 3) := by decide +kernel
theorem dX8_addThings_94 : decode cX8_addThings 94 = .ok (.iload_n 3, 1) := by decide +kernel
theorem dX8_addThings_95 : decode cX8_addThings 95 = .ok (.dup2, 1) := by decide +kernel
theorem dX8_addThings_96 : decode cX8_addThings 96 = .ok (.iaload, 1) := by decide +kernel
theorem dX8_addThings_97 : decode cX8_addThings 97 = .ok (.iconst 1, 1) := by decide +kernel
theorem dX8_addThings_98 : decode cX8_addThings 98 = .ok (.iadd, 1) := by decide +kernel
theorem dX8_addThings_99 : decode cX8_addThings 99 = .ok (.iastore, 1) := by decide +kernel
theorem dX8_addThings_100 : decode cX8_addThings 100 = .ok (.iinc 2 1, 3) := by decide +kernel
theorem dX8_addThings_103 : decode cX8_addThings 103 = .ok (.goto (-60), 3) := by decide +kernel
theorem dX8_addThings_106 : decode cX8_addThings 106 = .ok (.return_, 1) := by decide +kernel
theorem dX8_addPuts_0 : decode cX8_addPuts 0 = .ok (.aload_n 0, 1) := by decide +kernel
theorem dX8_addPuts_1 : decode cX8_addPuts 1 = .ok (.getfield 22, 3) := by decide +kernel
theorem dX8_addPuts_4 : decode cX8_addPuts 4 = .ok (.lconst 0, 1) := by decide +kernel
theorem dX8_addPuts_5 : decode cX8_addPuts 5 = .ok (.invokestatic 94, 3) := by decide +kernel
theorem dX8_addPuts_8 : decode cX8_addPuts 8 = .ok (.aload_n 0, 1) := by decide +kernel
theorem dX8_addPuts_9 : decode cX8_addPuts 9 = .ok (.getfield 25, 3) := by decide +kernel
theorem dX8_addPuts_12 : decode cX8_addPuts 12 = .ok (.lconst 0, 1) := by decide +kernel
theorem dX8_addPuts_13 : decode cX8_addPuts 13 = .ok (.invokestatic 94, 3) := by decide +kernel
theorem dX8_addPuts_16 : decode cX8_addPuts 16 = .ok (.iconst 0, 1) := by decide +kernel
theorem dX8_addPuts_17 : decode cX8_addPuts 17 = .ok (.istore_n 3, 1) := by decide +kernel
theorem dX8_addPuts_18 : decode cX8_addPuts 18 = .ok (.iload_n 3, 1) := by decide +kernel
theorem dX8_addPuts_19 : decode cX8_addPuts 19 = .ok (.aload_n 1, 1) := by decide +kernel
theorem dX8_addPuts_20 : decode cX8_addPuts 20 = .ok (.getfield 100, 3) := by decide +kernel
theorem dX8_addPuts_23 : decode cX8_addPuts 23 = .ok (.if_icmp .ge 115, 3) := by decide +kernel
theorem dX8_addPuts_26 : decode cX8_addPuts 26 = .ok (.aload_n 1, 1) := by decide +kernel
theorem dX8_addPuts_27 : decode cX8_addPuts 27 = .ok (.getfield 103, 3) := by decide +kernel
theorem dX8_addPuts_30 : decode cX8_addPuts 30 = .ok (.iload_n 3, 1) := by decide +kernel
theorem dX8_addPuts_31 : decode cX8_addPuts 31 = .ok (.iaload, 1) := by decide +kernel
theorem dX8_addPuts_32 : decode cX8_addPuts 32 = .ok (.istore 4, 2) := by decide +kernel
theorem dX8_addPuts_34 : decode cX8_addPuts 34 = .ok (.aload_n 1, 1) := by decide +kernel
theorem dX8_addPuts_35 : decode cX8_addPuts 35 = .ok (.getfield 106, 3) := by decide +kernel
theorem dX8_addPuts_38 : decode cX8_addPuts 38 = .ok (.iload_n 3, 1) := by decide +kernel
theorem dX8_addPuts_39 : decode cX8_addPuts 39 = .ok (.iaload, 1) := by decide +kernel
theorem dX8_addPuts_40 : decode cX8_addPuts 40 = .ok (.istore 5, 2) := by decide +kernel
theorem dX8_addPuts_42 : decode cX8_addPuts 42 = .ok (.aload_n 1, 1) := by decide +kernel
theorem dX8_addPuts_43 : decode cX8_addPuts 43 = .ok (.getfield 109, 3) := by decide +kernel
theorem dX8_addPuts_46 : decode cX8_addPuts 46 = .ok (.iload_n 3, 1) := by decide +kernel
theorem dX8_addPuts_47 : decode cX8_addPuts 47 = .ok (.iaload, 1) := by decide +kernel
theorem dX8_addPuts_48 : decode cX8_addPuts 48 = .ok (.istore 6, 2) := by decide +kernel
theorem dX8_addPuts_50 : decode cX8_addPuts 50 = .ok (.aload_n 1, 1) := by decide +kernel
theorem dX8_addPuts_51 : decode cX8_addPuts 51 = .ok (.getfield 85, 3) := by decide +kernel
theorem dX8_addPuts_54 : decode cX8_addPuts 54 = .ok (.iload 5, 2) := by decide +kernel
theorem dX8_addPuts_56 : decode cX8_addPuts 56 = .ok (.iaload, 1) := by decide +kernel
theorem dX8_addPuts_57 : decode cX8_addPuts 57 = .ok (.istore 7, 2) := by decide +kernel
theorem dX8_addPuts_59 : decode cX8_addPuts 59 = .ok (.aload_n 0, 1) := by decide +kernel
theorem dX8_addPuts_60 : decode cX8_addPuts 60 = .ok (.getfield 15, 3) := by decide +kernel
theorem dX8_addPuts_63 : decode cX8_addPuts 63 = .ok (.iload 7, 2) := by decide +kernel
theorem dX8_addPuts_65 : decode cX8_addPuts 65 = .ok (.dup2, 1) := by decide +kernel
theorem dX8_addPuts_66 : decode cX8_addPuts 66 = .ok (.laload, 1) := by decide +kernel
theorem dX8_addPuts_67 : decode cX8_addPuts 67 = .ok (.iload 4, 2) := by decide +kernel
theorem dX8_addPuts_69 : decode cX8_addPuts 69 = .ok (.i2l, 1) := by decide +kernel
theorem dX8_addPuts_70 : decode cX8_addPuts 70 = .ok (.ladd, 1) := by decide +kernel
theorem dX8_addPuts_71 : decode cX8_addPuts 71 = .ok (.lastore, 1) := by decide +kernel
theorem dX8_addPuts_72 : decode cX8_addPuts 72 = .ok (.iload 6, 2) := by decide +kernel
theorem dX8_addPuts_74 : decode cX8_addPuts 74 = .ok (.iload 7, 2) := by decide +kernel
theorem dX8_addPuts_76 : decode cX8_addPuts 76 = .ok (.if_icmp .eq 56, 3) := by decide +kernel
theorem dX8_addPuts_79 : decode cX8_addPuts 79 = .ok (.aload_n 0, 1) := by decide +kernel
theorem dX8_addPuts_80 : decode cX8_addPuts 80 = .ok (.getfield 22, 3) := by decide +kernel
theorem dX8_addPuts_83 : decode cX8_addPuts 83 = .ok (.iload 6, 2) := by decide +kernel
theorem dX8_addPuts_85 : decode cX8_addPuts 85 = .ok (.iconst 3, 1) := by decide +kernel
theorem dX8_addPuts_86 : decode cX8_addPuts 86 = .ok (.imul, 1) := by decide +kernel
theorem dX8_addPuts_87 : decode cX8_addPuts 87 = .ok (.iload 7, 2) := by decide +kernel
theorem dX8_addPuts_89 : decode cX8_addPuts 89 = .ok (.iadd, 1) := by decide +kernel
theorem dX8_addPuts_90 : decode cX8_addPuts 90 = .ok (.dup2, 1) := by decide +kernel
theorem dX8_addPuts_91 : decode cX8_addPuts 91 = .ok (.laload, 1) := by decide +kernel
theorem dX8_addPuts_92 : decode cX8_addPuts 92 = .ok (.iload 4, 2) := by decide +kernel
theorem dX8_addPuts_94 : decode cX8_addPuts 94 = .ok (.i2l, 1) := by decide +kernel
theorem dX8_addPuts_95 : decode cX8_addPuts 95 = .ok (.ladd, 1) := by decide +kernel
theorem dX8_addPuts_96 : decode cX8_addPuts 96 = .ok (.lastore, 1) := by decide +kernel
theorem dX8_addPuts_97 : decode cX8_addPuts 97 = .ok (.aload_n 0, 1) := by decide +kernel
theorem dX8_addPuts_98 : decode cX8_addPuts 98 = .ok (.getfield 25, 3) := by decide +kernel
theorem dX8_addPuts_101 : decode cX8_addPuts 101 = .ok (.iload 6, 2) := by decide +kernel
theorem dX8_addPuts_103 : decode cX8_addPuts 103 = .ok (.iconst 3, 1) := by decide +kernel
theorem dX8_addPuts_104 : decode cX8_addPuts 104 = .ok (.imul, 1) := by decide +kernel
theorem dX8_addPuts_105 : decode cX8_addPuts 105 = .ok (.iload 7, 2) := by decide +kernel
theorem dX8_addPuts_107 : decode cX8_addPuts 107 = .ok (.iadd, 1) := by decide +kernel
theorem dX8_addPuts_108 : decode cX8_addPuts 108 = .ok (.dup2, 1) := by decide +kernel
theorem dX8_addPuts_109 : decode cX8_addPuts 109 = .ok (.laload, 1) := by decide +kernel
theorem dX8_addPuts_110 : decode cX8_addPuts 110 = .ok (.iload_n 2, 1) := by decide +kernel
theorem dX8_addPuts_111 : decode cX8_addPuts 111 = .ok (.iload 4, 2) := by decide +kernel
theorem dX8_addPuts_113 : decode cX8_addPuts 113 = .ok (.aload_n 1, 1) := by decide +kernel
theorem dX8_addPuts_114 : decode cX8_addPuts 114 = .ok (.getfield 88, 3) := by decide +kernel
theorem dX8_addPuts_117 : decode cX8_addPuts 117 = .ok (.iload 5, 2) := by decide +kernel
theorem dX8_addPuts_119 : decode cX8_addPuts 119 = .ok (.iaload, 1) := by decide +kernel
theorem dX8_addPuts_120 : decode cX8_addPuts 120 = .ok (.aload_n 1, 1) := by decide +kernel
theorem dX8_addPuts_121 : decode cX8_addPuts 121 = .ok (.getfield 112, 3) := by decide +kernel
theorem dX8_addPuts_124 : decode cX8_addPuts 124 = .ok (.iload_n 3, 1) := by decide +kernel
theorem dX8_addPuts_125 : decode cX8_addPuts 125 = .ok (.iaload, 1) := by decide +kernel
theorem dX8_addPuts_126 : decode cX8_addPuts 126 = .ok (.invokestatic 115, 3) := by decide +kernel
theorem dX8_addPuts_129 : decode cX8_addPuts 129 = .ok (.i2l, 1) := by decide +kernel
theorem dX8_addPuts_130 : decode cX8_addPuts 130 = .ok (.ladd, 1) := by decide +kernel
theorem dX8_addPuts_131 : decode cX8_addPuts 131 = .ok (.lastore, 1) := by decide +kernel
theorem dX8_addPuts_132 : decode cX8_addPuts 132 = .ok (.iinc 3 1, 3) := by decide +kernel
theorem dX8_addPuts_135 : decode cX8_addPuts 135 = .ok (.goto (-117), 3) := by decide +kernel
theorem dX8_addPuts_138 : decode cX8_addPuts 138 = .ok (.return_, 1) := by decide +kernel
theorem dX8_claim_0 : decode cX8_claim 0 = .ok (.iload_n 0, 1) := by decide +kernel
theorem dX8_claim_1 : decode cX8_claim 1 = .ok (.ifCond .eq 12, 3) := by decide +kernel
theorem dX8_claim_4 : decode cX8_claim 4 = .ok (.iload_n 0, 1) := by decide +kernel
theorem dX8_claim_5 : decode cX8_claim 5 = .ok (.iconst 1, 1) := by decide +kernel
theorem dX8_claim_6 : decode cX8_claim 6 = .ok (.if_icmp .eq 7, 3) := by decide +kernel
theorem dX8_claim_9 : decode cX8_claim 9 = .ok (.iload_n 3, 1) := by decide +kernel
theorem dX8_claim_10 : decode cX8_claim 10 = .ok (.ifCond .gt 5, 3) := by decide +kernel
theorem dX8_claim_13 : decode cX8_claim 13 = .ok (.iload_n 1, 1) := by decide +kernel
theorem dX8_claim_14 : decode cX8_claim 14 = .ok (.ireturn, 1) := by decide +kernel
theorem dX8_claim_15 : decode cX8_claim 15 = .ok (.iload_n 1, 1) := by decide +kernel
theorem dX8_claim_16 : decode cX8_claim 16 = .ok (.iload_n 2, 1) := by decide +kernel
theorem dX8_claim_17 : decode cX8_claim 17 = .ok (.imul, 1) := by decide +kernel
theorem dX8_claim_18 : decode cX8_claim 18 = .ok (.iload_n 3, 1) := by decide +kernel
theorem dX8_claim_19 : decode cX8_claim 19 = .ok (.idiv, 1) := by decide +kernel
theorem dX8_claim_20 : decode cX8_claim 20 = .ok (.istore 4, 2) := by decide +kernel
theorem dX8_claim_22 : decode cX8_claim 22 = .ok (.iload_n 0, 1) := by decide +kernel
theorem dX8_claim_23 : decode cX8_claim 23 = .ok (.iconst 2, 1) := by decide +kernel
theorem dX8_claim_24 : decode cX8_claim 24 = .ok (.if_icmp .ne 6, 3) := by decide +kernel
theorem dX8_claim_27 : decode cX8_claim 27 = .ok (.iload 4, 2) := by decide +kernel
theorem dX8_claim_29 : decode cX8_claim 29 = .ok (.ireturn, 1) := by decide +kernel
theorem dX8_claim_30 : decode cX8_claim 30 = .ok (.iload_n 0, 1) := by decide +kernel
theorem dX8_claim_31 : decode cX8_claim 31 = .ok (.iconst 3, 1) := by decide +kernel
theorem dX8_claim_32 : decode cX8_claim 32 = .ok (.if_icmp .ne 12, 3) := by decide +kernel
theorem dX8_claim_35 : decode cX8_claim 35 = .ok (.iload_n 1, 1) := by decide +kernel
theorem dX8_claim_36 : decode cX8_claim 36 = .ok (.iload 4, 2) := by decide +kernel
theorem dX8_claim_38 : decode cX8_claim 38 = .ok (.invokestatic 119, 3) := by decide +kernel
theorem dX8_claim_41 : decode cX8_claim 41 = .ok (.goto 9, 3) := by decide +kernel
theorem dX8_claim_44 : decode cX8_claim 44 = .ok (.iload_n 1, 1) := by decide +kernel
theorem dX8_claim_45 : decode cX8_claim 45 = .ok (.iload 4, 2) := by decide +kernel
theorem dX8_claim_47 : decode cX8_claim 47 = .ok (.invokestatic 125, 3) := by decide +kernel
theorem dX8_claim_50 : decode cX8_claim 50 = .ok (.ireturn, 1) := by decide +kernel
theorem dX8_addNets_0 : decode cX8_addNets 0 = .ok (.iconst 0, 1) := by decide +kernel
theorem dX8_addNets_1 : decode cX8_addNets 1 = .ok (.istore_n 1, 1) := by decide +kernel
theorem dX8_addNets_2 : decode cX8_addNets 2 = .ok (.iload_n 1, 1) := by decide +kernel
theorem dX8_addNets_3 : decode cX8_addNets 3 = .ok (.iconst 3, 1) := by decide +kernel
theorem dX8_addNets_4 : decode cX8_addNets 4 = .ok (.if_icmp .ge 64, 3) := by decide +kernel
theorem dX8_addNets_7 : decode cX8_addNets 7 = .ok (.aload_n 0, 1) := by decide +kernel
theorem dX8_addNets_8 : decode cX8_addNets 8 = .ok (.getfield 28, 3) := by decide +kernel
theorem dX8_addNets_11 : decode cX8_addNets 11 = .ok (.iload_n 1, 1) := by decide +kernel
theorem dX8_addNets_12 : decode cX8_addNets 12 = .ok (.aload_n 0, 1) := by decide +kernel
theorem dX8_addNets_13 : decode cX8_addNets 13 = .ok (.getfield 9, 3) := by decide +kernel
theorem dX8_addNets_16 : decode cX8_addNets 16 = .ok (.iload_n 1, 1) := by decide +kernel
theorem dX8_addNets_17 : decode cX8_addNets 17 = .ok (.laload, 1) := by decide +kernel
theorem dX8_addNets_18 : decode cX8_addNets 18 = .ok (.lastore, 1) := by decide +kernel
theorem dX8_addNets_19 : decode cX8_addNets 19 = .ok (.iconst 0, 1) := by decide +kernel
theorem dX8_addNets_20 : decode cX8_addNets 20 = .ok (.istore_n 2, 1) := by decide +kernel
theorem dX8_addNets_21 : decode cX8_addNets 21 = .ok (.iload_n 2, 1) := by decide +kernel
theorem dX8_addNets_22 : decode cX8_addNets 22 = .ok (.iconst 3, 1) := by decide +kernel
theorem dX8_addNets_23 : decode cX8_addNets 23 = .ok (.if_icmp .ge 39, 3) := by decide +kernel
theorem dX8_addNets_26 : decode cX8_addNets 26 = .ok (.aload_n 0, 1) := by decide +kernel
theorem dX8_addNets_27 : decode cX8_addNets 27 = .ok (.getfield 28, 3) := by decide +kernel
theorem dX8_addNets_30 : decode cX8_addNets 30 = .ok (.iload_n 1, 1) := by decide +kernel
theorem dX8_addNets_31 : decode cX8_addNets 31 = .ok (.dup2, 1) := by decide +kernel
theorem dX8_addNets_32 : decode cX8_addNets 32 = .ok (.laload, 1) := by decide +kernel
theorem dX8_addNets_33 : decode cX8_addNets 33 = .ok (.aload_n 0, 1) := by decide +kernel
theorem dX8_addNets_34 : decode cX8_addNets 34 = .ok (.getfield 25, 3) := by decide +kernel
theorem dX8_addNets_37 : decode cX8_addNets 37 = .ok (.iload_n 1, 1) := by decide +kernel
theorem dX8_addNets_38 : decode cX8_addNets 38 = .ok (.iconst 3, 1) := by decide +kernel
theorem dX8_addNets_39 : decode cX8_addNets 39 = .ok (.imul, 1) := by decide +kernel
theorem dX8_addNets_40 : decode cX8_addNets 40 = .ok (.iload_n 2, 1) := by decide +kernel
theorem dX8_addNets_41 : decode cX8_addNets 41 = .ok (.iadd, 1) := by decide +kernel
theorem dX8_addNets_42 : decode cX8_addNets 42 = .ok (.laload, 1) := by decide +kernel
theorem dX8_addNets_43 : decode cX8_addNets 43 = .ok (.aload_n 0, 1) := by decide +kernel
theorem dX8_addNets_44 : decode cX8_addNets 44 = .ok (.getfield 25, 3) := by decide +kernel
theorem dX8_addNets_47 : decode cX8_addNets 47 = .ok (.iload_n 2, 1) := by decide +kernel
theorem dX8_addNets_48 : decode cX8_addNets 48 = .ok (.iconst 3, 1) := by decide +kernel
theorem dX8_addNets_49 : decode cX8_addNets 49 = .ok (.imul, 1) := by decide +kernel
theorem dX8_addNets_50 : decode cX8_addNets 50 = .ok (.iload_n 1, 1) := by decide +kernel
theorem dX8_addNets_51 : decode cX8_addNets 51 = .ok (.iadd, 1) := by decide +kernel
theorem dX8_addNets_52 : decode cX8_addNets 52 = .ok (.laload, 1) := by decide +kernel
theorem dX8_addNets_53 : decode cX8_addNets 53 = .ok (.lsub, 1) := by decide +kernel
theorem dX8_addNets_54 : decode cX8_addNets 54 = .ok (.ladd, 1) := by decide +kernel
theorem dX8_addNets_55 : decode cX8_addNets 55 = .ok (.lastore, 1) := by decide +kernel
theorem dX8_addNets_56 : decode cX8_addNets 56 = .ok (.iinc 2 1, 3) := by decide +kernel
theorem dX8_addNets_59 : decode cX8_addNets 59 = .ok (.goto (-38), 3) := by decide +kernel
theorem dX8_addNets_62 : decode cX8_addNets 62 = .ok (.iinc 1 1, 3) := by decide +kernel
theorem dX8_addNets_65 : decode cX8_addNets 65 = .ok (.goto (-63), 3) := by decide +kernel
theorem dX8_addNets_68 : decode cX8_addNets 68 = .ok (.return_, 1) := by decide +kernel
theorem dX8_solveParts_0 : decode cX8_solveParts 0 = .ok (.iconst 0, 1) := by decide +kernel
theorem dX8_solveParts_1 : decode cX8_solveParts 1 = .ok (.istore_n 1, 1) := by decide +kernel
theorem dX8_solveParts_2 : decode cX8_solveParts 2 = .ok (.iload_n 1, 1) := by decide +kernel
theorem dX8_solveParts_3 : decode cX8_solveParts 3 = .ok (.iconst 3, 1) := by decide +kernel
theorem dX8_solveParts_4 : decode cX8_solveParts 4 = .ok (.if_icmp .ge 78, 3) := by decide +kernel
theorem dX8_solveParts_7 : decode cX8_solveParts 7 = .ok (.aload_n 0, 1) := by decide +kernel
theorem dX8_solveParts_8 : decode cX8_solveParts 8 = .ok (.iload_n 1, 1) := by decide +kernel
theorem dX8_solveParts_9 : decode cX8_solveParts 9 = .ok (.invokevirtual 128, 3) := by decide +kernel
theorem dX8_solveParts_12 : decode cX8_solveParts 12 = .ok (.lstore_n 2, 1) := by decide +kernel
theorem dX8_solveParts_13 : decode cX8_solveParts 13 = .ok (.iconst 0, 1) := by decide +kernel
theorem dX8_solveParts_14 : decode cX8_solveParts 14 = .ok (.istore 4, 2) := by decide +kernel
theorem dX8_solveParts_16 : decode cX8_solveParts 16 = .ok (.iload 4, 2) := by decide +kernel
theorem dX8_solveParts_18 : decode cX8_solveParts 18 = .ok (.iconst 3, 1) := by decide +kernel
theorem dX8_solveParts_19 : decode cX8_solveParts 19 = .ok (.if_icmp .ge 46, 3) := by decide +kernel
theorem dX8_solveParts_22 : decode cX8_solveParts 22 = .ok (.lload_n 2, 1) := by decide +kernel
theorem dX8_solveParts_23 : decode cX8_solveParts 23 = .ok (.aload_n 0, 1) := by decide +kernel
theorem dX8_solveParts_24 : decode cX8_solveParts 24 = .ok (.getfield 22, 3) := by decide +kernel
theorem dX8_solveParts_27 : decode cX8_solveParts 27 = .ok (.iload 4, 2) := by decide +kernel
theorem dX8_solveParts_29 : decode cX8_solveParts 29 = .ok (.iconst 3, 1) := by decide +kernel
theorem dX8_solveParts_30 : decode cX8_solveParts 30 = .ok (.imul, 1) := by decide +kernel
theorem dX8_solveParts_31 : decode cX8_solveParts 31 = .ok (.iload_n 1, 1) := by decide +kernel
theorem dX8_solveParts_32 : decode cX8_solveParts 32 = .ok (.iadd, 1) := by decide +kernel
theorem dX8_solveParts_33 : decode cX8_solveParts 33 = .ok (.laload, 1) := by decide +kernel
theorem dX8_solveParts_34 : decode cX8_solveParts 34 = .ok (.ladd, 1) := by decide +kernel
theorem dX8_solveParts_35 : decode cX8_solveParts 35 = .ok (.lstore_n 2, 1) := by decide +kernel
theorem dX8_solveParts_36 : decode cX8_solveParts 36 = .ok (.aload_n 0, 1) := by decide +kernel
theorem dX8_solveParts_37 : decode cX8_solveParts 37 = .ok (.getfield 38, 3) := by decide +kernel
theorem dX8_solveParts_40 : decode cX8_solveParts 40 = .ok (.iload_n 1, 1) := by decide +kernel
theorem dX8_solveParts_41 : decode cX8_solveParts 41 = .ok (.iconst 3, 1) := by decide +kernel
theorem dX8_solveParts_42 : decode cX8_solveParts 42 = .ok (.imul, 1) := by decide +kernel
theorem dX8_solveParts_43 : decode cX8_solveParts 43 = .ok (.iload 4, 2) := by decide +kernel
theorem dX8_solveParts_45 : decode cX8_solveParts 45 = .ok (.iadd, 1) := by decide +kernel
theorem dX8_solveParts_46 : decode cX8_solveParts 46 = .ok (.aload_n 0, 1) := by decide +kernel
theorem dX8_solveParts_47 : decode cX8_solveParts 47 = .ok (.getfield 22, 3) := by decide +kernel
theorem dX8_solveParts_50 : decode cX8_solveParts 50 = .ok (.iload_n 1, 1) := by decide +kernel
theorem dX8_solveParts_51 : decode cX8_solveParts 51 = .ok (.iconst 3, 1) := by decide +kernel
theorem dX8_solveParts_52 : decode cX8_solveParts 52 = .ok (.imul, 1) := by decide +kernel
theorem dX8_solveParts_53 : decode cX8_solveParts 53 = .ok (.iload 4, 2) := by decide +kernel
theorem dX8_solveParts_55 : decode cX8_solveParts 55 = .ok (.iadd, 1) := by decide +kernel
theorem dX8_solveParts_56 : decode cX8_solveParts 56 = .ok (.laload, 1) := by decide +kernel
theorem dX8_solveParts_57 : decode cX8_solveParts 57 = .ok (.lneg, 1) := by decide +kernel
theorem dX8_solveParts_58 : decode cX8_solveParts 58 = .ok (.lastore, 1) := by decide +kernel
theorem dX8_solveParts_59 : decode cX8_solveParts 59 = .ok (.iinc 4 1, 3) := by decide +kernel
theorem dX8_solveParts_62 : decode cX8_solveParts 62 = .ok (.goto (-46), 3) := by decide +kernel
theorem dX8_solveParts_65 : decode cX8_solveParts 65 = .ok (.aload_n 0, 1) := by decide +kernel
theorem dX8_solveParts_66 : decode cX8_solveParts 66 = .ok (.getfield 38, 3) := by decide +kernel
theorem dX8_solveParts_69 : decode cX8_solveParts 69 = .ok (.iload_n 1, 1) := by decide +kernel
theorem dX8_solveParts_70 : decode cX8_solveParts 70 = .ok (.iconst 3, 1) := by decide +kernel
theorem dX8_solveParts_71 : decode cX8_solveParts 71 = .ok (.imul, 1) := by decide +kernel
theorem dX8_solveParts_72 : decode cX8_solveParts 72 = .ok (.iload_n 1, 1) := by decide +kernel
theorem dX8_solveParts_73 : decode cX8_solveParts 73 = .ok (.iadd, 1) := by decide +kernel
theorem dX8_solveParts_74 : decode cX8_solveParts 74 = .ok (.lload_n 2, 1) := by decide +kernel
theorem dX8_solveParts_75 : decode cX8_solveParts 75 = .ok (.lastore, 1) := by decide +kernel
theorem dX8_solveParts_76 : decode cX8_solveParts 76 = .ok (.iinc 1 1, 3) := by decide +kernel
theorem dX8_solveParts_79 : decode cX8_solveParts 79 = .ok (.goto (-77), 3) := by decide +kernel
theorem dX8_solveParts_82 : decode cX8_solveParts 82 = .ok (.aload_n 0, 1) := by decide +kernel
theorem dX8_solveParts_83 : decode cX8_solveParts 83 = .ok (.aload_n 0, 1) := by decide +kernel
theorem dX8_solveParts_84 : decode cX8_solveParts 84 = .ok (.ldc 132, 2) := by decide +kernel
theorem dX8_solveParts_86 : decode cX8_solveParts 86 = .ok (.invokevirtual 133, 3) := by decide +kernel
theorem dX8_solveParts_89 : decode cX8_solveParts 89 = .ok (.putfield 34, 3) := by decide +kernel
theorem dX8_solveParts_92 : decode cX8_solveParts 92 = .ok (.iconst 0, 1) := by decide +kernel
theorem dX8_solveParts_93 : decode cX8_solveParts 93 = .ok (.istore_n 1, 1) := by decide +kernel
theorem dX8_solveParts_94 : decode cX8_solveParts 94 = .ok (.iload_n 1, 1) := by decide +kernel
theorem dX8_solveParts_95 : decode cX8_solveParts 95 = .ok (.iconst 3, 1) := by decide +kernel
theorem dX8_solveParts_96 : decode cX8_solveParts 96 = .ok (.if_icmp .ge 67, 3) := by decide +kernel
theorem dX8_solveParts_99 : decode cX8_solveParts 99 = .ok (.aload_n 0, 1) := by decide +kernel
theorem dX8_solveParts_100 : decode cX8_solveParts 100 = .ok (.iload_n 1, 1) := by decide +kernel
theorem dX8_solveParts_101 : decode cX8_solveParts 101 = .ok (.invokevirtual 133, 3) := by decide +kernel
theorem dX8_solveParts_104 : decode cX8_solveParts 104 = .ok (.lstore_n 2, 1) := by decide +kernel
theorem dX8_solveParts_105 : decode cX8_solveParts 105 = .ok (.aload_n 0, 1) := by decide +kernel
theorem dX8_solveParts_106 : decode cX8_solveParts 106 = .ok (.getfield 28, 3) := by decide +kernel
theorem dX8_solveParts_109 : decode cX8_solveParts 109 = .ok (.iload_n 1, 1) := by decide +kernel
theorem dX8_solveParts_110 : decode cX8_solveParts 110 = .ok (.aload_n 0, 1) := by decide +kernel
theorem dX8_solveParts_111 : decode cX8_solveParts 111 = .ok (.iload_n 1, 1) := by decide +kernel
theorem dX8_solveParts_112 : decode cX8_solveParts 112 = .ok (.invokevirtual 128, 3) := by decide +kernel
theorem dX8_solveParts_115 : decode cX8_solveParts 115 = .ok (.lload_n 2, 1) := by decide +kernel
theorem dX8_solveParts_116 : decode cX8_solveParts 116 = .ok (.lmul, 1) := by decide +kernel
theorem dX8_solveParts_117 : decode cX8_solveParts 117 = .ok (.lastore, 1) := by decide +kernel
theorem dX8_solveParts_118 : decode cX8_solveParts 118 = .ok (.iconst 0, 1) := by decide +kernel
theorem dX8_solveParts_119 : decode cX8_solveParts 119 = .ok (.istore 4, 2) := by decide +kernel
theorem dX8_solveParts_121 : decode cX8_solveParts 121 = .ok (.iload 4, 2) := by decide +kernel
theorem dX8_solveParts_123 : decode cX8_solveParts 123 = .ok (.iconst 3, 1) := by decide +kernel
theorem dX8_solveParts_124 : decode cX8_solveParts 124 = .ok (.if_icmp .ge 33, 3) := by decide +kernel
theorem dX8_solveParts_127 : decode cX8_solveParts 127 = .ok (.aload_n 0, 1) := by decide +kernel
theorem dX8_solveParts_128 : decode cX8_solveParts 128 = .ok (.getfield 25, 3) := by decide +kernel
theorem dX8_solveParts_131 : decode cX8_solveParts 131 = .ok (.iload 4, 2) := by decide +kernel
theorem dX8_solveParts_133 : decode cX8_solveParts 133 = .ok (.iconst 3, 1) := by decide +kernel
theorem dX8_solveParts_134 : decode cX8_solveParts 134 = .ok (.imul, 1) := by decide +kernel
theorem dX8_solveParts_135 : decode cX8_solveParts 135 = .ok (.iload_n 1, 1) := by decide +kernel
theorem dX8_solveParts_136 : decode cX8_solveParts 136 = .ok (.iadd, 1) := by decide +kernel
theorem dX8_solveParts_137 : decode cX8_solveParts 137 = .ok (.aload_n 0, 1) := by decide +kernel
theorem dX8_solveParts_138 : decode cX8_solveParts 138 = .ok (.getfield 22, 3) := by decide +kernel
theorem dX8_solveParts_141 : decode cX8_solveParts 141 = .ok (.iload 4, 2) := by decide +kernel
theorem dX8_solveParts_143 : decode cX8_solveParts 143 = .ok (.iconst 3, 1) := by decide +kernel
theorem dX8_solveParts_144 : decode cX8_solveParts 144 = .ok (.imul, 1) := by decide +kernel
theorem dX8_solveParts_145 : decode cX8_solveParts 145 = .ok (.iload_n 1, 1) := by decide +kernel
theorem dX8_solveParts_146 : decode cX8_solveParts 146 = .ok (.iadd, 1) := by decide +kernel
theorem dX8_solveParts_147 : decode cX8_solveParts 147 = .ok (.laload, 1) := by decide +kernel
theorem dX8_solveParts_148 : decode cX8_solveParts 148 = .ok (.lload_n 2, 1) := by decide +kernel
theorem dX8_solveParts_149 : decode cX8_solveParts 149 = .ok (.lmul, 1) := by decide +kernel
theorem dX8_solveParts_150 : decode cX8_solveParts 150 = .ok (.lastore, 1) := by decide +kernel
theorem dX8_solveParts_151 : decode cX8_solveParts 151 = .ok (.iinc 4 1, 3) := by decide +kernel
theorem dX8_solveParts_154 : decode cX8_solveParts 154 = .ok (.goto (-33), 3) := by decide +kernel
theorem dX8_solveParts_157 : decode cX8_solveParts 157 = .ok (.iinc 1 1, 3) := by decide +kernel
theorem dX8_solveParts_160 : decode cX8_solveParts 160 = .ok (.goto (-66), 3) := by decide +kernel
theorem dX8_solveParts_163 : decode cX8_solveParts 163 = .ok (.return_, 1) := by decide +kernel
theorem dX8_cameOrOne_0 : decode cX8_cameOrOne 0 = .ok (.aload_n 0, 1) := by decide +kernel
theorem dX8_cameOrOne_1 : decode cX8_cameOrOne 1 = .ok (.getfield 15, 3) := by decide +kernel
theorem dX8_cameOrOne_4 : decode cX8_cameOrOne 4 = .ok (.iload_n 1, 1) := by decide +kernel
theorem dX8_cameOrOne_5 : decode cX8_cameOrOne 5 = .ok (.laload, 1) := by decide +kernel
theorem dX8_cameOrOne_6 : decode cX8_cameOrOne 6 = .ok (.lconst 0, 1) := by decide +kernel
theorem dX8_cameOrOne_7 : decode cX8_cameOrOne 7 = .ok (.lcmp, 1) := by decide +kernel
theorem dX8_cameOrOne_8 : decode cX8_cameOrOne 8 = .ok (.ifCond .ne 7, 3) := by decide +kernel
theorem dX8_cameOrOne_11 : decode cX8_cameOrOne 11 = .ok (.lconst 1, 1) := by decide +kernel
theorem dX8_cameOrOne_12 : decode cX8_cameOrOne 12 = .ok (.goto 9, 3) := by decide +kernel
theorem dX8_cameOrOne_15 : decode cX8_cameOrOne 15 = .ok (.aload_n 0, 1) := by decide +kernel
theorem dX8_cameOrOne_16 : decode cX8_cameOrOne 16 = .ok (.getfield 15, 3) := by decide +kernel
theorem dX8_cameOrOne_19 : decode cX8_cameOrOne 19 = .ok (.iload_n 1, 1) := by decide +kernel
theorem dX8_cameOrOne_20 : decode cX8_cameOrOne 20 = .ok (.laload, 1) := by decide +kernel
theorem dX8_cameOrOne_21 : decode cX8_cameOrOne 21 = .ok (.lreturn, 1) := by decide +kernel
theorem dX8_determinant_0 : decode cX8_determinant 0 = .ok (.aload_n 0, 1) := by decide +kernel
theorem dX8_determinant_1 : decode cX8_determinant 1 = .ok (.iconst 0, 1) := by decide +kernel
theorem dX8_determinant_2 : decode cX8_determinant 2 = .ok (.iconst 0, 1) := by decide +kernel
theorem dX8_determinant_3 : decode cX8_determinant 3 = .ok (.iload_n 1, 1) := by decide +kernel
theorem dX8_determinant_4 : decode cX8_determinant 4 = .ok (.invokevirtual 136, 3) := by decide +kernel
theorem dX8_determinant_7 : decode cX8_determinant 7 = .ok (.aload_n 0, 1) := by decide +kernel
theorem dX8_determinant_8 : decode cX8_determinant 8 = .ok (.iconst 1, 1) := by decide +kernel
theorem dX8_determinant_9 : decode cX8_determinant 9 = .ok (.iconst 2, 1) := by decide +kernel
theorem dX8_determinant_10 : decode cX8_determinant 10 = .ok (.iload_n 1, 1) := by decide +kernel
theorem dX8_determinant_11 : decode cX8_determinant 11 = .ok (.invokevirtual 140, 3) := by decide +kernel
theorem dX8_determinant_14 : decode cX8_determinant 14 = .ok (.lmul, 1) := by decide +kernel
theorem dX8_determinant_15 : decode cX8_determinant 15 = .ok (.aload_n 0, 1) := by decide +kernel
theorem dX8_determinant_16 : decode cX8_determinant 16 = .ok (.iconst 0, 1) := by decide +kernel
theorem dX8_determinant_17 : decode cX8_determinant 17 = .ok (.iconst 1, 1) := by decide +kernel
theorem dX8_determinant_18 : decode cX8_determinant 18 = .ok (.iload_n 1, 1) := by decide +kernel
theorem dX8_determinant_19 : decode cX8_determinant 19 = .ok (.invokevirtual 136, 3) := by decide +kernel
theorem dX8_determinant_22 : decode cX8_determinant 22 = .ok (.aload_n 0, 1) := by decide +kernel
theorem dX8_determinant_23 : decode cX8_determinant 23 = .ok (.iconst 0, 1) := by decide +kernel
theorem dX8_determinant_24 : decode cX8_determinant 24 = .ok (.iconst 2, 1) := by decide +kernel
theorem dX8_determinant_25 : decode cX8_determinant 25 = .ok (.iload_n 1, 1) := by decide +kernel
theorem dX8_determinant_26 : decode cX8_determinant 26 = .ok (.invokevirtual 140, 3) := by decide +kernel
theorem dX8_determinant_29 : decode cX8_determinant 29 = .ok (.lmul, 1) := by decide +kernel
theorem dX8_determinant_30 : decode cX8_determinant 30 = .ok (.lsub, 1) := by decide +kernel
theorem dX8_determinant_31 : decode cX8_determinant 31 = .ok (.aload_n 0, 1) := by decide +kernel
theorem dX8_determinant_32 : decode cX8_determinant 32 = .ok (.iconst 0, 1) := by decide +kernel
theorem dX8_determinant_33 : decode cX8_determinant 33 = .ok (.iconst 2, 1) := by decide +kernel
theorem dX8_determinant_34 : decode cX8_determinant 34 = .ok (.iload_n 1, 1) := by decide +kernel
theorem dX8_determinant_35 : decode cX8_determinant 35 = .ok (.invokevirtual 136, 3) := by decide +kernel
theorem dX8_determinant_38 : decode cX8_determinant 38 = .ok (.aload_n 0, 1) := by decide +kernel
theorem dX8_determinant_39 : decode cX8_determinant 39 = .ok (.iconst 0, 1) := by decide +kernel
theorem dX8_determinant_40 : decode cX8_determinant 40 = .ok (.iconst 1, 1) := by decide +kernel
theorem dX8_determinant_41 : decode cX8_determinant 41 = .ok (.iload_n 1, 1) := by decide +kernel
theorem dX8_determinant_42 : decode cX8_determinant 42 = .ok (.invokevirtual 140, 3) := by decide +kernel
theorem dX8_determinant_45 : decode cX8_determinant 45 = .ok (.lmul, 1) := by decide +kernel
theorem dX8_determinant_46 : decode cX8_determinant 46 = .ok (.ladd, 1) := by decide +kernel
theorem dX8_determinant_47 : decode cX8_determinant 47 = .ok (.lreturn, 1) := by decide +kernel
theorem dX8_minor_0 : decode cX8_minor 0 = .ok (.aload_n 0, 1) := by decide +kernel
theorem dX8_minor_1 : decode cX8_minor 1 = .ok (.iconst 1, 1) := by decide +kernel
theorem dX8_minor_2 : decode cX8_minor 2 = .ok (.iload_n 1, 1) := by decide +kernel
theorem dX8_minor_3 : decode cX8_minor 3 = .ok (.iload_n 3, 1) := by decide +kernel
theorem dX8_minor_4 : decode cX8_minor 4 = .ok (.invokevirtual 136, 3) := by decide +kernel
theorem dX8_minor_7 : decode cX8_minor 7 = .ok (.aload_n 0, 1) := by decide +kernel
theorem dX8_minor_8 : decode cX8_minor 8 = .ok (.iconst 2, 1) := by decide +kernel
theorem dX8_minor_9 : decode cX8_minor 9 = .ok (.iload_n 2, 1) := by decide +kernel
theorem dX8_minor_10 : decode cX8_minor 10 = .ok (.iload_n 3, 1) := by decide +kernel
theorem dX8_minor_11 : decode cX8_minor 11 = .ok (.invokevirtual 136, 3) := by decide +kernel
theorem dX8_minor_14 : decode cX8_minor 14 = .ok (.lmul, 1) := by decide +kernel
theorem dX8_minor_15 : decode cX8_minor 15 = .ok (.aload_n 0, 1) := by decide +kernel
theorem dX8_minor_16 : decode cX8_minor 16 = .ok (.iconst 1, 1) := by decide +kernel
theorem dX8_minor_17 : decode cX8_minor 17 = .ok (.iload_n 2, 1) := by decide +kernel
theorem dX8_minor_18 : decode cX8_minor 18 = .ok (.iload_n 3, 1) := by decide +kernel
theorem dX8_minor_19 : decode cX8_minor 19 = .ok (.invokevirtual 136, 3) := by decide +kernel
theorem dX8_minor_22 : decode cX8_minor 22 = .ok (.aload_n 0, 1) := by decide +kernel
theorem dX8_minor_23 : decode cX8_minor 23 = .ok (.iconst 2, 1) := by decide +kernel
theorem dX8_minor_24 : decode cX8_minor 24 = .ok (.iload_n 1, 1) := by decide +kernel
theorem dX8_minor_25 : decode cX8_minor 25 = .ok (.iload_n 3, 1) := by decide +kernel
theorem dX8_minor_26 : decode cX8_minor 26 = .ok (.invokevirtual 136, 3) := by decide +kernel
theorem dX8_minor_29 : decode cX8_minor 29 = .ok (.lmul, 1) := by decide +kernel
theorem dX8_minor_30 : decode cX8_minor 30 = .ok (.lsub, 1) := by decide +kernel
theorem dX8_minor_31 : decode cX8_minor 31 = .ok (.lreturn, 1) := by decide +kernel
theorem dX8_cell_0 : decode cX8_cell 0 = .ok (.iload_n 2, 1) := by decide +kernel
theorem dX8_cell_1 : decode cX8_cell 1 = .ok (.iload_n 3, 1) := by decide +kernel
theorem dX8_cell_2 : decode cX8_cell 2 = .ok (.if_icmp .ne 12, 3) := by decide +kernel
theorem dX8_cell_5 : decode cX8_cell 5 = .ok (.aload_n 0, 1) := by decide +kernel
theorem dX8_cell_6 : decode cX8_cell 6 = .ok (.getfield 9, 3) := by decide +kernel
theorem dX8_cell_9 : decode cX8_cell 9 = .ok (.iload_n 1, 1) := by decide +kernel
theorem dX8_cell_10 : decode cX8_cell 10 = .ok (.laload, 1) := by decide +kernel
theorem dX8_cell_11 : decode cX8_cell 11 = .ok (.goto 13, 3) := by decide +kernel
theorem dX8_cell_14 : decode cX8_cell 14 = .ok (.aload_n 0, 1) := by decide +kernel
theorem dX8_cell_15 : decode cX8_cell 15 = .ok (.getfield 38, 3) := by decide +kernel
theorem dX8_cell_18 : decode cX8_cell 18 = .ok (.iload_n 1, 1) := by decide +kernel
theorem dX8_cell_19 : decode cX8_cell 19 = .ok (.iconst 3, 1) := by decide +kernel
theorem dX8_cell_20 : decode cX8_cell 20 = .ok (.imul, 1) := by decide +kernel
theorem dX8_cell_21 : decode cX8_cell 21 = .ok (.iload_n 2, 1) := by decide +kernel
theorem dX8_cell_22 : decode cX8_cell 22 = .ok (.iadd, 1) := by decide +kernel
theorem dX8_cell_23 : decode cX8_cell 23 = .ok (.laload, 1) := by decide +kernel
theorem dX8_cell_24 : decode cX8_cell 24 = .ok (.lreturn, 1) := by decide +kernel
theorem dX9_init_0 : decode cX9_init 0 = .ok (.aload_n 0, 1) := by decide +kernel
theorem dX9_init_1 : decode cX9_init 1 = .ok (.invokespecial 1, 3) := by decide +kernel
theorem dX9_init_4 : decode cX9_init 4 = .ok (.aload_n 0, 1) := by decide +kernel
theorem dX9_init_5 : decode cX9_init 5 = .ok (.iload_n 1, 1) := by decide +kernel
theorem dX9_init_6 : decode cX9_init 6 = .ok (.putfield 7, 3) := by decide +kernel
theorem dX9_init_9 : decode cX9_init 9 = .ok (.aload_n 0, 1) := by decide +kernel
theorem dX9_init_10 : decode cX9_init 10 = .ok (.aload_n 2, 1) := by decide +kernel
theorem dX9_init_11 : decode cX9_init 11 = .ok (.putfield 13, 3) := by decide +kernel
theorem dX9_init_14 : decode cX9_init 14 = .ok (.aload_n 0, 1) := by decide +kernel
theorem dX9_init_15 : decode cX9_init 15 = .ok (.aload_n 3, 1) := by decide +kernel
theorem dX9_init_16 : decode cX9_init 16 = .ok (.putfield 17, 3) := by decide +kernel
theorem dX9_init_19 : decode cX9_init 19 = .ok (.return_, 1) := by decide +kernel
theorem dX9_size_0 : decode cX9_size 0 = .ok (.aload_n 0, 1) := by decide +kernel
theorem dX9_size_1 : decode cX9_size 1 = .ok (.getfield 17, 3) := by decide +kernel
theorem dX9_size_4 : decode cX9_size 4 = .ok (.bipush 10, 2) := by decide +kernel
theorem dX9_size_6 : decode cX9_size 6 = .ok (.invokevirtual 21, 3) := by decide +kernel
theorem dX9_size_9 : decode cX9_size 9 = .ok (.aload_n 0, 1) := by decide +kernel
theorem dX9_size_10 : decode cX9_size 10 = .ok (.getfield 13, 3) := by decide +kernel
theorem dX9_size_13 : decode cX9_size 13 = .ok (.getfield 27, 3) := by decide +kernel
theorem dX9_size_16 : decode cX9_size 16 = .ok (.aload_n 0, 1) := by decide +kernel
theorem dX9_size_17 : decode cX9_size 17 = .ok (.getfield 7, 3) := by decide +kernel
theorem dX9_size_20 : decode cX9_size 20 = .ok (.iaload, 1) := by decide +kernel
theorem dX9_size_21 : decode cX9_size 21 = .ok (.i2l, 1) := by decide +kernel
theorem dX9_size_22 : decode cX9_size 22 = .ok (.lreturn, 1) := by decide +kernel
theorem dX9_mark_0 : decode cX9_mark 0 = .ok (.aload_n 0, 1) := by decide +kernel
theorem dX9_mark_1 : decode cX9_mark 1 = .ok (.getfield 17, 3) := by decide +kernel
theorem dX9_mark_4 : decode cX9_mark 4 = .ok (.bipush 20, 2) := by decide +kernel
theorem dX9_mark_6 : decode cX9_mark 6 = .ok (.invokevirtual 21, 3) := by decide +kernel
theorem dX9_mark_9 : decode cX9_mark 9 = .ok (.aload_n 0, 1) := by decide +kernel
theorem dX9_mark_10 : decode cX9_mark 10 = .ok (.getfield 7, 3) := by decide +kernel
theorem dX9_mark_13 : decode cX9_mark 13 = .ok (.i2l, 1) := by decide +kernel
theorem dX9_mark_14 : decode cX9_mark 14 = .ok (.lreturn, 1) := by decide +kernel
theorem dX10_init_0 : decode cX10_init 0 = .ok (.aload_n 0, 1) := by decide +kernel
theorem dX10_init_1 : decode cX10_init 1 = .ok (.invokespecial 1, 3) := by decide +kernel
theorem dX10_init_4 : decode cX10_init 4 = .ok (.aload_n 0, 1) := by decide +kernel
theorem dX10_init_5 : decode cX10_init 5 = .ok (.bipush 16, 2) := by decide +kernel
theorem dX10_init_7 : decode cX10_init 7 = .ok (.newarray .int, 2) := by decide +kernel
theorem dX10_init_9 : decode cX10_init 9 = .ok (.putfield 9, 3) := by decide +kernel
theorem dX10_init_12 : decode cX10_init 12 = .ok (.return_, 1) := by decide +kernel
theorem dX10_clear_0 : decode cX10_clear 0 = .ok (.aload_n 0, 1) := by decide +kernel
theorem dX10_clear_1 : decode cX10_clear 1 = .ok (.iconst 0, 1) := by decide +kernel
theorem dX10_clear_2 : decode cX10_clear 2 = .ok (.putfield 13, 3) := by decide +kernel
theorem dX10_clear_5 : decode cX10_clear 5 = .ok (.return_, 1) := by decide +kernel
theorem dX10_leave_0 : decode cX10_leave 0 = .ok (.aload_n 0, 1) := by decide +kernel
theorem dX10_leave_1 : decode cX10_leave 1 = .ok (.getfield 13, 3) := by decide +kernel
theorem dX10_leave_4 : decode cX10_leave 4 = .ok (.bipush 16, 2) := by decide +kernel
theorem dX10_leave_6 : decode cX10_leave 6 = .ok (.if_icmp .ge 23, 3) := by decide +kernel
theorem dX10_leave_9 : decode cX10_leave 9 = .ok (.aload_n 0, 1) := by decide +kernel
theorem dX10_leave_10 : decode cX10_leave 10 = .ok (.getfield 9, 3) := by decide +kernel
theorem dX10_leave_13 : decode cX10_leave 13 = .ok (.aload_n 0, 1) := by decide +kernel
theorem dX10_leave_14 : decode cX10_leave 14 = .ok (.getfield 13, 3) := by decide +kernel
theorem dX10_leave_17 : decode cX10_leave 17 = .ok (.iload_n 1, 1) := by decide +kernel
theorem dX10_leave_18 : decode cX10_leave 18 = .ok (.iastore, 1) := by decide +kernel
theorem dX10_leave_19 : decode cX10_leave 19 = .ok (.aload_n 0, 1) := by decide +kernel
theorem dX10_leave_20 : decode cX10_leave 20 = .ok (.dup, 1) := by decide +kernel
theorem dX10_leave_21 : decode cX10_leave 21 = .ok (.getfield 13, 3) := by decide +kernel
theorem dX10_leave_24 : decode cX10_leave 24 = .ok (.iconst 1, 1) := by decide +kernel
theorem dX10_leave_25 : decode cX10_leave 25 = .ok (.iadd, 1) := by decide +kernel
theorem dX10_leave_26 : decode cX10_leave 26 = .ok (.putfield 13, 3) := by decide +kernel
theorem dX10_leave_29 : decode cX10_leave 29 = .ok (.return_, 1) := by decide +kernel
theorem dX11_init_0 : decode cX11_init 0 = .ok (.aload_n 0, 1) := by decide +kernel
theorem dX11_init_1 : decode cX11_init 1 = .ok (.invokespecial 3, 3) := by decide +kernel
theorem dX11_init_4 : decode cX11_init 4 = .ok (.aload_n 0, 1) := by decide +kernel
theorem dX11_init_5 : decode cX11_init 5 = .ok (.bipush 8, 2) := by decide +kernel
theorem dX11_init_7 : decode cX11_init 7 = .ok (.newarray .int, 2) := by decide +kernel
theorem dX11_init_9 : decode cX11_init 9 = .ok (.putfield 9, 3) := by decide +kernel
theorem dX11_init_12 : decode cX11_init 12 = .ok (.aload_n 0, 1) := by decide +kernel
theorem dX11_init_13 : decode cX11_init 13 = .ok (.bipush 8, 2) := by decide +kernel
theorem dX11_init_15 : decode cX11_init 15 = .ok (.newarray .int, 2) := by decide +kernel
theorem dX11_init_17 : decode cX11_init 17 = .ok (.putfield 13, 3) := by decide +kernel
theorem dX11_init_20 : decode cX11_init 20 = .ok (.aload_n 0, 1) := by decide +kernel
theorem dX11_init_21 : decode cX11_init 21 = .ok (.sipush 320, 3) := by decide +kernel
theorem dX11_init_24 : decode cX11_init 24 = .ok (.newarray .int, 2) := by decide +kernel
theorem dX11_init_26 : decode cX11_init 26 = .ok (.putfield 16, 3) := by decide +kernel
theorem dX11_init_29 : decode cX11_init 29 = .ok (.aload_n 0, 1) := by decide +kernel
theorem dX11_init_30 : decode cX11_init 30 = .ok (.new 19, 3) := by decide +kernel
theorem dX11_init_33 : decode cX11_init 33 = .ok (.dup, 1) := by decide +kernel
theorem dX11_init_34 : decode cX11_init 34 = .ok (.invokespecial 21, 3) := by decide +kernel
theorem dX11_init_37 : decode cX11_init 37 = .ok (.putfield 22, 3) := by decide +kernel
theorem dX11_init_40 : decode cX11_init 40 = .ok (.aload_n 0, 1) := by decide +kernel
theorem dX11_init_41 : decode cX11_init 41 = .ok (.new 26, 3) := by decide +kernel
theorem dX11_init_44 : decode cX11_init 44 = .ok (.dup, 1) := by decide +kernel
theorem dX11_init_45 : decode cX11_init 45 = .ok (.invokespecial 28, 3) := by decide +kernel
theorem dX11_init_48 : decode cX11_init 48 = .ok (.putfield 29, 3) := by decide +kernel
theorem dX11_init_51 : decode cX11_init 51 = .ok (.aload_n 0, 1) := by decide +kernel
theorem dX11_init_52 : decode cX11_init 52 = .ok (.new 26, 3) := by decide +kernel
theorem dX11_init_55 : decode cX11_init 55 = .ok (.dup, 1) := by decide +kernel
theorem dX11_init_56 : decode cX11_init 56 = .ok (.invokespecial 28, 3) := by decide +kernel
theorem dX11_init_59 : decode cX11_init 59 = .ok (.putfield 33, 3) := by decide +kernel
theorem dX11_init_62 : decode cX11_init 62 = .ok (.aload_n 0, 1) := by decide +kernel
theorem dX11_init_63 : decode cX11_init 63 = .ok (.new 36, 3) := by decide +kernel
theorem dX11_init_66 : decode cX11_init 66 = .ok (.dup, 1) := by decide +kernel
theorem dX11_init_67 : decode cX11_init 67 = .ok (.invokespecial 38, 3) := by decide +kernel
theorem dX11_init_70 : decode cX11_init 70 = .ok (.putfield 39, 3) := by decide +kernel
theorem dX11_init_73 : decode cX11_init 73 = .ok (.aload_n 0, 1) := by decide +kernel
theorem dX11_init_74 : decode cX11_init 74 = .ok (.new 43, 3) := by decide +kernel
theorem dX11_init_77 : decode cX11_init 77 = .ok (.dup, 1) := by decide +kernel
theorem dX11_init_78 : decode cX11_init 78 = .ok (.invokespecial 45, 3) := by decide +kernel
theorem dX11_init_81 : decode cX11_init 81 = .ok (.putfield 46, 3) := by decide +kernel
theorem dX11_init_84 : decode cX11_init 84 = .ok (.aload_n 0, 1) := by decide +kernel
theorem dX11_init_85 : decode cX11_init 85 = .ok (.new 36, 3) := by decide +kernel
theorem dX11_init_88 : decode cX11_init 88 = .ok (.dup, 1) := by decide +kernel
theorem dX11_init_89 : decode cX11_init 89 = .ok (.invokespecial 38, 3) := by decide +kernel
theorem dX11_init_92 : decode cX11_init 92 = .ok (.putfield 50, 3) := by decide +kernel
theorem dX11_init_95 : decode cX11_init 95 = .ok (.aload_n 0, 1) := by decide +kernel
theorem dX11_init_96 : decode cX11_init 96 = .ok (.new 43, 3) := by decide +kernel
theorem dX11_init_99 : decode cX11_init 99 = .ok (.dup, 1) := by decide +kernel
theorem dX11_init_100 : decode cX11_init 100 = .ok (.invokespecial 45, 3) := by decide +kernel
theorem dX11_init_103 : decode cX11_init 103 = .ok (.putfield 53, 3) := by decide +kernel
theorem dX11_init_106 : decode cX11_init 106 = .ok (.aload_n 0, 1) := by decide +kernel
theorem dX11_init_107 : decode cX11_init 107 = .ok (.new 56, 3) := by decide +kernel
theorem dX11_init_110 : decode cX11_init 110 = .ok (.dup, 1) := by decide +kernel
theorem dX11_init_111 : decode cX11_init 111 = .ok (.invokespecial 58, 3) := by decide +kernel
theorem dX11_init_114 : decode cX11_init 114 = .ok (.putfield 59, 3) := by decide +kernel
theorem dX11_init_117 : decode cX11_init 117 = .ok (.aload_n 0, 1) := by decide +kernel
theorem dX11_init_118 : decode cX11_init 118 = .ok (.getfield 13, 3) := by decide +kernel
theorem dX11_init_121 : decode cX11_init 121 = .ok (.iconst (-1), 1) := by decide +kernel
theorem dX11_init_122 : decode cX11_init 122 = .ok (.invokestatic 63, 3) := by decide +kernel
theorem dX11_init_125 : decode cX11_init 125 = .ok (.return_, 1) := by decide +kernel
theorem dX11_row_0 : decode cX11_row 0 = .ok (.iload_n 1, 1) := by decide +kernel
theorem dX11_row_1 : decode cX11_row 1 = .ok (.invokestatic 69, 3) := by decide +kernel
theorem dX11_row_4 : decode cX11_row 4 = .ok (.ifCond .ne 18, 3) := by decide +kernel
theorem dX11_row_7 : decode cX11_row 7 = .ok (.iload_n 2, 1) := by decide +kernel
theorem dX11_row_8 : decode cX11_row 8 = .ok (.ifCond .lt 14, 3) := by decide +kernel
theorem dX11_row_11 : decode cX11_row 11 = .ok (.iload_n 2, 1) := by decide +kernel
theorem dX11_row_12 : decode cX11_row 12 = .ok (.iconst 3, 1) := by decide +kernel
theorem dX11_row_13 : decode cX11_row 13 = .ok (.if_icmp .ge 9, 3) := by decide +kernel
theorem dX11_row_16 : decode cX11_row 16 = .ok (.iload_n 3, 1) := by decide +kernel
theorem dX11_row_17 : decode cX11_row 17 = .ok (.bipush 40, 2) := by decide +kernel
theorem dX11_row_19 : decode cX11_row 19 = .ok (.if_icmp .le 7, 3) := by decide +kernel
theorem dX11_row_22 : decode cX11_row 22 = .ok (.ldc2_w 73, 3) := by decide +kernel
theorem dX11_row_25 : decode cX11_row 25 = .ok (.lreturn, 1) := by decide +kernel
theorem dX11_row_26 : decode cX11_row 26 = .ok (.iload_n 3, 1) := by decide +kernel
theorem dX11_row_27 : decode cX11_row 27 = .ok (.ifCond .ge 9, 3) := by decide +kernel
theorem dX11_row_30 : decode cX11_row 30 = .ok (.aload_n 0, 1) := by decide +kernel
theorem dX11_row_31 : decode cX11_row 31 = .ok (.iconst 4, 1) := by decide +kernel
theorem dX11_row_32 : decode cX11_row 32 = .ok (.invokevirtual 75, 3) := by decide +kernel
theorem dX11_row_35 : decode cX11_row 35 = .ok (.lreturn, 1) := by decide +kernel
theorem dX11_row_36 : decode cX11_row 36 = .ok (.aload_n 0, 1) := by decide +kernel
theorem dX11_row_37 : decode cX11_row 37 = .ok (.getfield 9, 3) := by decide +kernel
theorem dX11_row_40 : decode cX11_row 40 = .ok (.iload_n 1, 1) := by decide +kernel
theorem dX11_row_41 : decode cX11_row 41 = .ok (.iload_n 2, 1) := by decide +kernel
theorem dX11_row_42 : decode cX11_row 42 = .ok (.iastore, 1) := by decide +kernel
theorem dX11_row_43 : decode cX11_row 43 = .ok (.aload_n 0, 1) := by decide +kernel
theorem dX11_row_44 : decode cX11_row 44 = .ok (.getfield 13, 3) := by decide +kernel
theorem dX11_row_47 : decode cX11_row 47 = .ok (.iload_n 1, 1) := by decide +kernel
theorem dX11_row_48 : decode cX11_row 48 = .ok (.iload_n 3, 1) := by decide +kernel
theorem dX11_row_49 : decode cX11_row 49 = .ok (.iastore, 1) := by decide +kernel
theorem dX11_row_50 : decode cX11_row 50 = .ok (.iconst 0, 1) := by decide +kernel
theorem dX11_row_51 : decode cX11_row 51 = .ok (.istore 4, 2) := by decide +kernel
theorem dX11_row_53 : decode cX11_row 53 = .ok (.iload 4, 2) := by decide +kernel
theorem dX11_row_55 : decode cX11_row 55 = .ok (.iload_n 3, 1) := by decide +kernel
theorem dX11_row_56 : decode cX11_row 56 = .ok (.if_icmp .ge 22, 3) := by decide +kernel
theorem dX11_row_59 : decode cX11_row 59 = .ok (.aload_n 0, 1) := by decide +kernel
theorem dX11_row_60 : decode cX11_row 60 = .ok (.getfield 16, 3) := by decide +kernel
theorem dX11_row_63 : decode cX11_row 63 = .ok (.iload_n 1, 1) := by decide +kernel
theorem dX11_row_64 : decode cX11_row 64 = .ok (.bipush 40, 2) := by decide +kernel
theorem dX11_row_66 : decode cX11_row 66 = .ok (.imul, 1) := by decide +kernel
theorem dX11_row_67 : decode cX11_row 67 = .ok (.iload 4, 2) := by decide +kernel
theorem dX11_row_69 : decode cX11_row 69 = .ok (.iadd, 1) := by decide +kernel
theorem dX11_row_70 : decode cX11_row 70 = .ok (.iconst 0, 1) := by decide +kernel
theorem dX11_row_71 : decode cX11_row 71 = .ok (.iastore, 1) := by decide +kernel
theorem dX11_row_72 : decode cX11_row 72 = .ok (.iinc 4 1, 3) := by decide +kernel
theorem dX11_row_75 : decode cX11_row 75 = .ok (.goto (-22), 3) := by decide +kernel
theorem dX11_row_78 : decode cX11_row 78 = .ok (.aload_n 0, 1) := by decide +kernel
theorem dX11_row_79 : decode cX11_row 79 = .ok (.iload_n 3, 1) := by decide +kernel
theorem dX11_row_80 : decode cX11_row 80 = .ok (.i2l, 1) := by decide +kernel
theorem dX11_row_81 : decode cX11_row 81 = .ok (.invokevirtual 79, 3) := by decide +kernel
theorem dX11_row_84 : decode cX11_row 84 = .ok (.lreturn, 1) := by decide +kernel
theorem dX11_set_0 : decode cX11_set 0 = .ok (.iload_n 1, 1) := by decide +kernel
theorem dX11_set_1 : decode cX11_set 1 = .ok (.invokestatic 69, 3) := by decide +kernel
theorem dX11_set_4 : decode cX11_set 4 = .ok (.ifCond .eq 7, 3) := by decide +kernel
theorem dX11_set_7 : decode cX11_set 7 = .ok (.ldc2_w 73, 3) := by decide +kernel
theorem dX11_set_10 : decode cX11_set 10 = .ok (.lreturn, 1) := by decide +kernel
theorem dX11_set_11 : decode cX11_set 11 = .ok (.aload_n 0, 1) := by decide +kernel
theorem dX11_set_12 : decode cX11_set 12 = .ok (.iload_n 1, 1) := by decide +kernel
theorem dX11_set_13 : decode cX11_set 13 = .ok (.invokevirtual 83, 3) := by decide +kernel
theorem dX11_set_16 : decode cX11_set 16 = .ok (.ifCond .eq 9, 3) := by decide +kernel
theorem dX11_set_19 : decode cX11_set 19 = .ok (.aload_n 0, 1) := by decide +kernel
theorem dX11_set_20 : decode cX11_set 20 = .ok (.iconst 1, 1) := by decide +kernel
theorem dX11_set_21 : decode cX11_set 21 = .ok (.invokevirtual 75, 3) := by decide +kernel
theorem dX11_set_24 : decode cX11_set 24 = .ok (.lreturn, 1) := by decide +kernel
theorem dX11_set_25 : decode cX11_set 25 = .ok (.iload_n 2, 1) := by decide +kernel
theorem dX11_set_26 : decode cX11_set 26 = .ok (.ifCond .lt 13, 3) := by decide +kernel
theorem dX11_set_29 : decode cX11_set 29 = .ok (.iload_n 2, 1) := by decide +kernel
theorem dX11_set_30 : decode cX11_set 30 = .ok (.aload_n 0, 1) := by decide +kernel
theorem dX11_set_31 : decode cX11_set 31 = .ok (.getfield 13, 3) := by decide +kernel
theorem dX11_set_34 : decode cX11_set 34 = .ok (.iload_n 1, 1) := by decide +kernel
theorem dX11_set_35 : decode cX11_set 35 = .ok (.iaload, 1) := by decide +kernel
theorem dX11_set_36 : decode cX11_set 36 = .ok (.if_icmp .lt 9, 3) := by decide +kernel
theorem dX11_set_39 : decode cX11_set 39 = .ok (.aload_n 0, 1) := by decide +kernel
theorem dX11_set_40 : decode cX11_set 40 = .ok (.iconst 2, 1) := by decide +kernel
theorem dX11_set_41 : decode cX11_set 41 = .ok (.invokevirtual 75, 3) := by decide +kernel
theorem dX11_set_44 : decode cX11_set 44 = .ok (.lreturn, 1) := by decide +kernel
theorem dX11_set_45 : decode cX11_set 45 = .ok (.iload_n 3, 1) := by decide +kernel
theorem dX11_set_46 : decode cX11_set 46 = .ok (.aload_n 0, 1) := by decide +kernel
theorem dX11_set_47 : decode cX11_set 47 = .ok (.getfield 9, 3) := by decide +kernel
theorem dX11_set_50 : decode cX11_set 50 = .ok (.iload_n 1, 1) := by decide +kernel
theorem dX11_set_51 : decode cX11_set 51 = .ok (.iaload, 1) := by decide +kernel
theorem dX11_set_52 : decode cX11_set 52 = .ok (.invokestatic 86, 3) := by decide +kernel
theorem dX11_set_55 : decode cX11_set 55 = .ok (.istore 4, 2) := by decide +kernel
theorem dX11_set_57 : decode cX11_set 57 = .ok (.aload_n 0, 1) := by decide +kernel
theorem dX11_set_58 : decode cX11_set 58 = .ok (.getfield 16, 3) := by decide +kernel
theorem dX11_set_61 : decode cX11_set 61 = .ok (.iload_n 1, 1) := by decide +kernel
theorem dX11_set_62 : decode cX11_set 62 = .ok (.bipush 40, 2) := by decide +kernel
theorem dX11_set_64 : decode cX11_set 64 = .ok (.imul, 1) := by decide +kernel
theorem dX11_set_65 : decode cX11_set 65 = .ok (.iload_n 2, 1) := by decide +kernel
theorem dX11_set_66 : decode cX11_set 66 = .ok (.iadd, 1) := by decide +kernel
theorem dX11_set_67 : decode cX11_set 67 = .ok (.iload 4, 2) := by decide +kernel
theorem dX11_set_69 : decode cX11_set 69 = .ok (.iastore, 1) := by decide +kernel
theorem dX11_set_70 : decode cX11_set 70 = .ok (.aload_n 0, 1) := by decide +kernel
theorem dX11_set_71 : decode cX11_set 71 = .ok (.iload 4, 2) := by decide +kernel
theorem dX11_set_73 : decode cX11_set 73 = .ok (.i2l, 1) := by decide +kernel
theorem dX11_set_74 : decode cX11_set 74 = .ok (.invokevirtual 79, 3) := by decide +kernel
theorem dX11_set_77 : decode cX11_set 77 = .ok (.lreturn, 1) := by decide +kernel
theorem dX11_copy_0 : decode cX11_copy 0 = .ok (.iload_n 1, 1) := by decide +kernel
theorem dX11_copy_1 : decode cX11_copy 1 = .ok (.invokestatic 69, 3) := by decide +kernel
theorem dX11_copy_4 : decode cX11_copy 4 = .ok (.ifCond .ne 10, 3) := by decide +kernel
theorem dX11_copy_7 : decode cX11_copy 7 = .ok (.iload_n 3, 1) := by decide +kernel
theorem dX11_copy_8 : decode cX11_copy 8 = .ok (.invokestatic 69, 3) := by decide +kernel
theorem dX11_copy_11 : decode cX11_copy 11 = .ok (.ifCond .eq 7, 3) := by decide +kernel
theorem dX11_copy_14 : decode cX11_copy 14 = .ok (.ldc2_w 73, 3) := by decide +kernel
theorem dX11_copy_17 : decode cX11_copy 17 = .ok (.lreturn, 1) := by decide +kernel
theorem dX11_copy_18 : decode cX11_copy 18 = .ok (.aload_n 0, 1) := by decide +kernel
theorem dX11_copy_19 : decode cX11_copy 19 = .ok (.iload_n 1, 1) := by decide +kernel
theorem dX11_copy_20 : decode cX11_copy 20 = .ok (.invokevirtual 83, 3) := by decide +kernel
theorem dX11_copy_23 : decode cX11_copy 23 = .ok (.ifCond .ne 11, 3) := by decide +kernel
theorem dX11_copy_26 : decode cX11_copy 26 = .ok (.aload_n 0, 1) := by decide +kernel
theorem dX11_copy_27 : decode cX11_copy 27 = .ok (.iload_n 3, 1) := by decide +kernel
theorem dX11_copy_28 : decode cX11_copy 28 = .ok (.invokevirtual 83, 3) := by decide +kernel
theorem dX11_copy_31 : decode cX11_copy 31 = .ok (.ifCond .eq 9, 3) := by decide +kernel
theorem dX11_copy_34 : decode cX11_copy 34 = .ok (.aload_n 0, 1) := by decide +kernel
theorem dX11_copy_35 : decode cX11_copy 35 = .ok (.iconst 1, 1) := by decide +kernel
theorem dX11_copy_36 : decode cX11_copy 36 = .ok (.invokevirtual 75, 3) := by decide +kernel
theorem dX11_copy_39 : decode cX11_copy 39 = .ok (.lreturn, 1) := by decide +kernel
theorem dX11_copy_40 : decode cX11_copy 40 = .ok (.aload_n 0, 1) := by decide +kernel
theorem dX11_copy_41 : decode cX11_copy 41 = .ok (.getfield 9, 3) := by decide +kernel
theorem dX11_copy_44 : decode cX11_copy 44 = .ok (.iload_n 1, 1) := by decide +kernel
theorem dX11_copy_45 : decode cX11_copy 45 = .ok (.iaload, 1) := by decide +kernel
theorem dX11_copy_46 : decode cX11_copy 46 = .ok (.aload_n 0, 1) := by decide +kernel
theorem dX11_copy_47 : decode cX11_copy 47 = .ok (.getfield 9, 3) := by decide +kernel
theorem dX11_copy_50 : decode cX11_copy 50 = .ok (.iload_n 3, 1) := by decide +kernel
theorem dX11_copy_51 : decode cX11_copy 51 = .ok (.iaload, 1) := by decide +kernel
theorem dX11_copy_52 : decode cX11_copy 52 = .ok (.if_icmp .eq 9, 3) := by decide +kernel
theorem dX11_copy_55 : decode cX11_copy 55 = .ok (.aload_n 0, 1) := by decide +kernel
theorem dX11_copy_56 : decode cX11_copy 56 = .ok (.iconst 5, 1) := by decide +kernel
theorem dX11_copy_57 : decode cX11_copy 57 = .ok (.invokevirtual 75, 3) := by decide +kernel
theorem dX11_copy_60 : decode cX11_copy 60 = .ok (.lreturn, 1) := by decide +kernel
theorem dX11_copy_61 : decode cX11_copy 61 = .ok (.aload_n 0, 1) := by decide +kernel
theorem dX11_copy_62 : decode cX11_copy 62 = .ok (.iload_n 1, 1) := by decide +kernel
theorem dX11_copy_63 : decode cX11_copy 63 = .ok (.iload_n 2, 1) := by decide +kernel
theorem dX11_copy_64 : decode cX11_copy 64 = .ok (.iload 5, 2) := by decide +kernel
theorem dX11_copy_66 : decode cX11_copy 66 = .ok (.invokevirtual 90, 3) := by decide +kernel
theorem dX11_copy_69 : decode cX11_copy 69 = .ok (.ifCond .ne 15, 3) := by decide +kernel
theorem dX11_copy_72 : decode cX11_copy 72 = .ok (.aload_n 0, 1) := by decide +kernel
theorem dX11_copy_73 : decode cX11_copy 73 = .ok (.iload_n 3, 1) := by decide +kernel
theorem dX11_copy_74 : decode cX11_copy 74 = .ok (.iload 4, 2) := by decide +kernel
theorem dX11_copy_76 : decode cX11_copy 76 = .ok (.iload 5, 2) := by decide +kernel
theorem dX11_copy_78 : decode cX11_copy 78 = .ok (.invokevirtual 90, 3) := by decide +kernel
theorem dX11_copy_81 : decode cX11_copy 81 = .ok (.ifCond .eq 9, 3) := by decide +kernel
theorem dX11_copy_84 : decode cX11_copy 84 = .ok (.aload_n 0, 1) := by decide +kernel
theorem dX11_copy_85 : decode cX11_copy 85 = .ok (.iconst 2, 1) := by decide +kernel
theorem dX11_copy_86 : decode cX11_copy 86 = .ok (.invokevirtual 75, 3) := by decide +kernel
theorem dX11_copy_89 : decode cX11_copy 89 = .ok (.lreturn, 1) := by decide +kernel
theorem dX11_copy_90 : decode cX11_copy 90 = .ok (.aload_n 0, 1) := by decide +kernel
theorem dX11_copy_91 : decode cX11_copy 91 = .ok (.getfield 16, 3) := by decide +kernel
theorem dX11_copy_94 : decode cX11_copy 94 = .ok (.iload_n 1, 1) := by decide +kernel
theorem dX11_copy_95 : decode cX11_copy 95 = .ok (.bipush 40, 2) := by decide +kernel
theorem dX11_copy_97 : decode cX11_copy 97 = .ok (.imul, 1) := by decide +kernel
theorem dX11_copy_98 : decode cX11_copy 98 = .ok (.iload_n 2, 1) := by decide +kernel
theorem dX11_copy_99 : decode cX11_copy 99 = .ok (.iadd, 1) := by decide +kernel
theorem dX11_copy_100 : decode cX11_copy 100 = .ok (.aload_n 0, 1) := by decide +kernel
theorem dX11_copy_101 : decode cX11_copy 101 = .ok (.getfield 16, 3) := by decide +kernel
theorem dX11_copy_104 : decode cX11_copy 104 = .ok (.iload_n 3, 1) := by decide +kernel
theorem dX11_copy_105 : decode cX11_copy 105 = .ok (.bipush 40, 2) := by decide +kernel
theorem dX11_copy_107 : decode cX11_copy 107 = .ok (.imul, 1) := by decide +kernel
theorem dX11_copy_108 : decode cX11_copy 108 = .ok (.iload 4, 2) := by decide +kernel
theorem dX11_copy_110 : decode cX11_copy 110 = .ok (.iadd, 1) := by decide +kernel
theorem dX11_copy_111 : decode cX11_copy 111 = .ok (.iload 5, 2) := by decide +kernel
theorem dX11_copy_113 : decode cX11_copy 113 = .ok (.invokestatic 94, 3) := by decide +kernel
theorem dX11_copy_116 : decode cX11_copy 116 = .ok (.aload_n 0, 1) := by decide +kernel
theorem dX11_copy_117 : decode cX11_copy 117 = .ok (.iload 5, 2) := by decide +kernel
theorem dX11_copy_119 : decode cX11_copy 119 = .ok (.i2l, 1) := by decide +kernel
theorem dX11_copy_120 : decode cX11_copy 120 = .ok (.invokevirtual 79, 3) := by decide +kernel
theorem dX11_copy_123 : decode cX11_copy 123 = .ok (.lreturn, 1) := by decide +kernel
theorem dX11_drop_0 : decode cX11_drop 0 = .ok (.iload_n 1, 1) := by decide +kernel
theorem dX11_drop_1 : decode cX11_drop 1 = .ok (.invokestatic 69, 3) := by decide +kernel
theorem dX11_drop_4 : decode cX11_drop 4 = .ok (.ifCond .eq 7, 3) := by decide +kernel
theorem dX11_drop_7 : decode cX11_drop 7 = .ok (.ldc2_w 73, 3) := by decide +kernel
theorem dX11_drop_10 : decode cX11_drop 10 = .ok (.lreturn, 1) := by decide +kernel
theorem dX11_drop_11 : decode cX11_drop 11 = .ok (.aload_n 0, 1) := by decide +kernel
theorem dX11_drop_12 : decode cX11_drop 12 = .ok (.iload_n 1, 1) := by decide +kernel
theorem dX11_drop_13 : decode cX11_drop 13 = .ok (.invokevirtual 83, 3) := by decide +kernel
theorem dX11_drop_16 : decode cX11_drop 16 = .ok (.ifCond .eq 9, 3) := by decide +kernel
theorem dX11_drop_19 : decode cX11_drop 19 = .ok (.aload_n 0, 1) := by decide +kernel
theorem dX11_drop_20 : decode cX11_drop 20 = .ok (.iconst 1, 1) := by decide +kernel
theorem dX11_drop_21 : decode cX11_drop 21 = .ok (.invokevirtual 75, 3) := by decide +kernel
theorem dX11_drop_24 : decode cX11_drop 24 = .ok (.lreturn, 1) := by decide +kernel
theorem dX11_drop_25 : decode cX11_drop 25 = .ok (.aload_n 0, 1) := by decide +kernel
theorem dX11_drop_26 : decode cX11_drop 26 = .ok (.getfield 13, 3) := by decide +kernel
theorem dX11_drop_29 : decode cX11_drop 29 = .ok (.iload_n 1, 1) := by decide +kernel
theorem dX11_drop_30 : decode cX11_drop 30 = .ok (.iaload, 1) := by decide +kernel
theorem dX11_drop_31 : decode cX11_drop 31 = .ok (.istore_n 2, 1) := by decide +kernel
theorem dX11_drop_32 : decode cX11_drop 32 = .ok (.aload_n 0, 1) := by decide +kernel
theorem dX11_drop_33 : decode cX11_drop 33 = .ok (.getfield 13, 3) := by decide +kernel
theorem dX11_drop_36 : decode cX11_drop 36 = .ok (.iload_n 1, 1) := by decide +kernel
theorem dX11_drop_37 : decode cX11_drop 37 = .ok (.iconst (-1), 1) := by decide +kernel
theorem dX11_drop_38 : decode cX11_drop 38 = .ok (.iastore, 1) := by decide +kernel
theorem dX11_drop_39 : decode cX11_drop 39 = .ok (.aload_n 0, 1) := by decide +kernel
theorem dX11_drop_40 : decode cX11_drop 40 = .ok (.iload_n 2, 1) := by decide +kernel
theorem dX11_drop_41 : decode cX11_drop 41 = .ok (.i2l, 1) := by decide +kernel
theorem dX11_drop_42 : decode cX11_drop 42 = .ok (.invokevirtual 79, 3) := by decide +kernel
theorem dX11_drop_45 : decode cX11_drop 45 = .ok (.lreturn, 1) := by decide +kernel
theorem dX11_isNoRow_0 : decode cX11_isNoRow 0 = .ok (.iload_n 0, 1) := by decide +kernel
theorem dX11_isNoRow_1 : decode cX11_isNoRow 1 = .ok (.ifCond .lt 9, 3) := by decide +kernel
theorem dX11_isNoRow_4 : decode cX11_isNoRow 4 = .ok (.iload_n 0, 1) := by decide +kernel
theorem dX11_isNoRow_5 : decode cX11_isNoRow 5 = .ok (.bipush 8, 2) := by decide +kernel
theorem dX11_isNoRow_7 : decode cX11_isNoRow 7 = .ok (.if_icmp .lt 7, 3) := by decide +kernel
theorem dX11_isNoRow_10 : decode cX11_isNoRow 10 = .ok (.iconst 1, 1) := by decide +kernel
theorem dX11_isNoRow_11 : decode cX11_isNoRow 11 = .ok (.goto 4, 3) := by decide +kernel
theorem dX11_isNoRow_14 : decode cX11_isNoRow 14 = .ok (.iconst 0, 1) := by decide +kernel
theorem dX11_isNoRow_15 : decode cX11_isNoRow 15 = .ok (.ireturn, 1) := by decide +kernel
theorem dX11_isMissing_0 : decode cX11_isMissing 0 = .ok (.aload_n 0, 1) := by decide +kernel
theorem dX11_isMissing_1 : decode cX11_isMissing 1 = .ok (.getfield 13, 3) := by decide +kernel
theorem dX11_isMissing_4 : decode cX11_isMissing 4 = .ok (.iload_n 1, 1) := by decide +kernel
theorem dX11_isMissing_5 : decode cX11_isMissing 5 = .ok (.iaload, 1) := by decide +kernel
theorem dX11_isMissing_6 : decode cX11_isMissing 6 = .ok (.iconst (-1), 1) := by decide +kernel
theorem dX11_isMissing_7 : decode cX11_isMissing 7 = .ok (.if_icmp .ne 7, 3) := by decide +kernel
theorem dX11_isMissing_10 : decode cX11_isMissing 10 = .ok (.iconst 1, 1) := by decide +kernel
theorem dX11_isMissing_11 : decode cX11_isMissing 11 = .ok (.goto 4, 3) := by decide +kernel
theorem dX11_isMissing_14 : decode cX11_isMissing 14 = .ok (.iconst 0, 1) := by decide +kernel
theorem dX11_isMissing_15 : decode cX11_isMissing 15 = .ok (.ireturn, 1) := by decide +kernel
theorem dX11_lacksItems_0 : decode cX11_lacksItems 0 = .ok (.iload_n 2, 1) := by decide +kernel
theorem dX11_lacksItems_1 : decode cX11_lacksItems 1 = .ok (.ifCond .lt 23, 3) := by decide +kernel
theorem dX11_lacksItems_4 : decode cX11_lacksItems 4 = .ok (.iload_n 3, 1) := by decide +kernel
theorem dX11_lacksItems_5 : decode cX11_lacksItems 5 = .ok (.ifCond .lt 19, 3) := by decide +kernel
theorem dX11_lacksItems_8 : decode cX11_lacksItems 8 = .ok (.iload_n 2, 1) := by decide +kernel
theorem dX11_lacksItems_9 : decode cX11_lacksItems 9 = .ok (.i2l, 1) := by decide +kernel
theorem dX11_lacksItems_10 : decode cX11_lacksItems 10 = .ok (.iload_n 3, 1) := by decide +kernel
theorem dX11_lacksItems_11 : decode cX11_lacksItems 11 = .ok (.i2l, 1) := by decide +kernel
theorem dX11_lacksItems_12 : decode cX11_lacksItems 12 = .ok (.ladd, 1) := by decide +kernel
theorem dX11_lacksItems_13 : decode cX11_lacksItems 13 = .ok (.aload_n 0, 1) := by decide +kernel
theorem dX11_lacksItems_14 : decode cX11_lacksItems 14 = .ok (.getfield 13, 3) := by decide +kernel
theorem dX11_lacksItems_17 : decode cX11_lacksItems 17 = .ok (.iload_n 1, 1) := by decide +kernel
theorem dX11_lacksItems_18 : decode cX11_lacksItems 18 = .ok (.iaload, 1) := by decide +kernel
theorem dX11_lacksItems_19 : decode cX11_lacksItems 19 = .ok (.i2l, 1) := by decide +kernel
theorem dX11_lacksItems_20 : decode cX11_lacksItems 20 = .ok (.lcmp, 1) := by decide +kernel
theorem dX11_lacksItems_21 : decode cX11_lacksItems 21 = .ok (.ifCond .le 7, 3) := by decide +kernel
theorem dX11_lacksItems_24 : decode cX11_lacksItems 24 = .ok (.iconst 1, 1) := by decide +kernel
theorem dX11_lacksItems_25 : decode cX11_lacksItems 25 = .ok (.goto 4, 3) := by decide +kernel
theorem dX11_lacksItems_28 : decode cX11_lacksItems 28 = .ok (.iconst 0, 1) := by decide +kernel
theorem dX11_lacksItems_29 : decode cX11_lacksItems 29 = .ok (.ireturn, 1) := by decide +kernel
theorem dX11_lowestBits_0 : decode cX11_lowestBits 0 = .ok (.iload_n 1, 1) := by decide +kernel
theorem dX11_lowestBits_1 : decode cX11_lowestBits 1 = .ok (.ifCond .ne 6, 3) := by decide +kernel
theorem dX11_lowestBits_4 : decode cX11_lowestBits 4 = .ok (.iload_n 0, 1) := by decide +kernel
theorem dX11_lowestBits_5 : decode cX11_lowestBits 5 = .ok (.i2b, 1) := by decide +kernel
theorem dX11_lowestBits_6 : decode cX11_lowestBits 6 = .ok (.ireturn, 1) := by decide +kernel
theorem dX11_lowestBits_7 : decode cX11_lowestBits 7 = .ok (.iload_n 1, 1) := by decide +kernel
theorem dX11_lowestBits_8 : decode cX11_lowestBits 8 = .ok (.iconst 1, 1) := by decide +kernel
theorem dX11_lowestBits_9 : decode cX11_lowestBits 9 = .ok (.if_icmp .ne 8, 3) := by decide +kernel
theorem dX11_lowestBits_12 : decode cX11_lowestBits 12 = .ok (.iload_n 0, 1) := by decide +kernel
theorem dX11_lowestBits_13 : decode cX11_lowestBits 13 = .ok (.i2s, 1) := by decide +kernel
theorem dX11_lowestBits_14 : decode cX11_lowestBits 14 = .ok (.goto 4, 3) := by decide +kernel
theorem dX11_lowestBits_17 : decode cX11_lowestBits 17 = .ok (.iload_n 0, 1) := by decide +kernel
theorem dX11_lowestBits_18 : decode cX11_lowestBits 18 = .ok (.ireturn, 1) := by decide +kernel
theorem dX11_found_0 : decode cX11_found 0 = .ok (.aload_n 0, 1) := by decide +kernel
theorem dX11_found_1 : decode cX11_found 1 = .ok (.iload_n 1, 1) := by decide +kernel
theorem dX11_found_2 : decode cX11_found 2 = .ok (.putfield 100, 3) := by decide +kernel
theorem dX11_found_5 : decode cX11_found 5 = .ok (.ldc2_w 104, 3) := by decide +kernel
theorem dX11_found_8 : decode cX11_found 8 = .ok (.iload_n 1, 1) := by decide +kernel
theorem dX11_found_9 : decode cX11_found 9 = .ok (.i2l, 1) := by decide +kernel
theorem dX11_found_10 : decode cX11_found 10 = .ok (.lsub, 1) := by decide +kernel
theorem dX11_found_11 : decode cX11_found 11 = .ok (.lreturn, 1) := by decide +kernel
theorem dX11_fine_0 : decode cX11_fine 0 = .ok (.aload_n 0, 1) := by decide +kernel
theorem dX11_fine_1 : decode cX11_fine 1 = .ok (.iconst 0, 1) := by decide +kernel
theorem dX11_fine_2 : decode cX11_fine 2 = .ok (.putfield 100, 3) := by decide +kernel
theorem dX11_fine_5 : decode cX11_fine 5 = .ok (.lload_n 1, 1) := by decide +kernel
theorem dX11_fine_6 : decode cX11_fine 6 = .ok (.lreturn, 1) := by decide +kernel
theorem dX11_feed_0 : decode cX11_feed 0 = .ok (.iload_n 3, 1) := by decide +kernel
theorem dX11_feed_1 : decode cX11_feed 1 = .ok (.iconst 1, 1) := by decide +kernel
theorem dX11_feed_2 : decode cX11_feed 2 = .ok (.if_icmp .lt 9, 3) := by decide +kernel
theorem dX11_feed_5 : decode cX11_feed 5 = .ok (.iload_n 3, 1) := by decide +kernel
theorem dX11_feed_6 : decode cX11_feed 6 = .ok (.bipush 8, 2) := by decide +kernel
theorem dX11_feed_8 : decode cX11_feed 8 = .ok (.if_icmp .le 7, 3) := by decide +kernel
theorem dX11_feed_11 : decode cX11_feed 11 = .ok (.ldc2_w 73, 3) := by decide +kernel
theorem dX11_feed_14 : decode cX11_feed 14 = .ok (.lreturn, 1) := by decide +kernel
theorem dX11_feed_15 : decode cX11_feed 15 = .ok (.aload_n 0, 1) := by decide +kernel
theorem dX11_feed_16 : decode cX11_feed 16 = .ok (.getfield 22, 3) := by decide +kernel
theorem dX11_feed_19 : decode cX11_feed 19 = .ok (.getfield 106, 3) := by decide +kernel
theorem dX11_feed_22 : decode cX11_feed 22 = .ok (.iload_n 3, 1) := by decide +kernel
theorem dX11_feed_23 : decode cX11_feed 23 = .ok (.iadd, 1) := by decide +kernel
theorem dX11_feed_24 : decode cX11_feed 24 = .ok (.sipush 500, 3) := by decide +kernel
theorem dX11_feed_27 : decode cX11_feed 27 = .ok (.if_icmp .le 7, 3) := by decide +kernel
theorem dX11_feed_30 : decode cX11_feed 30 = .ok (.ldc2_w 109, 3) := by decide +kernel
theorem dX11_feed_33 : decode cX11_feed 33 = .ok (.lreturn, 1) := by decide +kernel
theorem dX11_feed_34 : decode cX11_feed 34 = .ok (.iload_n 3, 1) := by decide +kernel
theorem dX11_feed_35 : decode cX11_feed 35 = .ok (.iconst 1, 1) := by decide +kernel
theorem dX11_feed_36 : decode cX11_feed 36 = .ok (.isub, 1) := by decide +kernel
theorem dX11_feed_37 : decode cX11_feed 37 = .ok (.istore 4, 2) := by decide +kernel
theorem dX11_feed_39 : decode cX11_feed 39 = .ok (.iload 4, 2) := by decide +kernel
theorem dX11_feed_41 : decode cX11_feed 41 = .ok (.ifCond .lt 25, 3) := by decide +kernel
theorem dX11_feed_44 : decode cX11_feed 44 = .ok (.aload_n 0, 1) := by decide +kernel
theorem dX11_feed_45 : decode cX11_feed 45 = .ok (.getfield 22, 3) := by decide +kernel
theorem dX11_feed_48 : decode cX11_feed 48 = .ok (.lload_n 1, 1) := by decide +kernel
theorem dX11_feed_49 : decode cX11_feed 49 = .ok (.bipush 8, 2) := by decide +kernel
theorem dX11_feed_51 : decode cX11_feed 51 = .ok (.iload 4, 2) := by decide +kernel
theorem dX11_feed_53 : decode cX11_feed 53 = .ok (.imul, 1) := by decide +kernel
theorem dX11_feed_54 : decode cX11_feed 54 = .ok (.lushr, 1) := by decide +kernel
theorem dX11_feed_55 : decode cX11_feed 55 = .ok (.l2i, 1) := by decide +kernel
theorem dX11_feed_56 : decode cX11_feed 56 = .ok (.i2b, 1) := by decide +kernel
theorem dX11_feed_57 : decode cX11_feed 57 = .ok (.invokevirtual 111, 3) := by decide +kernel
theorem dX11_feed_60 : decode cX11_feed 60 = .ok (.iinc 4 (-1), 3) := by decide +kernel
theorem dX11_feed_63 : decode cX11_feed 63 = .ok (.goto (-24), 3) := by decide +kernel
theorem dX11_feed_66 : decode cX11_feed 66 = .ok (.aload_n 0, 1) := by decide +kernel
theorem dX11_feed_67 : decode cX11_feed 67 = .ok (.getfield 22, 3) := by decide +kernel
theorem dX11_feed_70 : decode cX11_feed 70 = .ok (.getfield 106, 3) := by decide +kernel
theorem dX11_feed_73 : decode cX11_feed 73 = .ok (.i2l, 1) := by decide +kernel
theorem dX11_feed_74 : decode cX11_feed 74 = .ok (.lreturn, 1) := by decide +kernel
theorem dX11_life_0 : decode cX11_life 0 = .ok (.aload_n 0, 1) := by decide +kernel
theorem dX11_life_1 : decode cX11_life 1 = .ok (.getfield 22, 3) := by decide +kernel
theorem dX11_life_4 : decode cX11_life 4 = .ok (.aload_n 0, 1) := by decide +kernel
theorem dX11_life_5 : decode cX11_life 5 = .ok (.getfield 33, 3) := by decide +kernel
theorem dX11_life_8 : decode cX11_life 8 = .ok (.invokevirtual 115, 3) := by decide +kernel
theorem dX11_life_11 : decode cX11_life 11 = .ok (.aload_n 0, 1) := by decide +kernel
theorem dX11_life_12 : decode cX11_life 12 = .ok (.getfield 22, 3) := by decide +kernel
theorem dX11_life_15 : decode cX11_life 15 = .ok (.getfield 119, 3) := by decide +kernel
theorem dX11_life_18 : decode cX11_life 18 = .ok (.ifCond .eq 27, 3) := by decide +kernel
theorem dX11_life_21 : decode cX11_life 21 = .ok (.aload_n 0, 1) := by decide +kernel
theorem dX11_life_22 : decode cX11_life 22 = .ok (.aload_n 0, 1) := by decide +kernel
theorem dX11_life_23 : decode cX11_life 23 = .ok (.getfield 22, 3) := by decide +kernel
theorem dX11_life_26 : decode cX11_life 26 = .ok (.getfield 119, 3) := by decide +kernel
theorem dX11_life_29 : decode cX11_life 29 = .ok (.putfield 122, 3) := by decide +kernel
theorem dX11_life_32 : decode cX11_life 32 = .ok (.ldc2_w 125, 3) := by decide +kernel
theorem dX11_life_35 : decode cX11_life 35 = .ok (.aload_n 0, 1) := by decide +kernel
theorem dX11_life_36 : decode cX11_life 36 = .ok (.getfield 22, 3) := by decide +kernel
theorem dX11_life_39 : decode cX11_life 39 = .ok (.getfield 127, 3) := by decide +kernel
theorem dX11_life_42 : decode cX11_life 42 = .ok (.i2l, 1) := by decide +kernel
theorem dX11_life_43 : decode cX11_life 43 = .ok (.lsub, 1) := by decide +kernel
theorem dX11_life_44 : decode cX11_life 44 = .ok (.lreturn, 1) := by decide +kernel
theorem dX11_life_45 : decode cX11_life 45 = .ok (.aload_n 0, 1) := by decide +kernel
theorem dX11_life_46 : decode cX11_life 46 = .ok (.getfield 29, 3) := by decide +kernel
theorem dX11_life_49 : decode cX11_life 49 = .ok (.astore_n 1, 1) := by decide +kernel
theorem dX11_life_50 : decode cX11_life 50 = .ok (.aload_n 0, 1) := by decide +kernel
theorem dX11_life_51 : decode cX11_life 51 = .ok (.aload_n 0, 1) := by decide +kernel
theorem dX11_life_52 : decode cX11_life 52 = .ok (.getfield 33, 3) := by decide +kernel
theorem dX11_life_55 : decode cX11_life 55 = .ok (.putfield 29, 3) := by decide +kernel
theorem dX11_life_58 : decode cX11_life 58 = .ok (.aload_n 0, 1) := by decide +kernel
theorem dX11_life_59 : decode cX11_life 59 = .ok (.aload_n 1, 1) := by decide +kernel
theorem dX11_life_60 : decode cX11_life 60 = .ok (.putfield 33, 3) := by decide +kernel
theorem dX11_life_63 : decode cX11_life 63 = .ok (.aload_n 0, 1) := by decide +kernel
theorem dX11_life_64 : decode cX11_life 64 = .ok (.iconst 1, 1) := by decide +kernel
theorem dX11_life_65 : decode cX11_life 65 = .ok (.putfield 130, 3) := by decide +kernel
theorem dX11_life_68 : decode cX11_life 68 = .ok (.aload_n 0, 1) := by decide +kernel
theorem dX11_life_69 : decode cX11_life 69 = .ok (.getfield 39, 3) := by decide +kernel
theorem dX11_life_72 : decode cX11_life 72 = .ok (.aload_n 0, 1) := by decide +kernel
theorem dX11_life_73 : decode cX11_life 73 = .ok (.getfield 29, 3) := by decide +kernel
theorem dX11_life_76 : decode cX11_life 76 = .ok (.invokevirtual 134, 3) := by decide +kernel
theorem dX11_life_79 : decode cX11_life 79 = .ok (.aload_n 0, 1) := by decide +kernel
theorem dX11_life_80 : decode cX11_life 80 = .ok (.getfield 39, 3) := by decide +kernel
theorem dX11_life_83 : decode cX11_life 83 = .ok (.iconst 0, 1) := by decide +kernel
theorem dX11_life_84 : decode cX11_life 84 = .ok (.aload_n 0, 1) := by decide +kernel
theorem dX11_life_85 : decode cX11_life 85 = .ok (.getfield 29, 3) := by decide +kernel
theorem dX11_life_88 : decode cX11_life 88 = .ok (.getfield 137, 3) := by decide +kernel
theorem dX11_life_91 : decode cX11_life 91 = .ok (.invokevirtual 140, 3) := by decide +kernel
theorem dX11_life_94 : decode cX11_life 94 = .ok (.aload_n 0, 1) := by decide +kernel
theorem dX11_life_95 : decode cX11_life 95 = .ok (.getfield 46, 3) := by decide +kernel
theorem dX11_life_98 : decode cX11_life 98 = .ok (.aload_n 0, 1) := by decide +kernel
theorem dX11_life_99 : decode cX11_life 99 = .ok (.getfield 39, 3) := by decide +kernel
theorem dX11_life_102 : decode cX11_life 102 = .ok (.invokevirtual 144, 3) := by decide +kernel
theorem dX11_life_105 : decode cX11_life 105 = .ok (.aload_n 0, 1) := by decide +kernel
theorem dX11_life_106 : decode cX11_life 106 = .ok (.getfield 29, 3) := by decide +kernel
theorem dX11_life_109 : decode cX11_life 109 = .ok (.getfield 137, 3) := by decide +kernel
theorem dX11_life_112 : decode cX11_life 112 = .ok (.i2l, 1) := by decide +kernel
theorem dX11_life_113 : decode cX11_life 113 = .ok (.lreturn, 1) := by decide +kernel
theorem dX11_fault_0 : decode cX11_fault 0 = .ok (.aload_n 0, 1) := by decide +kernel
theorem dX11_fault_1 : decode cX11_fault 1 = .ok (.getfield 122, 3) := by decide +kernel
theorem dX11_fault_4 : decode cX11_fault 4 = .ok (.ireturn, 1) := by decide +kernel
theorem dX11_whose_0 : decode cX11_whose 0 = .ok (.aload_n 0, 1) := by decide +kernel
theorem dX11_whose_1 : decode cX11_whose 1 = .ok (.iload_n 1, 1) := by decide +kernel
theorem dX11_whose_2 : decode cX11_whose 2 = .ok (.invokevirtual 148, 3) := by decide +kernel
theorem dX11_whose_5 : decode cX11_whose 5 = .ok (.ifCond .ne 10, 3) := by decide +kernel
theorem dX11_whose_8 : decode cX11_whose 8 = .ok (.iload_n 2, 1) := by decide +kernel
theorem dX11_whose_9 : decode cX11_whose 9 = .ok (.invokestatic 151, 3) := by decide +kernel
theorem dX11_whose_12 : decode cX11_whose 12 = .ok (.ifCond .eq 7, 3) := by decide +kernel
theorem dX11_whose_15 : decode cX11_whose 15 = .ok (.ldc2_w 73, 3) := by decide +kernel
theorem dX11_whose_18 : decode cX11_whose 18 = .ok (.lreturn, 1) := by decide +kernel
theorem dX11_whose_19 : decode cX11_whose 19 = .ok (.aload_n 0, 1) := by decide +kernel
theorem dX11_whose_20 : decode cX11_whose 20 = .ok (.getfield 50, 3) := by decide +kernel
theorem dX11_whose_23 : decode cX11_whose 23 = .ok (.aload_n 0, 1) := by decide +kernel
theorem dX11_whose_24 : decode cX11_whose 24 = .ok (.getfield 29, 3) := by decide +kernel
theorem dX11_whose_27 : decode cX11_whose 27 = .ok (.invokevirtual 134, 3) := by decide +kernel
theorem dX11_whose_30 : decode cX11_whose 30 = .ok (.aload_n 0, 1) := by decide +kernel
theorem dX11_whose_31 : decode cX11_whose 31 = .ok (.getfield 50, 3) := by decide +kernel
theorem dX11_whose_34 : decode cX11_whose 34 = .ok (.iconst 0, 1) := by decide +kernel
theorem dX11_whose_35 : decode cX11_whose 35 = .ok (.aload_n 0, 1) := by decide +kernel
theorem dX11_whose_36 : decode cX11_whose 36 = .ok (.getfield 29, 3) := by decide +kernel
theorem dX11_whose_39 : decode cX11_whose 39 = .ok (.iload_n 2, 1) := by decide +kernel
theorem dX11_whose_40 : decode cX11_whose 40 = .ok (.iconst 1, 1) := by decide +kernel
theorem dX11_whose_41 : decode cX11_whose 41 = .ok (.iadd, 1) := by decide +kernel
theorem dX11_whose_42 : decode cX11_whose 42 = .ok (.invokevirtual 154, 3) := by decide +kernel
theorem dX11_whose_45 : decode cX11_whose 45 = .ok (.invokevirtual 140, 3) := by decide +kernel
theorem dX11_whose_48 : decode cX11_whose 48 = .ok (.iload_n 1, 1) := by decide +kernel
theorem dX11_whose_49 : decode cX11_whose 49 = .ok (.aload_n 0, 1) := by decide +kernel
theorem dX11_whose_50 : decode cX11_whose 50 = .ok (.getfield 50, 3) := by decide +kernel
theorem dX11_whose_53 : decode cX11_whose 53 = .ok (.getfield 158, 3) := by decide +kernel
theorem dX11_whose_56 : decode cX11_whose 56 = .ok (.if_icmp .ge 16, 3) := by decide +kernel
theorem dX11_whose_59 : decode cX11_whose 59 = .ok (.aload_n 0, 1) := by decide +kernel
theorem dX11_whose_60 : decode cX11_whose 60 = .ok (.getfield 50, 3) := by decide +kernel
theorem dX11_whose_63 : decode cX11_whose 63 = .ok (.getfield 161, 3) := by decide +kernel
theorem dX11_whose_66 : decode cX11_whose 66 = .ok (.iload_n 1, 1) := by decide +kernel
theorem dX11_whose_67 : decode cX11_whose 67 = .ok (.iaload, 1) := by decide +kernel
theorem dX11_whose_68 : decode cX11_whose 68 = .ok (.i2l, 1) := by decide +kernel
theorem dX11_whose_69 : decode cX11_whose 69 = .ok (.goto 6, 3) := by decide +kernel
theorem dX11_whose_72 : decode cX11_whose 72 = .ok (.ldc2_w 164, 3) := by decide +kernel
theorem dX11_whose_75 : decode cX11_whose 75 = .ok (.lreturn, 1) := by decide +kernel
theorem dX11_thing_0 : decode cX11_thing 0 = .ok (.aload_n 0, 1) := by decide +kernel
theorem dX11_thing_1 : decode cX11_thing 1 = .ok (.iload_n 1, 1) := by decide +kernel
theorem dX11_thing_2 : decode cX11_thing 2 = .ok (.invokevirtual 148, 3) := by decide +kernel
theorem dX11_thing_5 : decode cX11_thing 5 = .ok (.ifCond .eq 7, 3) := by decide +kernel
theorem dX11_thing_8 : decode cX11_thing 8 = .ok (.ldc2_w 73, 3) := by decide +kernel
theorem dX11_thing_11 : decode cX11_thing 11 = .ok (.lreturn, 1) := by decide +kernel
theorem dX11_thing_12 : decode cX11_thing 12 = .ok (.iload_n 2, 1) := by decide +kernel
theorem dX11_thing_13 : decode cX11_thing 13 = .ok (.tableswitch 127 0 6 #[43, 54, 65, 76, 87, 98, 109], 43) := by decide +kernel
theorem dX11_thing_56 : decode cX11_thing 56 = .ok (.aload_n 0, 1) := by decide +kernel
theorem dX11_thing_57 : decode cX11_thing 57 = .ok (.getfield 39, 3) := by decide +kernel
theorem dX11_thing_60 : decode cX11_thing 60 = .ok (.getfield 161, 3) := by decide +kernel
theorem dX11_thing_63 : decode cX11_thing 63 = .ok (.iload_n 1, 1) := by decide +kernel
theorem dX11_thing_64 : decode cX11_thing 64 = .ok (.iaload, 1) := by decide +kernel
theorem dX11_thing_65 : decode cX11_thing 65 = .ok (.i2l, 1) := by decide +kernel
theorem dX11_thing_66 : decode cX11_thing 66 = .ok (.lreturn, 1) := by decide +kernel
theorem dX11_thing_67 : decode cX11_thing 67 = .ok (.aload_n 0, 1) := by decide +kernel
theorem dX11_thing_68 : decode cX11_thing 68 = .ok (.getfield 39, 3) := by decide +kernel
theorem dX11_thing_71 : decode cX11_thing 71 = .ok (.getfield 166, 3) := by decide +kernel
theorem dX11_thing_74 : decode cX11_thing 74 = .ok (.iload_n 1, 1) := by decide +kernel
theorem dX11_thing_75 : decode cX11_thing 75 = .ok (.iaload, 1) := by decide +kernel
theorem dX11_thing_76 : decode cX11_thing 76 = .ok (.i2l, 1) := by decide +kernel
theorem dX11_thing_77 : decode cX11_thing 77 = .ok (.lreturn, 1) := by decide +kernel
theorem dX11_thing_78 : decode cX11_thing 78 = .ok (.aload_n 0, 1) := by decide +kernel
theorem dX11_thing_79 : decode cX11_thing 79 = .ok (.getfield 39, 3) := by decide +kernel
theorem dX11_thing_82 : decode cX11_thing 82 = .ok (.getfield 169, 3) := by decide +kernel
theorem dX11_thing_85 : decode cX11_thing 85 = .ok (.iload_n 1, 1) := by decide +kernel
theorem dX11_thing_86 : decode cX11_thing 86 = .ok (.iaload, 1) := by decide +kernel
theorem dX11_thing_87 : decode cX11_thing 87 = .ok (.i2l, 1) := by decide +kernel
theorem dX11_thing_88 : decode cX11_thing 88 = .ok (.lreturn, 1) := by decide +kernel
theorem dX11_thing_89 : decode cX11_thing 89 = .ok (.aload_n 0, 1) := by decide +kernel
theorem dX11_thing_90 : decode cX11_thing 90 = .ok (.getfield 39, 3) := by decide +kernel
theorem dX11_thing_93 : decode cX11_thing 93 = .ok (.getfield 172, 3) := by decide +kernel
theorem dX11_thing_96 : decode cX11_thing 96 = .ok (.iload_n 1, 1) := by decide +kernel
theorem dX11_thing_97 : decode cX11_thing 97 = .ok (.iaload, 1) := by decide +kernel
theorem dX11_thing_98 : decode cX11_thing 98 = .ok (.i2l, 1) := by decide +kernel
theorem dX11_thing_99 : decode cX11_thing 99 = .ok (.lreturn, 1) := by decide +kernel
theorem dX11_thing_100 : decode cX11_thing 100 = .ok (.aload_n 0, 1) := by decide +kernel
theorem dX11_thing_101 : decode cX11_thing 101 = .ok (.getfield 39, 3) := by decide +kernel
theorem dX11_thing_104 : decode cX11_thing 104 = .ok (.getfield 175, 3) := by decide +kernel
theorem dX11_thing_107 : decode cX11_thing 107 = .ok (.iload_n 1, 1) := by decide +kernel
theorem dX11_thing_108 : decode cX11_thing 108 = .ok (.iaload, 1) := by decide +kernel
theorem dX11_thing_109 : decode cX11_thing 109 = .ok (.i2l, 1) := by decide +kernel
theorem dX11_thing_110 : decode cX11_thing 110 = .ok (.lreturn, 1) := by decide +kernel
theorem dX11_thing_111 : decode cX11_thing 111 = .ok (.aload_n 0, 1) := by decide +kernel
theorem dX11_thing_112 : decode cX11_thing 112 = .ok (.getfield 39, 3) := by decide +kernel
theorem dX11_thing_115 : decode cX11_thing 115 = .ok (.getfield 178, 3) := by decide +kernel
theorem dX11_thing_118 : decode cX11_thing 118 = .ok (.iload_n 1, 1) := by decide +kernel
theorem dX11_thing_119 : decode cX11_thing 119 = .ok (.iaload, 1) := by decide +kernel
theorem dX11_thing_120 : decode cX11_thing 120 = .ok (.i2l, 1) := by decide +kernel
theorem dX11_thing_121 : decode cX11_thing 121 = .ok (.lreturn, 1) := by decide +kernel
theorem dX11_thing_122 : decode cX11_thing 122 = .ok (.aload_n 0, 1) := by decide +kernel
theorem dX11_thing_123 : decode cX11_thing 123 = .ok (.getfield 29, 3) := by decide +kernel
theorem dX11_thing_126 : decode cX11_thing 126 = .ok (.aload_n 0, 1) := by decide +kernel
theorem dX11_thing_127 : decode cX11_thing 127 = .ok (.getfield 39, 3) := by decide +kernel
theorem dX11_thing_130 : decode cX11_thing 130 = .ok (.getfield 169, 3) := by decide +kernel
theorem dX11_thing_133 : decode cX11_thing 133 = .ok (.iload_n 1, 1) := by decide +kernel
theorem dX11_thing_134 : decode cX11_thing 134 = .ok (.iaload, 1) := by decide +kernel
theorem dX11_thing_135 : decode cX11_thing 135 = .ok (.invokevirtual 181, 3) := by decide +kernel
theorem dX11_thing_138 : decode cX11_thing 138 = .ok (.i2l, 1) := by decide +kernel
theorem dX11_thing_139 : decode cX11_thing 139 = .ok (.lreturn, 1) := by decide +kernel
theorem dX11_thing_140 : decode cX11_thing 140 = .ok (.ldc2_w 73, 3) := by decide +kernel
theorem dX11_thing_143 : decode cX11_thing 143 = .ok (.lreturn, 1) := by decide +kernel
theorem dX11_judge_0 : decode cX11_judge 0 = .ok (.iload_n 1, 1) := by decide +kernel
theorem dX11_judge_1 : decode cX11_judge 1 = .ok (.invokestatic 69, 3) := by decide +kernel
theorem dX11_judge_4 : decode cX11_judge 4 = .ok (.ifCond .eq 7, 3) := by decide +kernel
theorem dX11_judge_7 : decode cX11_judge 7 = .ok (.ldc2_w 73, 3) := by decide +kernel
theorem dX11_judge_10 : decode cX11_judge 10 = .ok (.lreturn, 1) := by decide +kernel
theorem dX11_judge_11 : decode cX11_judge 11 = .ok (.aload_n 0, 1) := by decide +kernel
theorem dX11_judge_12 : decode cX11_judge 12 = .ok (.getfield 130, 3) := by decide +kernel
end
section
theorem dX11_judge_15 : decode cX11_judge 15 = .ok (.ifCond .ne 7, 3) := by decide +kernel
theorem dX11_judge_18 : decode cX11_judge 18 = .ok (.ldc2_w 184, 3) := by decide +kernel
theorem dX11_judge_21 : decode cX11_judge 21 = .ok (.lreturn, 1) := by decide +kernel
theorem dX11_judge_22 : decode cX11_judge 22 = .ok (.aload_n 0, 1) := by decide +kernel
theorem dX11_judge_23 : decode cX11_judge 23 = .ok (.iload_n 1, 1) := by decide +kernel
theorem dX11_judge_24 : decode cX11_judge 24 = .ok (.invokevirtual 83, 3) := by decide +kernel
theorem dX11_judge_27 : decode cX11_judge 27 = .ok (.ifCond .eq 9, 3) := by decide +kernel
theorem dX11_judge_30 : decode cX11_judge 30 = .ok (.aload_n 0, 1) := by decide +kernel
theorem dX11_judge_31 : decode cX11_judge 31 = .ok (.iconst 1, 1) := by decide +kernel
theorem dX11_judge_32 : decode cX11_judge 32 = .ok (.invokevirtual 75, 3) := by decide +kernel
theorem dX11_judge_35 : decode cX11_judge 35 = .ok (.lreturn, 1) := by decide +kernel
theorem dX11_judge_36 : decode cX11_judge 36 = .ok (.aload_n 0, 1) := by decide +kernel
theorem dX11_judge_37 : decode cX11_judge 37 = .ok (.iload_n 1, 1) := by decide +kernel
theorem dX11_judge_38 : decode cX11_judge 38 = .ok (.iload_n 2, 1) := by decide +kernel
theorem dX11_judge_39 : decode cX11_judge 39 = .ok (.aload_n 0, 1) := by decide +kernel
theorem dX11_judge_40 : decode cX11_judge 40 = .ok (.getfield 39, 3) := by decide +kernel
theorem dX11_judge_43 : decode cX11_judge 43 = .ok (.getfield 158, 3) := by decide +kernel
theorem dX11_judge_46 : decode cX11_judge 46 = .ok (.invokevirtual 90, 3) := by decide +kernel
theorem dX11_judge_49 : decode cX11_judge 49 = .ok (.ifCond .eq 9, 3) := by decide +kernel
theorem dX11_judge_52 : decode cX11_judge 52 = .ok (.aload_n 0, 1) := by decide +kernel
theorem dX11_judge_53 : decode cX11_judge 53 = .ok (.iconst 2, 1) := by decide +kernel
theorem dX11_judge_54 : decode cX11_judge 54 = .ok (.invokevirtual 75, 3) := by decide +kernel
theorem dX11_judge_57 : decode cX11_judge 57 = .ok (.lreturn, 1) := by decide +kernel
theorem dX11_judge_58 : decode cX11_judge 58 = .ok (.iload_n 1, 1) := by decide +kernel
theorem dX11_judge_59 : decode cX11_judge 59 = .ok (.bipush 40, 2) := by decide +kernel
theorem dX11_judge_61 : decode cX11_judge 61 = .ok (.imul, 1) := by decide +kernel
theorem dX11_judge_62 : decode cX11_judge 62 = .ok (.iload_n 2, 1) := by decide +kernel
theorem dX11_judge_63 : decode cX11_judge 63 = .ok (.iadd, 1) := by decide +kernel
theorem dX11_judge_64 : decode cX11_judge 64 = .ok (.istore_n 3, 1) := by decide +kernel
theorem dX11_judge_65 : decode cX11_judge 65 = .ok (.iconst 0, 1) := by decide +kernel
theorem dX11_judge_66 : decode cX11_judge 66 = .ok (.istore 4, 2) := by decide +kernel
theorem dX11_judge_68 : decode cX11_judge 68 = .ok (.iload 4, 2) := by decide +kernel
theorem dX11_judge_70 : decode cX11_judge 70 = .ok (.aload_n 0, 1) := by decide +kernel
theorem dX11_judge_71 : decode cX11_judge 71 = .ok (.getfield 39, 3) := by decide +kernel
theorem dX11_judge_74 : decode cX11_judge 74 = .ok (.getfield 158, 3) := by decide +kernel
theorem dX11_judge_77 : decode cX11_judge 77 = .ok (.if_icmp .ge 28, 3) := by decide +kernel
theorem dX11_judge_80 : decode cX11_judge 80 = .ok (.aload_n 0, 1) := by decide +kernel
theorem dX11_judge_81 : decode cX11_judge 81 = .ok (.getfield 16, 3) := by decide +kernel
theorem dX11_judge_84 : decode cX11_judge 84 = .ok (.iload_n 3, 1) := by decide +kernel
theorem dX11_judge_85 : decode cX11_judge 85 = .ok (.iload 4, 2) := by decide +kernel
theorem dX11_judge_87 : decode cX11_judge 87 = .ok (.iadd, 1) := by decide +kernel
theorem dX11_judge_88 : decode cX11_judge 88 = .ok (.iaload, 1) := by decide +kernel
theorem dX11_judge_89 : decode cX11_judge 89 = .ok (.invokestatic 186, 3) := by decide +kernel
theorem dX11_judge_92 : decode cX11_judge 92 = .ok (.ifCond .eq 7, 3) := by decide +kernel
theorem dX11_judge_95 : decode cX11_judge 95 = .ok (.ldc2_w 73, 3) := by decide +kernel
theorem dX11_judge_98 : decode cX11_judge 98 = .ok (.lreturn, 1) := by decide +kernel
theorem dX11_judge_99 : decode cX11_judge 99 = .ok (.iinc 4 1, 3) := by decide +kernel
theorem dX11_judge_102 : decode cX11_judge 102 = .ok (.goto (-34), 3) := by decide +kernel
theorem dX11_judge_105 : decode cX11_judge 105 = .ok (.iconst 0, 1) := by decide +kernel
theorem dX11_judge_106 : decode cX11_judge 106 = .ok (.istore 4, 2) := by decide +kernel
theorem dX11_judge_108 : decode cX11_judge 108 = .ok (.iload 4, 2) := by decide +kernel
theorem dX11_judge_110 : decode cX11_judge 110 = .ok (.aload_n 0, 1) := by decide +kernel
theorem dX11_judge_111 : decode cX11_judge 111 = .ok (.getfield 39, 3) := by decide +kernel
theorem dX11_judge_114 : decode cX11_judge 114 = .ok (.getfield 158, 3) := by decide +kernel
theorem dX11_judge_117 : decode cX11_judge 117 = .ok (.if_icmp .ge 39, 3) := by decide +kernel
theorem dX11_judge_120 : decode cX11_judge 120 = .ok (.aload_n 0, 1) := by decide +kernel
theorem dX11_judge_121 : decode cX11_judge 121 = .ok (.getfield 16, 3) := by decide +kernel
theorem dX11_judge_124 : decode cX11_judge 124 = .ok (.iload_n 3, 1) := by decide +kernel
theorem dX11_judge_125 : decode cX11_judge 125 = .ok (.iload 4, 2) := by decide +kernel
theorem dX11_judge_127 : decode cX11_judge 127 = .ok (.iadd, 1) := by decide +kernel
theorem dX11_judge_128 : decode cX11_judge 128 = .ok (.iaload, 1) := by decide +kernel
theorem dX11_judge_129 : decode cX11_judge 129 = .ok (.aload_n 0, 1) := by decide +kernel
theorem dX11_judge_130 : decode cX11_judge 130 = .ok (.getfield 39, 3) := by decide +kernel
theorem dX11_judge_133 : decode cX11_judge 133 = .ok (.getfield 161, 3) := by decide +kernel
theorem dX11_judge_136 : decode cX11_judge 136 = .ok (.iload 4, 2) := by decide +kernel
theorem dX11_judge_138 : decode cX11_judge 138 = .ok (.iaload, 1) := by decide +kernel
theorem dX11_judge_139 : decode cX11_judge 139 = .ok (.if_icmp .eq 11, 3) := by decide +kernel
theorem dX11_judge_142 : decode cX11_judge 142 = .ok (.aload_n 0, 1) := by decide +kernel
theorem dX11_judge_143 : decode cX11_judge 143 = .ok (.iload 4, 2) := by decide +kernel
theorem dX11_judge_145 : decode cX11_judge 145 = .ok (.i2l, 1) := by decide +kernel
theorem dX11_judge_146 : decode cX11_judge 146 = .ok (.invokevirtual 79, 3) := by decide +kernel
theorem dX11_judge_149 : decode cX11_judge 149 = .ok (.lreturn, 1) := by decide +kernel
theorem dX11_judge_150 : decode cX11_judge 150 = .ok (.iinc 4 1, 3) := by decide +kernel
theorem dX11_judge_153 : decode cX11_judge 153 = .ok (.goto (-45), 3) := by decide +kernel
theorem dX11_judge_156 : decode cX11_judge 156 = .ok (.aload_n 0, 1) := by decide +kernel
theorem dX11_judge_157 : decode cX11_judge 157 = .ok (.ldc2_w 164, 3) := by decide +kernel
theorem dX11_judge_160 : decode cX11_judge 160 = .ok (.invokevirtual 79, 3) := by decide +kernel
theorem dX11_judge_163 : decode cX11_judge 163 = .ok (.lreturn, 1) := by decide +kernel
theorem dX11_isNoThing_0 : decode cX11_isNoThing 0 = .ok (.iload_n 1, 1) := by decide +kernel
theorem dX11_isNoThing_1 : decode cX11_isNoThing 1 = .ok (.ifCond .lt 14, 3) := by decide +kernel
theorem dX11_isNoThing_4 : decode cX11_isNoThing 4 = .ok (.iload_n 1, 1) := by decide +kernel
theorem dX11_isNoThing_5 : decode cX11_isNoThing 5 = .ok (.aload_n 0, 1) := by decide +kernel
theorem dX11_isNoThing_6 : decode cX11_isNoThing 6 = .ok (.getfield 39, 3) := by decide +kernel
theorem dX11_isNoThing_9 : decode cX11_isNoThing 9 = .ok (.getfield 158, 3) := by decide +kernel
theorem dX11_isNoThing_12 : decode cX11_isNoThing 12 = .ok (.if_icmp .lt 7, 3) := by decide +kernel
theorem dX11_isNoThing_15 : decode cX11_isNoThing 15 = .ok (.iconst 1, 1) := by decide +kernel
theorem dX11_isNoThing_16 : decode cX11_isNoThing 16 = .ok (.goto 4, 3) := by decide +kernel
theorem dX11_isNoThing_19 : decode cX11_isNoThing 19 = .ok (.iconst 0, 1) := by decide +kernel
theorem dX11_isNoThing_20 : decode cX11_isNoThing 20 = .ok (.ireturn, 1) := by decide +kernel
theorem dX11_isNoDay_0 : decode cX11_isNoDay 0 = .ok (.iload_n 0, 1) := by decide +kernel
theorem dX11_isNoDay_1 : decode cX11_isNoDay 1 = .ok (.ifCond .lt 10, 3) := by decide +kernel
theorem dX11_isNoDay_4 : decode cX11_isNoDay 4 = .ok (.iload_n 0, 1) := by decide +kernel
theorem dX11_isNoDay_5 : decode cX11_isNoDay 5 = .ok (.sipush 999, 3) := by decide +kernel
theorem dX11_isNoDay_8 : decode cX11_isNoDay 8 = .ok (.if_icmp .le 7, 3) := by decide +kernel
theorem dX11_isNoDay_11 : decode cX11_isNoDay 11 = .ok (.iconst 1, 1) := by decide +kernel
theorem dX11_isNoDay_12 : decode cX11_isNoDay 12 = .ok (.goto 4, 3) := by decide +kernel
theorem dX11_isNoDay_15 : decode cX11_isNoDay 15 = .ok (.iconst 0, 1) := by decide +kernel
theorem dX11_isNoDay_16 : decode cX11_isNoDay 16 = .ok (.ireturn, 1) := by decide +kernel
theorem dX11_isNoPurse_0 : decode cX11_isNoPurse 0 = .ok (.iload_n 0, 1) := by decide +kernel
theorem dX11_isNoPurse_1 : decode cX11_isNoPurse 1 = .ok (.ifCond .lt 8, 3) := by decide +kernel
theorem dX11_isNoPurse_4 : decode cX11_isNoPurse 4 = .ok (.iload_n 0, 1) := by decide +kernel
theorem dX11_isNoPurse_5 : decode cX11_isNoPurse 5 = .ok (.iconst 3, 1) := by decide +kernel
theorem dX11_isNoPurse_6 : decode cX11_isNoPurse 6 = .ok (.if_icmp .lt 7, 3) := by decide +kernel
theorem dX11_isNoPurse_9 : decode cX11_isNoPurse 9 = .ok (.iconst 1, 1) := by decide +kernel
theorem dX11_isNoPurse_10 : decode cX11_isNoPurse 10 = .ok (.goto 4, 3) := by decide +kernel
theorem dX11_isNoPurse_13 : decode cX11_isNoPurse 13 = .ok (.iconst 0, 1) := by decide +kernel
theorem dX11_isNoPurse_14 : decode cX11_isNoPurse 14 = .ok (.ireturn, 1) := by decide +kernel
theorem dX11_purse_0 : decode cX11_purse 0 = .ok (.iload_n 1, 1) := by decide +kernel
theorem dX11_purse_1 : decode cX11_purse 1 = .ok (.invokestatic 186, 3) := by decide +kernel
theorem dX11_purse_4 : decode cX11_purse 4 = .ok (.ifCond .eq 7, 3) := by decide +kernel
theorem dX11_purse_7 : decode cX11_purse 7 = .ok (.ldc2_w 73, 3) := by decide +kernel
theorem dX11_purse_10 : decode cX11_purse 10 = .ok (.lreturn, 1) := by decide +kernel
theorem dX11_purse_11 : decode cX11_purse 11 = .ok (.iload_n 2, 1) := by decide +kernel
theorem dX11_purse_12 : decode cX11_purse 12 = .ok (.tableswitch 74 0 3 #[32, 42, 52, 63], 32) := by decide +kernel
theorem dX11_purse_44 : decode cX11_purse 44 = .ok (.aload_n 0, 1) := by decide +kernel
theorem dX11_purse_45 : decode cX11_purse 45 = .ok (.getfield 46, 3) := by decide +kernel
theorem dX11_purse_48 : decode cX11_purse 48 = .ok (.getfield 189, 3) := by decide +kernel
theorem dX11_purse_51 : decode cX11_purse 51 = .ok (.iload_n 1, 1) := by decide +kernel
theorem dX11_purse_52 : decode cX11_purse 52 = .ok (.laload, 1) := by decide +kernel
theorem dX11_purse_53 : decode cX11_purse 53 = .ok (.lreturn, 1) := by decide +kernel
theorem dX11_purse_54 : decode cX11_purse 54 = .ok (.aload_n 0, 1) := by decide +kernel
theorem dX11_purse_55 : decode cX11_purse 55 = .ok (.getfield 46, 3) := by decide +kernel
theorem dX11_purse_58 : decode cX11_purse 58 = .ok (.getfield 193, 3) := by decide +kernel
theorem dX11_purse_61 : decode cX11_purse 61 = .ok (.iload_n 1, 1) := by decide +kernel
theorem dX11_purse_62 : decode cX11_purse 62 = .ok (.laload, 1) := by decide +kernel
theorem dX11_purse_63 : decode cX11_purse 63 = .ok (.lreturn, 1) := by decide +kernel
theorem dX11_purse_64 : decode cX11_purse 64 = .ok (.aload_n 0, 1) := by decide +kernel
theorem dX11_purse_65 : decode cX11_purse 65 = .ok (.getfield 39, 3) := by decide +kernel
theorem dX11_purse_68 : decode cX11_purse 68 = .ok (.getfield 196, 3) := by decide +kernel
theorem dX11_purse_71 : decode cX11_purse 71 = .ok (.iload_n 1, 1) := by decide +kernel
theorem dX11_purse_72 : decode cX11_purse 72 = .ok (.iaload, 1) := by decide +kernel
theorem dX11_purse_73 : decode cX11_purse 73 = .ok (.i2l, 1) := by decide +kernel
theorem dX11_purse_74 : decode cX11_purse 74 = .ok (.lreturn, 1) := by decide +kernel
theorem dX11_purse_75 : decode cX11_purse 75 = .ok (.aload_n 0, 1) := by decide +kernel
theorem dX11_purse_76 : decode cX11_purse 76 = .ok (.getfield 46, 3) := by decide +kernel
theorem dX11_purse_79 : decode cX11_purse 79 = .ok (.getfield 199, 3) := by decide +kernel
theorem dX11_purse_82 : decode cX11_purse 82 = .ok (.iload_n 1, 1) := by decide +kernel
theorem dX11_purse_83 : decode cX11_purse 83 = .ok (.iaload, 1) := by decide +kernel
theorem dX11_purse_84 : decode cX11_purse 84 = .ok (.i2l, 1) := by decide +kernel
theorem dX11_purse_85 : decode cX11_purse 85 = .ok (.lreturn, 1) := by decide +kernel
theorem dX11_purse_86 : decode cX11_purse 86 = .ok (.ldc2_w 73, 3) := by decide +kernel
theorem dX11_purse_89 : decode cX11_purse 89 = .ok (.lreturn, 1) := by decide +kernel
theorem dX11_fed_0 : decode cX11_fed 0 = .ok (.iload_n 1, 1) := by decide +kernel
theorem dX11_fed_1 : decode cX11_fed 1 = .ok (.iload_n 2, 1) := by decide +kernel
theorem dX11_fed_2 : decode cX11_fed 2 = .ok (.invokestatic 202, 3) := by decide +kernel
theorem dX11_fed_5 : decode cX11_fed 5 = .ok (.ifCond .eq 7, 3) := by decide +kernel
theorem dX11_fed_8 : decode cX11_fed 8 = .ok (.ldc2_w 73, 3) := by decide +kernel
theorem dX11_fed_11 : decode cX11_fed 11 = .ok (.lreturn, 1) := by decide +kernel
theorem dX11_fed_12 : decode cX11_fed 12 = .ok (.aload_n 0, 1) := by decide +kernel
theorem dX11_fed_13 : decode cX11_fed 13 = .ok (.getfield 46, 3) := by decide +kernel
theorem dX11_fed_16 : decode cX11_fed 16 = .ok (.getfield 206, 3) := by decide +kernel
theorem dX11_fed_19 : decode cX11_fed 19 = .ok (.iload_n 1, 1) := by decide +kernel
theorem dX11_fed_20 : decode cX11_fed 20 = .ok (.iconst 3, 1) := by decide +kernel
theorem dX11_fed_21 : decode cX11_fed 21 = .ok (.imul, 1) := by decide +kernel
theorem dX11_fed_22 : decode cX11_fed 22 = .ok (.iload_n 2, 1) := by decide +kernel
theorem dX11_fed_23 : decode cX11_fed 23 = .ok (.iadd, 1) := by decide +kernel
theorem dX11_fed_24 : decode cX11_fed 24 = .ok (.laload, 1) := by decide +kernel
theorem dX11_fed_25 : decode cX11_fed 25 = .ok (.lreturn, 1) := by decide +kernel
theorem dX11_owed_0 : decode cX11_owed 0 = .ok (.iload_n 1, 1) := by decide +kernel
theorem dX11_owed_1 : decode cX11_owed 1 = .ok (.iload_n 2, 1) := by decide +kernel
theorem dX11_owed_2 : decode cX11_owed 2 = .ok (.invokestatic 202, 3) := by decide +kernel
theorem dX11_owed_5 : decode cX11_owed 5 = .ok (.ifCond .ne 10, 3) := by decide +kernel
theorem dX11_owed_8 : decode cX11_owed 8 = .ok (.iload_n 3, 1) := by decide +kernel
theorem dX11_owed_9 : decode cX11_owed 9 = .ok (.invokestatic 209, 3) := by decide +kernel
theorem dX11_owed_12 : decode cX11_owed 12 = .ok (.ifCond .eq 7, 3) := by decide +kernel
theorem dX11_owed_15 : decode cX11_owed 15 = .ok (.ldc2_w 73, 3) := by decide +kernel
theorem dX11_owed_18 : decode cX11_owed 18 = .ok (.lreturn, 1) := by decide +kernel
theorem dX11_owed_19 : decode cX11_owed 19 = .ok (.aload_n 0, 1) := by decide +kernel
theorem dX11_owed_20 : decode cX11_owed 20 = .ok (.getfield 130, 3) := by decide +kernel
theorem dX11_owed_23 : decode cX11_owed 23 = .ok (.ifCond .ne 7, 3) := by decide +kernel
theorem dX11_owed_26 : decode cX11_owed 26 = .ok (.ldc2_w 184, 3) := by decide +kernel
theorem dX11_owed_29 : decode cX11_owed 29 = .ok (.lreturn, 1) := by decide +kernel
theorem dX11_owed_30 : decode cX11_owed 30 = .ok (.aload_n 0, 1) := by decide +kernel
theorem dX11_owed_31 : decode cX11_owed 31 = .ok (.getfield 46, 3) := by decide +kernel
theorem dX11_owed_34 : decode cX11_owed 34 = .ok (.getfield 212, 3) := by decide +kernel
theorem dX11_owed_37 : decode cX11_owed 37 = .ok (.iload_n 1, 1) := by decide +kernel
theorem dX11_owed_38 : decode cX11_owed 38 = .ok (.iconst 3, 1) := by decide +kernel
theorem dX11_owed_39 : decode cX11_owed 39 = .ok (.imul, 1) := by decide +kernel
theorem dX11_owed_40 : decode cX11_owed 40 = .ok (.iload_n 2, 1) := by decide +kernel
theorem dX11_owed_41 : decode cX11_owed 41 = .ok (.iadd, 1) := by decide +kernel
theorem dX11_owed_42 : decode cX11_owed 42 = .ok (.laload, 1) := by decide +kernel
theorem dX11_owed_43 : decode cX11_owed 43 = .ok (.aload_n 0, 1) := by decide +kernel
theorem dX11_owed_44 : decode cX11_owed 44 = .ok (.getfield 46, 3) := by decide +kernel
theorem dX11_owed_47 : decode cX11_owed 47 = .ok (.getfield 215, 3) := by decide +kernel
theorem dX11_owed_50 : decode cX11_owed 50 = .ok (.iload_n 3, 1) := by decide +kernel
theorem dX11_owed_51 : decode cX11_owed 51 = .ok (.invokestatic 219, 3) := by decide +kernel
theorem dX11_owed_54 : decode cX11_owed 54 = .ok (.lreturn, 1) := by decide +kernel
theorem dX11_net_0 : decode cX11_net 0 = .ok (.iload_n 1, 1) := by decide +kernel
theorem dX11_net_1 : decode cX11_net 1 = .ok (.invokestatic 186, 3) := by decide +kernel
theorem dX11_net_4 : decode cX11_net 4 = .ok (.ifCond .ne 10, 3) := by decide +kernel
theorem dX11_net_7 : decode cX11_net 7 = .ok (.iload_n 2, 1) := by decide +kernel
theorem dX11_net_8 : decode cX11_net 8 = .ok (.invokestatic 209, 3) := by decide +kernel
theorem dX11_net_11 : decode cX11_net 11 = .ok (.ifCond .eq 7, 3) := by decide +kernel
theorem dX11_net_14 : decode cX11_net 14 = .ok (.ldc2_w 73, 3) := by decide +kernel
theorem dX11_net_17 : decode cX11_net 17 = .ok (.lreturn, 1) := by decide +kernel
theorem dX11_net_18 : decode cX11_net 18 = .ok (.aload_n 0, 1) := by decide +kernel
theorem dX11_net_19 : decode cX11_net 19 = .ok (.getfield 130, 3) := by decide +kernel
theorem dX11_net_22 : decode cX11_net 22 = .ok (.ifCond .ne 7, 3) := by decide +kernel
theorem dX11_net_25 : decode cX11_net 25 = .ok (.ldc2_w 184, 3) := by decide +kernel
theorem dX11_net_28 : decode cX11_net 28 = .ok (.lreturn, 1) := by decide +kernel
theorem dX11_net_29 : decode cX11_net 29 = .ok (.aload_n 0, 1) := by decide +kernel
theorem dX11_net_30 : decode cX11_net 30 = .ok (.getfield 46, 3) := by decide +kernel
theorem dX11_net_33 : decode cX11_net 33 = .ok (.getfield 223, 3) := by decide +kernel
theorem dX11_net_36 : decode cX11_net 36 = .ok (.iload_n 1, 1) := by decide +kernel
theorem dX11_net_37 : decode cX11_net 37 = .ok (.laload, 1) := by decide +kernel
theorem dX11_net_38 : decode cX11_net 38 = .ok (.aload_n 0, 1) := by decide +kernel
theorem dX11_net_39 : decode cX11_net 39 = .ok (.getfield 46, 3) := by decide +kernel
theorem dX11_net_42 : decode cX11_net 42 = .ok (.getfield 215, 3) := by decide +kernel
theorem dX11_net_45 : decode cX11_net 45 = .ok (.iload_n 2, 1) := by decide +kernel
theorem dX11_net_46 : decode cX11_net 46 = .ok (.invokestatic 219, 3) := by decide +kernel
theorem dX11_net_49 : decode cX11_net 49 = .ok (.lreturn, 1) := by decide +kernel
theorem dX11_end_0 : decode cX11_end 0 = .ok (.iload_n 1, 1) := by decide +kernel
theorem dX11_end_1 : decode cX11_end 1 = .ok (.ifCond .lt 15, 3) := by decide +kernel
theorem dX11_end_4 : decode cX11_end 4 = .ok (.iload_n 1, 1) := by decide +kernel
theorem dX11_end_5 : decode cX11_end 5 = .ok (.iconst 1, 1) := by decide +kernel
theorem dX11_end_6 : decode cX11_end 6 = .ok (.if_icmp .gt 10, 3) := by decide +kernel
theorem dX11_end_9 : decode cX11_end 9 = .ok (.iload_n 2, 1) := by decide +kernel
theorem dX11_end_10 : decode cX11_end 10 = .ok (.invokestatic 209, 3) := by decide +kernel
theorem dX11_end_13 : decode cX11_end 13 = .ok (.ifCond .eq 7, 3) := by decide +kernel
theorem dX11_end_16 : decode cX11_end 16 = .ok (.ldc2_w 73, 3) := by decide +kernel
theorem dX11_end_19 : decode cX11_end 19 = .ok (.lreturn, 1) := by decide +kernel
theorem dX11_end_20 : decode cX11_end 20 = .ok (.aload_n 0, 1) := by decide +kernel
theorem dX11_end_21 : decode cX11_end 21 = .ok (.getfield 130, 3) := by decide +kernel
theorem dX11_end_24 : decode cX11_end 24 = .ok (.ifCond .ne 7, 3) := by decide +kernel
theorem dX11_end_27 : decode cX11_end 27 = .ok (.ldc2_w 184, 3) := by decide +kernel
theorem dX11_end_30 : decode cX11_end 30 = .ok (.lreturn, 1) := by decide +kernel
theorem dX11_end_31 : decode cX11_end 31 = .ok (.aload_n 0, 1) := by decide +kernel
theorem dX11_end_32 : decode cX11_end 32 = .ok (.getfield 46, 3) := by decide +kernel
theorem dX11_end_35 : decode cX11_end 35 = .ok (.getfield 226, 3) := by decide +kernel
theorem dX11_end_38 : decode cX11_end 38 = .ok (.iload_n 1, 1) := by decide +kernel
theorem dX11_end_39 : decode cX11_end 39 = .ok (.laload, 1) := by decide +kernel
theorem dX11_end_40 : decode cX11_end 40 = .ok (.aload_n 0, 1) := by decide +kernel
theorem dX11_end_41 : decode cX11_end 41 = .ok (.getfield 46, 3) := by decide +kernel
theorem dX11_end_44 : decode cX11_end 44 = .ok (.invokevirtual 229, 3) := by decide +kernel
theorem dX11_end_47 : decode cX11_end 47 = .ok (.iload_n 2, 1) := by decide +kernel
theorem dX11_end_48 : decode cX11_end 48 = .ok (.invokestatic 219, 3) := by decide +kernel
theorem dX11_end_51 : decode cX11_end 51 = .ok (.lreturn, 1) := by decide +kernel
theorem dX11_areNoPair_0 : decode cX11_areNoPair 0 = .ok (.iload_n 0, 1) := by decide +kernel
theorem dX11_areNoPair_1 : decode cX11_areNoPair 1 = .ok (.invokestatic 186, 3) := by decide +kernel
theorem dX11_areNoPair_4 : decode cX11_areNoPair 4 = .ok (.ifCond .ne 15, 3) := by decide +kernel
theorem dX11_areNoPair_7 : decode cX11_areNoPair 7 = .ok (.iload_n 1, 1) := by decide +kernel
theorem dX11_areNoPair_8 : decode cX11_areNoPair 8 = .ok (.invokestatic 186, 3) := by decide +kernel
theorem dX11_areNoPair_11 : decode cX11_areNoPair 11 = .ok (.ifCond .ne 8, 3) := by decide +kernel
theorem dX11_areNoPair_14 : decode cX11_areNoPair 14 = .ok (.iload_n 0, 1) := by decide +kernel
theorem dX11_areNoPair_15 : decode cX11_areNoPair 15 = .ok (.iload_n 1, 1) := by decide +kernel
theorem dX11_areNoPair_16 : decode cX11_areNoPair 16 = .ok (.if_icmp .ne 7, 3) := by decide +kernel
theorem dX11_areNoPair_19 : decode cX11_areNoPair 19 = .ok (.iconst 1, 1) := by decide +kernel
theorem dX11_areNoPair_20 : decode cX11_areNoPair 20 = .ok (.goto 4, 3) := by decide +kernel
theorem dX11_areNoPair_23 : decode cX11_areNoPair 23 = .ok (.iconst 0, 1) := by decide +kernel
theorem dX11_areNoPair_24 : decode cX11_areNoPair 24 = .ok (.ireturn, 1) := by decide +kernel
theorem dX11_isNoPart_0 : decode cX11_isNoPart 0 = .ok (.iload_n 0, 1) := by decide +kernel
theorem dX11_isNoPart_1 : decode cX11_isNoPart 1 = .ok (.ifCond .lt 8, 3) := by decide +kernel
theorem dX11_isNoPart_4 : decode cX11_isNoPart 4 = .ok (.iload_n 0, 1) := by decide +kernel
theorem dX11_isNoPart_5 : decode cX11_isNoPart 5 = .ok (.iconst 1, 1) := by decide +kernel
theorem dX11_isNoPart_6 : decode cX11_isNoPart 6 = .ok (.if_icmp .le 7, 3) := by decide +kernel
theorem dX11_isNoPart_9 : decode cX11_isNoPart 9 = .ok (.iconst 1, 1) := by decide +kernel
theorem dX11_isNoPart_10 : decode cX11_isNoPart 10 = .ok (.goto 4, 3) := by decide +kernel
theorem dX11_isNoPart_13 : decode cX11_isNoPart 13 = .ok (.iconst 0, 1) := by decide +kernel
theorem dX11_isNoPart_14 : decode cX11_isNoPart 14 = .ok (.ireturn, 1) := by decide +kernel
theorem dX11_partOf_0 : decode cX11_partOf 0 = .ok (.lload_n 0, 1) := by decide +kernel
theorem dX11_partOf_1 : decode cX11_partOf 1 = .ok (.invokestatic 233, 3) := by decide +kernel
theorem dX11_partOf_4 : decode cX11_partOf 4 = .ok (.lload_n 2, 1) := by decide +kernel
theorem dX11_partOf_5 : decode cX11_partOf 5 = .ok (.invokestatic 238, 3) := by decide +kernel
theorem dX11_partOf_8 : decode cX11_partOf 8 = .ok (.lstore 5, 2) := by decide +kernel
theorem dX11_partOf_10 : decode cX11_partOf 10 = .ok (.lload 5, 2) := by decide +kernel
theorem dX11_partOf_12 : decode cX11_partOf 12 = .ok (.lconst 0, 1) := by decide +kernel
theorem dX11_partOf_13 : decode cX11_partOf 13 = .ok (.lcmp, 1) := by decide +kernel
theorem dX11_partOf_14 : decode cX11_partOf 14 = .ok (.ifCond .gt 7, 3) := by decide +kernel
theorem dX11_partOf_17 : decode cX11_partOf 17 = .ok (.iload 4, 2) := by decide +kernel
theorem dX11_partOf_19 : decode cX11_partOf 19 = .ok (.i2l, 1) := by decide +kernel
theorem dX11_partOf_20 : decode cX11_partOf 20 = .ok (.lreturn, 1) := by decide +kernel
theorem dX11_partOf_21 : decode cX11_partOf 21 = .ok (.iload 4, 2) := by decide +kernel
theorem dX11_partOf_23 : decode cX11_partOf 23 = .ok (.ifCond .ne 7, 3) := by decide +kernel
theorem dX11_partOf_26 : decode cX11_partOf 26 = .ok (.lload_n 0, 1) := by decide +kernel
theorem dX11_partOf_27 : decode cX11_partOf 27 = .ok (.goto 4, 3) := by decide +kernel
theorem dX11_partOf_30 : decode cX11_partOf 30 = .ok (.lload_n 2, 1) := by decide +kernel
theorem dX11_partOf_31 : decode cX11_partOf 31 = .ok (.lload 5, 2) := by decide +kernel
theorem dX11_partOf_33 : decode cX11_partOf 33 = .ok (.ldiv, 1) := by decide +kernel
theorem dX11_partOf_34 : decode cX11_partOf 34 = .ok (.lreturn, 1) := by decide +kernel
theorem dX11_commonDivisor_0 : decode cX11_commonDivisor 0 = .ok (.lload_n 0, 1) := by decide +kernel
theorem dX11_commonDivisor_1 : decode cX11_commonDivisor 1 = .ok (.lstore 4, 2) := by decide +kernel
theorem dX11_commonDivisor_3 : decode cX11_commonDivisor 3 = .ok (.lload_n 2, 1) := by decide +kernel
theorem dX11_commonDivisor_4 : decode cX11_commonDivisor 4 = .ok (.lstore 6, 2) := by decide +kernel
theorem dX11_commonDivisor_6 : decode cX11_commonDivisor 6 = .ok (.iconst 0, 1) := by decide +kernel
theorem dX11_commonDivisor_7 : decode cX11_commonDivisor 7 = .ok (.istore 8, 2) := by decide +kernel
theorem dX11_commonDivisor_9 : decode cX11_commonDivisor 9 = .ok (.iload 8, 2) := by decide +kernel
theorem dX11_commonDivisor_11 : decode cX11_commonDivisor 11 = .ok (.sipush 128, 3) := by decide +kernel
theorem dX11_commonDivisor_14 : decode cX11_commonDivisor 14 = .ok (.if_icmp .ge 31, 3) := by decide +kernel
theorem dX11_commonDivisor_17 : decode cX11_commonDivisor 17 = .ok (.lload 6, 2) := by decide +kernel
theorem dX11_commonDivisor_19 : decode cX11_commonDivisor 19 = .ok (.lconst 0, 1) := by decide +kernel
theorem dX11_commonDivisor_20 : decode cX11_commonDivisor 20 = .ok (.lcmp, 1) := by decide +kernel
theorem dX11_commonDivisor_21 : decode cX11_commonDivisor 21 = .ok (.ifCond .eq 24, 3) := by decide +kernel
theorem dX11_commonDivisor_24 : decode cX11_commonDivisor 24 = .ok (.lload 4, 2) := by decide +kernel
theorem dX11_commonDivisor_26 : decode cX11_commonDivisor 26 = .ok (.lload 6, 2) := by decide +kernel
theorem dX11_commonDivisor_28 : decode cX11_commonDivisor 28 = .ok (.lrem, 1) := by decide +kernel
theorem dX11_commonDivisor_29 : decode cX11_commonDivisor 29 = .ok (.lstore 9, 2) := by decide +kernel
theorem dX11_commonDivisor_31 : decode cX11_commonDivisor 31 = .ok (.lload 6, 2) := by decide +kernel
theorem dX11_commonDivisor_33 : decode cX11_commonDivisor 33 = .ok (.lstore 4, 2) := by decide +kernel
theorem dX11_commonDivisor_35 : decode cX11_commonDivisor 35 = .ok (.lload 9, 2) := by decide +kernel
theorem dX11_commonDivisor_37 : decode cX11_commonDivisor 37 = .ok (.lstore 6, 2) := by decide +kernel
theorem dX11_commonDivisor_39 : decode cX11_commonDivisor 39 = .ok (.iinc 8 1, 3) := by decide +kernel
theorem dX11_commonDivisor_42 : decode cX11_commonDivisor 42 = .ok (.goto (-33), 3) := by decide +kernel
theorem dX11_commonDivisor_45 : decode cX11_commonDivisor 45 = .ok (.lload 4, 2) := by decide +kernel
theorem dX11_commonDivisor_47 : decode cX11_commonDivisor 47 = .ok (.lreturn, 1) := by decide +kernel
theorem dX11_beside_0 : decode cX11_beside 0 = .ok (.aload_n 0, 1) := by decide +kernel
theorem dX11_beside_1 : decode cX11_beside 1 = .ok (.getfield 130, 3) := by decide +kernel
theorem dX11_beside_4 : decode cX11_beside 4 = .ok (.ifCond .ne 7, 3) := by decide +kernel
theorem dX11_beside_7 : decode cX11_beside 7 = .ok (.ldc2_w 184, 3) := by decide +kernel
theorem dX11_beside_10 : decode cX11_beside 10 = .ok (.lreturn, 1) := by decide +kernel
theorem dX11_beside_11 : decode cX11_beside 11 = .ok (.iload_n 1, 1) := by decide +kernel
theorem dX11_beside_12 : decode cX11_beside 12 = .ok (.ifCond .lt 28, 3) := by decide +kernel
theorem dX11_beside_15 : decode cX11_beside 15 = .ok (.iload_n 1, 1) := by decide +kernel
theorem dX11_beside_16 : decode cX11_beside 16 = .ok (.aload_n 0, 1) := by decide +kernel
theorem dX11_beside_17 : decode cX11_beside 17 = .ok (.getfield 29, 3) := by decide +kernel
theorem dX11_beside_20 : decode cX11_beside 20 = .ok (.getfield 242, 3) := by decide +kernel
theorem dX11_beside_23 : decode cX11_beside 23 = .ok (.if_icmp .ge 17, 3) := by decide +kernel
theorem dX11_beside_26 : decode cX11_beside 26 = .ok (.iload_n 2, 1) := by decide +kernel
theorem dX11_beside_27 : decode cX11_beside 27 = .ok (.invokestatic 151, 3) := by decide +kernel
theorem dX11_beside_30 : decode cX11_beside 30 = .ok (.ifCond .ne 10, 3) := by decide +kernel
theorem dX11_beside_33 : decode cX11_beside 33 = .ok (.iload_n 3, 1) := by decide +kernel
theorem dX11_beside_34 : decode cX11_beside 34 = .ok (.invokestatic 209, 3) := by decide +kernel
theorem dX11_beside_37 : decode cX11_beside 37 = .ok (.ifCond .eq 7, 3) := by decide +kernel
theorem dX11_beside_40 : decode cX11_beside 40 = .ok (.ldc2_w 73, 3) := by decide +kernel
theorem dX11_beside_43 : decode cX11_beside 43 = .ok (.lreturn, 1) := by decide +kernel
theorem dX11_beside_44 : decode cX11_beside 44 = .ok (.aload_n 0, 1) := by decide +kernel
theorem dX11_beside_45 : decode cX11_beside 45 = .ok (.getfield 29, 3) := by decide +kernel
theorem dX11_beside_48 : decode cX11_beside 48 = .ok (.iload_n 2, 1) := by decide +kernel
theorem dX11_beside_49 : decode cX11_beside 49 = .ok (.invokevirtual 154, 3) := by decide +kernel
theorem dX11_beside_52 : decode cX11_beside 52 = .ok (.istore 4, 2) := by decide +kernel
theorem dX11_beside_54 : decode cX11_beside 54 = .ok (.aload_n 0, 1) := by decide +kernel
theorem dX11_beside_55 : decode cX11_beside 55 = .ok (.getfield 50, 3) := by decide +kernel
theorem dX11_beside_58 : decode cX11_beside 58 = .ok (.aload_n 0, 1) := by decide +kernel
theorem dX11_beside_59 : decode cX11_beside 59 = .ok (.getfield 29, 3) := by decide +kernel
theorem dX11_beside_62 : decode cX11_beside 62 = .ok (.invokevirtual 134, 3) := by decide +kernel
theorem dX11_beside_65 : decode cX11_beside 65 = .ok (.aload_n 0, 1) := by decide +kernel
theorem dX11_beside_66 : decode cX11_beside 66 = .ok (.getfield 50, 3) := by decide +kernel
theorem dX11_beside_69 : decode cX11_beside 69 = .ok (.iconst 0, 1) := by decide +kernel
theorem dX11_beside_70 : decode cX11_beside 70 = .ok (.iload 4, 2) := by decide +kernel
theorem dX11_beside_72 : decode cX11_beside 72 = .ok (.invokevirtual 140, 3) := by decide +kernel
theorem dX11_beside_75 : decode cX11_beside 75 = .ok (.aload_n 0, 1) := by decide +kernel
theorem dX11_beside_76 : decode cX11_beside 76 = .ok (.getfield 50, 3) := by decide +kernel
theorem dX11_beside_79 : decode cX11_beside 79 = .ok (.iload_n 1, 1) := by decide +kernel
theorem dX11_beside_80 : decode cX11_beside 80 = .ok (.ldc 245, 2) := by decide +kernel
theorem dX11_beside_82 : decode cX11_beside 82 = .ok (.invokevirtual 246, 3) := by decide +kernel
theorem dX11_beside_85 : decode cX11_beside 85 = .ok (.aload_n 0, 1) := by decide +kernel
theorem dX11_beside_86 : decode cX11_beside 86 = .ok (.getfield 50, 3) := by decide +kernel
theorem dX11_beside_89 : decode cX11_beside 89 = .ok (.iload 4, 2) := by decide +kernel
theorem dX11_beside_91 : decode cX11_beside 91 = .ok (.aload_n 0, 1) := by decide +kernel
theorem dX11_beside_92 : decode cX11_beside 92 = .ok (.getfield 29, 3) := by decide +kernel
theorem dX11_beside_95 : decode cX11_beside 95 = .ok (.getfield 137, 3) := by decide +kernel
theorem dX11_beside_98 : decode cX11_beside 98 = .ok (.invokevirtual 140, 3) := by decide +kernel
theorem dX11_beside_101 : decode cX11_beside 101 = .ok (.aload_n 0, 1) := by decide +kernel
theorem dX11_beside_102 : decode cX11_beside 102 = .ok (.getfield 53, 3) := by decide +kernel
theorem dX11_beside_105 : decode cX11_beside 105 = .ok (.aload_n 0, 1) := by decide +kernel
theorem dX11_beside_106 : decode cX11_beside 106 = .ok (.getfield 50, 3) := by decide +kernel
theorem dX11_beside_109 : decode cX11_beside 109 = .ok (.invokevirtual 144, 3) := by decide +kernel
theorem dX11_beside_112 : decode cX11_beside 112 = .ok (.aload_n 0, 1) := by decide +kernel
theorem dX11_beside_113 : decode cX11_beside 113 = .ok (.getfield 53, 3) := by decide +kernel
theorem dX11_beside_116 : decode cX11_beside 116 = .ok (.getfield 226, 3) := by decide +kernel
theorem dX11_beside_119 : decode cX11_beside 119 = .ok (.iconst 0, 1) := by decide +kernel
theorem dX11_beside_120 : decode cX11_beside 120 = .ok (.laload, 1) := by decide +kernel
theorem dX11_beside_121 : decode cX11_beside 121 = .ok (.aload_n 0, 1) := by decide +kernel
theorem dX11_beside_122 : decode cX11_beside 122 = .ok (.getfield 53, 3) := by decide +kernel
theorem dX11_beside_125 : decode cX11_beside 125 = .ok (.invokevirtual 229, 3) := by decide +kernel
theorem dX11_beside_128 : decode cX11_beside 128 = .ok (.iload_n 3, 1) := by decide +kernel
theorem dX11_beside_129 : decode cX11_beside 129 = .ok (.invokestatic 219, 3) := by decide +kernel
theorem dX11_beside_132 : decode cX11_beside 132 = .ok (.lreturn, 1) := by decide +kernel
theorem dX11_hangs_0 : decode cX11_hangs 0 = .ok (.aload_n 0, 1) := by decide +kernel
theorem dX11_hangs_1 : decode cX11_hangs 1 = .ok (.getfield 130, 3) := by decide +kernel
theorem dX11_hangs_4 : decode cX11_hangs 4 = .ok (.ifCond .ne 7, 3) := by decide +kernel
theorem dX11_hangs_7 : decode cX11_hangs 7 = .ok (.ldc2_w 184, 3) := by decide +kernel
theorem dX11_hangs_10 : decode cX11_hangs 10 = .ok (.lreturn, 1) := by decide +kernel
theorem dX11_hangs_11 : decode cX11_hangs 11 = .ok (.aload_n 0, 1) := by decide +kernel
theorem dX11_hangs_12 : decode cX11_hangs 12 = .ok (.getfield 46, 3) := by decide +kernel
theorem dX11_hangs_15 : decode cX11_hangs 15 = .ok (.invokevirtual 249, 3) := by decide +kernel
theorem dX11_hangs_18 : decode cX11_hangs 18 = .ok (.lstore_n 1, 1) := by decide +kernel
theorem dX11_hangs_19 : decode cX11_hangs 19 = .ok (.ldc2_w 252, 3) := by decide +kernel
theorem dX11_hangs_22 : decode cX11_hangs 22 = .ok (.lstore_n 3, 1) := by decide +kernel
theorem dX11_hangs_23 : decode cX11_hangs 23 = .ok (.ldc 245, 2) := by decide +kernel
theorem dX11_hangs_25 : decode cX11_hangs 25 = .ok (.istore 5, 2) := by decide +kernel
theorem dX11_hangs_27 : decode cX11_hangs 27 = .ok (.iconst 0, 1) := by decide +kernel
theorem dX11_hangs_28 : decode cX11_hangs 28 = .ok (.istore 6, 2) := by decide +kernel
theorem dX11_hangs_30 : decode cX11_hangs 30 = .ok (.iload 6, 2) := by decide +kernel
theorem dX11_hangs_32 : decode cX11_hangs 32 = .ok (.aload_n 0, 1) := by decide +kernel
theorem dX11_hangs_33 : decode cX11_hangs 33 = .ok (.getfield 29, 3) := by decide +kernel
theorem dX11_hangs_36 : decode cX11_hangs 36 = .ok (.getfield 137, 3) := by decide +kernel
theorem dX11_hangs_39 : decode cX11_hangs 39 = .ok (.if_icmp .ge 48, 3) := by decide +kernel
theorem dX11_hangs_42 : decode cX11_hangs 42 = .ok (.aload_n 0, 1) := by decide +kernel
theorem dX11_hangs_43 : decode cX11_hangs 43 = .ok (.getfield 29, 3) := by decide +kernel
theorem dX11_hangs_46 : decode cX11_hangs 46 = .ok (.iload 6, 2) := by decide +kernel
theorem dX11_hangs_48 : decode cX11_hangs 48 = .ok (.invokevirtual 254, 3) := by decide +kernel
theorem dX11_hangs_51 : decode cX11_hangs 51 = .ok (.ifCond .eq 30, 3) := by decide +kernel
theorem dX11_hangs_54 : decode cX11_hangs 54 = .ok (.aload_n 0, 1) := by decide +kernel
theorem dX11_hangs_55 : decode cX11_hangs 55 = .ok (.iload 6, 2) := by decide +kernel
theorem dX11_hangs_57 : decode cX11_hangs 57 = .ok (.invokevirtual 257, 3) := by decide +kernel
theorem dX11_hangs_60 : decode cX11_hangs 60 = .ok (.lload_n 1, 1) := by decide +kernel
theorem dX11_hangs_61 : decode cX11_hangs 61 = .ok (.lsub, 1) := by decide +kernel
theorem dX11_hangs_62 : decode cX11_hangs 62 = .ok (.invokestatic 233, 3) := by decide +kernel
theorem dX11_hangs_65 : decode cX11_hangs 65 = .ok (.lstore 7, 2) := by decide +kernel
theorem dX11_hangs_67 : decode cX11_hangs 67 = .ok (.lload 7, 2) := by decide +kernel
theorem dX11_hangs_69 : decode cX11_hangs 69 = .ok (.lload_n 3, 1) := by decide +kernel
theorem dX11_hangs_70 : decode cX11_hangs 70 = .ok (.lcmp, 1) := by decide +kernel
theorem dX11_hangs_71 : decode cX11_hangs 71 = .ok (.ifCond .le 10, 3) := by decide +kernel
theorem dX11_hangs_74 : decode cX11_hangs 74 = .ok (.lload 7, 2) := by decide +kernel
theorem dX11_hangs_76 : decode cX11_hangs 76 = .ok (.lstore_n 3, 1) := by decide +kernel
theorem dX11_hangs_77 : decode cX11_hangs 77 = .ok (.iload 6, 2) := by decide +kernel
theorem dX11_hangs_79 : decode cX11_hangs 79 = .ok (.istore 5, 2) := by decide +kernel
theorem dX11_hangs_81 : decode cX11_hangs 81 = .ok (.iinc 6 1, 3) := by decide +kernel
theorem dX11_hangs_84 : decode cX11_hangs 84 = .ok (.goto (-54), 3) := by decide +kernel
theorem dX11_hangs_87 : decode cX11_hangs 87 = .ok (.iload 5, 2) := by decide +kernel
theorem dX11_hangs_89 : decode cX11_hangs 89 = .ok (.i2l, 1) := by decide +kernel
theorem dX11_hangs_90 : decode cX11_hangs 90 = .ok (.lreturn, 1) := by decide +kernel
theorem dX11_herEndWithout_0 : decode cX11_herEndWithout 0 = .ok (.aload_n 0, 1) := by decide +kernel
theorem dX11_herEndWithout_1 : decode cX11_herEndWithout 1 = .ok (.getfield 50, 3) := by decide +kernel
theorem dX11_herEndWithout_4 : decode cX11_herEndWithout 4 = .ok (.aload_n 0, 1) := by decide +kernel
theorem dX11_herEndWithout_5 : decode cX11_herEndWithout 5 = .ok (.getfield 29, 3) := by decide +kernel
theorem dX11_herEndWithout_8 : decode cX11_herEndWithout 8 = .ok (.invokevirtual 134, 3) := by decide +kernel
theorem dX11_herEndWithout_11 : decode cX11_herEndWithout 11 = .ok (.aload_n 0, 1) := by decide +kernel
theorem dX11_herEndWithout_12 : decode cX11_herEndWithout 12 = .ok (.getfield 50, 3) := by decide +kernel
theorem dX11_herEndWithout_15 : decode cX11_herEndWithout 15 = .ok (.iconst 0, 1) := by decide +kernel
theorem dX11_herEndWithout_16 : decode cX11_herEndWithout 16 = .ok (.iload_n 1, 1) := by decide +kernel
theorem dX11_herEndWithout_17 : decode cX11_herEndWithout 17 = .ok (.invokevirtual 140, 3) := by decide +kernel
theorem dX11_herEndWithout_20 : decode cX11_herEndWithout 20 = .ok (.aload_n 0, 1) := by decide +kernel
theorem dX11_herEndWithout_21 : decode cX11_herEndWithout 21 = .ok (.getfield 50, 3) := by decide +kernel
theorem dX11_herEndWithout_24 : decode cX11_herEndWithout 24 = .ok (.iload_n 1, 1) := by decide +kernel
theorem dX11_herEndWithout_25 : decode cX11_herEndWithout 25 = .ok (.iconst 1, 1) := by decide +kernel
theorem dX11_herEndWithout_26 : decode cX11_herEndWithout 26 = .ok (.iadd, 1) := by decide +kernel
theorem dX11_herEndWithout_27 : decode cX11_herEndWithout 27 = .ok (.aload_n 0, 1) := by decide +kernel
theorem dX11_herEndWithout_28 : decode cX11_herEndWithout 28 = .ok (.getfield 29, 3) := by decide +kernel
theorem dX11_herEndWithout_31 : decode cX11_herEndWithout 31 = .ok (.getfield 137, 3) := by decide +kernel
theorem dX11_herEndWithout_34 : decode cX11_herEndWithout 34 = .ok (.invokevirtual 140, 3) := by decide +kernel
theorem dX11_herEndWithout_37 : decode cX11_herEndWithout 37 = .ok (.aload_n 0, 1) := by decide +kernel
theorem dX11_herEndWithout_38 : decode cX11_herEndWithout 38 = .ok (.getfield 53, 3) := by decide +kernel
theorem dX11_herEndWithout_41 : decode cX11_herEndWithout 41 = .ok (.aload_n 0, 1) := by decide +kernel
theorem dX11_herEndWithout_42 : decode cX11_herEndWithout 42 = .ok (.getfield 50, 3) := by decide +kernel
theorem dX11_herEndWithout_45 : decode cX11_herEndWithout 45 = .ok (.invokevirtual 144, 3) := by decide +kernel
theorem dX11_herEndWithout_48 : decode cX11_herEndWithout 48 = .ok (.aload_n 0, 1) := by decide +kernel
theorem dX11_herEndWithout_49 : decode cX11_herEndWithout 49 = .ok (.getfield 53, 3) := by decide +kernel
theorem dX11_herEndWithout_52 : decode cX11_herEndWithout 52 = .ok (.invokevirtual 249, 3) := by decide +kernel
theorem dX11_herEndWithout_55 : decode cX11_herEndWithout 55 = .ok (.lreturn, 1) := by decide +kernel
theorem dX11_beforehand_0 : decode cX11_beforehand 0 = .ok (.iload_n 1, 1) := by decide +kernel
theorem dX11_beforehand_1 : decode cX11_beforehand 1 = .ok (.invokestatic 260, 3) := by decide +kernel
theorem dX11_beforehand_4 : decode cX11_beforehand 4 = .ok (.ifCond .ne 10, 3) := by decide +kernel
theorem dX11_beforehand_7 : decode cX11_beforehand 7 = .ok (.iload_n 2, 1) := by decide +kernel
theorem dX11_beforehand_8 : decode cX11_beforehand 8 = .ok (.invokestatic 260, 3) := by decide +kernel
theorem dX11_beforehand_11 : decode cX11_beforehand 11 = .ok (.ifCond .eq 7, 3) := by decide +kernel
theorem dX11_beforehand_14 : decode cX11_beforehand 14 = .ok (.ldc2_w 73, 3) := by decide +kernel
theorem dX11_beforehand_17 : decode cX11_beforehand 17 = .ok (.lreturn, 1) := by decide +kernel
theorem dX11_beforehand_18 : decode cX11_beforehand 18 = .ok (.aload_n 0, 1) := by decide +kernel
theorem dX11_beforehand_19 : decode cX11_beforehand 19 = .ok (.getfield 130, 3) := by decide +kernel
theorem dX11_beforehand_22 : decode cX11_beforehand 22 = .ok (.ifCond .ne 7, 3) := by decide +kernel
theorem dX11_beforehand_25 : decode cX11_beforehand 25 = .ok (.ldc2_w 184, 3) := by decide +kernel
theorem dX11_beforehand_28 : decode cX11_beforehand 28 = .ok (.lreturn, 1) := by decide +kernel
theorem dX11_beforehand_29 : decode cX11_beforehand 29 = .ok (.aload_n 0, 1) := by decide +kernel
theorem dX11_beforehand_30 : decode cX11_beforehand 30 = .ok (.getfield 46, 3) := by decide +kernel
theorem dX11_beforehand_33 : decode cX11_beforehand 33 = .ok (.iload_n 1, 1) := by decide +kernel
theorem dX11_beforehand_34 : decode cX11_beforehand 34 = .ok (.iload_n 2, 1) := by decide +kernel
theorem dX11_beforehand_35 : decode cX11_beforehand 35 = .ok (.invokevirtual 263, 3) := by decide +kernel
theorem dX11_beforehand_38 : decode cX11_beforehand 38 = .ok (.ifCond .eq 7, 3) := by decide +kernel
theorem dX11_beforehand_41 : decode cX11_beforehand 41 = .ok (.ldc2_w 266, 3) := by decide +kernel
theorem dX11_beforehand_44 : decode cX11_beforehand 44 = .ok (.lreturn, 1) := by decide +kernel
theorem dX11_beforehand_45 : decode cX11_beforehand 45 = .ok (.iconst 0, 1) := by decide +kernel
theorem dX11_beforehand_46 : decode cX11_beforehand 46 = .ok (.istore_n 3, 1) := by decide +kernel
theorem dX11_beforehand_47 : decode cX11_beforehand 47 = .ok (.iload_n 3, 1) := by decide +kernel
theorem dX11_beforehand_48 : decode cX11_beforehand 48 = .ok (.iconst 5, 1) := by decide +kernel
theorem dX11_beforehand_49 : decode cX11_beforehand 49 = .ok (.if_icmp .ge 92, 3) := by decide +kernel
theorem dX11_beforehand_52 : decode cX11_beforehand 52 = .ok (.iconst 0, 1) := by decide +kernel
theorem dX11_beforehand_53 : decode cX11_beforehand 53 = .ok (.istore 4, 2) := by decide +kernel
theorem dX11_beforehand_55 : decode cX11_beforehand 55 = .ok (.iload 4, 2) := by decide +kernel
theorem dX11_beforehand_57 : decode cX11_beforehand 57 = .ok (.iconst 3, 1) := by decide +kernel
theorem dX11_beforehand_58 : decode cX11_beforehand 58 = .ok (.if_icmp .ge 77, 3) := by decide +kernel
theorem dX11_beforehand_61 : decode cX11_beforehand 61 = .ok (.aload_n 0, 1) := by decide +kernel
theorem dX11_beforehand_62 : decode cX11_beforehand 62 = .ok (.getfield 50, 3) := by decide +kernel
theorem dX11_beforehand_65 : decode cX11_beforehand 65 = .ok (.aload_n 0, 1) := by decide +kernel
theorem dX11_beforehand_66 : decode cX11_beforehand 66 = .ok (.getfield 29, 3) := by decide +kernel
theorem dX11_beforehand_69 : decode cX11_beforehand 69 = .ok (.invokevirtual 134, 3) := by decide +kernel
theorem dX11_beforehand_72 : decode cX11_beforehand 72 = .ok (.aload_n 0, 1) := by decide +kernel
theorem dX11_beforehand_73 : decode cX11_beforehand 73 = .ok (.getfield 50, 3) := by decide +kernel
theorem dX11_beforehand_76 : decode cX11_beforehand 76 = .ok (.getfield 268, 3) := by decide +kernel
theorem dX11_beforehand_79 : decode cX11_beforehand 79 = .ok (.iload_n 3, 1) := by decide +kernel
theorem dX11_beforehand_80 : decode cX11_beforehand 80 = .ok (.iload 4, 2) := by decide +kernel
theorem dX11_beforehand_82 : decode cX11_beforehand 82 = .ok (.iastore, 1) := by decide +kernel
theorem dX11_beforehand_83 : decode cX11_beforehand 83 = .ok (.aload_n 0, 1) := by decide +kernel
theorem dX11_beforehand_84 : decode cX11_beforehand 84 = .ok (.getfield 50, 3) := by decide +kernel
theorem dX11_beforehand_87 : decode cX11_beforehand 87 = .ok (.iconst 0, 1) := by decide +kernel
theorem dX11_beforehand_88 : decode cX11_beforehand 88 = .ok (.aload_n 0, 1) := by decide +kernel
theorem dX11_beforehand_89 : decode cX11_beforehand 89 = .ok (.getfield 29, 3) := by decide +kernel
theorem dX11_beforehand_92 : decode cX11_beforehand 92 = .ok (.getfield 137, 3) := by decide +kernel
theorem dX11_beforehand_95 : decode cX11_beforehand 95 = .ok (.invokevirtual 140, 3) := by decide +kernel
theorem dX11_beforehand_98 : decode cX11_beforehand 98 = .ok (.aload_n 0, 1) := by decide +kernel
theorem dX11_beforehand_99 : decode cX11_beforehand 99 = .ok (.getfield 53, 3) := by decide +kernel
theorem dX11_beforehand_102 : decode cX11_beforehand 102 = .ok (.aload_n 0, 1) := by decide +kernel
theorem dX11_beforehand_103 : decode cX11_beforehand 103 = .ok (.getfield 50, 3) := by decide +kernel
theorem dX11_beforehand_106 : decode cX11_beforehand 106 = .ok (.invokevirtual 144, 3) := by decide +kernel
theorem dX11_beforehand_109 : decode cX11_beforehand 109 = .ok (.aload_n 0, 1) := by decide +kernel
theorem dX11_beforehand_110 : decode cX11_beforehand 110 = .ok (.getfield 53, 3) := by decide +kernel
theorem dX11_beforehand_113 : decode cX11_beforehand 113 = .ok (.iload_n 1, 1) := by decide +kernel
theorem dX11_beforehand_114 : decode cX11_beforehand 114 = .ok (.iload_n 2, 1) := by decide +kernel
theorem dX11_beforehand_115 : decode cX11_beforehand 115 = .ok (.invokevirtual 263, 3) := by decide +kernel
theorem dX11_beforehand_118 : decode cX11_beforehand 118 = .ok (.ifCond .eq 11, 3) := by decide +kernel
theorem dX11_beforehand_121 : decode cX11_beforehand 121 = .ok (.iload_n 3, 1) := by decide +kernel
theorem dX11_beforehand_122 : decode cX11_beforehand 122 = .ok (.iconst 3, 1) := by decide +kernel
theorem dX11_beforehand_123 : decode cX11_beforehand 123 = .ok (.imul, 1) := by decide +kernel
theorem dX11_beforehand_124 : decode cX11_beforehand 124 = .ok (.iload 4, 2) := by decide +kernel
theorem dX11_beforehand_126 : decode cX11_beforehand 126 = .ok (.iadd, 1) := by decide +kernel
theorem dX11_beforehand_127 : decode cX11_beforehand 127 = .ok (.i2l, 1) := by decide +kernel
theorem dX11_beforehand_128 : decode cX11_beforehand 128 = .ok (.lreturn, 1) := by decide +kernel
theorem dX11_beforehand_129 : decode cX11_beforehand 129 = .ok (.iinc 4 1, 3) := by decide +kernel
theorem dX11_beforehand_132 : decode cX11_beforehand 132 = .ok (.goto (-77), 3) := by decide +kernel
theorem dX11_beforehand_135 : decode cX11_beforehand 135 = .ok (.iinc 3 1, 3) := by decide +kernel
theorem dX11_beforehand_138 : decode cX11_beforehand 138 = .ok (.goto (-91), 3) := by decide +kernel
theorem dX11_beforehand_141 : decode cX11_beforehand 141 = .ok (.ldc2_w 164, 3) := by decide +kernel
theorem dX11_beforehand_144 : decode cX11_beforehand 144 = .ok (.lreturn, 1) := by decide +kernel
theorem dX11_isNoWish_0 : decode cX11_isNoWish 0 = .ok (.iload_n 0, 1) := by decide +kernel
theorem dX11_isNoWish_1 : decode cX11_isNoWish 1 = .ok (.sipush (-9999), 3) := by decide +kernel
theorem dX11_isNoWish_4 : decode cX11_isNoWish 4 = .ok (.if_icmp .lt 10, 3) := by decide +kernel
theorem dX11_isNoWish_7 : decode cX11_isNoWish 7 = .ok (.iload_n 0, 1) := by decide +kernel
theorem dX11_isNoWish_8 : decode cX11_isNoWish 8 = .ok (.sipush 9999, 3) := by decide +kernel
theorem dX11_isNoWish_11 : decode cX11_isNoWish 11 = .ok (.if_icmp .le 7, 3) := by decide +kernel
theorem dX11_isNoWish_14 : decode cX11_isNoWish 14 = .ok (.iconst 1, 1) := by decide +kernel
theorem dX11_isNoWish_15 : decode cX11_isNoWish 15 = .ok (.goto 4, 3) := by decide +kernel
theorem dX11_isNoWish_18 : decode cX11_isNoWish 18 = .ok (.iconst 0, 1) := by decide +kernel
theorem dX11_isNoWish_19 : decode cX11_isNoWish 19 = .ok (.ireturn, 1) := by decide +kernel
theorem dX11_kind_0 : decode cX11_kind 0 = .ok (.aload_n 0, 1) := by decide +kernel
theorem dX11_kind_1 : decode cX11_kind 1 = .ok (.iload_n 1, 1) := by decide +kernel
theorem dX11_kind_2 : decode cX11_kind 2 = .ok (.invokevirtual 148, 3) := by decide +kernel
theorem dX11_kind_5 : decode cX11_kind 5 = .ok (.ifCond .eq 7, 3) := by decide +kernel
theorem dX11_kind_8 : decode cX11_kind 8 = .ok (.ldc2_w 73, 3) := by decide +kernel
theorem dX11_kind_11 : decode cX11_kind 11 = .ok (.lreturn, 1) := by decide +kernel
theorem dX11_kind_12 : decode cX11_kind 12 = .ok (.aload_n 0, 1) := by decide +kernel
theorem dX11_kind_13 : decode cX11_kind 13 = .ok (.iload_n 1, 1) := by decide +kernel
theorem dX11_kind_14 : decode cX11_kind 14 = .ok (.invokevirtual 271, 3) := by decide +kernel
theorem dX11_kind_17 : decode cX11_kind 17 = .ok (.astore_n 2, 1) := by decide +kernel
theorem dX11_kind_18 : decode cX11_kind 18 = .ok (.iconst 5, 1) := by decide +kernel
theorem dX11_kind_19 : decode cX11_kind 19 = .ok (.istore_n 3, 1) := by decide +kernel
theorem dX11_kind_20 : decode cX11_kind 20 = .ok (.iload_n 3, 1) := by decide +kernel
theorem dX11_kind_21 : decode cX11_kind 21 = .ok (.ifCond .le 20, 3) := by decide +kernel
theorem dX11_kind_24 : decode cX11_kind 24 = .ok (.aload_n 2, 1) := by decide +kernel
theorem dX11_kind_25 : decode cX11_kind 25 = .ok (.iload_n 3, 1) := by decide +kernel
theorem dX11_kind_26 : decode cX11_kind 26 = .ok (.invokestatic 275, 3) := by decide +kernel
theorem dX11_kind_29 : decode cX11_kind 29 = .ok (.ifCond .eq 6, 3) := by decide +kernel
theorem dX11_kind_32 : decode cX11_kind 32 = .ok (.iload_n 3, 1) := by decide +kernel
theorem dX11_kind_33 : decode cX11_kind 33 = .ok (.i2l, 1) := by decide +kernel
theorem dX11_kind_34 : decode cX11_kind 34 = .ok (.lreturn, 1) := by decide +kernel
theorem dX11_kind_35 : decode cX11_kind 35 = .ok (.iinc 3 (-1), 3) := by decide +kernel
theorem dX11_kind_38 : decode cX11_kind 38 = .ok (.goto (-18), 3) := by decide +kernel
theorem dX11_kind_41 : decode cX11_kind 41 = .ok (.lconst 0, 1) := by decide +kernel
theorem dX11_kind_42 : decode cX11_kind 42 = .ok (.lreturn, 1) := by decide +kernel
theorem dX11_as_0 : decode cX11_as 0 = .ok (.aload_n 0, 1) := by decide +kernel
theorem dX11_as_1 : decode cX11_as 1 = .ok (.iload_n 1, 1) := by decide +kernel
theorem dX11_as_2 : decode cX11_as 2 = .ok (.invokevirtual 148, 3) := by decide +kernel
theorem dX11_as_5 : decode cX11_as 5 = .ok (.ifCond .ne 13, 3) := by decide +kernel
theorem dX11_as_8 : decode cX11_as 8 = .ok (.iload_n 2, 1) := by decide +kernel
theorem dX11_as_9 : decode cX11_as 9 = .ok (.ifCond .lt 9, 3) := by decide +kernel
theorem dX11_as_12 : decode cX11_as 12 = .ok (.iload_n 2, 1) := by decide +kernel
theorem dX11_as_13 : decode cX11_as 13 = .ok (.bipush 6, 2) := by decide +kernel
theorem dX11_as_15 : decode cX11_as 15 = .ok (.if_icmp .lt 7, 3) := by decide +kernel
theorem dX11_as_18 : decode cX11_as 18 = .ok (.ldc2_w 73, 3) := by decide +kernel
theorem dX11_as_21 : decode cX11_as 21 = .ok (.lreturn, 1) := by decide +kernel
theorem dX11_as_22 : decode cX11_as 22 = .ok (.aload_n 0, 1) := by decide +kernel
theorem dX11_as_23 : decode cX11_as 23 = .ok (.iload_n 1, 1) := by decide +kernel
theorem dX11_as_24 : decode cX11_as 24 = .ok (.invokevirtual 271, 3) := by decide +kernel
theorem dX11_as_27 : decode cX11_as 27 = .ok (.iload_n 2, 1) := by decide +kernel
theorem dX11_as_28 : decode cX11_as 28 = .ok (.invokestatic 275, 3) := by decide +kernel
theorem dX11_as_31 : decode cX11_as 31 = .ok (.ifCond .eq 12, 3) := by decide +kernel
theorem dX11_as_34 : decode cX11_as 34 = .ok (.aload_n 0, 1) := by decide +kernel
theorem dX11_as_35 : decode cX11_as 35 = .ok (.iload_n 1, 1) := by decide +kernel
theorem dX11_as_36 : decode cX11_as 36 = .ok (.i2l, 1) := by decide +kernel
theorem dX11_as_37 : decode cX11_as 37 = .ok (.invokevirtual 79, 3) := by decide +kernel
theorem dX11_as_40 : decode cX11_as 40 = .ok (.goto 8, 3) := by decide +kernel
theorem dX11_as_43 : decode cX11_as 43 = .ok (.aload_n 0, 1) := by decide +kernel
theorem dX11_as_44 : decode cX11_as 44 = .ok (.iconst 3, 1) := by decide +kernel
theorem dX11_as_45 : decode cX11_as 45 = .ok (.invokevirtual 75, 3) := by decide +kernel
theorem dX11_as_48 : decode cX11_as 48 = .ok (.lreturn, 1) := by decide +kernel
theorem dX11_ask_0 : decode cX11_ask 0 = .ok (.aload_n 0, 1) := by decide +kernel
theorem dX11_ask_1 : decode cX11_ask 1 = .ok (.iload_n 1, 1) := by decide +kernel
theorem dX11_ask_2 : decode cX11_ask 2 = .ok (.invokevirtual 148, 3) := by decide +kernel
theorem dX11_ask_5 : decode cX11_ask 5 = .ok (.ifCond .ne 12, 3) := by decide +kernel
theorem dX11_ask_8 : decode cX11_ask 8 = .ok (.iload_n 2, 1) := by decide +kernel
theorem dX11_ask_9 : decode cX11_ask 9 = .ok (.ifCond .lt 8, 3) := by decide +kernel
theorem dX11_ask_12 : decode cX11_ask 12 = .ok (.iload_n 2, 1) := by decide +kernel
theorem dX11_ask_13 : decode cX11_ask 13 = .ok (.iconst 1, 1) := by decide +kernel
theorem dX11_ask_14 : decode cX11_ask 14 = .ok (.if_icmp .le 7, 3) := by decide +kernel
theorem dX11_ask_17 : decode cX11_ask 17 = .ok (.ldc2_w 73, 3) := by decide +kernel
theorem dX11_ask_20 : decode cX11_ask 20 = .ok (.lreturn, 1) := by decide +kernel
theorem dX11_ask_21 : decode cX11_ask 21 = .ok (.aload_n 0, 1) := by decide +kernel
theorem dX11_ask_22 : decode cX11_ask 22 = .ok (.getfield 59, 3) := by decide +kernel
theorem dX11_ask_25 : decode cX11_ask 25 = .ok (.invokevirtual 279, 3) := by decide +kernel
theorem dX11_ask_28 : decode cX11_ask 28 = .ok (.aload_n 0, 1) := by decide +kernel
theorem dX11_ask_29 : decode cX11_ask 29 = .ok (.iload_n 1, 1) := by decide +kernel
theorem dX11_ask_30 : decode cX11_ask 30 = .ok (.invokevirtual 271, 3) := by decide +kernel
theorem dX11_ask_33 : decode cX11_ask 33 = .ok (.astore_n 3, 1) := by decide +kernel
theorem dX11_ask_34 : decode cX11_ask 34 = .ok (.iload_n 2, 1) := by decide +kernel
theorem dX11_ask_35 : decode cX11_ask 35 = .ok (.ifCond .ne 10, 3) := by decide +kernel
theorem dX11_ask_38 : decode cX11_ask 38 = .ok (.aload_n 3, 1) := by decide +kernel
theorem dX11_ask_39 : decode cX11_ask 39 = .ok (.invokevirtual 282, 3) := by decide +kernel
theorem dX11_ask_42 : decode cX11_ask 42 = .ok (.goto 7, 3) := by decide +kernel
theorem dX11_ask_45 : decode cX11_ask 45 = .ok (.aload_n 3, 1) := by decide +kernel
theorem dX11_ask_46 : decode cX11_ask 46 = .ok (.invokevirtual 287, 3) := by decide +kernel
theorem dX11_ask_49 : decode cX11_ask 49 = .ok (.lreturn, 1) := by decide +kernel
theorem dX11_trace_0 : decode cX11_trace 0 = .ok (.iload_n 1, 1) := by decide +kernel
theorem dX11_trace_1 : decode cX11_trace 1 = .ok (.ifCond .lt 26, 3) := by decide +kernel
theorem dX11_trace_4 : decode cX11_trace 4 = .ok (.iload_n 1, 1) := by decide +kernel
theorem dX11_trace_5 : decode cX11_trace 5 = .ok (.aload_n 0, 1) := by decide +kernel
theorem dX11_trace_6 : decode cX11_trace 6 = .ok (.getfield 59, 3) := by decide +kernel
theorem dX11_trace_9 : decode cX11_trace 9 = .ok (.getfield 290, 3) := by decide +kernel
theorem dX11_trace_12 : decode cX11_trace 12 = .ok (.if_icmp .ge 15, 3) := by decide +kernel
theorem dX11_trace_15 : decode cX11_trace 15 = .ok (.aload_n 0, 1) := by decide +kernel
theorem dX11_trace_16 : decode cX11_trace 16 = .ok (.getfield 59, 3) := by decide +kernel
theorem dX11_trace_19 : decode cX11_trace 19 = .ok (.getfield 291, 3) := by decide +kernel
theorem dX11_trace_22 : decode cX11_trace 22 = .ok (.iload_n 1, 1) := by decide +kernel
theorem dX11_trace_23 : decode cX11_trace 23 = .ok (.iaload, 1) := by decide +kernel
theorem dX11_trace_24 : decode cX11_trace 24 = .ok (.goto 5, 3) := by decide +kernel
theorem dX11_trace_27 : decode cX11_trace 27 = .ok (.ldc 245, 2) := by decide +kernel
theorem dX11_trace_29 : decode cX11_trace 29 = .ok (.ireturn, 1) := by decide +kernel
theorem dX11_count_0 : decode cX11_count 0 = .ok (.iload_n 1, 1) := by decide +kernel
theorem dX11_count_1 : decode cX11_count 1 = .ok (.tableswitch 116 0 6 #[43, 49, 58, 67, 76, 85, 94], 43) := by decide +kernel
theorem dX11_count_44 : decode cX11_count 44 = .ok (.aload_n 0, 1) := by decide +kernel
theorem dX11_count_45 : decode cX11_count 45 = .ok (.invokevirtual 294, 3) := by decide +kernel
theorem dX11_count_48 : decode cX11_count 48 = .ok (.i2l, 1) := by decide +kernel
theorem dX11_count_49 : decode cX11_count 49 = .ok (.lreturn, 1) := by decide +kernel
theorem dX11_count_50 : decode cX11_count 50 = .ok (.aload_n 0, 1) := by decide +kernel
theorem dX11_count_51 : decode cX11_count 51 = .ok (.getfield 29, 3) := by decide +kernel
theorem dX11_count_54 : decode cX11_count 54 = .ok (.getfield 242, 3) := by decide +kernel
theorem dX11_count_57 : decode cX11_count 57 = .ok (.i2l, 1) := by decide +kernel
theorem dX11_count_58 : decode cX11_count 58 = .ok (.lreturn, 1) := by decide +kernel
theorem dX11_count_59 : decode cX11_count 59 = .ok (.aload_n 0, 1) := by decide +kernel
theorem dX11_count_60 : decode cX11_count 60 = .ok (.getfield 29, 3) := by decide +kernel
theorem dX11_count_63 : decode cX11_count 63 = .ok (.getfield 137, 3) := by decide +kernel
theorem dX11_count_66 : decode cX11_count 66 = .ok (.i2l, 1) := by decide +kernel
theorem dX11_count_67 : decode cX11_count 67 = .ok (.lreturn, 1) := by decide +kernel
theorem dX11_count_68 : decode cX11_count 68 = .ok (.aload_n 0, 1) := by decide +kernel
theorem dX11_count_69 : decode cX11_count 69 = .ok (.getfield 39, 3) := by decide +kernel
theorem dX11_count_72 : decode cX11_count 72 = .ok (.getfield 158, 3) := by decide +kernel
theorem dX11_count_75 : decode cX11_count 75 = .ok (.i2l, 1) := by decide +kernel
theorem dX11_count_76 : decode cX11_count 76 = .ok (.lreturn, 1) := by decide +kernel
theorem dX11_count_77 : decode cX11_count 77 = .ok (.aload_n 0, 1) := by decide +kernel
theorem dX11_count_78 : decode cX11_count 78 = .ok (.getfield 39, 3) := by decide +kernel
theorem dX11_count_81 : decode cX11_count 81 = .ok (.getfield 298, 3) := by decide +kernel
theorem dX11_count_84 : decode cX11_count 84 = .ok (.i2l, 1) := by decide +kernel
theorem dX11_count_85 : decode cX11_count 85 = .ok (.lreturn, 1) := by decide +kernel
theorem dX11_count_86 : decode cX11_count 86 = .ok (.aload_n 0, 1) := by decide +kernel
theorem dX11_count_87 : decode cX11_count 87 = .ok (.getfield 22, 3) := by decide +kernel
theorem dX11_count_90 : decode cX11_count 90 = .ok (.getfield 106, 3) := by decide +kernel
theorem dX11_count_93 : decode cX11_count 93 = .ok (.i2l, 1) := by decide +kernel
theorem dX11_count_94 : decode cX11_count 94 = .ok (.lreturn, 1) := by decide +kernel
theorem dX11_count_95 : decode cX11_count 95 = .ok (.aload_n 0, 1) := by decide +kernel
theorem dX11_count_96 : decode cX11_count 96 = .ok (.getfield 130, 3) := by decide +kernel
theorem dX11_count_99 : decode cX11_count 99 = .ok (.ifCond .eq 14, 3) := by decide +kernel
theorem dX11_count_102 : decode cX11_count 102 = .ok (.aload_n 0, 1) := by decide +kernel
theorem dX11_count_103 : decode cX11_count 103 = .ok (.getfield 39, 3) := by decide +kernel
theorem dX11_count_106 : decode cX11_count 106 = .ok (.getfield 301, 3) := by decide +kernel
theorem dX11_count_109 : decode cX11_count 109 = .ok (.i2l, 1) := by decide +kernel
theorem dX11_count_110 : decode cX11_count 110 = .ok (.goto 6, 3) := by decide +kernel
theorem dX11_count_113 : decode cX11_count 113 = .ok (.ldc2_w 164, 3) := by decide +kernel
theorem dX11_count_116 : decode cX11_count 116 = .ok (.lreturn, 1) := by decide +kernel
theorem dX11_count_117 : decode cX11_count 117 = .ok (.ldc2_w 73, 3) := by decide +kernel
theorem dX11_count_120 : decode cX11_count 120 = .ok (.lreturn, 1) := by decide +kernel
theorem dX11_status_0 : decode cX11_status 0 = .ok (.aload_n 0, 1) := by decide +kernel
theorem dX11_status_1 : decode cX11_status 1 = .ok (.getfield 100, 3) := by decide +kernel
theorem dX11_status_4 : decode cX11_status 4 = .ok (.ireturn, 1) := by decide +kernel
theorem dX11_rowsThatAre_0 : decode cX11_rowsThatAre 0 = .ok (.iconst 0, 1) := by decide +kernel
theorem dX11_rowsThatAre_1 : decode cX11_rowsThatAre 1 = .ok (.istore_n 1, 1) := by decide +kernel
theorem dX11_rowsThatAre_2 : decode cX11_rowsThatAre 2 = .ok (.iconst 0, 1) := by decide +kernel
theorem dX11_rowsThatAre_3 : decode cX11_rowsThatAre 3 = .ok (.istore_n 2, 1) := by decide +kernel
theorem dX11_rowsThatAre_4 : decode cX11_rowsThatAre 4 = .ok (.iload_n 2, 1) := by decide +kernel
theorem dX11_rowsThatAre_5 : decode cX11_rowsThatAre 5 = .ok (.bipush 8, 2) := by decide +kernel
theorem dX11_rowsThatAre_7 : decode cX11_rowsThatAre 7 = .ok (.if_icmp .ge 20, 3) := by decide +kernel
theorem dX11_rowsThatAre_10 : decode cX11_rowsThatAre 10 = .ok (.aload_n 0, 1) := by decide +kernel
theorem dX11_rowsThatAre_11 : decode cX11_rowsThatAre 11 = .ok (.iload_n 2, 1) := by decide +kernel
theorem dX11_rowsThatAre_12 : decode cX11_rowsThatAre 12 = .ok (.invokevirtual 83, 3) := by decide +kernel
theorem dX11_rowsThatAre_15 : decode cX11_rowsThatAre 15 = .ok (.ifCond .ne 6, 3) := by decide +kernel
theorem dX11_rowsThatAre_18 : decode cX11_rowsThatAre 18 = .ok (.iinc 1 1, 3) := by decide +kernel
theorem dX11_rowsThatAre_21 : decode cX11_rowsThatAre 21 = .ok (.iinc 2 1, 3) := by decide +kernel
theorem dX11_rowsThatAre_24 : decode cX11_rowsThatAre 24 = .ok (.goto (-20), 3) := by decide +kernel
theorem dX11_rowsThatAre_27 : decode cX11_rowsThatAre 27 = .ok (.iload_n 1, 1) := by decide +kernel
theorem dX11_rowsThatAre_28 : decode cX11_rowsThatAre 28 = .ok (.ireturn, 1) := by decide +kernel
theorem dX11_toldThing_0 : decode cX11_toldThing 0 = .ok (.aload_n 0, 1) := by decide +kernel
theorem dX11_toldThing_1 : decode cX11_toldThing 1 = .ok (.getfield 39, 3) := by decide +kernel
theorem dX11_toldThing_4 : decode cX11_toldThing 4 = .ok (.getfield 161, 3) := by decide +kernel
theorem dX11_toldThing_7 : decode cX11_toldThing 7 = .ok (.iload_n 1, 1) := by decide +kernel
theorem dX11_toldThing_8 : decode cX11_toldThing 8 = .ok (.iaload, 1) := by decide +kernel
theorem dX11_toldThing_9 : decode cX11_toldThing 9 = .ok (.istore_n 2, 1) := by decide +kernel
theorem dX11_toldThing_10 : decode cX11_toldThing 10 = .ok (.iload_n 2, 1) := by decide +kernel
theorem dX11_toldThing_11 : decode cX11_toldThing 11 = .ok (.iconst 2, 1) := by decide +kernel
theorem dX11_toldThing_12 : decode cX11_toldThing 12 = .ok (.if_icmp .ne 69, 3) := by decide +kernel
theorem dX11_toldThing_15 : decode cX11_toldThing 15 = .ok (.aload_n 0, 1) := by decide +kernel
theorem dX11_toldThing_16 : decode cX11_toldThing 16 = .ok (.getfield 29, 3) := by decide +kernel
theorem dX11_toldThing_19 : decode cX11_toldThing 19 = .ok (.aload_n 0, 1) := by decide +kernel
theorem dX11_toldThing_20 : decode cX11_toldThing 20 = .ok (.getfield 39, 3) := by decide +kernel
theorem dX11_toldThing_23 : decode cX11_toldThing 23 = .ok (.getfield 169, 3) := by decide +kernel
theorem dX11_toldThing_26 : decode cX11_toldThing 26 = .ok (.iload_n 1, 1) := by decide +kernel
theorem dX11_toldThing_27 : decode cX11_toldThing 27 = .ok (.iaload, 1) := by decide +kernel
theorem dX11_toldThing_28 : decode cX11_toldThing 28 = .ok (.invokevirtual 181, 3) := by decide +kernel
theorem dX11_toldThing_31 : decode cX11_toldThing 31 = .ok (.iconst 4, 1) := by decide +kernel
theorem dX11_toldThing_32 : decode cX11_toldThing 32 = .ok (.if_icmp .ne 7, 3) := by decide +kernel
theorem dX11_toldThing_35 : decode cX11_toldThing 35 = .ok (.iconst 1, 1) := by decide +kernel
theorem dX11_toldThing_36 : decode cX11_toldThing 36 = .ok (.goto 4, 3) := by decide +kernel
theorem dX11_toldThing_39 : decode cX11_toldThing 39 = .ok (.iconst 0, 1) := by decide +kernel
theorem dX11_toldThing_40 : decode cX11_toldThing 40 = .ok (.istore_n 3, 1) := by decide +kernel
theorem dX11_toldThing_41 : decode cX11_toldThing 41 = .ok (.iload_n 3, 1) := by decide +kernel
theorem dX11_toldThing_42 : decode cX11_toldThing 42 = .ok (.ifCond .eq 22, 3) := by decide +kernel
theorem dX11_toldThing_45 : decode cX11_toldThing 45 = .ok (.new 304, 3) := by decide +kernel
theorem dX11_toldThing_48 : decode cX11_toldThing 48 = .ok (.dup, 1) := by decide +kernel
theorem dX11_toldThing_49 : decode cX11_toldThing 49 = .ok (.iload_n 1, 1) := by decide +kernel
theorem dX11_toldThing_50 : decode cX11_toldThing 50 = .ok (.aload_n 0, 1) := by decide +kernel
theorem dX11_toldThing_51 : decode cX11_toldThing 51 = .ok (.getfield 39, 3) := by decide +kernel
theorem dX11_toldThing_54 : decode cX11_toldThing 54 = .ok (.aload_n 0, 1) := by decide +kernel
theorem dX11_toldThing_55 : decode cX11_toldThing 55 = .ok (.getfield 59, 3) := by decide +kernel
theorem dX11_toldThing_58 : decode cX11_toldThing 58 = .ok (.invokespecial 306, 3) := by decide +kernel
theorem dX11_toldThing_61 : decode cX11_toldThing 61 = .ok (.goto 19, 3) := by decide +kernel
theorem dX11_toldThing_64 : decode cX11_toldThing 64 = .ok (.new 309, 3) := by decide +kernel
theorem dX11_toldThing_67 : decode cX11_toldThing 67 = .ok (.dup, 1) := by decide +kernel
theorem dX11_toldThing_68 : decode cX11_toldThing 68 = .ok (.iload_n 1, 1) := by decide +kernel
theorem dX11_toldThing_69 : decode cX11_toldThing 69 = .ok (.aload_n 0, 1) := by decide +kernel
theorem dX11_toldThing_70 : decode cX11_toldThing 70 = .ok (.getfield 39, 3) := by decide +kernel
theorem dX11_toldThing_73 : decode cX11_toldThing 73 = .ok (.aload_n 0, 1) := by decide +kernel
theorem dX11_toldThing_74 : decode cX11_toldThing 74 = .ok (.getfield 59, 3) := by decide +kernel
theorem dX11_toldThing_77 : decode cX11_toldThing 77 = .ok (.invokespecial 311, 3) := by decide +kernel
theorem dX11_toldThing_80 : decode cX11_toldThing 80 = .ok (.areturn, 1) := by decide +kernel
theorem dX11_toldThing_81 : decode cX11_toldThing 81 = .ok (.aload_n 0, 1) := by decide +kernel
theorem dX11_toldThing_82 : decode cX11_toldThing 82 = .ok (.getfield 39, 3) := by decide +kernel
theorem dX11_toldThing_85 : decode cX11_toldThing 85 = .ok (.iload_n 1, 1) := by decide +kernel
theorem dX11_toldThing_86 : decode cX11_toldThing 86 = .ok (.invokevirtual 312, 3) := by decide +kernel
theorem dX11_toldThing_89 : decode cX11_toldThing 89 = .ok (.ifCond .ne 20, 3) := by decide +kernel
theorem dX11_toldThing_92 : decode cX11_toldThing 92 = .ok (.new 315, 3) := by decide +kernel
theorem dX11_toldThing_95 : decode cX11_toldThing 95 = .ok (.dup, 1) := by decide +kernel
theorem dX11_toldThing_96 : decode cX11_toldThing 96 = .ok (.iload_n 1, 1) := by decide +kernel
theorem dX11_toldThing_97 : decode cX11_toldThing 97 = .ok (.aload_n 0, 1) := by decide +kernel
theorem dX11_toldThing_98 : decode cX11_toldThing 98 = .ok (.getfield 39, 3) := by decide +kernel
theorem dX11_toldThing_101 : decode cX11_toldThing 101 = .ok (.aload_n 0, 1) := by decide +kernel
theorem dX11_toldThing_102 : decode cX11_toldThing 102 = .ok (.getfield 59, 3) := by decide +kernel
theorem dX11_toldThing_105 : decode cX11_toldThing 105 = .ok (.invokespecial 317, 3) := by decide +kernel
theorem dX11_toldThing_108 : decode cX11_toldThing 108 = .ok (.areturn, 1) := by decide +kernel
theorem dX11_toldThing_109 : decode cX11_toldThing 109 = .ok (.aload_n 0, 1) := by decide +kernel
theorem dX11_toldThing_110 : decode cX11_toldThing 110 = .ok (.getfield 39, 3) := by decide +kernel
theorem dX11_toldThing_113 : decode cX11_toldThing 113 = .ok (.getfield 318, 3) := by decide +kernel
theorem dX11_toldThing_116 : decode cX11_toldThing 116 = .ok (.iload_n 1, 1) := by decide +kernel
theorem dX11_toldThing_117 : decode cX11_toldThing 117 = .ok (.iaload, 1) := by decide +kernel
theorem dX11_toldThing_118 : decode cX11_toldThing 118 = .ok (.iload_n 2, 1) := by decide +kernel
theorem dX11_toldThing_119 : decode cX11_toldThing 119 = .ok (.if_icmp .eq 7, 3) := by decide +kernel
theorem dX11_toldThing_122 : decode cX11_toldThing 122 = .ok (.iconst 1, 1) := by decide +kernel
theorem dX11_toldThing_123 : decode cX11_toldThing 123 = .ok (.goto 4, 3) := by decide +kernel
theorem dX11_toldThing_126 : decode cX11_toldThing 126 = .ok (.iconst 0, 1) := by decide +kernel
theorem dX11_toldThing_127 : decode cX11_toldThing 127 = .ok (.istore_n 3, 1) := by decide +kernel
theorem dX11_toldThing_128 : decode cX11_toldThing 128 = .ok (.iload_n 3, 1) := by decide +kernel
theorem dX11_toldThing_129 : decode cX11_toldThing 129 = .ok (.ifCond .eq 22, 3) := by decide +kernel
theorem dX11_toldThing_132 : decode cX11_toldThing 132 = .ok (.new 321, 3) := by decide +kernel
theorem dX11_toldThing_135 : decode cX11_toldThing 135 = .ok (.dup, 1) := by decide +kernel
theorem dX11_toldThing_136 : decode cX11_toldThing 136 = .ok (.iload_n 1, 1) := by decide +kernel
theorem dX11_toldThing_137 : decode cX11_toldThing 137 = .ok (.aload_n 0, 1) := by decide +kernel
theorem dX11_toldThing_138 : decode cX11_toldThing 138 = .ok (.getfield 39, 3) := by decide +kernel
theorem dX11_toldThing_141 : decode cX11_toldThing 141 = .ok (.aload_n 0, 1) := by decide +kernel
theorem dX11_toldThing_142 : decode cX11_toldThing 142 = .ok (.getfield 59, 3) := by decide +kernel
theorem dX11_toldThing_145 : decode cX11_toldThing 145 = .ok (.invokespecial 323, 3) := by decide +kernel
theorem dX11_toldThing_148 : decode cX11_toldThing 148 = .ok (.goto 19, 3) := by decide +kernel
theorem dX11_toldThing_151 : decode cX11_toldThing 151 = .ok (.new 324, 3) := by decide +kernel
theorem dX11_toldThing_154 : decode cX11_toldThing 154 = .ok (.dup, 1) := by decide +kernel
theorem dX11_toldThing_155 : decode cX11_toldThing 155 = .ok (.iload_n 1, 1) := by decide +kernel
theorem dX11_toldThing_156 : decode cX11_toldThing 156 = .ok (.aload_n 0, 1) := by decide +kernel
theorem dX11_toldThing_157 : decode cX11_toldThing 157 = .ok (.getfield 39, 3) := by decide +kernel
theorem dX11_toldThing_160 : decode cX11_toldThing 160 = .ok (.aload_n 0, 1) := by decide +kernel
theorem dX11_toldThing_161 : decode cX11_toldThing 161 = .ok (.getfield 59, 3) := by decide +kernel
theorem dX11_toldThing_164 : decode cX11_toldThing 164 = .ok (.invokespecial 326, 3) := by decide +kernel
theorem dX11_toldThing_167 : decode cX11_toldThing 167 = .ok (.areturn, 1) := by decide +kernel
theorem dX11_isOfKind_0 : decode cX11_isOfKind 0 = .ok (.iload_n 1, 1) := by decide +kernel
theorem dX11_isOfKind_1 : decode cX11_isOfKind 1 = .ok (.tableswitch 66 0 5 #[39, 41, 46, 51, 56, 61], 39) := by decide +kernel
theorem dX11_isOfKind_40 : decode cX11_isOfKind 40 = .ok (.iconst 1, 1) := by decide +kernel
theorem dX11_isOfKind_41 : decode cX11_isOfKind 41 = .ok (.ireturn, 1) := by decide +kernel
theorem dX11_isOfKind_42 : decode cX11_isOfKind 42 = .ok (.aload_n 0, 1) := by decide +kernel
theorem dX11_isOfKind_43 : decode cX11_isOfKind 43 = .ok (.instanceof 315, 3) := by decide +kernel
theorem dX11_isOfKind_46 : decode cX11_isOfKind 46 = .ok (.ireturn, 1) := by decide +kernel
theorem dX11_isOfKind_47 : decode cX11_isOfKind 47 = .ok (.aload_n 0, 1) := by decide +kernel
theorem dX11_isOfKind_48 : decode cX11_isOfKind 48 = .ok (.instanceof 309, 3) := by decide +kernel
theorem dX11_isOfKind_51 : decode cX11_isOfKind 51 = .ok (.ireturn, 1) := by decide +kernel
theorem dX11_isOfKind_52 : decode cX11_isOfKind 52 = .ok (.aload_n 0, 1) := by decide +kernel
theorem dX11_isOfKind_53 : decode cX11_isOfKind 53 = .ok (.instanceof 324, 3) := by decide +kernel
theorem dX11_isOfKind_56 : decode cX11_isOfKind 56 = .ok (.ireturn, 1) := by decide +kernel
theorem dX11_isOfKind_57 : decode cX11_isOfKind 57 = .ok (.aload_n 0, 1) := by decide +kernel
theorem dX11_isOfKind_58 : decode cX11_isOfKind 58 = .ok (.instanceof 321, 3) := by decide +kernel
theorem dX11_isOfKind_61 : decode cX11_isOfKind 61 = .ok (.ireturn, 1) := by decide +kernel
theorem dX11_isOfKind_62 : decode cX11_isOfKind 62 = .ok (.aload_n 0, 1) := by decide +kernel
theorem dX11_isOfKind_63 : decode cX11_isOfKind 63 = .ok (.instanceof 304, 3) := by decide +kernel
theorem dX11_isOfKind_66 : decode cX11_isOfKind 66 = .ok (.ireturn, 1) := by decide +kernel
theorem dX11_isOfKind_67 : decode cX11_isOfKind 67 = .ok (.iconst 0, 1) := by decide +kernel
theorem dX11_isOfKind_68 : decode cX11_isOfKind 68 = .ok (.ireturn, 1) := by decide +kernel
theorem dX12_init_0 : decode cX12_init 0 = .ok (.aload_n 0, 1) := by decide +kernel
theorem dX12_init_1 : decode cX12_init 1 = .ok (.invokespecial 3, 3) := by decide +kernel
theorem dX12_init_4 : decode cX12_init 4 = .ok (.aload_n 0, 1) := by decide +kernel
theorem dX12_init_5 : decode cX12_init 5 = .ok (.bipush 8, 2) := by decide +kernel
theorem dX12_init_7 : decode cX12_init 7 = .ok (.newarray .int, 2) := by decide +kernel
theorem dX12_init_9 : decode cX12_init 9 = .ok (.dup, 1) := by decide +kernel
theorem dX12_init_10 : decode cX12_init 10 = .ok (.iconst 0, 1) := by decide +kernel
theorem dX12_init_11 : decode cX12_init 11 = .ok (.iconst (-1), 1) := by decide +kernel
theorem dX12_init_12 : decode cX12_init 12 = .ok (.iastore, 1) := by decide +kernel
theorem dX12_init_13 : decode cX12_init 13 = .ok (.dup, 1) := by decide +kernel
theorem dX12_init_14 : decode cX12_init 14 = .ok (.iconst 1, 1) := by decide +kernel
theorem dX12_init_15 : decode cX12_init 15 = .ok (.iconst (-1), 1) := by decide +kernel
theorem dX12_init_16 : decode cX12_init 16 = .ok (.iastore, 1) := by decide +kernel
theorem dX12_init_17 : decode cX12_init 17 = .ok (.dup, 1) := by decide +kernel
theorem dX12_init_18 : decode cX12_init 18 = .ok (.iconst 2, 1) := by decide +kernel
theorem dX12_init_19 : decode cX12_init 19 = .ok (.iconst (-1), 1) := by decide +kernel
theorem dX12_init_20 : decode cX12_init 20 = .ok (.iastore, 1) := by decide +kernel
theorem dX12_init_21 : decode cX12_init 21 = .ok (.dup, 1) := by decide +kernel
theorem dX12_init_22 : decode cX12_init 22 = .ok (.iconst 3, 1) := by decide +kernel
theorem dX12_init_23 : decode cX12_init 23 = .ok (.iconst (-1), 1) := by decide +kernel
theorem dX12_init_24 : decode cX12_init 24 = .ok (.iastore, 1) := by decide +kernel
theorem dX12_init_25 : decode cX12_init 25 = .ok (.dup, 1) := by decide +kernel
theorem dX12_init_26 : decode cX12_init 26 = .ok (.iconst 4, 1) := by decide +kernel
theorem dX12_init_27 : decode cX12_init 27 = .ok (.iconst (-1), 1) := by decide +kernel
theorem dX12_init_28 : decode cX12_init 28 = .ok (.iastore, 1) := by decide +kernel
theorem dX12_init_29 : decode cX12_init 29 = .ok (.dup, 1) := by decide +kernel
theorem dX12_init_30 : decode cX12_init 30 = .ok (.iconst 5, 1) := by decide +kernel
theorem dX12_init_31 : decode cX12_init 31 = .ok (.iconst (-1), 1) := by decide +kernel
theorem dX12_init_32 : decode cX12_init 32 = .ok (.iastore, 1) := by decide +kernel
theorem dX12_init_33 : decode cX12_init 33 = .ok (.dup, 1) := by decide +kernel
theorem dX12_init_34 : decode cX12_init 34 = .ok (.bipush 6, 2) := by decide +kernel
theorem dX12_init_36 : decode cX12_init 36 = .ok (.iconst (-1), 1) := by decide +kernel
theorem dX12_init_37 : decode cX12_init 37 = .ok (.iastore, 1) := by decide +kernel
theorem dX12_init_38 : decode cX12_init 38 = .ok (.dup, 1) := by decide +kernel
theorem dX12_init_39 : decode cX12_init 39 = .ok (.bipush 7, 2) := by decide +kernel
theorem dX12_init_41 : decode cX12_init 41 = .ok (.iconst (-1), 1) := by decide +kernel
theorem dX12_init_42 : decode cX12_init 42 = .ok (.iastore, 1) := by decide +kernel
theorem dX12_init_43 : decode cX12_init 43 = .ok (.putfield 9, 3) := by decide +kernel
theorem dX12_init_46 : decode cX12_init 46 = .ok (.aload_n 0, 1) := by decide +kernel
theorem dX12_init_47 : decode cX12_init 47 = .ok (.bipush 8, 2) := by decide +kernel
theorem dX12_init_49 : decode cX12_init 49 = .ok (.newarray .int, 2) := by decide +kernel
theorem dX12_init_51 : decode cX12_init 51 = .ok (.putfield 13, 3) := by decide +kernel
theorem dX12_init_54 : decode cX12_init 54 = .ok (.aload_n 0, 1) := by decide +kernel
theorem dX12_init_55 : decode cX12_init 55 = .ok (.sipush 320, 3) := by decide +kernel
theorem dX12_init_58 : decode cX12_init 58 = .ok (.newarray .int, 2) := by decide +kernel
theorem dX12_init_60 : decode cX12_init 60 = .ok (.putfield 16, 3) := by decide +kernel
theorem dX12_init_63 : decode cX12_init 63 = .ok (.aload_n 0, 1) := by decide +kernel
theorem dX12_init_64 : decode cX12_init 64 = .ok (.bipush 32, 2) := by decide +kernel
theorem dX12_init_66 : decode cX12_init 66 = .ok (.newarray .int, 2) := by decide +kernel
theorem dX12_init_68 : decode cX12_init 68 = .ok (.putfield 19, 3) := by decide +kernel
theorem dX12_init_71 : decode cX12_init 71 = .ok (.aload_n 0, 1) := by decide +kernel
theorem dX12_init_72 : decode cX12_init 72 = .ok (.sipush 180, 3) := by decide +kernel
theorem dX12_init_75 : decode cX12_init 75 = .ok (.newarray .int, 2) := by decide +kernel
theorem dX12_init_77 : decode cX12_init 77 = .ok (.putfield 22, 3) := by decide +kernel
theorem dX12_init_80 : decode cX12_init 80 = .ok (.aload_n 0, 1) := by decide +kernel
theorem dX12_init_81 : decode cX12_init 81 = .ok (.bipush 32, 2) := by decide +kernel
theorem dX12_init_83 : decode cX12_init 83 = .ok (.newarray .int, 2) := by decide +kernel
theorem dX12_init_85 : decode cX12_init 85 = .ok (.putfield 25, 3) := by decide +kernel
theorem dX12_init_88 : decode cX12_init 88 = .ok (.aload_n 0, 1) := by decide +kernel
theorem dX12_init_89 : decode cX12_init 89 = .ok (.sipush 180, 3) := by decide +kernel
theorem dX12_init_92 : decode cX12_init 92 = .ok (.newarray .int, 2) := by decide +kernel
theorem dX12_init_94 : decode cX12_init 94 = .ok (.putfield 28, 3) := by decide +kernel
theorem dX12_init_97 : decode cX12_init 97 = .ok (.aload_n 0, 1) := by decide +kernel
theorem dX12_init_98 : decode cX12_init 98 = .ok (.sipush 500, 3) := by decide +kernel
theorem dX12_init_101 : decode cX12_init 101 = .ok (.newarray .int, 2) := by decide +kernel
theorem dX12_init_103 : decode cX12_init 103 = .ok (.putfield 31, 3) := by decide +kernel
theorem dX12_init_106 : decode cX12_init 106 = .ok (.aload_n 0, 1) := by decide +kernel
theorem dX12_init_107 : decode cX12_init 107 = .ok (.iconst 5, 1) := by decide +kernel
theorem dX12_init_108 : decode cX12_init 108 = .ok (.newarray .int, 2) := by decide +kernel
theorem dX12_init_110 : decode cX12_init 110 = .ok (.putfield 34, 3) := by decide +kernel
theorem dX12_init_113 : decode cX12_init 113 = .ok (.aload_n 0, 1) := by decide +kernel
theorem dX12_init_114 : decode cX12_init 114 = .ok (.bipush 10, 2) := by decide +kernel
theorem dX12_init_116 : decode cX12_init 116 = .ok (.newarray .int, 2) := by decide +kernel
theorem dX12_init_118 : decode cX12_init 118 = .ok (.putfield 37, 3) := by decide +kernel
theorem dX12_init_121 : decode cX12_init 121 = .ok (.aload_n 0, 1) := by decide +kernel
theorem dX12_init_122 : decode cX12_init 122 = .ok (.bipush 10, 2) := by decide +kernel
theorem dX12_init_124 : decode cX12_init 124 = .ok (.newarray .int, 2) := by decide +kernel
theorem dX12_init_126 : decode cX12_init 126 = .ok (.putfield 40, 3) := by decide +kernel
theorem dX12_init_129 : decode cX12_init 129 = .ok (.aload_n 0, 1) := by decide +kernel
theorem dX12_init_130 : decode cX12_init 130 = .ok (.bipush 10, 2) := by decide +kernel
theorem dX12_init_132 : decode cX12_init 132 = .ok (.newarray .int, 2) := by decide +kernel
theorem dX12_init_134 : decode cX12_init 134 = .ok (.putfield 43, 3) := by decide +kernel
theorem dX12_init_137 : decode cX12_init 137 = .ok (.aload_n 0, 1) := by decide +kernel
theorem dX12_init_138 : decode cX12_init 138 = .ok (.bipush 10, 2) := by decide +kernel
theorem dX12_init_140 : decode cX12_init 140 = .ok (.newarray .int, 2) := by decide +kernel
theorem dX12_init_142 : decode cX12_init 142 = .ok (.putfield 46, 3) := by decide +kernel
theorem dX12_init_145 : decode cX12_init 145 = .ok (.aload_n 0, 1) := by decide +kernel
theorem dX12_init_146 : decode cX12_init 146 = .ok (.bipush 10, 2) := by decide +kernel
theorem dX12_init_148 : decode cX12_init 148 = .ok (.newarray .int, 2) := by decide +kernel
theorem dX12_init_150 : decode cX12_init 150 = .ok (.putfield 49, 3) := by decide +kernel
theorem dX12_init_153 : decode cX12_init 153 = .ok (.aload_n 0, 1) := by decide +kernel
theorem dX12_init_154 : decode cX12_init 154 = .ok (.bipush 10, 2) := by decide +kernel
theorem dX12_init_156 : decode cX12_init 156 = .ok (.newarray .int, 2) := by decide +kernel
theorem dX12_init_158 : decode cX12_init 158 = .ok (.putfield 52, 3) := by decide +kernel
theorem dX12_init_161 : decode cX12_init 161 = .ok (.aload_n 0, 1) := by decide +kernel
theorem dX12_init_162 : decode cX12_init 162 = .ok (.bipush 10, 2) := by decide +kernel
theorem dX12_init_164 : decode cX12_init 164 = .ok (.newarray .int, 2) := by decide +kernel
theorem dX12_init_166 : decode cX12_init 166 = .ok (.putfield 55, 3) := by decide +kernel
theorem dX12_init_169 : decode cX12_init 169 = .ok (.aload_n 0, 1) := by decide +kernel
theorem dX12_init_170 : decode cX12_init 170 = .ok (.bipush 10, 2) := by decide +kernel
theorem dX12_init_172 : decode cX12_init 172 = .ok (.newarray .int, 2) := by decide +kernel
theorem dX12_init_174 : decode cX12_init 174 = .ok (.putfield 58, 3) := by decide +kernel
theorem dX12_init_177 : decode cX12_init 177 = .ok (.aload_n 0, 1) := by decide +kernel
theorem dX12_init_178 : decode cX12_init 178 = .ok (.bipush 10, 2) := by decide +kernel
theorem dX12_init_180 : decode cX12_init 180 = .ok (.newarray .int, 2) := by decide +kernel
theorem dX12_init_182 : decode cX12_init 182 = .ok (.putfield 61, 3) := by decide +kernel
theorem dX12_init_185 : decode cX12_init 185 = .ok (.aload_n 0, 1) := by decide +kernel
theorem dX12_init_186 : decode cX12_init 186 = .ok (.bipush 30, 2) := by decide +kernel
theorem dX12_init_188 : decode cX12_init 188 = .ok (.newarray .int, 2) := by decide +kernel
theorem dX12_init_190 : decode cX12_init 190 = .ok (.putfield 64, 3) := by decide +kernel
theorem dX12_init_193 : decode cX12_init 193 = .ok (.aload_n 0, 1) := by decide +kernel
theorem dX12_init_194 : decode cX12_init 194 = .ok (.iconst 3, 1) := by decide +kernel
theorem dX12_init_195 : decode cX12_init 195 = .ok (.newarray .int, 2) := by decide +kernel
theorem dX12_init_197 : decode cX12_init 197 = .ok (.putfield 67, 3) := by decide +kernel
theorem dX12_init_200 : decode cX12_init 200 = .ok (.aload_n 0, 1) := by decide +kernel
theorem dX12_init_201 : decode cX12_init 201 = .ok (.bipush 90, 2) := by decide +kernel
theorem dX12_init_203 : decode cX12_init 203 = .ok (.newarray .int, 2) := by decide +kernel
theorem dX12_init_205 : decode cX12_init 205 = .ok (.putfield 70, 3) := by decide +kernel
theorem dX12_init_208 : decode cX12_init 208 = .ok (.aload_n 0, 1) := by decide +kernel
theorem dX12_init_209 : decode cX12_init 209 = .ok (.bipush 90, 2) := by decide +kernel
theorem dX12_init_211 : decode cX12_init 211 = .ok (.newarray .int, 2) := by decide +kernel
theorem dX12_init_213 : decode cX12_init 213 = .ok (.putfield 73, 3) := by decide +kernel
theorem dX12_init_216 : decode cX12_init 216 = .ok (.aload_n 0, 1) := by decide +kernel
theorem dX12_init_217 : decode cX12_init 217 = .ok (.bipush 90, 2) := by decide +kernel
theorem dX12_init_219 : decode cX12_init 219 = .ok (.newarray .int, 2) := by decide +kernel
theorem dX12_init_221 : decode cX12_init 221 = .ok (.putfield 76, 3) := by decide +kernel
theorem dX12_init_224 : decode cX12_init 224 = .ok (.aload_n 0, 1) := by decide +kernel
theorem dX12_init_225 : decode cX12_init 225 = .ok (.bipush 90, 2) := by decide +kernel
theorem dX12_init_227 : decode cX12_init 227 = .ok (.newarray .int, 2) := by decide +kernel
theorem dX12_init_229 : decode cX12_init 229 = .ok (.putfield 79, 3) := by decide +kernel
theorem dX12_init_232 : decode cX12_init 232 = .ok (.aload_n 0, 1) := by decide +kernel
theorem dX12_init_233 : decode cX12_init 233 = .ok (.iconst 3, 1) := by decide +kernel
theorem dX12_init_234 : decode cX12_init 234 = .ok (.newarray .long, 2) := by decide +kernel
theorem dX12_init_236 : decode cX12_init 236 = .ok (.putfield 82, 3) := by decide +kernel
theorem dX12_init_239 : decode cX12_init 239 = .ok (.aload_n 0, 1) := by decide +kernel
theorem dX12_init_240 : decode cX12_init 240 = .ok (.iconst 3, 1) := by decide +kernel
theorem dX12_init_241 : decode cX12_init 241 = .ok (.newarray .long, 2) := by decide +kernel
theorem dX12_init_243 : decode cX12_init 243 = .ok (.putfield 86, 3) := by decide +kernel
theorem dX12_init_246 : decode cX12_init 246 = .ok (.aload_n 0, 1) := by decide +kernel
theorem dX12_init_247 : decode cX12_init 247 = .ok (.bipush 9, 2) := by decide +kernel
theorem dX12_init_249 : decode cX12_init 249 = .ok (.newarray .long, 2) := by decide +kernel
theorem dX12_init_251 : decode cX12_init 251 = .ok (.putfield 89, 3) := by decide +kernel
theorem dX12_init_254 : decode cX12_init 254 = .ok (.aload_n 0, 1) := by decide +kernel
theorem dX12_init_255 : decode cX12_init 255 = .ok (.bipush 9, 2) := by decide +kernel
theorem dX12_init_257 : decode cX12_init 257 = .ok (.newarray .long, 2) := by decide +kernel
theorem dX12_init_259 : decode cX12_init 259 = .ok (.putfield 92, 3) := by decide +kernel
theorem dX12_init_262 : decode cX12_init 262 = .ok (.aload_n 0, 1) := by decide +kernel
theorem dX12_init_263 : decode cX12_init 263 = .ok (.iconst 3, 1) := by decide +kernel
theorem dX12_init_264 : decode cX12_init 264 = .ok (.newarray .long, 2) := by decide +kernel
theorem dX12_init_266 : decode cX12_init 266 = .ok (.putfield 95, 3) := by decide +kernel
theorem dX12_init_269 : decode cX12_init 269 = .ok (.aload_n 0, 1) := by decide +kernel
theorem dX12_init_270 : decode cX12_init 270 = .ok (.iconst 3, 1) := by decide +kernel
theorem dX12_init_271 : decode cX12_init 271 = .ok (.newarray .long, 2) := by decide +kernel
theorem dX12_init_273 : decode cX12_init 273 = .ok (.putfield 98, 3) := by decide +kernel
theorem dX12_init_276 : decode cX12_init 276 = .ok (.aload_n 0, 1) := by decide +kernel
theorem dX12_init_277 : decode cX12_init 277 = .ok (.bipush 9, 2) := by decide +kernel
theorem dX12_init_279 : decode cX12_init 279 = .ok (.newarray .long, 2) := by decide +kernel
theorem dX12_init_281 : decode cX12_init 281 = .ok (.putfield 101, 3) := by decide +kernel
theorem dX12_init_284 : decode cX12_init 284 = .ok (.aload_n 0, 1) := by decide +kernel
theorem dX12_init_285 : decode cX12_init 285 = .ok (.bipush 16, 2) := by decide +kernel
theorem dX12_init_287 : decode cX12_init 287 = .ok (.newarray .int, 2) := by decide +kernel
theorem dX12_init_289 : decode cX12_init 289 = .ok (.putfield 104, 3) := by decide +kernel
theorem dX12_init_292 : decode cX12_init 292 = .ok (.return_, 1) := by decide +kernel
theorem dX12_in_0 : decode cX12_in 0 = .ok (.lload_n 0, 1) := by decide +kernel
theorem dX12_in_1 : decode cX12_in 1 = .ok (.lload_n 2, 1) := by decide +kernel
theorem dX12_in_2 : decode cX12_in 2 = .ok (.lcmp, 1) := by decide +kernel
theorem dX12_in_3 : decode cX12_in 3 = .ok (.ifCond .lt 14, 3) := by decide +kernel
theorem dX12_in_6 : decode cX12_in 6 = .ok (.lload_n 0, 1) := by decide +kernel
theorem dX12_in_7 : decode cX12_in 7 = .ok (.lload 4, 2) := by decide +kernel
theorem dX12_in_9 : decode cX12_in 9 = .ok (.lcmp, 1) := by decide +kernel
theorem dX12_in_10 : decode cX12_in 10 = .ok (.ifCond .gt 7, 3) := by decide +kernel
theorem dX12_in_13 : decode cX12_in 13 = .ok (.iconst 1, 1) := by decide +kernel
theorem dX12_in_14 : decode cX12_in 14 = .ok (.goto 4, 3) := by decide +kernel
theorem dX12_in_17 : decode cX12_in 17 = .ok (.iconst 0, 1) := by decide +kernel
theorem dX12_in_18 : decode cX12_in 18 = .ok (.ireturn, 1) := by decide +kernel
theorem dX12_finding_0 : decode cX12_finding 0 = .ok (.aload_n 0, 1) := by decide +kernel
theorem dX12_finding_1 : decode cX12_finding 1 = .ok (.iload_n 1, 1) := by decide +kernel
theorem dX12_finding_2 : decode cX12_finding 2 = .ok (.putfield 111, 3) := by decide +kernel
theorem dX12_finding_5 : decode cX12_finding 5 = .ok (.ldc2_w 114, 3) := by decide +kernel
theorem dX12_finding_8 : decode cX12_finding 8 = .ok (.iload_n 1, 1) := by decide +kernel
theorem dX12_finding_9 : decode cX12_finding 9 = .ok (.i2l, 1) := by decide +kernel
theorem dX12_finding_10 : decode cX12_finding 10 = .ok (.lsub, 1) := by decide +kernel
theorem dX12_finding_11 : decode cX12_finding 11 = .ok (.lreturn, 1) := by decide +kernel
theorem dX12_isRow_0 : decode cX12_isRow 0 = .ok (.iload_n 0, 1) := by decide +kernel
theorem dX12_isRow_1 : decode cX12_isRow 1 = .ok (.i2l, 1) := by decide +kernel
theorem dX12_isRow_2 : decode cX12_isRow 2 = .ok (.lconst 0, 1) := by decide +kernel
theorem dX12_isRow_3 : decode cX12_isRow 3 = .ok (.ldc2_w 116, 3) := by decide +kernel
theorem dX12_isRow_6 : decode cX12_isRow 6 = .ok (.invokestatic 118, 3) := by decide +kernel
theorem dX12_isRow_9 : decode cX12_isRow 9 = .ok (.ireturn, 1) := by decide +kernel
theorem dX12_row_0 : decode cX12_row 0 = .ok (.aload_n 0, 1) := by decide +kernel
theorem dX12_row_1 : decode cX12_row 1 = .ok (.iconst 0, 1) := by decide +kernel
theorem dX12_row_2 : decode cX12_row 2 = .ok (.putfield 107, 3) := by decide +kernel
theorem dX12_row_5 : decode cX12_row 5 = .ok (.iload_n 1, 1) := by decide +kernel
theorem dX12_row_6 : decode cX12_row 6 = .ok (.invokestatic 122, 3) := by decide +kernel
theorem dX12_row_9 : decode cX12_row 9 = .ok (.ifCond .eq 21, 3) := by decide +kernel
theorem dX12_row_12 : decode cX12_row 12 = .ok (.iload_n 2, 1) := by decide +kernel
theorem dX12_row_13 : decode cX12_row 13 = .ok (.i2l, 1) := by decide +kernel
theorem dX12_row_14 : decode cX12_row 14 = .ok (.lconst 0, 1) := by decide +kernel
theorem dX12_row_15 : decode cX12_row 15 = .ok (.ldc2_w 126, 3) := by decide +kernel
theorem dX12_row_18 : decode cX12_row 18 = .ok (.invokestatic 118, 3) := by decide +kernel
theorem dX12_row_21 : decode cX12_row 21 = .ok (.ifCond .eq 9, 3) := by decide +kernel
theorem dX12_row_24 : decode cX12_row 24 = .ok (.iload_n 3, 1) := by decide +kernel
theorem dX12_row_25 : decode cX12_row 25 = .ok (.bipush 40, 2) := by decide +kernel
theorem dX12_row_27 : decode cX12_row 27 = .ok (.if_icmp .le 7, 3) := by decide +kernel
theorem dX12_row_30 : decode cX12_row 30 = .ok (.ldc2_w 128, 3) := by decide +kernel
theorem dX12_row_33 : decode cX12_row 33 = .ok (.lreturn, 1) := by decide +kernel
theorem dX12_row_34 : decode cX12_row 34 = .ok (.aload_n 0, 1) := by decide +kernel
theorem dX12_row_35 : decode cX12_row 35 = .ok (.iconst 0, 1) := by decide +kernel
theorem dX12_row_36 : decode cX12_row 36 = .ok (.putfield 111, 3) := by decide +kernel
theorem dX12_row_39 : decode cX12_row 39 = .ok (.iload_n 3, 1) := by decide +kernel
theorem dX12_row_40 : decode cX12_row 40 = .ok (.ifCond .ge 9, 3) := by decide +kernel
theorem dX12_row_43 : decode cX12_row 43 = .ok (.aload_n 0, 1) := by decide +kernel
theorem dX12_row_44 : decode cX12_row 44 = .ok (.iconst 4, 1) := by decide +kernel
theorem dX12_row_45 : decode cX12_row 45 = .ok (.invokevirtual 130, 3) := by decide +kernel
theorem dX12_row_48 : decode cX12_row 48 = .ok (.lreturn, 1) := by decide +kernel
theorem dX12_row_49 : decode cX12_row 49 = .ok (.aload_n 0, 1) := by decide +kernel
theorem dX12_row_50 : decode cX12_row 50 = .ok (.getfield 9, 3) := by decide +kernel
theorem dX12_row_53 : decode cX12_row 53 = .ok (.iload_n 1, 1) := by decide +kernel
theorem dX12_row_54 : decode cX12_row 54 = .ok (.iload_n 2, 1) := by decide +kernel
theorem dX12_row_55 : decode cX12_row 55 = .ok (.iastore, 1) := by decide +kernel
theorem dX12_row_56 : decode cX12_row 56 = .ok (.aload_n 0, 1) := by decide +kernel
theorem dX12_row_57 : decode cX12_row 57 = .ok (.getfield 13, 3) := by decide +kernel
theorem dX12_row_60 : decode cX12_row 60 = .ok (.iload_n 1, 1) := by decide +kernel
theorem dX12_row_61 : decode cX12_row 61 = .ok (.iload_n 3, 1) := by decide +kernel
theorem dX12_row_62 : decode cX12_row 62 = .ok (.iastore, 1) := by decide +kernel
theorem dX12_row_63 : decode cX12_row 63 = .ok (.iconst 0, 1) := by decide +kernel
theorem dX12_row_64 : decode cX12_row 64 = .ok (.istore 4, 2) := by decide +kernel
theorem dX12_row_66 : decode cX12_row 66 = .ok (.iload 4, 2) := by decide +kernel
theorem dX12_row_68 : decode cX12_row 68 = .ok (.bipush 40, 2) := by decide +kernel
theorem dX12_row_70 : decode cX12_row 70 = .ok (.if_icmp .ge 22, 3) := by decide +kernel
theorem dX12_row_73 : decode cX12_row 73 = .ok (.aload_n 0, 1) := by decide +kernel
theorem dX12_row_74 : decode cX12_row 74 = .ok (.getfield 16, 3) := by decide +kernel
theorem dX12_row_77 : decode cX12_row 77 = .ok (.bipush 40, 2) := by decide +kernel
theorem dX12_row_79 : decode cX12_row 79 = .ok (.iload_n 1, 1) := by decide +kernel
theorem dX12_row_80 : decode cX12_row 80 = .ok (.imul, 1) := by decide +kernel
theorem dX12_row_81 : decode cX12_row 81 = .ok (.iload 4, 2) := by decide +kernel
theorem dX12_row_83 : decode cX12_row 83 = .ok (.iadd, 1) := by decide +kernel
theorem dX12_row_84 : decode cX12_row 84 = .ok (.iconst 0, 1) := by decide +kernel
theorem dX12_row_85 : decode cX12_row 85 = .ok (.iastore, 1) := by decide +kernel
theorem dX12_row_86 : decode cX12_row 86 = .ok (.iinc 4 1, 3) := by decide +kernel
theorem dX12_row_89 : decode cX12_row 89 = .ok (.goto (-23), 3) := by decide +kernel
theorem dX12_row_92 : decode cX12_row 92 = .ok (.iload_n 3, 1) := by decide +kernel
theorem dX12_row_93 : decode cX12_row 93 = .ok (.i2l, 1) := by decide +kernel
theorem dX12_row_94 : decode cX12_row 94 = .ok (.lreturn, 1) := by decide +kernel
theorem dX12_set_0 : decode cX12_set 0 = .ok (.aload_n 0, 1) := by decide +kernel
theorem dX12_set_1 : decode cX12_set 1 = .ok (.iconst 0, 1) := by decide +kernel
theorem dX12_set_2 : decode cX12_set 2 = .ok (.putfield 107, 3) := by decide +kernel
theorem dX12_set_5 : decode cX12_set 5 = .ok (.iload_n 1, 1) := by decide +kernel
theorem dX12_set_6 : decode cX12_set 6 = .ok (.invokestatic 122, 3) := by decide +kernel
theorem dX12_set_9 : decode cX12_set 9 = .ok (.ifCond .ne 7, 3) := by decide +kernel
theorem dX12_set_12 : decode cX12_set 12 = .ok (.ldc2_w 128, 3) := by decide +kernel
theorem dX12_set_15 : decode cX12_set 15 = .ok (.lreturn, 1) := by decide +kernel
theorem dX12_set_16 : decode cX12_set 16 = .ok (.aload_n 0, 1) := by decide +kernel
theorem dX12_set_17 : decode cX12_set 17 = .ok (.iconst 0, 1) := by decide +kernel
theorem dX12_set_18 : decode cX12_set 18 = .ok (.putfield 111, 3) := by decide +kernel
theorem dX12_set_21 : decode cX12_set 21 = .ok (.aload_n 0, 1) := by decide +kernel
theorem dX12_set_22 : decode cX12_set 22 = .ok (.getfield 9, 3) := by decide +kernel
theorem dX12_set_25 : decode cX12_set 25 = .ok (.iload_n 1, 1) := by decide +kernel
theorem dX12_set_26 : decode cX12_set 26 = .ok (.iaload, 1) := by decide +kernel
theorem dX12_set_27 : decode cX12_set 27 = .ok (.ifCond .ge 9, 3) := by decide +kernel
theorem dX12_set_30 : decode cX12_set 30 = .ok (.aload_n 0, 1) := by decide +kernel
theorem dX12_set_31 : decode cX12_set 31 = .ok (.iconst 1, 1) := by decide +kernel
theorem dX12_set_32 : decode cX12_set 32 = .ok (.invokevirtual 130, 3) := by decide +kernel
theorem dX12_set_35 : decode cX12_set 35 = .ok (.lreturn, 1) := by decide +kernel
theorem dX12_set_36 : decode cX12_set 36 = .ok (.iload_n 2, 1) := by decide +kernel
theorem dX12_set_37 : decode cX12_set 37 = .ok (.i2l, 1) := by decide +kernel
theorem dX12_set_38 : decode cX12_set 38 = .ok (.lconst 0, 1) := by decide +kernel
theorem dX12_set_39 : decode cX12_set 39 = .ok (.aload_n 0, 1) := by decide +kernel
theorem dX12_set_40 : decode cX12_set 40 = .ok (.getfield 13, 3) := by decide +kernel
theorem dX12_set_43 : decode cX12_set 43 = .ok (.iload_n 1, 1) := by decide +kernel
theorem dX12_set_44 : decode cX12_set 44 = .ok (.iaload, 1) := by decide +kernel
theorem dX12_set_45 : decode cX12_set 45 = .ok (.iconst 1, 1) := by decide +kernel
theorem dX12_set_46 : decode cX12_set 46 = .ok (.isub, 1) := by decide +kernel
theorem dX12_set_47 : decode cX12_set 47 = .ok (.i2l, 1) := by decide +kernel
theorem dX12_set_48 : decode cX12_set 48 = .ok (.invokestatic 118, 3) := by decide +kernel
theorem dX12_set_51 : decode cX12_set 51 = .ok (.ifCond .ne 9, 3) := by decide +kernel
theorem dX12_set_54 : decode cX12_set 54 = .ok (.aload_n 0, 1) := by decide +kernel
theorem dX12_set_55 : decode cX12_set 55 = .ok (.iconst 2, 1) := by decide +kernel
theorem dX12_set_56 : decode cX12_set 56 = .ok (.invokevirtual 130, 3) := by decide +kernel
theorem dX12_set_59 : decode cX12_set 59 = .ok (.lreturn, 1) := by decide +kernel
theorem dX12_set_60 : decode cX12_set 60 = .ok (.aload_n 0, 1) := by decide +kernel
theorem dX12_set_61 : decode cX12_set 61 = .ok (.getfield 16, 3) := by decide +kernel
theorem dX12_set_64 : decode cX12_set 64 = .ok (.bipush 40, 2) := by decide +kernel
theorem dX12_set_66 : decode cX12_set 66 = .ok (.iload_n 1, 1) := by decide +kernel
theorem dX12_set_67 : decode cX12_set 67 = .ok (.imul, 1) := by decide +kernel
theorem dX12_set_68 : decode cX12_set 68 = .ok (.iload_n 2, 1) := by decide +kernel
theorem dX12_set_69 : decode cX12_set 69 = .ok (.iadd, 1) := by decide +kernel
theorem dX12_set_70 : decode cX12_set 70 = .ok (.aload_n 0, 1) := by decide +kernel
theorem dX12_set_71 : decode cX12_set 71 = .ok (.getfield 9, 3) := by decide +kernel
theorem dX12_set_74 : decode cX12_set 74 = .ok (.iload_n 1, 1) := by decide +kernel
theorem dX12_set_75 : decode cX12_set 75 = .ok (.iaload, 1) := by decide +kernel
theorem dX12_set_76 : decode cX12_set 76 = .ok (.ifCond .ne 8, 3) := by decide +kernel
theorem dX12_set_79 : decode cX12_set 79 = .ok (.iload_n 3, 1) := by decide +kernel
theorem dX12_set_80 : decode cX12_set 80 = .ok (.i2b, 1) := by decide +kernel
theorem dX12_set_81 : decode cX12_set 81 = .ok (.goto 19, 3) := by decide +kernel
theorem dX12_set_84 : decode cX12_set 84 = .ok (.aload_n 0, 1) := by decide +kernel
theorem dX12_set_85 : decode cX12_set 85 = .ok (.getfield 9, 3) := by decide +kernel
theorem dX12_set_88 : decode cX12_set 88 = .ok (.iload_n 1, 1) := by decide +kernel
theorem dX12_set_89 : decode cX12_set 89 = .ok (.iaload, 1) := by decide +kernel
theorem dX12_set_90 : decode cX12_set 90 = .ok (.iconst 1, 1) := by decide +kernel
theorem dX12_set_91 : decode cX12_set 91 = .ok (.if_icmp .ne 8, 3) := by decide +kernel
theorem dX12_set_94 : decode cX12_set 94 = .ok (.iload_n 3, 1) := by decide +kernel
theorem dX12_set_95 : decode cX12_set 95 = .ok (.i2s, 1) := by decide +kernel
theorem dX12_set_96 : decode cX12_set 96 = .ok (.goto 4, 3) := by decide +kernel
theorem dX12_set_99 : decode cX12_set 99 = .ok (.iload_n 3, 1) := by decide +kernel
theorem dX12_set_100 : decode cX12_set 100 = .ok (.iastore, 1) := by decide +kernel
theorem dX12_set_101 : decode cX12_set 101 = .ok (.aload_n 0, 1) := by decide +kernel
theorem dX12_set_102 : decode cX12_set 102 = .ok (.getfield 16, 3) := by decide +kernel
theorem dX12_set_105 : decode cX12_set 105 = .ok (.bipush 40, 2) := by decide +kernel
theorem dX12_set_107 : decode cX12_set 107 = .ok (.iload_n 1, 1) := by decide +kernel
theorem dX12_set_108 : decode cX12_set 108 = .ok (.imul, 1) := by decide +kernel
theorem dX12_set_109 : decode cX12_set 109 = .ok (.iload_n 2, 1) := by decide +kernel
theorem dX12_set_110 : decode cX12_set 110 = .ok (.iadd, 1) := by decide +kernel
theorem dX12_set_111 : decode cX12_set 111 = .ok (.iaload, 1) := by decide +kernel
theorem dX12_set_112 : decode cX12_set 112 = .ok (.i2l, 1) := by decide +kernel
theorem dX12_set_113 : decode cX12_set 113 = .ok (.lreturn, 1) := by decide +kernel
theorem dX12_copy_0 : decode cX12_copy 0 = .ok (.aload_n 0, 1) := by decide +kernel
theorem dX12_copy_1 : decode cX12_copy 1 = .ok (.iconst 0, 1) := by decide +kernel
theorem dX12_copy_2 : decode cX12_copy 2 = .ok (.putfield 107, 3) := by decide +kernel
theorem dX12_copy_5 : decode cX12_copy 5 = .ok (.iload_n 1, 1) := by decide +kernel
theorem dX12_copy_6 : decode cX12_copy 6 = .ok (.invokestatic 122, 3) := by decide +kernel
theorem dX12_copy_9 : decode cX12_copy 9 = .ok (.ifCond .eq 10, 3) := by decide +kernel
theorem dX12_copy_12 : decode cX12_copy 12 = .ok (.iload_n 3, 1) := by decide +kernel
theorem dX12_copy_13 : decode cX12_copy 13 = .ok (.invokestatic 122, 3) := by decide +kernel
theorem dX12_copy_16 : decode cX12_copy 16 = .ok (.ifCond .ne 7, 3) := by decide +kernel
theorem dX12_copy_19 : decode cX12_copy 19 = .ok (.ldc2_w 128, 3) := by decide +kernel
theorem dX12_copy_22 : decode cX12_copy 22 = .ok (.lreturn, 1) := by decide +kernel
theorem dX12_copy_23 : decode cX12_copy 23 = .ok (.aload_n 0, 1) := by decide +kernel
theorem dX12_copy_24 : decode cX12_copy 24 = .ok (.iconst 0, 1) := by decide +kernel
theorem dX12_copy_25 : decode cX12_copy 25 = .ok (.putfield 111, 3) := by decide +kernel
theorem dX12_copy_28 : decode cX12_copy 28 = .ok (.aload_n 0, 1) := by decide +kernel
theorem dX12_copy_29 : decode cX12_copy 29 = .ok (.getfield 9, 3) := by decide +kernel
theorem dX12_copy_32 : decode cX12_copy 32 = .ok (.iload_n 1, 1) := by decide +kernel
theorem dX12_copy_33 : decode cX12_copy 33 = .ok (.iaload, 1) := by decide +kernel
theorem dX12_copy_34 : decode cX12_copy 34 = .ok (.ifCond .lt 12, 3) := by decide +kernel
theorem dX12_copy_37 : decode cX12_copy 37 = .ok (.aload_n 0, 1) := by decide +kernel
theorem dX12_copy_38 : decode cX12_copy 38 = .ok (.getfield 9, 3) := by decide +kernel
theorem dX12_copy_41 : decode cX12_copy 41 = .ok (.iload_n 3, 1) := by decide +kernel
theorem dX12_copy_42 : decode cX12_copy 42 = .ok (.iaload, 1) := by decide +kernel
theorem dX12_copy_43 : decode cX12_copy 43 = .ok (.ifCond .ge 9, 3) := by decide +kernel
theorem dX12_copy_46 : decode cX12_copy 46 = .ok (.aload_n 0, 1) := by decide +kernel
theorem dX12_copy_47 : decode cX12_copy 47 = .ok (.iconst 1, 1) := by decide +kernel
theorem dX12_copy_48 : decode cX12_copy 48 = .ok (.invokevirtual 130, 3) := by decide +kernel
theorem dX12_copy_51 : decode cX12_copy 51 = .ok (.lreturn, 1) := by decide +kernel
theorem dX12_copy_52 : decode cX12_copy 52 = .ok (.aload_n 0, 1) := by decide +kernel
theorem dX12_copy_53 : decode cX12_copy 53 = .ok (.getfield 9, 3) := by decide +kernel
theorem dX12_copy_56 : decode cX12_copy 56 = .ok (.iload_n 1, 1) := by decide +kernel
theorem dX12_copy_57 : decode cX12_copy 57 = .ok (.iaload, 1) := by decide +kernel
theorem dX12_copy_58 : decode cX12_copy 58 = .ok (.aload_n 0, 1) := by decide +kernel
theorem dX12_copy_59 : decode cX12_copy 59 = .ok (.getfield 9, 3) := by decide +kernel
theorem dX12_copy_62 : decode cX12_copy 62 = .ok (.iload_n 3, 1) := by decide +kernel
theorem dX12_copy_63 : decode cX12_copy 63 = .ok (.iaload, 1) := by decide +kernel
theorem dX12_copy_64 : decode cX12_copy 64 = .ok (.if_icmp .eq 9, 3) := by decide +kernel
theorem dX12_copy_67 : decode cX12_copy 67 = .ok (.aload_n 0, 1) := by decide +kernel
theorem dX12_copy_68 : decode cX12_copy 68 = .ok (.iconst 5, 1) := by decide +kernel
theorem dX12_copy_69 : decode cX12_copy 69 = .ok (.invokevirtual 130, 3) := by decide +kernel
theorem dX12_copy_72 : decode cX12_copy 72 = .ok (.lreturn, 1) := by decide +kernel
theorem dX12_copy_73 : decode cX12_copy 73 = .ok (.iload_n 2, 1) := by decide +kernel
theorem dX12_copy_74 : decode cX12_copy 74 = .ok (.ifCond .lt 48, 3) := by decide +kernel
theorem dX12_copy_77 : decode cX12_copy 77 = .ok (.iload 4, 2) := by decide +kernel
theorem dX12_copy_79 : decode cX12_copy 79 = .ok (.ifCond .lt 43, 3) := by decide +kernel
theorem dX12_copy_82 : decode cX12_copy 82 = .ok (.iload 5, 2) := by decide +kernel
theorem dX12_copy_84 : decode cX12_copy 84 = .ok (.ifCond .lt 38, 3) := by decide +kernel
theorem dX12_copy_87 : decode cX12_copy 87 = .ok (.iload_n 2, 1) := by decide +kernel
theorem dX12_copy_88 : decode cX12_copy 88 = .ok (.i2l, 1) := by decide +kernel
theorem dX12_copy_89 : decode cX12_copy 89 = .ok (.iload 5, 2) := by decide +kernel
theorem dX12_copy_91 : decode cX12_copy 91 = .ok (.i2l, 1) := by decide +kernel
theorem dX12_copy_92 : decode cX12_copy 92 = .ok (.ladd, 1) := by decide +kernel
theorem dX12_copy_93 : decode cX12_copy 93 = .ok (.aload_n 0, 1) := by decide +kernel
theorem dX12_copy_94 : decode cX12_copy 94 = .ok (.getfield 13, 3) := by decide +kernel
theorem dX12_copy_97 : decode cX12_copy 97 = .ok (.iload_n 1, 1) := by decide +kernel
theorem dX12_copy_98 : decode cX12_copy 98 = .ok (.iaload, 1) := by decide +kernel
theorem dX12_copy_99 : decode cX12_copy 99 = .ok (.i2l, 1) := by decide +kernel
theorem dX12_copy_100 : decode cX12_copy 100 = .ok (.lcmp, 1) := by decide +kernel
theorem dX12_copy_101 : decode cX12_copy 101 = .ok (.ifCond .gt 21, 3) := by decide +kernel
theorem dX12_copy_104 : decode cX12_copy 104 = .ok (.iload 4, 2) := by decide +kernel
theorem dX12_copy_106 : decode cX12_copy 106 = .ok (.i2l, 1) := by decide +kernel
theorem dX12_copy_107 : decode cX12_copy 107 = .ok (.iload 5, 2) := by decide +kernel
theorem dX12_copy_109 : decode cX12_copy 109 = .ok (.i2l, 1) := by decide +kernel
theorem dX12_copy_110 : decode cX12_copy 110 = .ok (.ladd, 1) := by decide +kernel
theorem dX12_copy_111 : decode cX12_copy 111 = .ok (.aload_n 0, 1) := by decide +kernel
theorem dX12_copy_112 : decode cX12_copy 112 = .ok (.getfield 13, 3) := by decide +kernel
theorem dX12_copy_115 : decode cX12_copy 115 = .ok (.iload_n 3, 1) := by decide +kernel
theorem dX12_copy_116 : decode cX12_copy 116 = .ok (.iaload, 1) := by decide +kernel
theorem dX12_copy_117 : decode cX12_copy 117 = .ok (.i2l, 1) := by decide +kernel
theorem dX12_copy_118 : decode cX12_copy 118 = .ok (.lcmp, 1) := by decide +kernel
theorem dX12_copy_119 : decode cX12_copy 119 = .ok (.ifCond .le 9, 3) := by decide +kernel
theorem dX12_copy_122 : decode cX12_copy 122 = .ok (.aload_n 0, 1) := by decide +kernel
theorem dX12_copy_123 : decode cX12_copy 123 = .ok (.iconst 2, 1) := by decide +kernel
theorem dX12_copy_124 : decode cX12_copy 124 = .ok (.invokevirtual 130, 3) := by decide +kernel
theorem dX12_copy_127 : decode cX12_copy 127 = .ok (.lreturn, 1) := by decide +kernel
theorem dX12_copy_128 : decode cX12_copy 128 = .ok (.iload_n 2, 1) := by decide +kernel
theorem dX12_copy_129 : decode cX12_copy 129 = .ok (.iload 4, 2) := by decide +kernel
theorem dX12_copy_131 : decode cX12_copy 131 = .ok (.if_icmp .lt 7, 3) := by decide +kernel
theorem dX12_copy_134 : decode cX12_copy 134 = .ok (.iconst 1, 1) := by decide +kernel
theorem dX12_copy_135 : decode cX12_copy 135 = .ok (.goto 4, 3) := by decide +kernel
theorem dX12_copy_138 : decode cX12_copy 138 = .ok (.iconst 0, 1) := by decide +kernel
theorem dX12_copy_139 : decode cX12_copy 139 = .ok (.istore 6, 2) := by decide +kernel
theorem dX12_copy_141 : decode cX12_copy 141 = .ok (.iconst 0, 1) := by decide +kernel
theorem dX12_copy_142 : decode cX12_copy 142 = .ok (.istore 7, 2) := by decide +kernel
theorem dX12_copy_144 : decode cX12_copy 144 = .ok (.iload 7, 2) := by decide +kernel
theorem dX12_copy_146 : decode cX12_copy 146 = .ok (.iload 5, 2) := by decide +kernel
theorem dX12_copy_148 : decode cX12_copy 148 = .ok (.if_icmp .ge 57, 3) := by decide +kernel
theorem dX12_copy_151 : decode cX12_copy 151 = .ok (.iload 6, 2) := by decide +kernel
theorem dX12_copy_153 : decode cX12_copy 153 = .ok (.ifCond .eq 8, 3) := by decide +kernel
theorem dX12_copy_156 : decode cX12_copy 156 = .ok (.iload 7, 2) := by decide +kernel
theorem dX12_copy_158 : decode cX12_copy 158 = .ok (.goto 10, 3) := by decide +kernel
theorem dX12_copy_161 : decode cX12_copy 161 = .ok (.iload 5, 2) := by decide +kernel
theorem dX12_copy_163 : decode cX12_copy 163 = .ok (.iconst 1, 1) := by decide +kernel
theorem dX12_copy_164 : decode cX12_copy 164 = .ok (.isub, 1) := by decide +kernel
theorem dX12_copy_165 : decode cX12_copy 165 = .ok (.iload 7, 2) := by decide +kernel
theorem dX12_copy_167 : decode cX12_copy 167 = .ok (.isub, 1) := by decide +kernel
theorem dX12_copy_168 : decode cX12_copy 168 = .ok (.istore 8, 2) := by decide +kernel
theorem dX12_copy_170 : decode cX12_copy 170 = .ok (.aload_n 0, 1) := by decide +kernel
theorem dX12_copy_171 : decode cX12_copy 171 = .ok (.getfield 16, 3) := by decide +kernel
theorem dX12_copy_174 : decode cX12_copy 174 = .ok (.bipush 40, 2) := by decide +kernel
theorem dX12_copy_176 : decode cX12_copy 176 = .ok (.iload_n 3, 1) := by decide +kernel
theorem dX12_copy_177 : decode cX12_copy 177 = .ok (.imul, 1) := by decide +kernel
theorem dX12_copy_178 : decode cX12_copy 178 = .ok (.iload 4, 2) := by decide +kernel
theorem dX12_copy_180 : decode cX12_copy 180 = .ok (.iadd, 1) := by decide +kernel
theorem dX12_copy_181 : decode cX12_copy 181 = .ok (.iload 8, 2) := by decide +kernel
theorem dX12_copy_183 : decode cX12_copy 183 = .ok (.iadd, 1) := by decide +kernel
theorem dX12_copy_184 : decode cX12_copy 184 = .ok (.aload_n 0, 1) := by decide +kernel
theorem dX12_copy_185 : decode cX12_copy 185 = .ok (.getfield 16, 3) := by decide +kernel
theorem dX12_copy_188 : decode cX12_copy 188 = .ok (.bipush 40, 2) := by decide +kernel
theorem dX12_copy_190 : decode cX12_copy 190 = .ok (.iload_n 1, 1) := by decide +kernel
theorem dX12_copy_191 : decode cX12_copy 191 = .ok (.imul, 1) := by decide +kernel
theorem dX12_copy_192 : decode cX12_copy 192 = .ok (.iload_n 2, 1) := by decide +kernel
theorem dX12_copy_193 : decode cX12_copy 193 = .ok (.iadd, 1) := by decide +kernel
theorem dX12_copy_194 : decode cX12_copy 194 = .ok (.iload 8, 2) := by decide +kernel
theorem dX12_copy_196 : decode cX12_copy 196 = .ok (.iadd, 1) := by decide +kernel
theorem dX12_copy_197 : decode cX12_copy 197 = .ok (.iaload, 1) := by decide +kernel
theorem dX12_copy_198 : decode cX12_copy 198 = .ok (.iastore, 1) := by decide +kernel
theorem dX12_copy_199 : decode cX12_copy 199 = .ok (.iinc 7 1, 3) := by decide +kernel
theorem dX12_copy_202 : decode cX12_copy 202 = .ok (.goto (-58), 3) := by decide +kernel
theorem dX12_copy_205 : decode cX12_copy 205 = .ok (.iload 5, 2) := by decide +kernel
theorem dX12_copy_207 : decode cX12_copy 207 = .ok (.i2l, 1) := by decide +kernel
theorem dX12_copy_208 : decode cX12_copy 208 = .ok (.lreturn, 1) := by decide +kernel
theorem dX12_drop_0 : decode cX12_drop 0 = .ok (.aload_n 0, 1) := by decide +kernel
theorem dX12_drop_1 : decode cX12_drop 1 = .ok (.iconst 0, 1) := by decide +kernel
theorem dX12_drop_2 : decode cX12_drop 2 = .ok (.putfield 107, 3) := by decide +kernel
theorem dX12_drop_5 : decode cX12_drop 5 = .ok (.iload_n 1, 1) := by decide +kernel
theorem dX12_drop_6 : decode cX12_drop 6 = .ok (.invokestatic 122, 3) := by decide +kernel
theorem dX12_drop_9 : decode cX12_drop 9 = .ok (.ifCond .ne 7, 3) := by decide +kernel
theorem dX12_drop_12 : decode cX12_drop 12 = .ok (.ldc2_w 128, 3) := by decide +kernel
theorem dX12_drop_15 : decode cX12_drop 15 = .ok (.lreturn, 1) := by decide +kernel
theorem dX12_drop_16 : decode cX12_drop 16 = .ok (.aload_n 0, 1) := by decide +kernel
theorem dX12_drop_17 : decode cX12_drop 17 = .ok (.iconst 0, 1) := by decide +kernel
theorem dX12_drop_18 : decode cX12_drop 18 = .ok (.putfield 111, 3) := by decide +kernel
theorem dX12_drop_21 : decode cX12_drop 21 = .ok (.aload_n 0, 1) := by decide +kernel
theorem dX12_drop_22 : decode cX12_drop 22 = .ok (.getfield 9, 3) := by decide +kernel
theorem dX12_drop_25 : decode cX12_drop 25 = .ok (.iload_n 1, 1) := by decide +kernel
theorem dX12_drop_26 : decode cX12_drop 26 = .ok (.iaload, 1) := by decide +kernel
theorem dX12_drop_27 : decode cX12_drop 27 = .ok (.ifCond .ge 9, 3) := by decide +kernel
theorem dX12_drop_30 : decode cX12_drop 30 = .ok (.aload_n 0, 1) := by decide +kernel
theorem dX12_drop_31 : decode cX12_drop 31 = .ok (.iconst 1, 1) := by decide +kernel
theorem dX12_drop_32 : decode cX12_drop 32 = .ok (.invokevirtual 130, 3) := by decide +kernel
theorem dX12_drop_35 : decode cX12_drop 35 = .ok (.lreturn, 1) := by decide +kernel
theorem dX12_drop_36 : decode cX12_drop 36 = .ok (.aload_n 0, 1) := by decide +kernel
theorem dX12_drop_37 : decode cX12_drop 37 = .ok (.getfield 9, 3) := by decide +kernel
theorem dX12_drop_40 : decode cX12_drop 40 = .ok (.iload_n 1, 1) := by decide +kernel
theorem dX12_drop_41 : decode cX12_drop 41 = .ok (.iconst (-1), 1) := by decide +kernel
theorem dX12_drop_42 : decode cX12_drop 42 = .ok (.iastore, 1) := by decide +kernel
theorem dX12_drop_43 : decode cX12_drop 43 = .ok (.aload_n 0, 1) := by decide +kernel
theorem dX12_drop_44 : decode cX12_drop 44 = .ok (.getfield 13, 3) := by decide +kernel
theorem dX12_drop_47 : decode cX12_drop 47 = .ok (.iload_n 1, 1) := by decide +kernel
theorem dX12_drop_48 : decode cX12_drop 48 = .ok (.iaload, 1) := by decide +kernel
theorem dX12_drop_49 : decode cX12_drop 49 = .ok (.i2l, 1) := by decide +kernel
theorem dX12_drop_50 : decode cX12_drop 50 = .ok (.lreturn, 1) := by decide +kernel
theorem dX12_feed_0 : decode cX12_feed 0 = .ok (.aload_n 0, 1) := by decide +kernel
theorem dX12_feed_1 : decode cX12_feed 1 = .ok (.iconst 0, 1) := by decide +kernel
theorem dX12_feed_2 : decode cX12_feed 2 = .ok (.putfield 107, 3) := by decide +kernel
theorem dX12_feed_5 : decode cX12_feed 5 = .ok (.iload_n 3, 1) := by decide +kernel
theorem dX12_feed_6 : decode cX12_feed 6 = .ok (.i2l, 1) := by decide +kernel
theorem dX12_feed_7 : decode cX12_feed 7 = .ok (.lconst 1, 1) := by decide +kernel
theorem dX12_feed_8 : decode cX12_feed 8 = .ok (.ldc2_w 134, 3) := by decide +kernel
theorem dX12_feed_11 : decode cX12_feed 11 = .ok (.invokestatic 118, 3) := by decide +kernel
theorem dX12_feed_14 : decode cX12_feed 14 = .ok (.ifCond .ne 7, 3) := by decide +kernel
theorem dX12_feed_17 : decode cX12_feed 17 = .ok (.ldc2_w 128, 3) := by decide +kernel
theorem dX12_feed_20 : decode cX12_feed 20 = .ok (.lreturn, 1) := by decide +kernel
theorem dX12_feed_21 : decode cX12_feed 21 = .ok (.aload_n 0, 1) := by decide +kernel
theorem dX12_feed_22 : decode cX12_feed 22 = .ok (.getfield 136, 3) := by decide +kernel
theorem dX12_feed_25 : decode cX12_feed 25 = .ok (.iload_n 3, 1) := by decide +kernel
theorem dX12_feed_26 : decode cX12_feed 26 = .ok (.iadd, 1) := by decide +kernel
theorem dX12_feed_27 : decode cX12_feed 27 = .ok (.sipush 500, 3) := by decide +kernel
theorem dX12_feed_30 : decode cX12_feed 30 = .ok (.if_icmp .le 7, 3) := by decide +kernel
theorem dX12_feed_33 : decode cX12_feed 33 = .ok (.ldc2_w 139, 3) := by decide +kernel
theorem dX12_feed_36 : decode cX12_feed 36 = .ok (.lreturn, 1) := by decide +kernel
theorem dX12_feed_37 : decode cX12_feed 37 = .ok (.iload_n 3, 1) := by decide +kernel
theorem dX12_feed_38 : decode cX12_feed 38 = .ok (.iconst 1, 1) := by decide +kernel
theorem dX12_feed_39 : decode cX12_feed 39 = .ok (.isub, 1) := by decide +kernel
theorem dX12_feed_40 : decode cX12_feed 40 = .ok (.istore 4, 2) := by decide +kernel
theorem dX12_feed_42 : decode cX12_feed 42 = .ok (.iload 4, 2) := by decide +kernel
theorem dX12_feed_44 : decode cX12_feed 44 = .ok (.ifCond .lt 40, 3) := by decide +kernel
theorem dX12_feed_47 : decode cX12_feed 47 = .ok (.aload_n 0, 1) := by decide +kernel
theorem dX12_feed_48 : decode cX12_feed 48 = .ok (.getfield 31, 3) := by decide +kernel
theorem dX12_feed_51 : decode cX12_feed 51 = .ok (.aload_n 0, 1) := by decide +kernel
theorem dX12_feed_52 : decode cX12_feed 52 = .ok (.getfield 136, 3) := by decide +kernel
theorem dX12_feed_55 : decode cX12_feed 55 = .ok (.lload_n 1, 1) := by decide +kernel
theorem dX12_feed_56 : decode cX12_feed 56 = .ok (.bipush 8, 2) := by decide +kernel
theorem dX12_feed_58 : decode cX12_feed 58 = .ok (.iload 4, 2) := by decide +kernel
theorem dX12_feed_60 : decode cX12_feed 60 = .ok (.imul, 1) := by decide +kernel
theorem dX12_feed_61 : decode cX12_feed 61 = .ok (.lshr, 1) := by decide +kernel
theorem dX12_feed_62 : decode cX12_feed 62 = .ok (.ldc2_w 141, 3) := by decide +kernel
theorem dX12_feed_65 : decode cX12_feed 65 = .ok (.land, 1) := by decide +kernel
theorem dX12_feed_66 : decode cX12_feed 66 = .ok (.l2i, 1) := by decide +kernel
theorem dX12_feed_67 : decode cX12_feed 67 = .ok (.iastore, 1) := by decide +kernel
theorem dX12_feed_68 : decode cX12_feed 68 = .ok (.aload_n 0, 1) := by decide +kernel
theorem dX12_feed_69 : decode cX12_feed 69 = .ok (.dup, 1) := by decide +kernel
theorem dX12_feed_70 : decode cX12_feed 70 = .ok (.getfield 136, 3) := by decide +kernel
theorem dX12_feed_73 : decode cX12_feed 73 = .ok (.iconst 1, 1) := by decide +kernel
theorem dX12_feed_74 : decode cX12_feed 74 = .ok (.iadd, 1) := by decide +kernel
theorem dX12_feed_75 : decode cX12_feed 75 = .ok (.putfield 136, 3) := by decide +kernel
theorem dX12_feed_78 : decode cX12_feed 78 = .ok (.iinc 4 (-1), 3) := by decide +kernel
end
section
theorem dX12_feed_81 : decode cX12_feed 81 = .ok (.goto (-39), 3) := by decide +kernel
theorem dX12_feed_84 : decode cX12_feed 84 = .ok (.aload_n 0, 1) := by decide +kernel
theorem dX12_feed_85 : decode cX12_feed 85 = .ok (.getfield 136, 3) := by decide +kernel
theorem dX12_feed_88 : decode cX12_feed 88 = .ok (.i2l, 1) := by decide +kernel
theorem dX12_feed_89 : decode cX12_feed 89 = .ok (.lreturn, 1) := by decide +kernel
theorem dX12_byteAt_0 : decode cX12_byteAt 0 = .ok (.iload_n 1, 1) := by decide +kernel
theorem dX12_byteAt_1 : decode cX12_byteAt 1 = .ok (.aload_n 0, 1) := by decide +kernel
theorem dX12_byteAt_2 : decode cX12_byteAt 2 = .ok (.getfield 143, 3) := by decide +kernel
theorem dX12_byteAt_5 : decode cX12_byteAt 5 = .ok (.if_icmp .ge 12, 3) := by decide +kernel
theorem dX12_byteAt_8 : decode cX12_byteAt 8 = .ok (.aload_n 0, 1) := by decide +kernel
theorem dX12_byteAt_9 : decode cX12_byteAt 9 = .ok (.getfield 31, 3) := by decide +kernel
theorem dX12_byteAt_12 : decode cX12_byteAt 12 = .ok (.iload_n 1, 1) := by decide +kernel
theorem dX12_byteAt_13 : decode cX12_byteAt 13 = .ok (.iaload, 1) := by decide +kernel
theorem dX12_byteAt_14 : decode cX12_byteAt 14 = .ok (.goto 5, 3) := by decide +kernel
theorem dX12_byteAt_17 : decode cX12_byteAt 17 = .ok (.ldc 146, 2) := by decide +kernel
theorem dX12_byteAt_19 : decode cX12_byteAt 19 = .ok (.ireturn, 1) := by decide +kernel
theorem dX12_isLetter_0 : decode cX12_isLetter 0 = .ok (.iload_n 0, 1) := by decide +kernel
theorem dX12_isLetter_1 : decode cX12_isLetter 1 = .ok (.bipush 97, 2) := by decide +kernel
theorem dX12_isLetter_3 : decode cX12_isLetter 3 = .ok (.if_icmp .lt 13, 3) := by decide +kernel
theorem dX12_isLetter_6 : decode cX12_isLetter 6 = .ok (.iload_n 0, 1) := by decide +kernel
theorem dX12_isLetter_7 : decode cX12_isLetter 7 = .ok (.bipush 122, 2) := by decide +kernel
theorem dX12_isLetter_9 : decode cX12_isLetter 9 = .ok (.if_icmp .gt 7, 3) := by decide +kernel
theorem dX12_isLetter_12 : decode cX12_isLetter 12 = .ok (.iconst 1, 1) := by decide +kernel
theorem dX12_isLetter_13 : decode cX12_isLetter 13 = .ok (.goto 4, 3) := by decide +kernel
theorem dX12_isLetter_16 : decode cX12_isLetter 16 = .ok (.iconst 0, 1) := by decide +kernel
theorem dX12_isLetter_17 : decode cX12_isLetter 17 = .ok (.ireturn, 1) := by decide +kernel
theorem dX12_isFigure_0 : decode cX12_isFigure 0 = .ok (.iload_n 0, 1) := by decide +kernel
theorem dX12_isFigure_1 : decode cX12_isFigure 1 = .ok (.bipush 48, 2) := by decide +kernel
theorem dX12_isFigure_3 : decode cX12_isFigure 3 = .ok (.if_icmp .lt 13, 3) := by decide +kernel
theorem dX12_isFigure_6 : decode cX12_isFigure 6 = .ok (.iload_n 0, 1) := by decide +kernel
theorem dX12_isFigure_7 : decode cX12_isFigure 7 = .ok (.bipush 57, 2) := by decide +kernel
theorem dX12_isFigure_9 : decode cX12_isFigure 9 = .ok (.if_icmp .gt 7, 3) := by decide +kernel
theorem dX12_isFigure_12 : decode cX12_isFigure 12 = .ok (.iconst 1, 1) := by decide +kernel
theorem dX12_isFigure_13 : decode cX12_isFigure 13 = .ok (.goto 4, 3) := by decide +kernel
theorem dX12_isFigure_16 : decode cX12_isFigure 16 = .ok (.iconst 0, 1) := by decide +kernel
theorem dX12_isFigure_17 : decode cX12_isFigure 17 = .ok (.ireturn, 1) := by decide +kernel
theorem dX12_next_0 : decode cX12_next 0 = .ok (.aload_n 0, 1) := by decide +kernel
theorem dX12_next_1 : decode cX12_next 1 = .ok (.aload_n 0, 1) := by decide +kernel
theorem dX12_next_2 : decode cX12_next 2 = .ok (.getfield 147, 3) := by decide +kernel
theorem dX12_next_5 : decode cX12_next 5 = .ok (.invokevirtual 150, 3) := by decide +kernel
theorem dX12_next_8 : decode cX12_next 8 = .ok (.bipush 32, 2) := by decide +kernel
theorem dX12_next_10 : decode cX12_next 10 = .ok (.if_icmp .eq 16, 3) := by decide +kernel
theorem dX12_next_13 : decode cX12_next 13 = .ok (.aload_n 0, 1) := by decide +kernel
theorem dX12_next_14 : decode cX12_next 14 = .ok (.aload_n 0, 1) := by decide +kernel
theorem dX12_next_15 : decode cX12_next 15 = .ok (.getfield 147, 3) := by decide +kernel
theorem dX12_next_18 : decode cX12_next 18 = .ok (.invokevirtual 150, 3) := by decide +kernel
theorem dX12_next_21 : decode cX12_next 21 = .ok (.bipush 10, 2) := by decide +kernel
theorem dX12_next_23 : decode cX12_next 23 = .ok (.if_icmp .ne 16, 3) := by decide +kernel
theorem dX12_next_26 : decode cX12_next 26 = .ok (.aload_n 0, 1) := by decide +kernel
theorem dX12_next_27 : decode cX12_next 27 = .ok (.dup, 1) := by decide +kernel
theorem dX12_next_28 : decode cX12_next 28 = .ok (.getfield 147, 3) := by decide +kernel
theorem dX12_next_31 : decode cX12_next 31 = .ok (.iconst 1, 1) := by decide +kernel
theorem dX12_next_32 : decode cX12_next 32 = .ok (.iadd, 1) := by decide +kernel
theorem dX12_next_33 : decode cX12_next 33 = .ok (.putfield 147, 3) := by decide +kernel
theorem dX12_next_36 : decode cX12_next 36 = .ok (.goto (-36), 3) := by decide +kernel
theorem dX12_next_39 : decode cX12_next 39 = .ok (.aload_n 0, 1) := by decide +kernel
theorem dX12_next_40 : decode cX12_next 40 = .ok (.aload_n 0, 1) := by decide +kernel
theorem dX12_next_41 : decode cX12_next 41 = .ok (.getfield 147, 3) := by decide +kernel
theorem dX12_next_44 : decode cX12_next 44 = .ok (.putfield 154, 3) := by decide +kernel
theorem dX12_next_47 : decode cX12_next 47 = .ok (.aload_n 0, 1) := by decide +kernel
theorem dX12_next_48 : decode cX12_next 48 = .ok (.aload_n 0, 1) := by decide +kernel
theorem dX12_next_49 : decode cX12_next 49 = .ok (.getfield 147, 3) := by decide +kernel
theorem dX12_next_52 : decode cX12_next 52 = .ok (.invokevirtual 150, 3) := by decide +kernel
theorem dX12_next_55 : decode cX12_next 55 = .ok (.istore_n 1, 1) := by decide +kernel
theorem dX12_next_56 : decode cX12_next 56 = .ok (.iload_n 1, 1) := by decide +kernel
theorem dX12_next_57 : decode cX12_next 57 = .ok (.ldc 146, 2) := by decide +kernel
theorem dX12_next_59 : decode cX12_next 59 = .ok (.if_icmp .ne 11, 3) := by decide +kernel
theorem dX12_next_62 : decode cX12_next 62 = .ok (.aload_n 0, 1) := by decide +kernel
theorem dX12_next_63 : decode cX12_next 63 = .ok (.iconst 1, 1) := by decide +kernel
theorem dX12_next_64 : decode cX12_next 64 = .ok (.putfield 157, 3) := by decide +kernel
theorem dX12_next_67 : decode cX12_next 67 = .ok (.goto 129, 3) := by decide +kernel
theorem dX12_next_70 : decode cX12_next 70 = .ok (.iload_n 1, 1) := by decide +kernel
theorem dX12_next_71 : decode cX12_next 71 = .ok (.invokestatic 160, 3) := by decide +kernel
theorem dX12_next_74 : decode cX12_next 74 = .ok (.ifCond .eq 38, 3) := by decide +kernel
theorem dX12_next_77 : decode cX12_next 77 = .ok (.aload_n 0, 1) := by decide +kernel
theorem dX12_next_78 : decode cX12_next 78 = .ok (.aload_n 0, 1) := by decide +kernel
theorem dX12_next_79 : decode cX12_next 79 = .ok (.getfield 147, 3) := by decide +kernel
theorem dX12_next_82 : decode cX12_next 82 = .ok (.invokevirtual 150, 3) := by decide +kernel
theorem dX12_next_85 : decode cX12_next 85 = .ok (.invokestatic 160, 3) := by decide +kernel
theorem dX12_next_88 : decode cX12_next 88 = .ok (.ifCond .eq 16, 3) := by decide +kernel
theorem dX12_next_91 : decode cX12_next 91 = .ok (.aload_n 0, 1) := by decide +kernel
theorem dX12_next_92 : decode cX12_next 92 = .ok (.dup, 1) := by decide +kernel
theorem dX12_next_93 : decode cX12_next 93 = .ok (.getfield 147, 3) := by decide +kernel
theorem dX12_next_96 : decode cX12_next 96 = .ok (.iconst 1, 1) := by decide +kernel
theorem dX12_next_97 : decode cX12_next 97 = .ok (.iadd, 1) := by decide +kernel
theorem dX12_next_98 : decode cX12_next 98 = .ok (.putfield 147, 3) := by decide +kernel
theorem dX12_next_101 : decode cX12_next 101 = .ok (.goto (-24), 3) := by decide +kernel
theorem dX12_next_104 : decode cX12_next 104 = .ok (.aload_n 0, 1) := by decide +kernel
theorem dX12_next_105 : decode cX12_next 105 = .ok (.iconst 2, 1) := by decide +kernel
theorem dX12_next_106 : decode cX12_next 106 = .ok (.putfield 157, 3) := by decide +kernel
theorem dX12_next_109 : decode cX12_next 109 = .ok (.goto 87, 3) := by decide +kernel
theorem dX12_next_112 : decode cX12_next 112 = .ok (.iload_n 1, 1) := by decide +kernel
theorem dX12_next_113 : decode cX12_next 113 = .ok (.invokestatic 163, 3) := by decide +kernel
theorem dX12_next_116 : decode cX12_next 116 = .ok (.ifCond .eq 55, 3) := by decide +kernel
theorem dX12_next_119 : decode cX12_next 119 = .ok (.aload_n 0, 1) := by decide +kernel
theorem dX12_next_120 : decode cX12_next 120 = .ok (.aload_n 0, 1) := by decide +kernel
theorem dX12_next_121 : decode cX12_next 121 = .ok (.getfield 147, 3) := by decide +kernel
theorem dX12_next_124 : decode cX12_next 124 = .ok (.invokevirtual 150, 3) := by decide +kernel
theorem dX12_next_127 : decode cX12_next 127 = .ok (.invokestatic 163, 3) := by decide +kernel
theorem dX12_next_130 : decode cX12_next 130 = .ok (.ifCond .eq 16, 3) := by decide +kernel
theorem dX12_next_133 : decode cX12_next 133 = .ok (.aload_n 0, 1) := by decide +kernel
theorem dX12_next_134 : decode cX12_next 134 = .ok (.dup, 1) := by decide +kernel
theorem dX12_next_135 : decode cX12_next 135 = .ok (.getfield 147, 3) := by decide +kernel
theorem dX12_next_138 : decode cX12_next 138 = .ok (.iconst 1, 1) := by decide +kernel
theorem dX12_next_139 : decode cX12_next 139 = .ok (.iadd, 1) := by decide +kernel
theorem dX12_next_140 : decode cX12_next 140 = .ok (.putfield 147, 3) := by decide +kernel
theorem dX12_next_143 : decode cX12_next 143 = .ok (.goto (-24), 3) := by decide +kernel
theorem dX12_next_146 : decode cX12_next 146 = .ok (.aload_n 0, 1) := by decide +kernel
theorem dX12_next_147 : decode cX12_next 147 = .ok (.aload_n 0, 1) := by decide +kernel
theorem dX12_next_148 : decode cX12_next 148 = .ok (.getfield 147, 3) := by decide +kernel
theorem dX12_next_151 : decode cX12_next 151 = .ok (.aload_n 0, 1) := by decide +kernel
theorem dX12_next_152 : decode cX12_next 152 = .ok (.getfield 154, 3) := by decide +kernel
theorem dX12_next_155 : decode cX12_next 155 = .ok (.isub, 1) := by decide +kernel
theorem dX12_next_156 : decode cX12_next 156 = .ok (.iconst 3, 1) := by decide +kernel
theorem dX12_next_157 : decode cX12_next 157 = .ok (.if_icmp .le 7, 3) := by decide +kernel
theorem dX12_next_160 : decode cX12_next 160 = .ok (.iconst 0, 1) := by decide +kernel
theorem dX12_next_161 : decode cX12_next 161 = .ok (.goto 4, 3) := by decide +kernel
theorem dX12_next_164 : decode cX12_next 164 = .ok (.iconst 3, 1) := by decide +kernel
theorem dX12_next_165 : decode cX12_next 165 = .ok (.putfield 157, 3) := by decide +kernel
theorem dX12_next_168 : decode cX12_next 168 = .ok (.goto 28, 3) := by decide +kernel
theorem dX12_next_171 : decode cX12_next 171 = .ok (.aload_n 0, 1) := by decide +kernel
theorem dX12_next_172 : decode cX12_next 172 = .ok (.dup, 1) := by decide +kernel
theorem dX12_next_173 : decode cX12_next 173 = .ok (.getfield 147, 3) := by decide +kernel
theorem dX12_next_176 : decode cX12_next 176 = .ok (.iconst 1, 1) := by decide +kernel
theorem dX12_next_177 : decode cX12_next 177 = .ok (.iadd, 1) := by decide +kernel
theorem dX12_next_178 : decode cX12_next 178 = .ok (.putfield 147, 3) := by decide +kernel
theorem dX12_next_181 : decode cX12_next 181 = .ok (.aload_n 0, 1) := by decide +kernel
theorem dX12_next_182 : decode cX12_next 182 = .ok (.iload_n 1, 1) := by decide +kernel
theorem dX12_next_183 : decode cX12_next 183 = .ok (.bipush 59, 2) := by decide +kernel
theorem dX12_next_185 : decode cX12_next 185 = .ok (.if_icmp .ne 7, 3) := by decide +kernel
theorem dX12_next_188 : decode cX12_next 188 = .ok (.iconst 4, 1) := by decide +kernel
theorem dX12_next_189 : decode cX12_next 189 = .ok (.goto 4, 3) := by decide +kernel
theorem dX12_next_192 : decode cX12_next 192 = .ok (.iconst 0, 1) := by decide +kernel
theorem dX12_next_193 : decode cX12_next 193 = .ok (.putfield 157, 3) := by decide +kernel
theorem dX12_next_196 : decode cX12_next 196 = .ok (.aload_n 0, 1) := by decide +kernel
theorem dX12_next_197 : decode cX12_next 197 = .ok (.aload_n 0, 1) := by decide +kernel
theorem dX12_next_198 : decode cX12_next 198 = .ok (.getfield 147, 3) := by decide +kernel
theorem dX12_next_201 : decode cX12_next 201 = .ok (.putfield 166, 3) := by decide +kernel
theorem dX12_next_204 : decode cX12_next 204 = .ok (.return_, 1) := by decide +kernel
theorem dX12_bad_0 : decode cX12_bad 0 = .ok (.aload_n 0, 1) := by decide +kernel
theorem dX12_bad_1 : decode cX12_bad 1 = .ok (.getfield 169, 3) := by decide +kernel
theorem dX12_bad_4 : decode cX12_bad 4 = .ok (.ifCond .ne 16, 3) := by decide +kernel
theorem dX12_bad_7 : decode cX12_bad 7 = .ok (.aload_n 0, 1) := by decide +kernel
theorem dX12_bad_8 : decode cX12_bad 8 = .ok (.iload_n 1, 1) := by decide +kernel
theorem dX12_bad_9 : decode cX12_bad 9 = .ok (.putfield 169, 3) := by decide +kernel
theorem dX12_bad_12 : decode cX12_bad 12 = .ok (.aload_n 0, 1) := by decide +kernel
theorem dX12_bad_13 : decode cX12_bad 13 = .ok (.aload_n 0, 1) := by decide +kernel
theorem dX12_bad_14 : decode cX12_bad 14 = .ok (.getfield 154, 3) := by decide +kernel
theorem dX12_bad_17 : decode cX12_bad 17 = .ok (.putfield 172, 3) := by decide +kernel
theorem dX12_bad_20 : decode cX12_bad 20 = .ok (.return_, 1) := by decide +kernel
theorem dX12_must_0 : decode cX12_must 0 = .ok (.iload_n 1, 1) := by decide +kernel
theorem dX12_must_1 : decode cX12_must 1 = .ok (.ifCond .ne 8, 3) := by decide +kernel
theorem dX12_must_4 : decode cX12_must 4 = .ok (.aload_n 0, 1) := by decide +kernel
theorem dX12_must_5 : decode cX12_must 5 = .ok (.iconst 1, 1) := by decide +kernel
theorem dX12_must_6 : decode cX12_must 6 = .ok (.invokevirtual 175, 3) := by decide +kernel
theorem dX12_must_9 : decode cX12_must 9 = .ok (.aload_n 0, 1) := by decide +kernel
theorem dX12_must_10 : decode cX12_must 10 = .ok (.getfield 169, 3) := by decide +kernel
theorem dX12_must_13 : decode cX12_must 13 = .ok (.ifCond .ne 7, 3) := by decide +kernel
theorem dX12_must_16 : decode cX12_must 16 = .ok (.aload_n 0, 1) := by decide +kernel
theorem dX12_must_17 : decode cX12_must 17 = .ok (.invokevirtual 179, 3) := by decide +kernel
theorem dX12_must_20 : decode cX12_must 20 = .ok (.return_, 1) := by decide +kernel
theorem dX12_word_0 : decode cX12_word 0 = .ok (.lconst 0, 1) := by decide +kernel
theorem dX12_word_1 : decode cX12_word 1 = .ok (.lstore_n 1, 1) := by decide +kernel
theorem dX12_word_2 : decode cX12_word 2 = .ok (.aload_n 0, 1) := by decide +kernel
theorem dX12_word_3 : decode cX12_word 3 = .ok (.getfield 154, 3) := by decide +kernel
theorem dX12_word_6 : decode cX12_word 6 = .ok (.istore_n 3, 1) := by decide +kernel
theorem dX12_word_7 : decode cX12_word 7 = .ok (.iload_n 3, 1) := by decide +kernel
theorem dX12_word_8 : decode cX12_word 8 = .ok (.aload_n 0, 1) := by decide +kernel
theorem dX12_word_9 : decode cX12_word 9 = .ok (.getfield 166, 3) := by decide +kernel
theorem dX12_word_12 : decode cX12_word 12 = .ok (.if_icmp .ge 44, 3) := by decide +kernel
theorem dX12_word_15 : decode cX12_word 15 = .ok (.aload_n 0, 1) := by decide +kernel
theorem dX12_word_16 : decode cX12_word 16 = .ok (.getfield 157, 3) := by decide +kernel
theorem dX12_word_19 : decode cX12_word 19 = .ok (.iconst 2, 1) := by decide +kernel
theorem dX12_word_20 : decode cX12_word 20 = .ok (.if_icmp .ne 36, 3) := by decide +kernel
theorem dX12_word_23 : decode cX12_word 23 = .ok (.aload_n 0, 1) := by decide +kernel
theorem dX12_word_24 : decode cX12_word 24 = .ok (.getfield 166, 3) := by decide +kernel
theorem dX12_word_27 : decode cX12_word 27 = .ok (.aload_n 0, 1) := by decide +kernel
theorem dX12_word_28 : decode cX12_word 28 = .ok (.getfield 154, 3) := by decide +kernel
theorem dX12_word_31 : decode cX12_word 31 = .ok (.isub, 1) := by decide +kernel
theorem dX12_word_32 : decode cX12_word 32 = .ok (.bipush 8, 2) := by decide +kernel
theorem dX12_word_34 : decode cX12_word 34 = .ok (.if_icmp .ge 22, 3) := by decide +kernel
theorem dX12_word_37 : decode cX12_word 37 = .ok (.lload_n 1, 1) := by decide +kernel
theorem dX12_word_38 : decode cX12_word 38 = .ok (.bipush 8, 2) := by decide +kernel
theorem dX12_word_40 : decode cX12_word 40 = .ok (.lshl, 1) := by decide +kernel
theorem dX12_word_41 : decode cX12_word 41 = .ok (.aload_n 0, 1) := by decide +kernel
theorem dX12_word_42 : decode cX12_word 42 = .ok (.getfield 31, 3) := by decide +kernel
theorem dX12_word_45 : decode cX12_word 45 = .ok (.iload_n 3, 1) := by decide +kernel
theorem dX12_word_46 : decode cX12_word 46 = .ok (.iaload, 1) := by decide +kernel
theorem dX12_word_47 : decode cX12_word 47 = .ok (.i2l, 1) := by decide +kernel
theorem dX12_word_48 : decode cX12_word 48 = .ok (.lor, 1) := by decide +kernel
theorem dX12_word_49 : decode cX12_word 49 = .ok (.lstore_n 1, 1) := by decide +kernel
theorem dX12_word_50 : decode cX12_word 50 = .ok (.iinc 3 1, 3) := by decide +kernel
theorem dX12_word_53 : decode cX12_word 53 = .ok (.goto (-46), 3) := by decide +kernel
theorem dX12_word_56 : decode cX12_word 56 = .ok (.aload_n 0, 1) := by decide +kernel
theorem dX12_word_57 : decode cX12_word 57 = .ok (.getfield 169, 3) := by decide +kernel
theorem dX12_word_60 : decode cX12_word 60 = .ok (.ifCond .ne 7, 3) := by decide +kernel
theorem dX12_word_63 : decode cX12_word 63 = .ok (.lload_n 1, 1) := by decide +kernel
theorem dX12_word_64 : decode cX12_word 64 = .ok (.goto 4, 3) := by decide +kernel
theorem dX12_word_67 : decode cX12_word 67 = .ok (.lconst 0, 1) := by decide +kernel
theorem dX12_word_68 : decode cX12_word 68 = .ok (.lreturn, 1) := by decide +kernel
theorem dX12_numberIn_0 : decode cX12_numberIn 0 = .ok (.aload_n 0, 1) := by decide +kernel
theorem dX12_numberIn_1 : decode cX12_numberIn 1 = .ok (.getfield 169, 3) := by decide +kernel
theorem dX12_numberIn_4 : decode cX12_numberIn 4 = .ok (.ifCond .le 5, 3) := by decide +kernel
theorem dX12_numberIn_7 : decode cX12_numberIn 7 = .ok (.iconst 0, 1) := by decide +kernel
theorem dX12_numberIn_8 : decode cX12_numberIn 8 = .ok (.ireturn, 1) := by decide +kernel
theorem dX12_numberIn_9 : decode cX12_numberIn 9 = .ok (.iconst 0, 1) := by decide +kernel
theorem dX12_numberIn_10 : decode cX12_numberIn 10 = .ok (.istore_n 3, 1) := by decide +kernel
theorem dX12_numberIn_11 : decode cX12_numberIn 11 = .ok (.aload_n 0, 1) := by decide +kernel
theorem dX12_numberIn_12 : decode cX12_numberIn 12 = .ok (.getfield 154, 3) := by decide +kernel
theorem dX12_numberIn_15 : decode cX12_numberIn 15 = .ok (.istore 4, 2) := by decide +kernel
theorem dX12_numberIn_17 : decode cX12_numberIn 17 = .ok (.iload 4, 2) := by decide +kernel
theorem dX12_numberIn_19 : decode cX12_numberIn 19 = .ok (.aload_n 0, 1) := by decide +kernel
theorem dX12_numberIn_20 : decode cX12_numberIn 20 = .ok (.getfield 166, 3) := by decide +kernel
theorem dX12_numberIn_23 : decode cX12_numberIn 23 = .ok (.if_icmp .ge 33, 3) := by decide +kernel
theorem dX12_numberIn_26 : decode cX12_numberIn 26 = .ok (.aload_n 0, 1) := by decide +kernel
theorem dX12_numberIn_27 : decode cX12_numberIn 27 = .ok (.getfield 157, 3) := by decide +kernel
theorem dX12_numberIn_30 : decode cX12_numberIn 30 = .ok (.iconst 3, 1) := by decide +kernel
theorem dX12_numberIn_31 : decode cX12_numberIn 31 = .ok (.if_icmp .ne 25, 3) := by decide +kernel
theorem dX12_numberIn_34 : decode cX12_numberIn 34 = .ok (.bipush 10, 2) := by decide +kernel
theorem dX12_numberIn_36 : decode cX12_numberIn 36 = .ok (.iload_n 3, 1) := by decide +kernel
theorem dX12_numberIn_37 : decode cX12_numberIn 37 = .ok (.imul, 1) := by decide +kernel
theorem dX12_numberIn_38 : decode cX12_numberIn 38 = .ok (.aload_n 0, 1) := by decide +kernel
theorem dX12_numberIn_39 : decode cX12_numberIn 39 = .ok (.getfield 31, 3) := by decide +kernel
theorem dX12_numberIn_42 : decode cX12_numberIn 42 = .ok (.iload 4, 2) := by decide +kernel
theorem dX12_numberIn_44 : decode cX12_numberIn 44 = .ok (.iaload, 1) := by decide +kernel
theorem dX12_numberIn_45 : decode cX12_numberIn 45 = .ok (.iadd, 1) := by decide +kernel
theorem dX12_numberIn_46 : decode cX12_numberIn 46 = .ok (.bipush 48, 2) := by decide +kernel
theorem dX12_numberIn_48 : decode cX12_numberIn 48 = .ok (.isub, 1) := by decide +kernel
theorem dX12_numberIn_49 : decode cX12_numberIn 49 = .ok (.istore_n 3, 1) := by decide +kernel
theorem dX12_numberIn_50 : decode cX12_numberIn 50 = .ok (.iinc 4 1, 3) := by decide +kernel
theorem dX12_numberIn_53 : decode cX12_numberIn 53 = .ok (.goto (-36), 3) := by decide +kernel
theorem dX12_numberIn_56 : decode cX12_numberIn 56 = .ok (.aload_n 0, 1) := by decide +kernel
theorem dX12_numberIn_57 : decode cX12_numberIn 57 = .ok (.getfield 157, 3) := by decide +kernel
theorem dX12_numberIn_60 : decode cX12_numberIn 60 = .ok (.iconst 3, 1) := by decide +kernel
theorem dX12_numberIn_61 : decode cX12_numberIn 61 = .ok (.if_icmp .ne 20, 3) := by decide +kernel
theorem dX12_numberIn_64 : decode cX12_numberIn 64 = .ok (.iload_n 3, 1) := by decide +kernel
theorem dX12_numberIn_65 : decode cX12_numberIn 65 = .ok (.i2l, 1) := by decide +kernel
theorem dX12_numberIn_66 : decode cX12_numberIn 66 = .ok (.iload_n 1, 1) := by decide +kernel
theorem dX12_numberIn_67 : decode cX12_numberIn 67 = .ok (.i2l, 1) := by decide +kernel
theorem dX12_numberIn_68 : decode cX12_numberIn 68 = .ok (.iload_n 2, 1) := by decide +kernel
theorem dX12_numberIn_69 : decode cX12_numberIn 69 = .ok (.i2l, 1) := by decide +kernel
theorem dX12_numberIn_70 : decode cX12_numberIn 70 = .ok (.invokestatic 118, 3) := by decide +kernel
theorem dX12_numberIn_73 : decode cX12_numberIn 73 = .ok (.ifCond .ne 8, 3) := by decide +kernel
theorem dX12_numberIn_76 : decode cX12_numberIn 76 = .ok (.aload_n 0, 1) := by decide +kernel
theorem dX12_numberIn_77 : decode cX12_numberIn 77 = .ok (.iconst 2, 1) := by decide +kernel
theorem dX12_numberIn_78 : decode cX12_numberIn 78 = .ok (.invokevirtual 175, 3) := by decide +kernel
theorem dX12_numberIn_81 : decode cX12_numberIn 81 = .ok (.aload_n 0, 1) := by decide +kernel
theorem dX12_numberIn_82 : decode cX12_numberIn 82 = .ok (.aload_n 0, 1) := by decide +kernel
theorem dX12_numberIn_83 : decode cX12_numberIn 83 = .ok (.getfield 157, 3) := by decide +kernel
theorem dX12_numberIn_86 : decode cX12_numberIn 86 = .ok (.iconst 3, 1) := by decide +kernel
theorem dX12_numberIn_87 : decode cX12_numberIn 87 = .ok (.if_icmp .ne 7, 3) := by decide +kernel
theorem dX12_numberIn_90 : decode cX12_numberIn 90 = .ok (.iconst 1, 1) := by decide +kernel
theorem dX12_numberIn_91 : decode cX12_numberIn 91 = .ok (.goto 4, 3) := by decide +kernel
theorem dX12_numberIn_94 : decode cX12_numberIn 94 = .ok (.iconst 0, 1) := by decide +kernel
theorem dX12_numberIn_95 : decode cX12_numberIn 95 = .ok (.invokevirtual 182, 3) := by decide +kernel
theorem dX12_numberIn_98 : decode cX12_numberIn 98 = .ok (.iload_n 3, 1) := by decide +kernel
theorem dX12_numberIn_99 : decode cX12_numberIn 99 = .ok (.ireturn, 1) := by decide +kernel
theorem dX12_oneOf_0 : decode cX12_oneOf 0 = .ok (.aload_n 0, 1) := by decide +kernel
theorem dX12_oneOf_1 : decode cX12_oneOf 1 = .ok (.invokevirtual 186, 3) := by decide +kernel
theorem dX12_oneOf_4 : decode cX12_oneOf 4 = .ok (.lstore 11, 2) := by decide +kernel
theorem dX12_oneOf_6 : decode cX12_oneOf 6 = .ok (.lload 11, 2) := by decide +kernel
theorem dX12_oneOf_8 : decode cX12_oneOf 8 = .ok (.lconst 0, 1) := by decide +kernel
theorem dX12_oneOf_9 : decode cX12_oneOf 9 = .ok (.lcmp, 1) := by decide +kernel
theorem dX12_oneOf_10 : decode cX12_oneOf 10 = .ok (.ifCond .ne 8, 3) := by decide +kernel
theorem dX12_oneOf_13 : decode cX12_oneOf 13 = .ok (.ldc 146, 2) := by decide +kernel
theorem dX12_oneOf_15 : decode cX12_oneOf 15 = .ok (.goto 63, 3) := by decide +kernel
theorem dX12_oneOf_18 : decode cX12_oneOf 18 = .ok (.lload 11, 2) := by decide +kernel
theorem dX12_oneOf_20 : decode cX12_oneOf 20 = .ok (.lload_n 1, 1) := by decide +kernel
theorem dX12_oneOf_21 : decode cX12_oneOf 21 = .ok (.lcmp, 1) := by decide +kernel
theorem dX12_oneOf_22 : decode cX12_oneOf 22 = .ok (.ifCond .ne 7, 3) := by decide +kernel
theorem dX12_oneOf_25 : decode cX12_oneOf 25 = .ok (.iconst 0, 1) := by decide +kernel
theorem dX12_oneOf_26 : decode cX12_oneOf 26 = .ok (.goto 52, 3) := by decide +kernel
theorem dX12_oneOf_29 : decode cX12_oneOf 29 = .ok (.lload 11, 2) := by decide +kernel
theorem dX12_oneOf_31 : decode cX12_oneOf 31 = .ok (.lload_n 3, 1) := by decide +kernel
theorem dX12_oneOf_32 : decode cX12_oneOf 32 = .ok (.lcmp, 1) := by decide +kernel
theorem dX12_oneOf_33 : decode cX12_oneOf 33 = .ok (.ifCond .ne 7, 3) := by decide +kernel
theorem dX12_oneOf_36 : decode cX12_oneOf 36 = .ok (.iconst 1, 1) := by decide +kernel
theorem dX12_oneOf_37 : decode cX12_oneOf 37 = .ok (.goto 41, 3) := by decide +kernel
theorem dX12_oneOf_40 : decode cX12_oneOf 40 = .ok (.lload 11, 2) := by decide +kernel
theorem dX12_oneOf_42 : decode cX12_oneOf 42 = .ok (.lload 5, 2) := by decide +kernel
theorem dX12_oneOf_44 : decode cX12_oneOf 44 = .ok (.lcmp, 1) := by decide +kernel
theorem dX12_oneOf_45 : decode cX12_oneOf 45 = .ok (.ifCond .ne 7, 3) := by decide +kernel
theorem dX12_oneOf_48 : decode cX12_oneOf 48 = .ok (.iconst 2, 1) := by decide +kernel
theorem dX12_oneOf_49 : decode cX12_oneOf 49 = .ok (.goto 29, 3) := by decide +kernel
theorem dX12_oneOf_52 : decode cX12_oneOf 52 = .ok (.lload 11, 2) := by decide +kernel
theorem dX12_oneOf_54 : decode cX12_oneOf 54 = .ok (.lload 7, 2) := by decide +kernel
theorem dX12_oneOf_56 : decode cX12_oneOf 56 = .ok (.lcmp, 1) := by decide +kernel
theorem dX12_oneOf_57 : decode cX12_oneOf 57 = .ok (.ifCond .ne 7, 3) := by decide +kernel
theorem dX12_oneOf_60 : decode cX12_oneOf 60 = .ok (.iconst 3, 1) := by decide +kernel
theorem dX12_oneOf_61 : decode cX12_oneOf 61 = .ok (.goto 17, 3) := by decide +kernel
theorem dX12_oneOf_64 : decode cX12_oneOf 64 = .ok (.lload 11, 2) := by decide +kernel
theorem dX12_oneOf_66 : decode cX12_oneOf 66 = .ok (.lload 9, 2) := by decide +kernel
theorem dX12_oneOf_68 : decode cX12_oneOf 68 = .ok (.lcmp, 1) := by decide +kernel
theorem dX12_oneOf_69 : decode cX12_oneOf 69 = .ok (.ifCond .ne 7, 3) := by decide +kernel
theorem dX12_oneOf_72 : decode cX12_oneOf 72 = .ok (.iconst 4, 1) := by decide +kernel
theorem dX12_oneOf_73 : decode cX12_oneOf 73 = .ok (.goto 5, 3) := by decide +kernel
theorem dX12_oneOf_76 : decode cX12_oneOf 76 = .ok (.ldc 146, 2) := by decide +kernel
theorem dX12_oneOf_78 : decode cX12_oneOf 78 = .ok (.istore 13, 2) := by decide +kernel
theorem dX12_oneOf_80 : decode cX12_oneOf 80 = .ok (.aload_n 0, 1) := by decide +kernel
theorem dX12_oneOf_81 : decode cX12_oneOf 81 = .ok (.getfield 169, 3) := by decide +kernel
theorem dX12_oneOf_84 : decode cX12_oneOf 84 = .ok (.ifCond .ne 19, 3) := by decide +kernel
theorem dX12_oneOf_87 : decode cX12_oneOf 87 = .ok (.aload_n 0, 1) := by decide +kernel
theorem dX12_oneOf_88 : decode cX12_oneOf 88 = .ok (.iload 13, 2) := by decide +kernel
theorem dX12_oneOf_90 : decode cX12_oneOf 90 = .ok (.ldc 146, 2) := by decide +kernel
theorem dX12_oneOf_92 : decode cX12_oneOf 92 = .ok (.if_icmp .eq 7, 3) := by decide +kernel
theorem dX12_oneOf_95 : decode cX12_oneOf 95 = .ok (.iconst 1, 1) := by decide +kernel
theorem dX12_oneOf_96 : decode cX12_oneOf 96 = .ok (.goto 4, 3) := by decide +kernel
theorem dX12_oneOf_99 : decode cX12_oneOf 99 = .ok (.iconst 0, 1) := by decide +kernel
theorem dX12_oneOf_100 : decode cX12_oneOf 100 = .ok (.invokevirtual 182, 3) := by decide +kernel
theorem dX12_oneOf_103 : decode cX12_oneOf 103 = .ok (.iload 13, 2) := by decide +kernel
theorem dX12_oneOf_105 : decode cX12_oneOf 105 = .ok (.ireturn, 1) := by decide +kernel
theorem dX12_mustEnd_0 : decode cX12_mustEnd 0 = .ok (.aload_n 0, 1) := by decide +kernel
theorem dX12_mustEnd_1 : decode cX12_mustEnd 1 = .ok (.getfield 169, 3) := by decide +kernel
theorem dX12_mustEnd_4 : decode cX12_mustEnd 4 = .ok (.ifCond .ne 20, 3) := by decide +kernel
theorem dX12_mustEnd_7 : decode cX12_mustEnd 7 = .ok (.aload_n 0, 1) := by decide +kernel
theorem dX12_mustEnd_8 : decode cX12_mustEnd 8 = .ok (.aload_n 0, 1) := by decide +kernel
theorem dX12_mustEnd_9 : decode cX12_mustEnd 9 = .ok (.getfield 157, 3) := by decide +kernel
theorem dX12_mustEnd_12 : decode cX12_mustEnd 12 = .ok (.iconst 4, 1) := by decide +kernel
theorem dX12_mustEnd_13 : decode cX12_mustEnd 13 = .ok (.if_icmp .ne 7, 3) := by decide +kernel
theorem dX12_mustEnd_16 : decode cX12_mustEnd 16 = .ok (.iconst 1, 1) := by decide +kernel
theorem dX12_mustEnd_17 : decode cX12_mustEnd 17 = .ok (.goto 4, 3) := by decide +kernel
theorem dX12_mustEnd_20 : decode cX12_mustEnd 20 = .ok (.iconst 0, 1) := by decide +kernel
theorem dX12_mustEnd_21 : decode cX12_mustEnd 21 = .ok (.invokevirtual 182, 3) := by decide +kernel
theorem dX12_mustEnd_24 : decode cX12_mustEnd 24 = .ok (.return_, 1) := by decide +kernel
theorem dX12_readLaw_0 : decode cX12_readLaw 0 = .ok (.aload_n 0, 1) := by decide +kernel
theorem dX12_readLaw_1 : decode cX12_readLaw 1 = .ok (.invokevirtual 186, 3) := by decide +kernel
theorem dX12_readLaw_4 : decode cX12_readLaw 4 = .ok (.ldc2_w 190, 3) := by decide +kernel
theorem dX12_readLaw_7 : decode cX12_readLaw 7 = .ok (.lcmp, 1) := by decide +kernel
theorem dX12_readLaw_8 : decode cX12_readLaw 8 = .ok (.ifCond .ne 16, 3) := by decide +kernel
theorem dX12_readLaw_11 : decode cX12_readLaw 11 = .ok (.aload_n 0, 1) := by decide +kernel
theorem dX12_readLaw_12 : decode cX12_readLaw 12 = .ok (.getfield 192, 3) := by decide +kernel
theorem dX12_readLaw_15 : decode cX12_readLaw 15 = .ok (.iconst 4, 1) := by decide +kernel
theorem dX12_readLaw_16 : decode cX12_readLaw 16 = .ok (.if_icmp .ne 8, 3) := by decide +kernel
theorem dX12_readLaw_19 : decode cX12_readLaw 19 = .ok (.aload_n 0, 1) := by decide +kernel
theorem dX12_readLaw_20 : decode cX12_readLaw 20 = .ok (.iconst 3, 1) := by decide +kernel
theorem dX12_readLaw_21 : decode cX12_readLaw 21 = .ok (.invokevirtual 175, 3) := by decide +kernel
theorem dX12_readLaw_24 : decode cX12_readLaw 24 = .ok (.aload_n 0, 1) := by decide +kernel
theorem dX12_readLaw_25 : decode cX12_readLaw 25 = .ok (.aload_n 0, 1) := by decide +kernel
theorem dX12_readLaw_26 : decode cX12_readLaw 26 = .ok (.invokevirtual 186, 3) := by decide +kernel
theorem dX12_readLaw_29 : decode cX12_readLaw 29 = .ok (.ldc2_w 190, 3) := by decide +kernel
theorem dX12_readLaw_32 : decode cX12_readLaw 32 = .ok (.lcmp, 1) := by decide +kernel
theorem dX12_readLaw_33 : decode cX12_readLaw 33 = .ok (.ifCond .ne 7, 3) := by decide +kernel
theorem dX12_readLaw_36 : decode cX12_readLaw 36 = .ok (.iconst 1, 1) := by decide +kernel
theorem dX12_readLaw_37 : decode cX12_readLaw 37 = .ok (.goto 4, 3) := by decide +kernel
theorem dX12_readLaw_40 : decode cX12_readLaw 40 = .ok (.iconst 0, 1) := by decide +kernel
theorem dX12_readLaw_41 : decode cX12_readLaw 41 = .ok (.invokevirtual 182, 3) := by decide +kernel
theorem dX12_readLaw_44 : decode cX12_readLaw 44 = .ok (.bipush 8, 2) := by decide +kernel
theorem dX12_readLaw_46 : decode cX12_readLaw 46 = .ok (.aload_n 0, 1) := by decide +kernel
theorem dX12_readLaw_47 : decode cX12_readLaw 47 = .ok (.getfield 192, 3) := by decide +kernel
theorem dX12_readLaw_50 : decode cX12_readLaw 50 = .ok (.iconst 4, 1) := by decide +kernel
theorem dX12_readLaw_51 : decode cX12_readLaw 51 = .ok (.irem, 1) := by decide +kernel
theorem dX12_readLaw_52 : decode cX12_readLaw 52 = .ok (.imul, 1) := by decide +kernel
theorem dX12_readLaw_53 : decode cX12_readLaw 53 = .ok (.istore_n 1, 1) := by decide +kernel
theorem dX12_readLaw_54 : decode cX12_readLaw 54 = .ok (.iconst 0, 1) := by decide +kernel
theorem dX12_readLaw_55 : decode cX12_readLaw 55 = .ok (.istore_n 2, 1) := by decide +kernel
theorem dX12_readLaw_56 : decode cX12_readLaw 56 = .ok (.iload_n 2, 1) := by decide +kernel
theorem dX12_readLaw_57 : decode cX12_readLaw 57 = .ok (.iconst 4, 1) := by decide +kernel
theorem dX12_readLaw_58 : decode cX12_readLaw 58 = .ok (.if_icmp .ge 36, 3) := by decide +kernel
theorem dX12_readLaw_61 : decode cX12_readLaw 61 = .ok (.aload_n 0, 1) := by decide +kernel
theorem dX12_readLaw_62 : decode cX12_readLaw 62 = .ok (.getfield 25, 3) := by decide +kernel
theorem dX12_readLaw_65 : decode cX12_readLaw 65 = .ok (.iload_n 1, 1) := by decide +kernel
theorem dX12_readLaw_66 : decode cX12_readLaw 66 = .ok (.iload_n 2, 1) := by decide +kernel
theorem dX12_readLaw_67 : decode cX12_readLaw 67 = .ok (.iadd, 1) := by decide +kernel
theorem dX12_readLaw_68 : decode cX12_readLaw 68 = .ok (.aload_n 0, 1) := by decide +kernel
theorem dX12_readLaw_69 : decode cX12_readLaw 69 = .ok (.ldc2_w 195, 3) := by decide +kernel
theorem dX12_readLaw_72 : decode cX12_readLaw 72 = .ok (.ldc2_w 197, 3) := by decide +kernel
theorem dX12_readLaw_75 : decode cX12_readLaw 75 = .ok (.ldc2_w 199, 3) := by decide +kernel
theorem dX12_readLaw_78 : decode cX12_readLaw 78 = .ok (.ldc2_w 199, 3) := by decide +kernel
theorem dX12_readLaw_81 : decode cX12_readLaw 81 = .ok (.ldc2_w 199, 3) := by decide +kernel
theorem dX12_readLaw_84 : decode cX12_readLaw 84 = .ok (.invokevirtual 201, 3) := by decide +kernel
theorem dX12_readLaw_87 : decode cX12_readLaw 87 = .ok (.iastore, 1) := by decide +kernel
theorem dX12_readLaw_88 : decode cX12_readLaw 88 = .ok (.iinc 2 1, 3) := by decide +kernel
theorem dX12_readLaw_91 : decode cX12_readLaw 91 = .ok (.goto (-35), 3) := by decide +kernel
theorem dX12_readLaw_94 : decode cX12_readLaw 94 = .ok (.aload_n 0, 1) := by decide +kernel
theorem dX12_readLaw_95 : decode cX12_readLaw 95 = .ok (.getfield 25, 3) := by decide +kernel
theorem dX12_readLaw_98 : decode cX12_readLaw 98 = .ok (.iload_n 1, 1) := by decide +kernel
theorem dX12_readLaw_99 : decode cX12_readLaw 99 = .ok (.iconst 4, 1) := by decide +kernel
theorem dX12_readLaw_100 : decode cX12_readLaw 100 = .ok (.iadd, 1) := by decide +kernel
theorem dX12_readLaw_101 : decode cX12_readLaw 101 = .ok (.aload_n 0, 1) := by decide +kernel
theorem dX12_readLaw_102 : decode cX12_readLaw 102 = .ok (.ldc2_w 205, 3) := by decide +kernel
theorem dX12_readLaw_105 : decode cX12_readLaw 105 = .ok (.ldc2_w 197, 3) := by decide +kernel
theorem dX12_readLaw_108 : decode cX12_readLaw 108 = .ok (.ldc2_w 199, 3) := by decide +kernel
theorem dX12_readLaw_111 : decode cX12_readLaw 111 = .ok (.ldc2_w 199, 3) := by decide +kernel
theorem dX12_readLaw_114 : decode cX12_readLaw 114 = .ok (.ldc2_w 199, 3) := by decide +kernel
theorem dX12_readLaw_117 : decode cX12_readLaw 117 = .ok (.invokevirtual 201, 3) := by decide +kernel
theorem dX12_readLaw_120 : decode cX12_readLaw 120 = .ok (.iastore, 1) := by decide +kernel
theorem dX12_readLaw_121 : decode cX12_readLaw 121 = .ok (.aload_n 0, 1) := by decide +kernel
theorem dX12_readLaw_122 : decode cX12_readLaw 122 = .ok (.getfield 25, 3) := by decide +kernel
theorem dX12_readLaw_125 : decode cX12_readLaw 125 = .ok (.iload_n 1, 1) := by decide +kernel
theorem dX12_readLaw_126 : decode cX12_readLaw 126 = .ok (.iconst 5, 1) := by decide +kernel
theorem dX12_readLaw_127 : decode cX12_readLaw 127 = .ok (.iadd, 1) := by decide +kernel
theorem dX12_readLaw_128 : decode cX12_readLaw 128 = .ok (.aload_n 0, 1) := by decide +kernel
theorem dX12_readLaw_129 : decode cX12_readLaw 129 = .ok (.ldc2_w 207, 3) := by decide +kernel
theorem dX12_readLaw_132 : decode cX12_readLaw 132 = .ok (.ldc2_w 209, 3) := by decide +kernel
theorem dX12_readLaw_135 : decode cX12_readLaw 135 = .ok (.ldc2_w 211, 3) := by decide +kernel
theorem dX12_readLaw_138 : decode cX12_readLaw 138 = .ok (.ldc2_w 213, 3) := by decide +kernel
theorem dX12_readLaw_141 : decode cX12_readLaw 141 = .ok (.ldc2_w 215, 3) := by decide +kernel
theorem dX12_readLaw_144 : decode cX12_readLaw 144 = .ok (.invokevirtual 201, 3) := by decide +kernel
theorem dX12_readLaw_147 : decode cX12_readLaw 147 = .ok (.iastore, 1) := by decide +kernel
theorem dX12_readLaw_148 : decode cX12_readLaw 148 = .ok (.aload_n 0, 1) := by decide +kernel
theorem dX12_readLaw_149 : decode cX12_readLaw 149 = .ok (.getfield 25, 3) := by decide +kernel
theorem dX12_readLaw_152 : decode cX12_readLaw 152 = .ok (.iload_n 1, 1) := by decide +kernel
theorem dX12_readLaw_153 : decode cX12_readLaw 153 = .ok (.bipush 6, 2) := by decide +kernel
theorem dX12_readLaw_155 : decode cX12_readLaw 155 = .ok (.iadd, 1) := by decide +kernel
theorem dX12_readLaw_156 : decode cX12_readLaw 156 = .ok (.aload_n 0, 1) := by decide +kernel
theorem dX12_readLaw_157 : decode cX12_readLaw 157 = .ok (.ldc2_w 217, 3) := by decide +kernel
theorem dX12_readLaw_160 : decode cX12_readLaw 160 = .ok (.ldc2_w 219, 3) := by decide +kernel
theorem dX12_readLaw_163 : decode cX12_readLaw 163 = .ok (.ldc2_w 199, 3) := by decide +kernel
theorem dX12_readLaw_166 : decode cX12_readLaw 166 = .ok (.ldc2_w 199, 3) := by decide +kernel
theorem dX12_readLaw_169 : decode cX12_readLaw 169 = .ok (.ldc2_w 199, 3) := by decide +kernel
theorem dX12_readLaw_172 : decode cX12_readLaw 172 = .ok (.invokevirtual 201, 3) := by decide +kernel
theorem dX12_readLaw_175 : decode cX12_readLaw 175 = .ok (.iastore, 1) := by decide +kernel
theorem dX12_readLaw_176 : decode cX12_readLaw 176 = .ok (.aload_n 0, 1) := by decide +kernel
theorem dX12_readLaw_177 : decode cX12_readLaw 177 = .ok (.getfield 25, 3) := by decide +kernel
theorem dX12_readLaw_180 : decode cX12_readLaw 180 = .ok (.iload_n 1, 1) := by decide +kernel
theorem dX12_readLaw_181 : decode cX12_readLaw 181 = .ok (.bipush 7, 2) := by decide +kernel
theorem dX12_readLaw_183 : decode cX12_readLaw 183 = .ok (.iadd, 1) := by decide +kernel
theorem dX12_readLaw_184 : decode cX12_readLaw 184 = .ok (.aload_n 0, 1) := by decide +kernel
theorem dX12_readLaw_185 : decode cX12_readLaw 185 = .ok (.iconst 0, 1) := by decide +kernel
theorem dX12_readLaw_186 : decode cX12_readLaw 186 = .ok (.bipush 100, 2) := by decide +kernel
theorem dX12_readLaw_188 : decode cX12_readLaw 188 = .ok (.invokevirtual 221, 3) := by decide +kernel
theorem dX12_readLaw_191 : decode cX12_readLaw 191 = .ok (.iastore, 1) := by decide +kernel
theorem dX12_readLaw_192 : decode cX12_readLaw 192 = .ok (.aload_n 0, 1) := by decide +kernel
theorem dX12_readLaw_193 : decode cX12_readLaw 193 = .ok (.invokevirtual 225, 3) := by decide +kernel
theorem dX12_readLaw_196 : decode cX12_readLaw 196 = .ok (.aload_n 0, 1) := by decide +kernel
theorem dX12_readLaw_197 : decode cX12_readLaw 197 = .ok (.dup, 1) := by decide +kernel
theorem dX12_readLaw_198 : decode cX12_readLaw 198 = .ok (.getfield 192, 3) := by decide +kernel
theorem dX12_readLaw_201 : decode cX12_readLaw 201 = .ok (.iconst 1, 1) := by decide +kernel
theorem dX12_readLaw_202 : decode cX12_readLaw 202 = .ok (.iadd, 1) := by decide +kernel
theorem dX12_readLaw_203 : decode cX12_readLaw 203 = .ok (.putfield 192, 3) := by decide +kernel
theorem dX12_readLaw_206 : decode cX12_readLaw 206 = .ok (.return_, 1) := by decide +kernel
theorem dX12_kindOfWord_0 : decode cX12_kindOfWord 0 = .ok (.aload_n 0, 1) := by decide +kernel
theorem dX12_kindOfWord_1 : decode cX12_kindOfWord 1 = .ok (.invokevirtual 186, 3) := by decide +kernel
theorem dX12_kindOfWord_4 : decode cX12_kindOfWord 4 = .ok (.lstore_n 1, 1) := by decide +kernel
theorem dX12_kindOfWord_5 : decode cX12_kindOfWord 5 = .ok (.lload_n 1, 1) := by decide +kernel
theorem dX12_kindOfWord_6 : decode cX12_kindOfWord 6 = .ok (.ldc2_w 228, 3) := by decide +kernel
theorem dX12_kindOfWord_9 : decode cX12_kindOfWord 9 = .ok (.lcmp, 1) := by decide +kernel
theorem dX12_kindOfWord_10 : decode cX12_kindOfWord 10 = .ok (.ifCond .ne 7, 3) := by decide +kernel
theorem dX12_kindOfWord_13 : decode cX12_kindOfWord 13 = .ok (.iconst 0, 1) := by decide +kernel
theorem dX12_kindOfWord_14 : decode cX12_kindOfWord 14 = .ok (.goto 78, 3) := by decide +kernel
theorem dX12_kindOfWord_17 : decode cX12_kindOfWord 17 = .ok (.lload_n 1, 1) := by decide +kernel
theorem dX12_kindOfWord_18 : decode cX12_kindOfWord 18 = .ok (.ldc2_w 230, 3) := by decide +kernel
theorem dX12_kindOfWord_21 : decode cX12_kindOfWord 21 = .ok (.lcmp, 1) := by decide +kernel
theorem dX12_kindOfWord_22 : decode cX12_kindOfWord 22 = .ok (.ifCond .ne 7, 3) := by decide +kernel
theorem dX12_kindOfWord_25 : decode cX12_kindOfWord 25 = .ok (.iconst 1, 1) := by decide +kernel
theorem dX12_kindOfWord_26 : decode cX12_kindOfWord 26 = .ok (.goto 66, 3) := by decide +kernel
theorem dX12_kindOfWord_29 : decode cX12_kindOfWord 29 = .ok (.lload_n 1, 1) := by decide +kernel
theorem dX12_kindOfWord_30 : decode cX12_kindOfWord 30 = .ok (.ldc2_w 232, 3) := by decide +kernel
theorem dX12_kindOfWord_33 : decode cX12_kindOfWord 33 = .ok (.lcmp, 1) := by decide +kernel
theorem dX12_kindOfWord_34 : decode cX12_kindOfWord 34 = .ok (.ifCond .ne 7, 3) := by decide +kernel
theorem dX12_kindOfWord_37 : decode cX12_kindOfWord 37 = .ok (.iconst 2, 1) := by decide +kernel
theorem dX12_kindOfWord_38 : decode cX12_kindOfWord 38 = .ok (.goto 54, 3) := by decide +kernel
theorem dX12_kindOfWord_41 : decode cX12_kindOfWord 41 = .ok (.lload_n 1, 1) := by decide +kernel
theorem dX12_kindOfWord_42 : decode cX12_kindOfWord 42 = .ok (.ldc2_w 234, 3) := by decide +kernel
theorem dX12_kindOfWord_45 : decode cX12_kindOfWord 45 = .ok (.lcmp, 1) := by decide +kernel
theorem dX12_kindOfWord_46 : decode cX12_kindOfWord 46 = .ok (.ifCond .ne 7, 3) := by decide +kernel
theorem dX12_kindOfWord_49 : decode cX12_kindOfWord 49 = .ok (.iconst 3, 1) := by decide +kernel
theorem dX12_kindOfWord_50 : decode cX12_kindOfWord 50 = .ok (.goto 42, 3) := by decide +kernel
theorem dX12_kindOfWord_53 : decode cX12_kindOfWord 53 = .ok (.lload_n 1, 1) := by decide +kernel
theorem dX12_kindOfWord_54 : decode cX12_kindOfWord 54 = .ok (.ldc2_w 236, 3) := by decide +kernel
theorem dX12_kindOfWord_57 : decode cX12_kindOfWord 57 = .ok (.lcmp, 1) := by decide +kernel
theorem dX12_kindOfWord_58 : decode cX12_kindOfWord 58 = .ok (.ifCond .ne 7, 3) := by decide +kernel
theorem dX12_kindOfWord_61 : decode cX12_kindOfWord 61 = .ok (.iconst 4, 1) := by decide +kernel
theorem dX12_kindOfWord_62 : decode cX12_kindOfWord 62 = .ok (.goto 30, 3) := by decide +kernel
theorem dX12_kindOfWord_65 : decode cX12_kindOfWord 65 = .ok (.lload_n 1, 1) := by decide +kernel
theorem dX12_kindOfWord_66 : decode cX12_kindOfWord 66 = .ok (.ldc2_w 238, 3) := by decide +kernel
theorem dX12_kindOfWord_69 : decode cX12_kindOfWord 69 = .ok (.lcmp, 1) := by decide +kernel
theorem dX12_kindOfWord_70 : decode cX12_kindOfWord 70 = .ok (.ifCond .ne 7, 3) := by decide +kernel
theorem dX12_kindOfWord_73 : decode cX12_kindOfWord 73 = .ok (.iconst 5, 1) := by decide +kernel
theorem dX12_kindOfWord_74 : decode cX12_kindOfWord 74 = .ok (.goto 18, 3) := by decide +kernel
theorem dX12_kindOfWord_77 : decode cX12_kindOfWord 77 = .ok (.lload_n 1, 1) := by decide +kernel
theorem dX12_kindOfWord_78 : decode cX12_kindOfWord 78 = .ok (.ldc2_w 240, 3) := by decide +kernel
theorem dX12_kindOfWord_81 : decode cX12_kindOfWord 81 = .ok (.lcmp, 1) := by decide +kernel
theorem dX12_kindOfWord_82 : decode cX12_kindOfWord 82 = .ok (.ifCond .ne 8, 3) := by decide +kernel
theorem dX12_kindOfWord_85 : decode cX12_kindOfWord 85 = .ok (.bipush 6, 2) := by decide +kernel
theorem dX12_kindOfWord_87 : decode cX12_kindOfWord 87 = .ok (.goto 5, 3) := by decide +kernel
theorem dX12_kindOfWord_90 : decode cX12_kindOfWord 90 = .ok (.ldc 146, 2) := by decide +kernel
theorem dX12_kindOfWord_92 : decode cX12_kindOfWord 92 = .ok (.ireturn, 1) := by decide +kernel
theorem dX12_readNumbers_0 : decode cX12_readNumbers 0 = .ok (.iload_n 1, 1) := by decide +kernel
theorem dX12_readNumbers_1 : decode cX12_readNumbers 1 = .ok (.ifCond .ne 62, 3) := by decide +kernel
theorem dX12_readNumbers_4 : decode cX12_readNumbers 4 = .ok (.aload_n 0, 1) := by decide +kernel
theorem dX12_readNumbers_5 : decode cX12_readNumbers 5 = .ok (.getfield 28, 3) := by decide +kernel
theorem dX12_readNumbers_8 : decode cX12_readNumbers 8 = .ok (.iload_n 2, 1) := by decide +kernel
theorem dX12_readNumbers_9 : decode cX12_readNumbers 9 = .ok (.iconst 2, 1) := by decide +kernel
theorem dX12_readNumbers_10 : decode cX12_readNumbers 10 = .ok (.iadd, 1) := by decide +kernel
theorem dX12_readNumbers_11 : decode cX12_readNumbers 11 = .ok (.aload_n 0, 1) := by decide +kernel
theorem dX12_readNumbers_12 : decode cX12_readNumbers 12 = .ok (.ldc2_w 242, 3) := by decide +kernel
theorem dX12_readNumbers_15 : decode cX12_readNumbers 15 = .ok (.ldc2_w 244, 3) := by decide +kernel
theorem dX12_readNumbers_18 : decode cX12_readNumbers 18 = .ok (.ldc2_w 246, 3) := by decide +kernel
theorem dX12_readNumbers_21 : decode cX12_readNumbers 21 = .ok (.ldc2_w 248, 3) := by decide +kernel
theorem dX12_readNumbers_24 : decode cX12_readNumbers 24 = .ok (.ldc2_w 199, 3) := by decide +kernel
theorem dX12_readNumbers_27 : decode cX12_readNumbers 27 = .ok (.invokevirtual 201, 3) := by decide +kernel
theorem dX12_readNumbers_30 : decode cX12_readNumbers 30 = .ok (.iastore, 1) := by decide +kernel
theorem dX12_readNumbers_31 : decode cX12_readNumbers 31 = .ok (.aload_n 0, 1) := by decide +kernel
theorem dX12_readNumbers_32 : decode cX12_readNumbers 32 = .ok (.getfield 28, 3) := by decide +kernel
theorem dX12_readNumbers_35 : decode cX12_readNumbers 35 = .ok (.iload_n 2, 1) := by decide +kernel
theorem dX12_readNumbers_36 : decode cX12_readNumbers 36 = .ok (.iconst 3, 1) := by decide +kernel
theorem dX12_readNumbers_37 : decode cX12_readNumbers 37 = .ok (.iadd, 1) := by decide +kernel
theorem dX12_readNumbers_38 : decode cX12_readNumbers 38 = .ok (.aload_n 0, 1) := by decide +kernel
theorem dX12_readNumbers_39 : decode cX12_readNumbers 39 = .ok (.iconst 0, 1) := by decide +kernel
theorem dX12_readNumbers_40 : decode cX12_readNumbers 40 = .ok (.iconst 1, 1) := by decide +kernel
theorem dX12_readNumbers_41 : decode cX12_readNumbers 41 = .ok (.invokevirtual 221, 3) := by decide +kernel
theorem dX12_readNumbers_44 : decode cX12_readNumbers 44 = .ok (.iastore, 1) := by decide +kernel
theorem dX12_readNumbers_45 : decode cX12_readNumbers 45 = .ok (.aload_n 0, 1) := by decide +kernel
theorem dX12_readNumbers_46 : decode cX12_readNumbers 46 = .ok (.getfield 28, 3) := by decide +kernel
theorem dX12_readNumbers_49 : decode cX12_readNumbers 49 = .ok (.iload_n 2, 1) := by decide +kernel
theorem dX12_readNumbers_50 : decode cX12_readNumbers 50 = .ok (.iconst 4, 1) := by decide +kernel
theorem dX12_readNumbers_51 : decode cX12_readNumbers 51 = .ok (.iadd, 1) := by decide +kernel
theorem dX12_readNumbers_52 : decode cX12_readNumbers 52 = .ok (.aload_n 0, 1) := by decide +kernel
theorem dX12_readNumbers_53 : decode cX12_readNumbers 53 = .ok (.iconst 1, 1) := by decide +kernel
theorem dX12_readNumbers_54 : decode cX12_readNumbers 54 = .ok (.bipush 99, 2) := by decide +kernel
theorem dX12_readNumbers_56 : decode cX12_readNumbers 56 = .ok (.invokevirtual 221, 3) := by decide +kernel
theorem dX12_readNumbers_59 : decode cX12_readNumbers 59 = .ok (.iastore, 1) := by decide +kernel
theorem dX12_readNumbers_60 : decode cX12_readNumbers 60 = .ok (.goto 254, 3) := by decide +kernel
theorem dX12_readNumbers_63 : decode cX12_readNumbers 63 = .ok (.iload_n 1, 1) := by decide +kernel
theorem dX12_readNumbers_64 : decode cX12_readNumbers 64 = .ok (.iconst 1, 1) := by decide +kernel
theorem dX12_readNumbers_65 : decode cX12_readNumbers 65 = .ok (.if_icmp .ne 75, 3) := by decide +kernel
theorem dX12_readNumbers_68 : decode cX12_readNumbers 68 = .ok (.aload_n 0, 1) := by decide +kernel
theorem dX12_readNumbers_69 : decode cX12_readNumbers 69 = .ok (.getfield 28, 3) := by decide +kernel
theorem dX12_readNumbers_72 : decode cX12_readNumbers 72 = .ok (.iload_n 2, 1) := by decide +kernel
theorem dX12_readNumbers_73 : decode cX12_readNumbers 73 = .ok (.iconst 2, 1) := by decide +kernel
theorem dX12_readNumbers_74 : decode cX12_readNumbers 74 = .ok (.iadd, 1) := by decide +kernel
theorem dX12_readNumbers_75 : decode cX12_readNumbers 75 = .ok (.aload_n 0, 1) := by decide +kernel
theorem dX12_readNumbers_76 : decode cX12_readNumbers 76 = .ok (.iconst 0, 1) := by decide +kernel
theorem dX12_readNumbers_77 : decode cX12_readNumbers 77 = .ok (.bipush 99, 2) := by decide +kernel
theorem dX12_readNumbers_79 : decode cX12_readNumbers 79 = .ok (.invokevirtual 221, 3) := by decide +kernel
theorem dX12_readNumbers_82 : decode cX12_readNumbers 82 = .ok (.iastore, 1) := by decide +kernel
theorem dX12_readNumbers_83 : decode cX12_readNumbers 83 = .ok (.aload_n 0, 1) := by decide +kernel
theorem dX12_readNumbers_84 : decode cX12_readNumbers 84 = .ok (.getfield 28, 3) := by decide +kernel
theorem dX12_readNumbers_87 : decode cX12_readNumbers 87 = .ok (.iload_n 2, 1) := by decide +kernel
theorem dX12_readNumbers_88 : decode cX12_readNumbers 88 = .ok (.iconst 3, 1) := by decide +kernel
theorem dX12_readNumbers_89 : decode cX12_readNumbers 89 = .ok (.iadd, 1) := by decide +kernel
theorem dX12_readNumbers_90 : decode cX12_readNumbers 90 = .ok (.aload_n 0, 1) := by decide +kernel
theorem dX12_readNumbers_91 : decode cX12_readNumbers 91 = .ok (.iconst 0, 1) := by decide +kernel
theorem dX12_readNumbers_92 : decode cX12_readNumbers 92 = .ok (.bipush 99, 2) := by decide +kernel
theorem dX12_readNumbers_94 : decode cX12_readNumbers 94 = .ok (.invokevirtual 221, 3) := by decide +kernel
theorem dX12_readNumbers_97 : decode cX12_readNumbers 97 = .ok (.iastore, 1) := by decide +kernel
theorem dX12_readNumbers_98 : decode cX12_readNumbers 98 = .ok (.aload_n 0, 1) := by decide +kernel
theorem dX12_readNumbers_99 : decode cX12_readNumbers 99 = .ok (.getfield 28, 3) := by decide +kernel
theorem dX12_readNumbers_102 : decode cX12_readNumbers 102 = .ok (.iload_n 2, 1) := by decide +kernel
theorem dX12_readNumbers_103 : decode cX12_readNumbers 103 = .ok (.iconst 4, 1) := by decide +kernel
theorem dX12_readNumbers_104 : decode cX12_readNumbers 104 = .ok (.iadd, 1) := by decide +kernel
theorem dX12_readNumbers_105 : decode cX12_readNumbers 105 = .ok (.aload_n 0, 1) := by decide +kernel
theorem dX12_readNumbers_106 : decode cX12_readNumbers 106 = .ok (.aload_n 0, 1) := by decide +kernel
theorem dX12_readNumbers_107 : decode cX12_readNumbers 107 = .ok (.getfield 28, 3) := by decide +kernel
theorem dX12_readNumbers_110 : decode cX12_readNumbers 110 = .ok (.iload_n 2, 1) := by decide +kernel
theorem dX12_readNumbers_111 : decode cX12_readNumbers 111 = .ok (.iconst 2, 1) := by decide +kernel
theorem dX12_readNumbers_112 : decode cX12_readNumbers 112 = .ok (.iadd, 1) := by decide +kernel
theorem dX12_readNumbers_113 : decode cX12_readNumbers 113 = .ok (.iaload, 1) := by decide +kernel
theorem dX12_readNumbers_114 : decode cX12_readNumbers 114 = .ok (.aload_n 0, 1) := by decide +kernel
theorem dX12_readNumbers_115 : decode cX12_readNumbers 115 = .ok (.getfield 28, 3) := by decide +kernel
theorem dX12_readNumbers_118 : decode cX12_readNumbers 118 = .ok (.iload_n 2, 1) := by decide +kernel
theorem dX12_readNumbers_119 : decode cX12_readNumbers 119 = .ok (.iconst 3, 1) := by decide +kernel
theorem dX12_readNumbers_120 : decode cX12_readNumbers 120 = .ok (.iadd, 1) := by decide +kernel
theorem dX12_readNumbers_121 : decode cX12_readNumbers 121 = .ok (.iaload, 1) := by decide +kernel
theorem dX12_readNumbers_122 : decode cX12_readNumbers 122 = .ok (.iadd, 1) := by decide +kernel
theorem dX12_readNumbers_123 : decode cX12_readNumbers 123 = .ok (.ifCond .le 7, 3) := by decide +kernel
theorem dX12_readNumbers_126 : decode cX12_readNumbers 126 = .ok (.iconst 0, 1) := by decide +kernel
theorem dX12_readNumbers_127 : decode cX12_readNumbers 127 = .ok (.goto 4, 3) := by decide +kernel
theorem dX12_readNumbers_130 : decode cX12_readNumbers 130 = .ok (.iconst 1, 1) := by decide +kernel
theorem dX12_readNumbers_131 : decode cX12_readNumbers 131 = .ok (.bipush 99, 2) := by decide +kernel
theorem dX12_readNumbers_133 : decode cX12_readNumbers 133 = .ok (.invokevirtual 221, 3) := by decide +kernel
theorem dX12_readNumbers_136 : decode cX12_readNumbers 136 = .ok (.iastore, 1) := by decide +kernel
theorem dX12_readNumbers_137 : decode cX12_readNumbers 137 = .ok (.goto 177, 3) := by decide +kernel
theorem dX12_readNumbers_140 : decode cX12_readNumbers 140 = .ok (.iload_n 1, 1) := by decide +kernel
theorem dX12_readNumbers_141 : decode cX12_readNumbers 141 = .ok (.iconst 2, 1) := by decide +kernel
theorem dX12_readNumbers_142 : decode cX12_readNumbers 142 = .ok (.if_icmp .eq 8, 3) := by decide +kernel
theorem dX12_readNumbers_145 : decode cX12_readNumbers 145 = .ok (.iload_n 1, 1) := by decide +kernel
theorem dX12_readNumbers_146 : decode cX12_readNumbers 146 = .ok (.iconst 3, 1) := by decide +kernel
theorem dX12_readNumbers_147 : decode cX12_readNumbers 147 = .ok (.if_icmp .ne 78, 3) := by decide +kernel
theorem dX12_readNumbers_150 : decode cX12_readNumbers 150 = .ok (.aload_n 0, 1) := by decide +kernel
theorem dX12_readNumbers_151 : decode cX12_readNumbers 151 = .ok (.getfield 28, 3) := by decide +kernel
theorem dX12_readNumbers_154 : decode cX12_readNumbers 154 = .ok (.iload_n 2, 1) := by decide +kernel
theorem dX12_readNumbers_155 : decode cX12_readNumbers 155 = .ok (.iconst 2, 1) := by decide +kernel
theorem dX12_readNumbers_156 : decode cX12_readNumbers 156 = .ok (.iadd, 1) := by decide +kernel
theorem dX12_readNumbers_157 : decode cX12_readNumbers 157 = .ok (.aload_n 0, 1) := by decide +kernel
theorem dX12_readNumbers_158 : decode cX12_readNumbers 158 = .ok (.iconst 0, 1) := by decide +kernel
theorem dX12_readNumbers_159 : decode cX12_readNumbers 159 = .ok (.aload_n 0, 1) := by decide +kernel
theorem dX12_readNumbers_160 : decode cX12_readNumbers 160 = .ok (.getfield 250, 3) := by decide +kernel
theorem dX12_readNumbers_163 : decode cX12_readNumbers 163 = .ok (.iconst 1, 1) := by decide +kernel
theorem dX12_readNumbers_164 : decode cX12_readNumbers 164 = .ok (.isub, 1) := by decide +kernel
theorem dX12_readNumbers_165 : decode cX12_readNumbers 165 = .ok (.invokevirtual 221, 3) := by decide +kernel
theorem dX12_readNumbers_168 : decode cX12_readNumbers 168 = .ok (.iastore, 1) := by decide +kernel
theorem dX12_readNumbers_169 : decode cX12_readNumbers 169 = .ok (.aload_n 0, 1) := by decide +kernel
theorem dX12_readNumbers_170 : decode cX12_readNumbers 170 = .ok (.getfield 28, 3) := by decide +kernel
theorem dX12_readNumbers_173 : decode cX12_readNumbers 173 = .ok (.iload_n 2, 1) := by decide +kernel
theorem dX12_readNumbers_174 : decode cX12_readNumbers 174 = .ok (.iconst 3, 1) := by decide +kernel
theorem dX12_readNumbers_175 : decode cX12_readNumbers 175 = .ok (.iadd, 1) := by decide +kernel
theorem dX12_readNumbers_176 : decode cX12_readNumbers 176 = .ok (.iload_n 1, 1) := by decide +kernel
theorem dX12_readNumbers_177 : decode cX12_readNumbers 177 = .ok (.iconst 2, 1) := by decide +kernel
theorem dX12_readNumbers_178 : decode cX12_readNumbers 178 = .ok (.if_icmp .ne 12, 3) := by decide +kernel
theorem dX12_readNumbers_181 : decode cX12_readNumbers 181 = .ok (.aload_n 0, 1) := by decide +kernel
theorem dX12_readNumbers_182 : decode cX12_readNumbers 182 = .ok (.iconst 0, 1) := by decide +kernel
theorem dX12_readNumbers_183 : decode cX12_readNumbers 183 = .ok (.iconst 2, 1) := by decide +kernel
theorem dX12_readNumbers_184 : decode cX12_readNumbers 184 = .ok (.invokevirtual 221, 3) := by decide +kernel
theorem dX12_readNumbers_187 : decode cX12_readNumbers 187 = .ok (.goto 10, 3) := by decide +kernel
theorem dX12_readNumbers_190 : decode cX12_readNumbers 190 = .ok (.aload_n 0, 1) := by decide +kernel
theorem dX12_readNumbers_191 : decode cX12_readNumbers 191 = .ok (.iconst 0, 1) := by decide +kernel
theorem dX12_readNumbers_192 : decode cX12_readNumbers 192 = .ok (.bipush 99, 2) := by decide +kernel
theorem dX12_readNumbers_194 : decode cX12_readNumbers 194 = .ok (.invokevirtual 221, 3) := by decide +kernel
theorem dX12_readNumbers_197 : decode cX12_readNumbers 197 = .ok (.iastore, 1) := by decide +kernel
theorem dX12_readNumbers_198 : decode cX12_readNumbers 198 = .ok (.aload_n 0, 1) := by decide +kernel
theorem dX12_readNumbers_199 : decode cX12_readNumbers 199 = .ok (.getfield 28, 3) := by decide +kernel
theorem dX12_readNumbers_202 : decode cX12_readNumbers 202 = .ok (.iload_n 2, 1) := by decide +kernel
theorem dX12_readNumbers_203 : decode cX12_readNumbers 203 = .ok (.iconst 4, 1) := by decide +kernel
theorem dX12_readNumbers_204 : decode cX12_readNumbers 204 = .ok (.iadd, 1) := by decide +kernel
theorem dX12_readNumbers_205 : decode cX12_readNumbers 205 = .ok (.iload_n 1, 1) := by decide +kernel
theorem dX12_readNumbers_206 : decode cX12_readNumbers 206 = .ok (.iconst 2, 1) := by decide +kernel
theorem dX12_readNumbers_207 : decode cX12_readNumbers 207 = .ok (.if_icmp .ne 13, 3) := by decide +kernel
theorem dX12_readNumbers_210 : decode cX12_readNumbers 210 = .ok (.aload_n 0, 1) := by decide +kernel
theorem dX12_readNumbers_211 : decode cX12_readNumbers 211 = .ok (.iconst 1, 1) := by decide +kernel
theorem dX12_readNumbers_212 : decode cX12_readNumbers 212 = .ok (.bipush 99, 2) := by decide +kernel
theorem dX12_readNumbers_214 : decode cX12_readNumbers 214 = .ok (.invokevirtual 221, 3) := by decide +kernel
theorem dX12_readNumbers_217 : decode cX12_readNumbers 217 = .ok (.goto 4, 3) := by decide +kernel
theorem dX12_readNumbers_220 : decode cX12_readNumbers 220 = .ok (.iconst 0, 1) := by decide +kernel
theorem dX12_readNumbers_221 : decode cX12_readNumbers 221 = .ok (.iastore, 1) := by decide +kernel
theorem dX12_readNumbers_222 : decode cX12_readNumbers 222 = .ok (.goto 92, 3) := by decide +kernel
theorem dX12_readNumbers_225 : decode cX12_readNumbers 225 = .ok (.iload_n 1, 1) := by decide +kernel
theorem dX12_readNumbers_226 : decode cX12_readNumbers 226 = .ok (.iconst 4, 1) := by decide +kernel
theorem dX12_readNumbers_227 : decode cX12_readNumbers 227 = .ok (.if_icmp .ne 35, 3) := by decide +kernel
theorem dX12_readNumbers_230 : decode cX12_readNumbers 230 = .ok (.aload_n 0, 1) := by decide +kernel
theorem dX12_readNumbers_231 : decode cX12_readNumbers 231 = .ok (.getfield 28, 3) := by decide +kernel
theorem dX12_readNumbers_234 : decode cX12_readNumbers 234 = .ok (.iload_n 2, 1) := by decide +kernel
theorem dX12_readNumbers_235 : decode cX12_readNumbers 235 = .ok (.iconst 2, 1) := by decide +kernel
theorem dX12_readNumbers_236 : decode cX12_readNumbers 236 = .ok (.iadd, 1) := by decide +kernel
theorem dX12_readNumbers_237 : decode cX12_readNumbers 237 = .ok (.aload_n 0, 1) := by decide +kernel
theorem dX12_readNumbers_238 : decode cX12_readNumbers 238 = .ok (.iconst 0, 1) := by decide +kernel
theorem dX12_readNumbers_239 : decode cX12_readNumbers 239 = .ok (.iconst 2, 1) := by decide +kernel
theorem dX12_readNumbers_240 : decode cX12_readNumbers 240 = .ok (.invokevirtual 221, 3) := by decide +kernel
theorem dX12_readNumbers_243 : decode cX12_readNumbers 243 = .ok (.iastore, 1) := by decide +kernel
theorem dX12_readNumbers_244 : decode cX12_readNumbers 244 = .ok (.aload_n 0, 1) := by decide +kernel
theorem dX12_readNumbers_245 : decode cX12_readNumbers 245 = .ok (.getfield 28, 3) := by decide +kernel
theorem dX12_readNumbers_248 : decode cX12_readNumbers 248 = .ok (.iload_n 2, 1) := by decide +kernel
theorem dX12_readNumbers_249 : decode cX12_readNumbers 249 = .ok (.iconst 3, 1) := by decide +kernel
theorem dX12_readNumbers_250 : decode cX12_readNumbers 250 = .ok (.iadd, 1) := by decide +kernel
theorem dX12_readNumbers_251 : decode cX12_readNumbers 251 = .ok (.aload_n 0, 1) := by decide +kernel
theorem dX12_readNumbers_252 : decode cX12_readNumbers 252 = .ok (.iconst 1, 1) := by decide +kernel
theorem dX12_readNumbers_253 : decode cX12_readNumbers 253 = .ok (.bipush 99, 2) := by decide +kernel
theorem dX12_readNumbers_255 : decode cX12_readNumbers 255 = .ok (.invokevirtual 221, 3) := by decide +kernel
theorem dX12_readNumbers_258 : decode cX12_readNumbers 258 = .ok (.iastore, 1) := by decide +kernel
theorem dX12_readNumbers_259 : decode cX12_readNumbers 259 = .ok (.goto 55, 3) := by decide +kernel
theorem dX12_readNumbers_262 : decode cX12_readNumbers 262 = .ok (.aload_n 0, 1) := by decide +kernel
theorem dX12_readNumbers_263 : decode cX12_readNumbers 263 = .ok (.getfield 28, 3) := by decide +kernel
theorem dX12_readNumbers_266 : decode cX12_readNumbers 266 = .ok (.iload_n 2, 1) := by decide +kernel
theorem dX12_readNumbers_267 : decode cX12_readNumbers 267 = .ok (.iconst 2, 1) := by decide +kernel
theorem dX12_readNumbers_268 : decode cX12_readNumbers 268 = .ok (.iadd, 1) := by decide +kernel
theorem dX12_readNumbers_269 : decode cX12_readNumbers 269 = .ok (.aload_n 0, 1) := by decide +kernel
theorem dX12_readNumbers_270 : decode cX12_readNumbers 270 = .ok (.iconst 0, 1) := by decide +kernel
theorem dX12_readNumbers_271 : decode cX12_readNumbers 271 = .ok (.iload_n 1, 1) := by decide +kernel
theorem dX12_readNumbers_272 : decode cX12_readNumbers 272 = .ok (.iconst 5, 1) := by decide +kernel
theorem dX12_readNumbers_273 : decode cX12_readNumbers 273 = .ok (.if_icmp .ne 12, 3) := by decide +kernel
theorem dX12_readNumbers_276 : decode cX12_readNumbers 276 = .ok (.aload_n 0, 1) := by decide +kernel
theorem dX12_readNumbers_277 : decode cX12_readNumbers 277 = .ok (.getfield 192, 3) := by decide +kernel
theorem dX12_readNumbers_280 : decode cX12_readNumbers 280 = .ok (.iconst 1, 1) := by decide +kernel
theorem dX12_readNumbers_281 : decode cX12_readNumbers 281 = .ok (.isub, 1) := by decide +kernel
theorem dX12_readNumbers_282 : decode cX12_readNumbers 282 = .ok (.goto 4, 3) := by decide +kernel
theorem dX12_readNumbers_285 : decode cX12_readNumbers 285 = .ok (.iconst 4, 1) := by decide +kernel
theorem dX12_readNumbers_286 : decode cX12_readNumbers 286 = .ok (.invokevirtual 221, 3) := by decide +kernel
theorem dX12_readNumbers_289 : decode cX12_readNumbers 289 = .ok (.iastore, 1) := by decide +kernel
theorem dX12_readNumbers_290 : decode cX12_readNumbers 290 = .ok (.aload_n 0, 1) := by decide +kernel
theorem dX12_readNumbers_291 : decode cX12_readNumbers 291 = .ok (.getfield 28, 3) := by decide +kernel
theorem dX12_readNumbers_294 : decode cX12_readNumbers 294 = .ok (.iload_n 2, 1) := by decide +kernel
theorem dX12_readNumbers_295 : decode cX12_readNumbers 295 = .ok (.iconst 3, 1) := by decide +kernel
theorem dX12_readNumbers_296 : decode cX12_readNumbers 296 = .ok (.iadd, 1) := by decide +kernel
theorem dX12_readNumbers_297 : decode cX12_readNumbers 297 = .ok (.iload_n 1, 1) := by decide +kernel
theorem dX12_readNumbers_298 : decode cX12_readNumbers 298 = .ok (.bipush 6, 2) := by decide +kernel
theorem dX12_readNumbers_300 : decode cX12_readNumbers 300 = .ok (.if_icmp .ne 12, 3) := by decide +kernel
theorem dX12_readNumbers_303 : decode cX12_readNumbers 303 = .ok (.aload_n 0, 1) := by decide +kernel
theorem dX12_readNumbers_304 : decode cX12_readNumbers 304 = .ok (.iconst 0, 1) := by decide +kernel
theorem dX12_readNumbers_305 : decode cX12_readNumbers 305 = .ok (.iconst 2, 1) := by decide +kernel
theorem dX12_readNumbers_306 : decode cX12_readNumbers 306 = .ok (.invokevirtual 221, 3) := by decide +kernel
theorem dX12_readNumbers_309 : decode cX12_readNumbers 309 = .ok (.goto 4, 3) := by decide +kernel
theorem dX12_readNumbers_312 : decode cX12_readNumbers 312 = .ok (.iconst 0, 1) := by decide +kernel
theorem dX12_readNumbers_313 : decode cX12_readNumbers 313 = .ok (.iastore, 1) := by decide +kernel
theorem dX12_readNumbers_314 : decode cX12_readNumbers 314 = .ok (.return_, 1) := by decide +kernel
theorem dX12_readEvent_0 : decode cX12_readEvent 0 = .ok (.aload_n 0, 1) := by decide +kernel
theorem dX12_readEvent_1 : decode cX12_readEvent 1 = .ok (.invokevirtual 253, 3) := by decide +kernel
theorem dX12_readEvent_4 : decode cX12_readEvent 4 = .ok (.istore_n 2, 1) := by decide +kernel
theorem dX12_readEvent_5 : decode cX12_readEvent 5 = .ok (.iload_n 2, 1) := by decide +kernel
theorem dX12_readEvent_6 : decode cX12_readEvent 6 = .ok (.ifCond .eq 8, 3) := by decide +kernel
theorem dX12_readEvent_9 : decode cX12_readEvent 9 = .ok (.iload_n 2, 1) := by decide +kernel
theorem dX12_readEvent_10 : decode cX12_readEvent 10 = .ok (.iconst 1, 1) := by decide +kernel
theorem dX12_readEvent_11 : decode cX12_readEvent 11 = .ok (.if_icmp .ne 7, 3) := by decide +kernel
theorem dX12_readEvent_14 : decode cX12_readEvent 14 = .ok (.iconst 1, 1) := by decide +kernel
theorem dX12_readEvent_15 : decode cX12_readEvent 15 = .ok (.goto 4, 3) := by decide +kernel
theorem dX12_readEvent_18 : decode cX12_readEvent 18 = .ok (.iconst 0, 1) := by decide +kernel
theorem dX12_readEvent_19 : decode cX12_readEvent 19 = .ok (.istore_n 3, 1) := by decide +kernel
theorem dX12_readEvent_20 : decode cX12_readEvent 20 = .ok (.iload_n 2, 1) := by decide +kernel
theorem dX12_readEvent_21 : decode cX12_readEvent 21 = .ok (.ldc 146, 2) := by decide +kernel
theorem dX12_readEvent_23 : decode cX12_readEvent 23 = .ok (.if_icmp .eq 12, 3) := by decide +kernel
theorem dX12_readEvent_26 : decode cX12_readEvent 26 = .ok (.aload_n 0, 1) := by decide +kernel
theorem dX12_readEvent_27 : decode cX12_readEvent 27 = .ok (.getfield 257, 3) := by decide +kernel
theorem dX12_readEvent_30 : decode cX12_readEvent 30 = .ok (.bipush 30, 2) := by decide +kernel
theorem dX12_readEvent_32 : decode cX12_readEvent 32 = .ok (.if_icmp .eq 16, 3) := by decide +kernel
theorem dX12_readEvent_35 : decode cX12_readEvent 35 = .ok (.iload_n 3, 1) := by decide +kernel
theorem dX12_readEvent_36 : decode cX12_readEvent 36 = .ok (.ifCond .eq 17, 3) := by decide +kernel
theorem dX12_readEvent_39 : decode cX12_readEvent 39 = .ok (.aload_n 0, 1) := by decide +kernel
theorem dX12_readEvent_40 : decode cX12_readEvent 40 = .ok (.getfield 250, 3) := by decide +kernel
theorem dX12_readEvent_43 : decode cX12_readEvent 43 = .ok (.bipush 10, 2) := by decide +kernel
theorem dX12_readEvent_45 : decode cX12_readEvent 45 = .ok (.if_icmp .ne 8, 3) := by decide +kernel
theorem dX12_readEvent_48 : decode cX12_readEvent 48 = .ok (.aload_n 0, 1) := by decide +kernel
theorem dX12_readEvent_49 : decode cX12_readEvent 49 = .ok (.iconst 3, 1) := by decide +kernel
theorem dX12_readEvent_50 : decode cX12_readEvent 50 = .ok (.invokevirtual 175, 3) := by decide +kernel
theorem dX12_readEvent_53 : decode cX12_readEvent 53 = .ok (.aload_n 0, 1) := by decide +kernel
theorem dX12_readEvent_54 : decode cX12_readEvent 54 = .ok (.iload_n 2, 1) := by decide +kernel
theorem dX12_readEvent_55 : decode cX12_readEvent 55 = .ok (.ldc 146, 2) := by decide +kernel
theorem dX12_readEvent_57 : decode cX12_readEvent 57 = .ok (.if_icmp .eq 7, 3) := by decide +kernel
theorem dX12_readEvent_60 : decode cX12_readEvent 60 = .ok (.iconst 1, 1) := by decide +kernel
theorem dX12_readEvent_61 : decode cX12_readEvent 61 = .ok (.goto 4, 3) := by decide +kernel
theorem dX12_readEvent_64 : decode cX12_readEvent 64 = .ok (.iconst 0, 1) := by decide +kernel
theorem dX12_readEvent_65 : decode cX12_readEvent 65 = .ok (.invokevirtual 182, 3) := by decide +kernel
theorem dX12_readEvent_68 : decode cX12_readEvent 68 = .ok (.aload_n 0, 1) := by decide +kernel
theorem dX12_readEvent_69 : decode cX12_readEvent 69 = .ok (.getfield 169, 3) := by decide +kernel
theorem dX12_readEvent_72 : decode cX12_readEvent 72 = .ok (.ifCond .le 4, 3) := by decide +kernel
theorem dX12_readEvent_75 : decode cX12_readEvent 75 = .ok (.return_, 1) := by decide +kernel
theorem dX12_readEvent_76 : decode cX12_readEvent 76 = .ok (.bipush 6, 2) := by decide +kernel
theorem dX12_readEvent_78 : decode cX12_readEvent 78 = .ok (.aload_n 0, 1) := by decide +kernel
theorem dX12_readEvent_79 : decode cX12_readEvent 79 = .ok (.getfield 257, 3) := by decide +kernel
theorem dX12_readEvent_82 : decode cX12_readEvent 82 = .ok (.imul, 1) := by decide +kernel
theorem dX12_readEvent_83 : decode cX12_readEvent 83 = .ok (.istore 4, 2) := by decide +kernel
theorem dX12_readEvent_85 : decode cX12_readEvent 85 = .ok (.aload_n 0, 1) := by decide +kernel
theorem dX12_readEvent_86 : decode cX12_readEvent 86 = .ok (.getfield 28, 3) := by decide +kernel
theorem dX12_readEvent_89 : decode cX12_readEvent 89 = .ok (.iload 4, 2) := by decide +kernel
theorem dX12_readEvent_91 : decode cX12_readEvent 91 = .ok (.iload_n 2, 1) := by decide +kernel
theorem dX12_readEvent_92 : decode cX12_readEvent 92 = .ok (.iastore, 1) := by decide +kernel
theorem dX12_readEvent_93 : decode cX12_readEvent 93 = .ok (.aload_n 0, 1) := by decide +kernel
theorem dX12_readEvent_94 : decode cX12_readEvent 94 = .ok (.getfield 28, 3) := by decide +kernel
theorem dX12_readEvent_97 : decode cX12_readEvent 97 = .ok (.iload 4, 2) := by decide +kernel
theorem dX12_readEvent_99 : decode cX12_readEvent 99 = .ok (.iconst 1, 1) := by decide +kernel
theorem dX12_readEvent_100 : decode cX12_readEvent 100 = .ok (.iadd, 1) := by decide +kernel
theorem dX12_readEvent_101 : decode cX12_readEvent 101 = .ok (.aload_n 0, 1) := by decide +kernel
theorem dX12_readEvent_102 : decode cX12_readEvent 102 = .ok (.iload_n 1, 1) := by decide +kernel
theorem dX12_readEvent_103 : decode cX12_readEvent 103 = .ok (.sipush 999, 3) := by decide +kernel
theorem dX12_readEvent_106 : decode cX12_readEvent 106 = .ok (.invokevirtual 221, 3) := by decide +kernel
theorem dX12_readEvent_109 : decode cX12_readEvent 109 = .ok (.iastore, 1) := by decide +kernel
theorem dX12_readEvent_110 : decode cX12_readEvent 110 = .ok (.aload_n 0, 1) := by decide +kernel
theorem dX12_readEvent_111 : decode cX12_readEvent 111 = .ok (.iload_n 2, 1) := by decide +kernel
theorem dX12_readEvent_112 : decode cX12_readEvent 112 = .ok (.iload 4, 2) := by decide +kernel
theorem dX12_readEvent_114 : decode cX12_readEvent 114 = .ok (.invokevirtual 260, 3) := by decide +kernel
theorem dX12_readEvent_117 : decode cX12_readEvent 117 = .ok (.aload_n 0, 1) := by decide +kernel
theorem dX12_readEvent_118 : decode cX12_readEvent 118 = .ok (.invokevirtual 225, 3) := by decide +kernel
theorem dX12_readEvent_121 : decode cX12_readEvent 121 = .ok (.aload_n 0, 1) := by decide +kernel
theorem dX12_readEvent_122 : decode cX12_readEvent 122 = .ok (.dup, 1) := by decide +kernel
theorem dX12_readEvent_123 : decode cX12_readEvent 123 = .ok (.getfield 257, 3) := by decide +kernel
theorem dX12_readEvent_126 : decode cX12_readEvent 126 = .ok (.iconst 1, 1) := by decide +kernel
theorem dX12_readEvent_127 : decode cX12_readEvent 127 = .ok (.iadd, 1) := by decide +kernel
theorem dX12_readEvent_128 : decode cX12_readEvent 128 = .ok (.putfield 257, 3) := by decide +kernel
theorem dX12_readEvent_131 : decode cX12_readEvent 131 = .ok (.aload_n 0, 1) := by decide +kernel
theorem dX12_readEvent_132 : decode cX12_readEvent 132 = .ok (.dup, 1) := by decide +kernel
theorem dX12_readEvent_133 : decode cX12_readEvent 133 = .ok (.getfield 250, 3) := by decide +kernel
theorem dX12_readEvent_136 : decode cX12_readEvent 136 = .ok (.iload_n 3, 1) := by decide +kernel
theorem dX12_readEvent_137 : decode cX12_readEvent 137 = .ok (.ifCond .eq 7, 3) := by decide +kernel
theorem dX12_readEvent_140 : decode cX12_readEvent 140 = .ok (.iconst 1, 1) := by decide +kernel
theorem dX12_readEvent_141 : decode cX12_readEvent 141 = .ok (.goto 4, 3) := by decide +kernel
theorem dX12_readEvent_144 : decode cX12_readEvent 144 = .ok (.iconst 0, 1) := by decide +kernel
theorem dX12_readEvent_145 : decode cX12_readEvent 145 = .ok (.iadd, 1) := by decide +kernel
theorem dX12_readEvent_146 : decode cX12_readEvent 146 = .ok (.putfield 250, 3) := by decide +kernel
theorem dX12_readEvent_149 : decode cX12_readEvent 149 = .ok (.return_, 1) := by decide +kernel
theorem dX12_life_0 : decode cX12_life 0 = .ok (.aload_n 0, 1) := by decide +kernel
theorem dX12_life_1 : decode cX12_life 1 = .ok (.iconst 0, 1) := by decide +kernel
theorem dX12_life_2 : decode cX12_life 2 = .ok (.putfield 107, 3) := by decide +kernel
theorem dX12_life_5 : decode cX12_life 5 = .ok (.aload_n 0, 1) := by decide +kernel
theorem dX12_life_6 : decode cX12_life 6 = .ok (.aload_n 0, 1) := by decide +kernel
theorem dX12_life_7 : decode cX12_life 7 = .ok (.getfield 136, 3) := by decide +kernel
theorem dX12_life_10 : decode cX12_life 10 = .ok (.putfield 143, 3) := by decide +kernel
theorem dX12_life_13 : decode cX12_life 13 = .ok (.aload_n 0, 1) := by decide +kernel
theorem dX12_life_14 : decode cX12_life 14 = .ok (.iconst 0, 1) := by decide +kernel
theorem dX12_life_15 : decode cX12_life 15 = .ok (.putfield 136, 3) := by decide +kernel
theorem dX12_life_18 : decode cX12_life 18 = .ok (.aload_n 0, 1) := by decide +kernel
theorem dX12_life_19 : decode cX12_life 19 = .ok (.iconst 0, 1) := by decide +kernel
theorem dX12_life_20 : decode cX12_life 20 = .ok (.putfield 147, 3) := by decide +kernel
theorem dX12_life_23 : decode cX12_life 23 = .ok (.aload_n 0, 1) := by decide +kernel
theorem dX12_life_24 : decode cX12_life 24 = .ok (.iconst 0, 1) := by decide +kernel
theorem dX12_life_25 : decode cX12_life 25 = .ok (.putfield 169, 3) := by decide +kernel
theorem dX12_life_28 : decode cX12_life 28 = .ok (.aload_n 0, 1) := by decide +kernel
theorem dX12_life_29 : decode cX12_life 29 = .ok (.iconst 0, 1) := by decide +kernel
theorem dX12_life_30 : decode cX12_life 30 = .ok (.putfield 192, 3) := by decide +kernel
theorem dX12_life_33 : decode cX12_life 33 = .ok (.aload_n 0, 1) := by decide +kernel
theorem dX12_life_34 : decode cX12_life 34 = .ok (.iconst 0, 1) := by decide +kernel
theorem dX12_life_35 : decode cX12_life 35 = .ok (.putfield 257, 3) := by decide +kernel
theorem dX12_life_38 : decode cX12_life 38 = .ok (.aload_n 0, 1) := by decide +kernel
theorem dX12_life_39 : decode cX12_life 39 = .ok (.iconst 0, 1) := by decide +kernel
theorem dX12_life_40 : decode cX12_life 40 = .ok (.putfield 250, 3) := by decide +kernel
theorem dX12_life_43 : decode cX12_life 43 = .ok (.aload_n 0, 1) := by decide +kernel
theorem dX12_life_44 : decode cX12_life 44 = .ok (.invokevirtual 179, 3) := by decide +kernel
theorem dX12_life_47 : decode cX12_life 47 = .ok (.aload_n 0, 1) := by decide +kernel
theorem dX12_life_48 : decode cX12_life 48 = .ok (.invokevirtual 264, 3) := by decide +kernel
theorem dX12_life_51 : decode cX12_life 51 = .ok (.aload_n 0, 1) := by decide +kernel
theorem dX12_life_52 : decode cX12_life 52 = .ok (.invokevirtual 186, 3) := by decide +kernel
theorem dX12_life_55 : decode cX12_life 55 = .ok (.ldc2_w 190, 3) := by decide +kernel
theorem dX12_life_58 : decode cX12_life 58 = .ok (.lcmp, 1) := by decide +kernel
theorem dX12_life_59 : decode cX12_life 59 = .ok (.ifCond .ne 10, 3) := by decide +kernel
theorem dX12_life_62 : decode cX12_life 62 = .ok (.aload_n 0, 1) := by decide +kernel
theorem dX12_life_63 : decode cX12_life 63 = .ok (.invokevirtual 264, 3) := by decide +kernel
theorem dX12_life_66 : decode cX12_life 66 = .ok (.goto (-15), 3) := by decide +kernel
theorem dX12_life_69 : decode cX12_life 69 = .ok (.aload_n 0, 1) := by decide +kernel
theorem dX12_life_70 : decode cX12_life 70 = .ok (.getfield 169, 3) := by decide +kernel
theorem dX12_life_73 : decode cX12_life 73 = .ok (.ifCond .ne 43, 3) := by decide +kernel
theorem dX12_life_76 : decode cX12_life 76 = .ok (.aload_n 0, 1) := by decide +kernel
theorem dX12_life_77 : decode cX12_life 77 = .ok (.getfield 157, 3) := by decide +kernel
theorem dX12_life_80 : decode cX12_life 80 = .ok (.iconst 1, 1) := by decide +kernel
theorem dX12_life_81 : decode cX12_life 81 = .ok (.if_icmp .eq 35, 3) := by decide +kernel
theorem dX12_life_84 : decode cX12_life 84 = .ok (.aload_n 0, 1) := by decide +kernel
theorem dX12_life_85 : decode cX12_life 85 = .ok (.aload_n 0, 1) := by decide +kernel
theorem dX12_life_86 : decode cX12_life 86 = .ok (.getfield 257, 3) := by decide +kernel
theorem dX12_life_89 : decode cX12_life 89 = .ok (.ifCond .ne 7, 3) := by decide +kernel
theorem dX12_life_92 : decode cX12_life 92 = .ok (.iconst 0, 1) := by decide +kernel
theorem dX12_life_93 : decode cX12_life 93 = .ok (.goto 17, 3) := by decide +kernel
theorem dX12_life_96 : decode cX12_life 96 = .ok (.aload_n 0, 1) := by decide +kernel
theorem dX12_life_97 : decode cX12_life 97 = .ok (.getfield 28, 3) := by decide +kernel
theorem dX12_life_100 : decode cX12_life 100 = .ok (.bipush 6, 2) := by decide +kernel
theorem dX12_life_102 : decode cX12_life 102 = .ok (.aload_n 0, 1) := by decide +kernel
theorem dX12_life_103 : decode cX12_life 103 = .ok (.getfield 257, 3) := by decide +kernel
theorem dX12_life_106 : decode cX12_life 106 = .ok (.imul, 1) := by decide +kernel
theorem dX12_life_107 : decode cX12_life 107 = .ok (.iconst 5, 1) := by decide +kernel
theorem dX12_life_108 : decode cX12_life 108 = .ok (.isub, 1) := by decide +kernel
theorem dX12_life_109 : decode cX12_life 109 = .ok (.iaload, 1) := by decide +kernel
theorem dX12_life_110 : decode cX12_life 110 = .ok (.invokevirtual 267, 3) := by decide +kernel
theorem dX12_life_113 : decode cX12_life 113 = .ok (.goto (-44), 3) := by decide +kernel
theorem dX12_life_116 : decode cX12_life 116 = .ok (.aload_n 0, 1) := by decide +kernel
theorem dX12_life_117 : decode cX12_life 117 = .ok (.getfield 169, 3) := by decide +kernel
theorem dX12_life_120 : decode cX12_life 120 = .ok (.ifCond .le 21, 3) := by decide +kernel
theorem dX12_life_123 : decode cX12_life 123 = .ok (.aload_n 0, 1) := by decide +kernel
theorem dX12_life_124 : decode cX12_life 124 = .ok (.aload_n 0, 1) := by decide +kernel
theorem dX12_life_125 : decode cX12_life 125 = .ok (.getfield 169, 3) := by decide +kernel
theorem dX12_life_128 : decode cX12_life 128 = .ok (.putfield 270, 3) := by decide +kernel
theorem dX12_life_131 : decode cX12_life 131 = .ok (.ldc2_w 273, 3) := by decide +kernel
theorem dX12_life_134 : decode cX12_life 134 = .ok (.aload_n 0, 1) := by decide +kernel
theorem dX12_life_135 : decode cX12_life 135 = .ok (.getfield 172, 3) := by decide +kernel
theorem dX12_life_138 : decode cX12_life 138 = .ok (.i2l, 1) := by decide +kernel
theorem dX12_life_139 : decode cX12_life 139 = .ok (.lsub, 1) := by decide +kernel
theorem dX12_life_140 : decode cX12_life 140 = .ok (.lreturn, 1) := by decide +kernel
theorem dX12_life_141 : decode cX12_life 141 = .ok (.aload_n 0, 1) := by decide +kernel
theorem dX12_life_142 : decode cX12_life 142 = .ok (.iconst 1, 1) := by decide +kernel
theorem dX12_life_143 : decode cX12_life 143 = .ok (.putfield 275, 3) := by decide +kernel
theorem dX12_life_146 : decode cX12_life 146 = .ok (.aload_n 0, 1) := by decide +kernel
theorem dX12_life_147 : decode cX12_life 147 = .ok (.aload_n 0, 1) := by decide +kernel
theorem dX12_life_148 : decode cX12_life 148 = .ok (.getfield 192, 3) := by decide +kernel
theorem dX12_life_151 : decode cX12_life 151 = .ok (.putfield 279, 3) := by decide +kernel
theorem dX12_life_154 : decode cX12_life 154 = .ok (.aload_n 0, 1) := by decide +kernel
theorem dX12_life_155 : decode cX12_life 155 = .ok (.aload_n 0, 1) := by decide +kernel
theorem dX12_life_156 : decode cX12_life 156 = .ok (.getfield 257, 3) := by decide +kernel
theorem dX12_life_159 : decode cX12_life 159 = .ok (.putfield 282, 3) := by decide +kernel
theorem dX12_life_162 : decode cX12_life 162 = .ok (.aload_n 0, 1) := by decide +kernel
theorem dX12_life_163 : decode cX12_life 163 = .ok (.aload_n 0, 1) := by decide +kernel
theorem dX12_life_164 : decode cX12_life 164 = .ok (.getfield 250, 3) := by decide +kernel
theorem dX12_life_167 : decode cX12_life 167 = .ok (.putfield 285, 3) := by decide +kernel
theorem dX12_life_170 : decode cX12_life 170 = .ok (.iconst 0, 1) := by decide +kernel
theorem dX12_life_171 : decode cX12_life 171 = .ok (.istore_n 1, 1) := by decide +kernel
theorem dX12_life_172 : decode cX12_life 172 = .ok (.iload_n 1, 1) := by decide +kernel
theorem dX12_life_173 : decode cX12_life 173 = .ok (.sipush 180, 3) := by decide +kernel
theorem dX12_life_176 : decode cX12_life 176 = .ok (.if_icmp .ge 21, 3) := by decide +kernel
theorem dX12_life_179 : decode cX12_life 179 = .ok (.aload_n 0, 1) := by decide +kernel
theorem dX12_life_180 : decode cX12_life 180 = .ok (.getfield 22, 3) := by decide +kernel
theorem dX12_life_183 : decode cX12_life 183 = .ok (.iload_n 1, 1) := by decide +kernel
theorem dX12_life_184 : decode cX12_life 184 = .ok (.aload_n 0, 1) := by decide +kernel
theorem dX12_life_185 : decode cX12_life 185 = .ok (.getfield 28, 3) := by decide +kernel
theorem dX12_life_188 : decode cX12_life 188 = .ok (.iload_n 1, 1) := by decide +kernel
theorem dX12_life_189 : decode cX12_life 189 = .ok (.iaload, 1) := by decide +kernel
theorem dX12_life_190 : decode cX12_life 190 = .ok (.iastore, 1) := by decide +kernel
theorem dX12_life_191 : decode cX12_life 191 = .ok (.iinc 1 1, 3) := by decide +kernel
theorem dX12_life_194 : decode cX12_life 194 = .ok (.goto (-22), 3) := by decide +kernel
theorem dX12_life_197 : decode cX12_life 197 = .ok (.iconst 0, 1) := by decide +kernel
theorem dX12_life_198 : decode cX12_life 198 = .ok (.istore_n 1, 1) := by decide +kernel
theorem dX12_life_199 : decode cX12_life 199 = .ok (.iload_n 1, 1) := by decide +kernel
theorem dX12_life_200 : decode cX12_life 200 = .ok (.bipush 32, 2) := by decide +kernel
theorem dX12_life_202 : decode cX12_life 202 = .ok (.if_icmp .ge 21, 3) := by decide +kernel
theorem dX12_life_205 : decode cX12_life 205 = .ok (.aload_n 0, 1) := by decide +kernel
theorem dX12_life_206 : decode cX12_life 206 = .ok (.getfield 19, 3) := by decide +kernel
theorem dX12_life_209 : decode cX12_life 209 = .ok (.iload_n 1, 1) := by decide +kernel
theorem dX12_life_210 : decode cX12_life 210 = .ok (.aload_n 0, 1) := by decide +kernel
theorem dX12_life_211 : decode cX12_life 211 = .ok (.getfield 25, 3) := by decide +kernel
theorem dX12_life_214 : decode cX12_life 214 = .ok (.iload_n 1, 1) := by decide +kernel
theorem dX12_life_215 : decode cX12_life 215 = .ok (.iaload, 1) := by decide +kernel
theorem dX12_life_216 : decode cX12_life 216 = .ok (.iastore, 1) := by decide +kernel
theorem dX12_life_217 : decode cX12_life 217 = .ok (.iinc 1 1, 3) := by decide +kernel
theorem dX12_life_220 : decode cX12_life 220 = .ok (.goto (-21), 3) := by decide +kernel
theorem dX12_life_223 : decode cX12_life 223 = .ok (.aload_n 0, 1) := by decide +kernel
theorem dX12_life_224 : decode cX12_life 224 = .ok (.getfield 282, 3) := by decide +kernel
theorem dX12_life_227 : decode cX12_life 227 = .ok (.i2l, 1) := by decide +kernel
theorem dX12_life_228 : decode cX12_life 228 = .ok (.lreturn, 1) := by decide +kernel
theorem dX12_fault_0 : decode cX12_fault 0 = .ok (.aload_n 0, 1) := by decide +kernel
theorem dX12_fault_1 : decode cX12_fault 1 = .ok (.iconst 0, 1) := by decide +kernel
theorem dX12_fault_2 : decode cX12_fault 2 = .ok (.putfield 107, 3) := by decide +kernel
theorem dX12_fault_5 : decode cX12_fault 5 = .ok (.aload_n 0, 1) := by decide +kernel
theorem dX12_fault_6 : decode cX12_fault 6 = .ok (.getfield 270, 3) := by decide +kernel
theorem dX12_fault_9 : decode cX12_fault 9 = .ok (.ireturn, 1) := by decide +kernel
theorem dX12_byLaw_0 : decode cX12_byLaw 0 = .ok (.bipush 8, 2) := by decide +kernel
theorem dX12_byLaw_2 : decode cX12_byLaw 2 = .ok (.aload_n 0, 1) := by decide +kernel
theorem dX12_byLaw_3 : decode cX12_byLaw 3 = .ok (.getfield 288, 3) := by decide +kernel
theorem dX12_byLaw_6 : decode cX12_byLaw 6 = .ok (.imul, 1) := by decide +kernel
theorem dX12_byLaw_7 : decode cX12_byLaw 7 = .ok (.istore_n 2, 1) := by decide +kernel
theorem dX12_byLaw_8 : decode cX12_byLaw 8 = .ok (.aload_n 0, 1) := by decide +kernel
theorem dX12_byLaw_9 : decode cX12_byLaw 9 = .ok (.getfield 61, 3) := by decide +kernel
theorem dX12_byLaw_12 : decode cX12_byLaw 12 = .ok (.iload_n 1, 1) := by decide +kernel
theorem dX12_byLaw_13 : decode cX12_byLaw 13 = .ok (.iaload, 1) := by decide +kernel
theorem dX12_byLaw_14 : decode cX12_byLaw 14 = .ok (.iconst 4, 1) := by decide +kernel
theorem dX12_byLaw_15 : decode cX12_byLaw 15 = .ok (.if_icmp .ge 30, 3) := by decide +kernel
theorem dX12_byLaw_18 : decode cX12_byLaw 18 = .ok (.aload_n 0, 1) := by decide +kernel
theorem dX12_byLaw_19 : decode cX12_byLaw 19 = .ok (.getfield 19, 3) := by decide +kernel
theorem dX12_byLaw_22 : decode cX12_byLaw 22 = .ok (.iload_n 2, 1) := by decide +kernel
theorem dX12_byLaw_23 : decode cX12_byLaw 23 = .ok (.aload_n 0, 1) := by decide +kernel
theorem dX12_byLaw_24 : decode cX12_byLaw 24 = .ok (.getfield 61, 3) := by decide +kernel
theorem dX12_byLaw_27 : decode cX12_byLaw 27 = .ok (.iload_n 1, 1) := by decide +kernel
theorem dX12_byLaw_28 : decode cX12_byLaw 28 = .ok (.iaload, 1) := by decide +kernel
theorem dX12_byLaw_29 : decode cX12_byLaw 29 = .ok (.iadd, 1) := by decide +kernel
theorem dX12_byLaw_30 : decode cX12_byLaw 30 = .ok (.iaload, 1) := by decide +kernel
theorem dX12_byLaw_31 : decode cX12_byLaw 31 = .ok (.ifCond .ne 12, 3) := by decide +kernel
theorem dX12_byLaw_34 : decode cX12_byLaw 34 = .ok (.aload_n 0, 1) := by decide +kernel
theorem dX12_byLaw_35 : decode cX12_byLaw 35 = .ok (.getfield 58, 3) := by decide +kernel
theorem dX12_byLaw_38 : decode cX12_byLaw 38 = .ok (.iload_n 1, 1) := by decide +kernel
theorem dX12_byLaw_39 : decode cX12_byLaw 39 = .ok (.iaload, 1) := by decide +kernel
theorem dX12_byLaw_40 : decode cX12_byLaw 40 = .ok (.goto 4, 3) := by decide +kernel
theorem dX12_byLaw_43 : decode cX12_byLaw 43 = .ok (.iconst 2, 1) := by decide +kernel
theorem dX12_byLaw_44 : decode cX12_byLaw 44 = .ok (.ireturn, 1) := by decide +kernel
theorem dX12_byLaw_45 : decode cX12_byLaw 45 = .ok (.iconst 0, 1) := by decide +kernel
theorem dX12_byLaw_46 : decode cX12_byLaw 46 = .ok (.istore_n 3, 1) := by decide +kernel
theorem dX12_byLaw_47 : decode cX12_byLaw 47 = .ok (.iconst 0, 1) := by decide +kernel
theorem dX12_byLaw_48 : decode cX12_byLaw 48 = .ok (.istore 4, 2) := by decide +kernel
theorem dX12_byLaw_50 : decode cX12_byLaw 50 = .ok (.iconst 0, 1) := by decide +kernel
theorem dX12_byLaw_51 : decode cX12_byLaw 51 = .ok (.istore 5, 2) := by decide +kernel
theorem dX12_byLaw_53 : decode cX12_byLaw 53 = .ok (.iload 5, 2) := by decide +kernel
theorem dX12_byLaw_55 : decode cX12_byLaw 55 = .ok (.iconst 3, 1) := by decide +kernel
theorem dX12_byLaw_56 : decode cX12_byLaw 56 = .ok (.if_icmp .ge 64, 3) := by decide +kernel
theorem dX12_byLaw_59 : decode cX12_byLaw 59 = .ok (.aload_n 0, 1) := by decide +kernel
theorem dX12_byLaw_60 : decode cX12_byLaw 60 = .ok (.getfield 64, 3) := by decide +kernel
theorem dX12_byLaw_63 : decode cX12_byLaw 63 = .ok (.iconst 3, 1) := by decide +kernel
theorem dX12_byLaw_64 : decode cX12_byLaw 64 = .ok (.iload_n 1, 1) := by decide +kernel
theorem dX12_byLaw_65 : decode cX12_byLaw 65 = .ok (.imul, 1) := by decide +kernel
theorem dX12_byLaw_66 : decode cX12_byLaw 66 = .ok (.iload 5, 2) := by decide +kernel
theorem dX12_byLaw_68 : decode cX12_byLaw 68 = .ok (.iadd, 1) := by decide +kernel
theorem dX12_byLaw_69 : decode cX12_byLaw 69 = .ok (.iaload, 1) := by decide +kernel
theorem dX12_byLaw_70 : decode cX12_byLaw 70 = .ok (.aload_n 0, 1) := by decide +kernel
theorem dX12_byLaw_71 : decode cX12_byLaw 71 = .ok (.getfield 64, 3) := by decide +kernel
theorem dX12_byLaw_74 : decode cX12_byLaw 74 = .ok (.iconst 3, 1) := by decide +kernel
theorem dX12_byLaw_75 : decode cX12_byLaw 75 = .ok (.iload_n 1, 1) := by decide +kernel
theorem dX12_byLaw_76 : decode cX12_byLaw 76 = .ok (.imul, 1) := by decide +kernel
theorem dX12_byLaw_77 : decode cX12_byLaw 77 = .ok (.iload_n 3, 1) := by decide +kernel
theorem dX12_byLaw_78 : decode cX12_byLaw 78 = .ok (.iadd, 1) := by decide +kernel
theorem dX12_byLaw_79 : decode cX12_byLaw 79 = .ok (.iaload, 1) := by decide +kernel
theorem dX12_byLaw_80 : decode cX12_byLaw 80 = .ok (.if_icmp .le 8, 3) := by decide +kernel
theorem dX12_byLaw_83 : decode cX12_byLaw 83 = .ok (.iload 5, 2) := by decide +kernel
theorem dX12_byLaw_85 : decode cX12_byLaw 85 = .ok (.goto 4, 3) := by decide +kernel
theorem dX12_byLaw_88 : decode cX12_byLaw 88 = .ok (.iload_n 3, 1) := by decide +kernel
theorem dX12_byLaw_89 : decode cX12_byLaw 89 = .ok (.istore_n 3, 1) := by decide +kernel
theorem dX12_byLaw_90 : decode cX12_byLaw 90 = .ok (.iload 4, 2) := by decide +kernel
theorem dX12_byLaw_92 : decode cX12_byLaw 92 = .ok (.aload_n 0, 1) := by decide +kernel
theorem dX12_byLaw_93 : decode cX12_byLaw 93 = .ok (.getfield 64, 3) := by decide +kernel
theorem dX12_byLaw_96 : decode cX12_byLaw 96 = .ok (.iconst 3, 1) := by decide +kernel
theorem dX12_byLaw_97 : decode cX12_byLaw 97 = .ok (.iload_n 1, 1) := by decide +kernel
theorem dX12_byLaw_98 : decode cX12_byLaw 98 = .ok (.imul, 1) := by decide +kernel
theorem dX12_byLaw_99 : decode cX12_byLaw 99 = .ok (.iload 5, 2) := by decide +kernel
theorem dX12_byLaw_101 : decode cX12_byLaw 101 = .ok (.iadd, 1) := by decide +kernel
theorem dX12_byLaw_102 : decode cX12_byLaw 102 = .ok (.iaload, 1) := by decide +kernel
theorem dX12_byLaw_103 : decode cX12_byLaw 103 = .ok (.ifCond .le 7, 3) := by decide +kernel
theorem dX12_byLaw_106 : decode cX12_byLaw 106 = .ok (.iconst 1, 1) := by decide +kernel
theorem dX12_byLaw_107 : decode cX12_byLaw 107 = .ok (.goto 4, 3) := by decide +kernel
theorem dX12_byLaw_110 : decode cX12_byLaw 110 = .ok (.iconst 0, 1) := by decide +kernel
theorem dX12_byLaw_111 : decode cX12_byLaw 111 = .ok (.iadd, 1) := by decide +kernel
theorem dX12_byLaw_112 : decode cX12_byLaw 112 = .ok (.istore 4, 2) := by decide +kernel
theorem dX12_byLaw_114 : decode cX12_byLaw 114 = .ok (.iinc 5 1, 3) := by decide +kernel
theorem dX12_byLaw_117 : decode cX12_byLaw 117 = .ok (.goto (-64), 3) := by decide +kernel
theorem dX12_byLaw_120 : decode cX12_byLaw 120 = .ok (.aload_n 0, 1) := by decide +kernel
theorem dX12_byLaw_121 : decode cX12_byLaw 121 = .ok (.getfield 19, 3) := by decide +kernel
theorem dX12_byLaw_124 : decode cX12_byLaw 124 = .ok (.iload_n 2, 1) := by decide +kernel
theorem dX12_byLaw_125 : decode cX12_byLaw 125 = .ok (.iconst 4, 1) := by decide +kernel
theorem dX12_byLaw_126 : decode cX12_byLaw 126 = .ok (.iadd, 1) := by decide +kernel
theorem dX12_byLaw_127 : decode cX12_byLaw 127 = .ok (.iaload, 1) := by decide +kernel
theorem dX12_byLaw_128 : decode cX12_byLaw 128 = .ok (.iconst 1, 1) := by decide +kernel
theorem dX12_byLaw_129 : decode cX12_byLaw 129 = .ok (.if_icmp .ne 13, 3) := by decide +kernel
theorem dX12_byLaw_132 : decode cX12_byLaw 132 = .ok (.iload 4, 2) := by decide +kernel
theorem dX12_byLaw_134 : decode cX12_byLaw 134 = .ok (.iconst 1, 1) := by decide +kernel
theorem dX12_byLaw_135 : decode cX12_byLaw 135 = .ok (.if_icmp .le 7, 3) := by decide +kernel
theorem dX12_byLaw_138 : decode cX12_byLaw 138 = .ok (.iconst 2, 1) := by decide +kernel
theorem dX12_byLaw_139 : decode cX12_byLaw 139 = .ok (.goto 4, 3) := by decide +kernel
theorem dX12_byLaw_142 : decode cX12_byLaw 142 = .ok (.iload_n 3, 1) := by decide +kernel
theorem dX12_byLaw_143 : decode cX12_byLaw 143 = .ok (.ireturn, 1) := by decide +kernel
theorem dX12_fall_0 : decode cX12_fall 0 = .ok (.aload_n 0, 1) := by decide +kernel
theorem dX12_fall_1 : decode cX12_fall 1 = .ok (.getfield 34, 3) := by decide +kernel
theorem dX12_fall_4 : decode cX12_fall 4 = .ok (.aload_n 0, 1) := by decide +kernel
theorem dX12_fall_5 : decode cX12_fall 5 = .ok (.getfield 61, 3) := by decide +kernel
theorem dX12_fall_8 : decode cX12_fall 8 = .ok (.iload_n 1, 1) := by decide +kernel
theorem dX12_fall_9 : decode cX12_fall 9 = .ok (.iaload, 1) := by decide +kernel
theorem dX12_fall_10 : decode cX12_fall 10 = .ok (.iaload, 1) := by decide +kernel
theorem dX12_fall_11 : decode cX12_fall 11 = .ok (.ldc 146, 2) := by decide +kernel
theorem dX12_fall_13 : decode cX12_fall 13 = .ok (.if_icmp .eq 7, 3) := by decide +kernel
theorem dX12_fall_16 : decode cX12_fall 16 = .ok (.iconst 1, 1) := by decide +kernel
theorem dX12_fall_17 : decode cX12_fall 17 = .ok (.goto 4, 3) := by decide +kernel
theorem dX12_fall_20 : decode cX12_fall 20 = .ok (.iconst 0, 1) := by decide +kernel
theorem dX12_fall_21 : decode cX12_fall 21 = .ok (.istore 4, 2) := by decide +kernel
theorem dX12_fall_23 : decode cX12_fall 23 = .ok (.aload_n 0, 1) := by decide +kernel
theorem dX12_fall_24 : decode cX12_fall 24 = .ok (.getfield 37, 3) := by decide +kernel
theorem dX12_fall_27 : decode cX12_fall 27 = .ok (.iload_n 1, 1) := by decide +kernel
theorem dX12_fall_28 : decode cX12_fall 28 = .ok (.iload 4, 2) := by decide +kernel
theorem dX12_fall_30 : decode cX12_fall 30 = .ok (.ifCond .eq 17, 3) := by decide +kernel
theorem dX12_fall_33 : decode cX12_fall 33 = .ok (.aload_n 0, 1) := by decide +kernel
theorem dX12_fall_34 : decode cX12_fall 34 = .ok (.getfield 34, 3) := by decide +kernel
theorem dX12_fall_37 : decode cX12_fall 37 = .ok (.aload_n 0, 1) := by decide +kernel
theorem dX12_fall_38 : decode cX12_fall 38 = .ok (.getfield 61, 3) := by decide +kernel
theorem dX12_fall_41 : decode cX12_fall 41 = .ok (.iload_n 1, 1) := by decide +kernel
theorem dX12_fall_42 : decode cX12_fall 42 = .ok (.iaload, 1) := by decide +kernel
theorem dX12_fall_43 : decode cX12_fall 43 = .ok (.iaload, 1) := by decide +kernel
theorem dX12_fall_44 : decode cX12_fall 44 = .ok (.goto 8, 3) := by decide +kernel
theorem dX12_fall_47 : decode cX12_fall 47 = .ok (.aload_n 0, 1) := by decide +kernel
theorem dX12_fall_48 : decode cX12_fall 48 = .ok (.iload_n 1, 1) := by decide +kernel
theorem dX12_fall_49 : decode cX12_fall 49 = .ok (.invokevirtual 291, 3) := by decide +kernel
theorem dX12_fall_52 : decode cX12_fall 52 = .ok (.iastore, 1) := by decide +kernel
theorem dX12_fall_53 : decode cX12_fall 53 = .ok (.aload_n 0, 1) := by decide +kernel
theorem dX12_fall_54 : decode cX12_fall 54 = .ok (.getfield 43, 3) := by decide +kernel
theorem dX12_fall_57 : decode cX12_fall 57 = .ok (.iload_n 1, 1) := by decide +kernel
theorem dX12_fall_58 : decode cX12_fall 58 = .ok (.iload 4, 2) := by decide +kernel
theorem dX12_fall_60 : decode cX12_fall 60 = .ok (.ifCond .eq 7, 3) := by decide +kernel
theorem dX12_fall_63 : decode cX12_fall 63 = .ok (.iconst 1, 1) := by decide +kernel
theorem dX12_fall_64 : decode cX12_fall 64 = .ok (.goto 4, 3) := by decide +kernel
theorem dX12_fall_67 : decode cX12_fall 67 = .ok (.iload_n 3, 1) := by decide +kernel
theorem dX12_fall_68 : decode cX12_fall 68 = .ok (.iastore, 1) := by decide +kernel
theorem dX12_fall_69 : decode cX12_fall 69 = .ok (.aload_n 0, 1) := by decide +kernel
theorem dX12_fall_70 : decode cX12_fall 70 = .ok (.getfield 49, 3) := by decide +kernel
theorem dX12_fall_73 : decode cX12_fall 73 = .ok (.iload_n 1, 1) := by decide +kernel
theorem dX12_fall_74 : decode cX12_fall 74 = .ok (.iload_n 2, 1) := by decide +kernel
theorem dX12_fall_75 : decode cX12_fall 75 = .ok (.iastore, 1) := by decide +kernel
theorem dX12_fall_76 : decode cX12_fall 76 = .ok (.return_, 1) := by decide +kernel
theorem dX12_putIn_0 : decode cX12_putIn 0 = .ok (.aload_n 0, 1) := by decide +kernel
theorem dX12_putIn_1 : decode cX12_putIn 1 = .ok (.getfield 70, 3) := by decide +kernel
theorem dX12_putIn_4 : decode cX12_putIn 4 = .ok (.aload_n 0, 1) := by decide +kernel
theorem dX12_putIn_5 : decode cX12_putIn 5 = .ok (.getfield 294, 3) := by decide +kernel
theorem dX12_putIn_8 : decode cX12_putIn 8 = .ok (.iload_n 1, 1) := by decide +kernel
theorem dX12_putIn_9 : decode cX12_putIn 9 = .ok (.iastore, 1) := by decide +kernel
theorem dX12_putIn_10 : decode cX12_putIn 10 = .ok (.aload_n 0, 1) := by decide +kernel
theorem dX12_putIn_11 : decode cX12_putIn 11 = .ok (.getfield 73, 3) := by decide +kernel
theorem dX12_putIn_14 : decode cX12_putIn 14 = .ok (.aload_n 0, 1) := by decide +kernel
theorem dX12_putIn_15 : decode cX12_putIn 15 = .ok (.getfield 294, 3) := by decide +kernel
theorem dX12_putIn_18 : decode cX12_putIn 18 = .ok (.iload_n 2, 1) := by decide +kernel
theorem dX12_putIn_19 : decode cX12_putIn 19 = .ok (.iastore, 1) := by decide +kernel
theorem dX12_putIn_20 : decode cX12_putIn 20 = .ok (.aload_n 0, 1) := by decide +kernel
theorem dX12_putIn_21 : decode cX12_putIn 21 = .ok (.getfield 76, 3) := by decide +kernel
theorem dX12_putIn_24 : decode cX12_putIn 24 = .ok (.aload_n 0, 1) := by decide +kernel
theorem dX12_putIn_25 : decode cX12_putIn 25 = .ok (.getfield 294, 3) := by decide +kernel
theorem dX12_putIn_28 : decode cX12_putIn 28 = .ok (.iload_n 3, 1) := by decide +kernel
theorem dX12_putIn_29 : decode cX12_putIn 29 = .ok (.iastore, 1) := by decide +kernel
theorem dX12_putIn_30 : decode cX12_putIn 30 = .ok (.aload_n 0, 1) := by decide +kernel
theorem dX12_putIn_31 : decode cX12_putIn 31 = .ok (.getfield 79, 3) := by decide +kernel
theorem dX12_putIn_34 : decode cX12_putIn 34 = .ok (.aload_n 0, 1) := by decide +kernel
theorem dX12_putIn_35 : decode cX12_putIn 35 = .ok (.getfield 294, 3) := by decide +kernel
theorem dX12_putIn_38 : decode cX12_putIn 38 = .ok (.aload_n 0, 1) := by decide +kernel
theorem dX12_putIn_39 : decode cX12_putIn 39 = .ok (.getfield 52, 3) := by decide +kernel
theorem dX12_putIn_42 : decode cX12_putIn 42 = .ok (.iload_n 1, 1) := by decide +kernel
theorem dX12_putIn_43 : decode cX12_putIn 43 = .ok (.iaload, 1) := by decide +kernel
theorem dX12_putIn_44 : decode cX12_putIn 44 = .ok (.iastore, 1) := by decide +kernel
theorem dX12_putIn_45 : decode cX12_putIn 45 = .ok (.aload_n 0, 1) := by decide +kernel
theorem dX12_putIn_46 : decode cX12_putIn 46 = .ok (.dup, 1) := by decide +kernel
theorem dX12_putIn_47 : decode cX12_putIn 47 = .ok (.getfield 294, 3) := by decide +kernel
theorem dX12_putIn_50 : decode cX12_putIn 50 = .ok (.iconst 1, 1) := by decide +kernel
theorem dX12_putIn_51 : decode cX12_putIn 51 = .ok (.iadd, 1) := by decide +kernel
theorem dX12_putIn_52 : decode cX12_putIn 52 = .ok (.putfield 294, 3) := by decide +kernel
theorem dX12_putIn_55 : decode cX12_putIn 55 = .ok (.return_, 1) := by decide +kernel
theorem dX12_bring_0 : decode cX12_bring 0 = .ok (.aload_n 0, 1) := by decide +kernel
theorem dX12_bring_1 : decode cX12_bring 1 = .ok (.getfield 297, 3) := by decide +kernel
theorem dX12_bring_4 : decode cX12_bring 4 = .ok (.istore_n 3, 1) := by decide +kernel
theorem dX12_bring_5 : decode cX12_bring 5 = .ok (.aload_n 0, 1) := by decide +kernel
theorem dX12_bring_6 : decode cX12_bring 6 = .ok (.dup, 1) := by decide +kernel
theorem dX12_bring_7 : decode cX12_bring 7 = .ok (.getfield 297, 3) := by decide +kernel
theorem dX12_bring_10 : decode cX12_bring 10 = .ok (.iconst 1, 1) := by decide +kernel
theorem dX12_bring_11 : decode cX12_bring 11 = .ok (.iadd, 1) := by decide +kernel
theorem dX12_bring_12 : decode cX12_bring 12 = .ok (.putfield 297, 3) := by decide +kernel
theorem dX12_bring_15 : decode cX12_bring 15 = .ok (.aload_n 0, 1) := by decide +kernel
theorem dX12_bring_16 : decode cX12_bring 16 = .ok (.getfield 22, 3) := by decide +kernel
theorem dX12_bring_19 : decode cX12_bring 19 = .ok (.iload_n 2, 1) := by decide +kernel
theorem dX12_bring_20 : decode cX12_bring 20 = .ok (.iaload, 1) := by decide +kernel
theorem dX12_bring_21 : decode cX12_bring 21 = .ok (.iconst 1, 1) := by decide +kernel
theorem dX12_bring_22 : decode cX12_bring 22 = .ok (.if_icmp .ne 7, 3) := by decide +kernel
theorem dX12_bring_25 : decode cX12_bring 25 = .ok (.iconst 1, 1) := by decide +kernel
theorem dX12_bring_26 : decode cX12_bring 26 = .ok (.goto 4, 3) := by decide +kernel
theorem dX12_bring_29 : decode cX12_bring 29 = .ok (.iconst 0, 1) := by decide +kernel
theorem dX12_bring_30 : decode cX12_bring 30 = .ok (.istore 4, 2) := by decide +kernel
theorem dX12_bring_32 : decode cX12_bring 32 = .ok (.iconst 0, 1) := by decide +kernel
theorem dX12_bring_33 : decode cX12_bring 33 = .ok (.istore 5, 2) := by decide +kernel
theorem dX12_bring_35 : decode cX12_bring 35 = .ok (.iconst 0, 1) := by decide +kernel
theorem dX12_bring_36 : decode cX12_bring 36 = .ok (.istore 6, 2) := by decide +kernel
theorem dX12_bring_38 : decode cX12_bring 38 = .ok (.iload 6, 2) := by decide +kernel
theorem dX12_bring_40 : decode cX12_bring 40 = .ok (.iconst 3, 1) := by decide +kernel
theorem dX12_bring_41 : decode cX12_bring 41 = .ok (.if_icmp .ge 56, 3) := by decide +kernel
theorem dX12_bring_44 : decode cX12_bring 44 = .ok (.aload_n 0, 1) := by decide +kernel
theorem dX12_bring_45 : decode cX12_bring 45 = .ok (.getfield 64, 3) := by decide +kernel
theorem dX12_bring_48 : decode cX12_bring 48 = .ok (.iconst 3, 1) := by decide +kernel
theorem dX12_bring_49 : decode cX12_bring 49 = .ok (.iload_n 3, 1) := by decide +kernel
theorem dX12_bring_50 : decode cX12_bring 50 = .ok (.imul, 1) := by decide +kernel
theorem dX12_bring_51 : decode cX12_bring 51 = .ok (.iload 6, 2) := by decide +kernel
theorem dX12_bring_53 : decode cX12_bring 53 = .ok (.iadd, 1) := by decide +kernel
theorem dX12_bring_54 : decode cX12_bring 54 = .ok (.iload 4, 2) := by decide +kernel
theorem dX12_bring_56 : decode cX12_bring 56 = .ok (.ifCond .eq 17, 3) := by decide +kernel
theorem dX12_bring_59 : decode cX12_bring 59 = .ok (.aload_n 0, 1) := by decide +kernel
theorem dX12_bring_60 : decode cX12_bring 60 = .ok (.getfield 22, 3) := by decide +kernel
theorem dX12_bring_63 : decode cX12_bring 63 = .ok (.iload_n 2, 1) := by decide +kernel
theorem dX12_bring_64 : decode cX12_bring 64 = .ok (.iconst 2, 1) := by decide +kernel
theorem dX12_bring_65 : decode cX12_bring 65 = .ok (.iadd, 1) := by decide +kernel
theorem dX12_bring_66 : decode cX12_bring 66 = .ok (.iload 6, 2) := by decide +kernel
theorem dX12_bring_68 : decode cX12_bring 68 = .ok (.iadd, 1) := by decide +kernel
theorem dX12_bring_69 : decode cX12_bring 69 = .ok (.iaload, 1) := by decide +kernel
theorem dX12_bring_70 : decode cX12_bring 70 = .ok (.goto 4, 3) := by decide +kernel
theorem dX12_bring_73 : decode cX12_bring 73 = .ok (.iconst 0, 1) := by decide +kernel
theorem dX12_bring_74 : decode cX12_bring 74 = .ok (.iastore, 1) := by decide +kernel
theorem dX12_bring_75 : decode cX12_bring 75 = .ok (.iload 5, 2) := by decide +kernel
theorem dX12_bring_77 : decode cX12_bring 77 = .ok (.aload_n 0, 1) := by decide +kernel
theorem dX12_bring_78 : decode cX12_bring 78 = .ok (.getfield 64, 3) := by decide +kernel
theorem dX12_bring_81 : decode cX12_bring 81 = .ok (.iconst 3, 1) := by decide +kernel
theorem dX12_bring_82 : decode cX12_bring 82 = .ok (.iload_n 3, 1) := by decide +kernel
theorem dX12_bring_83 : decode cX12_bring 83 = .ok (.imul, 1) := by decide +kernel
theorem dX12_bring_84 : decode cX12_bring 84 = .ok (.iload 6, 2) := by decide +kernel
theorem dX12_bring_86 : decode cX12_bring 86 = .ok (.iadd, 1) := by decide +kernel
theorem dX12_bring_87 : decode cX12_bring 87 = .ok (.iaload, 1) := by decide +kernel
theorem dX12_bring_88 : decode cX12_bring 88 = .ok (.iadd, 1) := by decide +kernel
theorem dX12_bring_89 : decode cX12_bring 89 = .ok (.istore 5, 2) := by decide +kernel
theorem dX12_bring_91 : decode cX12_bring 91 = .ok (.iinc 6 1, 3) := by decide +kernel
theorem dX12_bring_94 : decode cX12_bring 94 = .ok (.goto (-56), 3) := by decide +kernel
theorem dX12_bring_97 : decode cX12_bring 97 = .ok (.aload_n 0, 1) := by decide +kernel
theorem dX12_bring_98 : decode cX12_bring 98 = .ok (.getfield 61, 3) := by decide +kernel
theorem dX12_bring_101 : decode cX12_bring 101 = .ok (.iload_n 3, 1) := by decide +kernel
theorem dX12_bring_102 : decode cX12_bring 102 = .ok (.iload 4, 2) := by decide +kernel
theorem dX12_bring_104 : decode cX12_bring 104 = .ok (.ifCond .eq 7, 3) := by decide +kernel
theorem dX12_bring_107 : decode cX12_bring 107 = .ok (.iconst 4, 1) := by decide +kernel
theorem dX12_bring_108 : decode cX12_bring 108 = .ok (.goto 11, 3) := by decide +kernel
theorem dX12_bring_111 : decode cX12_bring 111 = .ok (.aload_n 0, 1) := by decide +kernel
theorem dX12_bring_112 : decode cX12_bring 112 = .ok (.getfield 22, 3) := by decide +kernel
theorem dX12_bring_115 : decode cX12_bring 115 = .ok (.iload_n 2, 1) := by decide +kernel
theorem dX12_bring_116 : decode cX12_bring 116 = .ok (.iconst 2, 1) := by decide +kernel
theorem dX12_bring_117 : decode cX12_bring 117 = .ok (.iadd, 1) := by decide +kernel
theorem dX12_bring_118 : decode cX12_bring 118 = .ok (.iaload, 1) := by decide +kernel
theorem dX12_bring_119 : decode cX12_bring 119 = .ok (.iastore, 1) := by decide +kernel
theorem dX12_bring_120 : decode cX12_bring 120 = .ok (.aload_n 0, 1) := by decide +kernel
theorem dX12_bring_121 : decode cX12_bring 121 = .ok (.getfield 58, 3) := by decide +kernel
theorem dX12_bring_124 : decode cX12_bring 124 = .ok (.iload_n 3, 1) := by decide +kernel
theorem dX12_bring_125 : decode cX12_bring 125 = .ok (.iload 4, 2) := by decide +kernel
theorem dX12_bring_127 : decode cX12_bring 127 = .ok (.ifCond .eq 7, 3) := by decide +kernel
theorem dX12_bring_130 : decode cX12_bring 130 = .ok (.iconst 0, 1) := by decide +kernel
theorem dX12_bring_131 : decode cX12_bring 131 = .ok (.goto 11, 3) := by decide +kernel
theorem dX12_bring_134 : decode cX12_bring 134 = .ok (.aload_n 0, 1) := by decide +kernel
theorem dX12_bring_135 : decode cX12_bring 135 = .ok (.getfield 22, 3) := by decide +kernel
theorem dX12_bring_138 : decode cX12_bring 138 = .ok (.iload_n 2, 1) := by decide +kernel
theorem dX12_bring_139 : decode cX12_bring 139 = .ok (.iconst 3, 1) := by decide +kernel
theorem dX12_bring_140 : decode cX12_bring 140 = .ok (.iadd, 1) := by decide +kernel
theorem dX12_bring_141 : decode cX12_bring 141 = .ok (.iaload, 1) := by decide +kernel
theorem dX12_bring_142 : decode cX12_bring 142 = .ok (.iastore, 1) := by decide +kernel
theorem dX12_bring_143 : decode cX12_bring 143 = .ok (.aload_n 0, 1) := by decide +kernel
theorem dX12_bring_144 : decode cX12_bring 144 = .ok (.getfield 55, 3) := by decide +kernel
theorem dX12_bring_147 : decode cX12_bring 147 = .ok (.iload_n 3, 1) := by decide +kernel
theorem dX12_bring_148 : decode cX12_bring 148 = .ok (.iload 4, 2) := by decide +kernel
theorem dX12_bring_150 : decode cX12_bring 150 = .ok (.ifCond .eq 7, 3) := by decide +kernel
theorem dX12_bring_153 : decode cX12_bring 153 = .ok (.iconst 0, 1) := by decide +kernel
theorem dX12_bring_154 : decode cX12_bring 154 = .ok (.goto 11, 3) := by decide +kernel
theorem dX12_bring_157 : decode cX12_bring 157 = .ok (.aload_n 0, 1) := by decide +kernel
theorem dX12_bring_158 : decode cX12_bring 158 = .ok (.getfield 22, 3) := by decide +kernel
theorem dX12_bring_161 : decode cX12_bring 161 = .ok (.iload_n 2, 1) := by decide +kernel
theorem dX12_bring_162 : decode cX12_bring 162 = .ok (.iconst 4, 1) := by decide +kernel
theorem dX12_bring_163 : decode cX12_bring 163 = .ok (.iadd, 1) := by decide +kernel
theorem dX12_bring_164 : decode cX12_bring 164 = .ok (.iaload, 1) := by decide +kernel
theorem dX12_bring_165 : decode cX12_bring 165 = .ok (.iastore, 1) := by decide +kernel
theorem dX12_bring_166 : decode cX12_bring 166 = .ok (.aload_n 0, 1) := by decide +kernel
theorem dX12_bring_167 : decode cX12_bring 167 = .ok (.getfield 52, 3) := by decide +kernel
theorem dX12_bring_170 : decode cX12_bring 170 = .ok (.iload_n 3, 1) := by decide +kernel
theorem dX12_bring_171 : decode cX12_bring 171 = .ok (.iload 4, 2) := by decide +kernel
theorem dX12_bring_173 : decode cX12_bring 173 = .ok (.ifCond .eq 8, 3) := by decide +kernel
theorem dX12_bring_176 : decode cX12_bring 176 = .ok (.iload 5, 2) := by decide +kernel
theorem dX12_bring_178 : decode cX12_bring 178 = .ok (.goto 9, 3) := by decide +kernel
theorem dX12_bring_181 : decode cX12_bring 181 = .ok (.aload_n 0, 1) := by decide +kernel
theorem dX12_bring_182 : decode cX12_bring 182 = .ok (.getfield 55, 3) := by decide +kernel
theorem dX12_bring_185 : decode cX12_bring 185 = .ok (.iload_n 3, 1) := by decide +kernel
theorem dX12_bring_186 : decode cX12_bring 186 = .ok (.iaload, 1) := by decide +kernel
theorem dX12_bring_187 : decode cX12_bring 187 = .ok (.iastore, 1) := by decide +kernel
theorem dX12_bring_188 : decode cX12_bring 188 = .ok (.aload_n 0, 1) := by decide +kernel
theorem dX12_bring_189 : decode cX12_bring 189 = .ok (.getfield 46, 3) := by decide +kernel
theorem dX12_bring_192 : decode cX12_bring 192 = .ok (.iload_n 3, 1) := by decide +kernel
theorem dX12_bring_193 : decode cX12_bring 193 = .ok (.iload_n 1, 1) := by decide +kernel
theorem dX12_bring_194 : decode cX12_bring 194 = .ok (.iastore, 1) := by decide +kernel
theorem dX12_bring_195 : decode cX12_bring 195 = .ok (.iconst 0, 1) := by decide +kernel
theorem dX12_bring_196 : decode cX12_bring 196 = .ok (.istore 6, 2) := by decide +kernel
theorem dX12_bring_198 : decode cX12_bring 198 = .ok (.iload 6, 2) := by decide +kernel
theorem dX12_bring_200 : decode cX12_bring 200 = .ok (.iconst 3, 1) := by decide +kernel
theorem dX12_bring_201 : decode cX12_bring 201 = .ok (.if_icmp .ge 41, 3) := by decide +kernel
theorem dX12_bring_204 : decode cX12_bring 204 = .ok (.aload_n 0, 1) := by decide +kernel
theorem dX12_bring_205 : decode cX12_bring 205 = .ok (.getfield 64, 3) := by decide +kernel
theorem dX12_bring_208 : decode cX12_bring 208 = .ok (.iconst 3, 1) := by decide +kernel
theorem dX12_bring_209 : decode cX12_bring 209 = .ok (.iload_n 3, 1) := by decide +kernel
theorem dX12_bring_210 : decode cX12_bring 210 = .ok (.imul, 1) := by decide +kernel
theorem dX12_bring_211 : decode cX12_bring 211 = .ok (.iload 6, 2) := by decide +kernel
theorem dX12_bring_213 : decode cX12_bring 213 = .ok (.iadd, 1) := by decide +kernel
theorem dX12_bring_214 : decode cX12_bring 214 = .ok (.iaload, 1) := by decide +kernel
theorem dX12_bring_215 : decode cX12_bring 215 = .ok (.ifCond .le 21, 3) := by decide +kernel
theorem dX12_bring_218 : decode cX12_bring 218 = .ok (.aload_n 0, 1) := by decide +kernel
theorem dX12_bring_219 : decode cX12_bring 219 = .ok (.iload_n 3, 1) := by decide +kernel
theorem dX12_bring_220 : decode cX12_bring 220 = .ok (.iload 6, 2) := by decide +kernel
theorem dX12_bring_222 : decode cX12_bring 222 = .ok (.aload_n 0, 1) := by decide +kernel
theorem dX12_bring_223 : decode cX12_bring 223 = .ok (.getfield 64, 3) := by decide +kernel
theorem dX12_bring_226 : decode cX12_bring 226 = .ok (.iconst 3, 1) := by decide +kernel
theorem dX12_bring_227 : decode cX12_bring 227 = .ok (.iload_n 3, 1) := by decide +kernel
theorem dX12_bring_228 : decode cX12_bring 228 = .ok (.imul, 1) := by decide +kernel
theorem dX12_bring_229 : decode cX12_bring 229 = .ok (.iload 6, 2) := by decide +kernel
theorem dX12_bring_231 : decode cX12_bring 231 = .ok (.iadd, 1) := by decide +kernel
theorem dX12_bring_232 : decode cX12_bring 232 = .ok (.iaload, 1) := by decide +kernel
theorem dX12_bring_233 : decode cX12_bring 233 = .ok (.invokevirtual 300, 3) := by decide +kernel
theorem dX12_bring_236 : decode cX12_bring 236 = .ok (.iinc 6 1, 3) := by decide +kernel
theorem dX12_bring_239 : decode cX12_bring 239 = .ok (.goto (-41), 3) := by decide +kernel
theorem dX12_bring_242 : decode cX12_bring 242 = .ok (.aload_n 0, 1) := by decide +kernel
theorem dX12_bring_243 : decode cX12_bring 243 = .ok (.iload_n 3, 1) := by decide +kernel
theorem dX12_bring_244 : decode cX12_bring 244 = .ok (.iload_n 1, 1) := by decide +kernel
theorem dX12_bring_245 : decode cX12_bring 245 = .ok (.iconst 0, 1) := by decide +kernel
theorem dX12_bring_246 : decode cX12_bring 246 = .ok (.invokevirtual 304, 3) := by decide +kernel
theorem dX12_bring_249 : decode cX12_bring 249 = .ok (.aload_n 0, 1) := by decide +kernel
theorem dX12_bring_250 : decode cX12_bring 250 = .ok (.getfield 40, 3) := by decide +kernel
theorem dX12_bring_253 : decode cX12_bring 253 = .ok (.iload_n 3, 1) := by decide +kernel
theorem dX12_bring_254 : decode cX12_bring 254 = .ok (.aload_n 0, 1) := by decide +kernel
theorem dX12_bring_255 : decode cX12_bring 255 = .ok (.getfield 37, 3) := by decide +kernel
theorem dX12_bring_258 : decode cX12_bring 258 = .ok (.iload_n 3, 1) := by decide +kernel
theorem dX12_bring_259 : decode cX12_bring 259 = .ok (.iaload, 1) := by decide +kernel
theorem dX12_bring_260 : decode cX12_bring 260 = .ok (.iastore, 1) := by decide +kernel
theorem dX12_bring_261 : decode cX12_bring 261 = .ok (.return_, 1) := by decide +kernel
theorem dX12_move_0 : decode cX12_move 0 = .ok (.aload_n 0, 1) := by decide +kernel
theorem dX12_move_1 : decode cX12_move 1 = .ok (.iload_n 1, 1) := by decide +kernel
theorem dX12_move_2 : decode cX12_move 2 = .ok (.putfield 288, 3) := by decide +kernel
theorem dX12_move_5 : decode cX12_move 5 = .ok (.iconst 0, 1) := by decide +kernel
theorem dX12_move_6 : decode cX12_move 6 = .ok (.istore_n 3, 1) := by decide +kernel
theorem dX12_move_7 : decode cX12_move 7 = .ok (.iload_n 3, 1) := by decide +kernel
theorem dX12_move_8 : decode cX12_move 8 = .ok (.aload_n 0, 1) := by decide +kernel
theorem dX12_move_9 : decode cX12_move 9 = .ok (.getfield 297, 3) := by decide +kernel
theorem dX12_move_12 : decode cX12_move 12 = .ok (.if_icmp .ge 32, 3) := by decide +kernel
theorem dX12_move_15 : decode cX12_move 15 = .ok (.aload_n 0, 1) := by decide +kernel
theorem dX12_move_16 : decode cX12_move 16 = .ok (.getfield 19, 3) := by decide +kernel
theorem dX12_move_19 : decode cX12_move 19 = .ok (.bipush 8, 2) := by decide +kernel
theorem dX12_move_21 : decode cX12_move 21 = .ok (.iload_n 1, 1) := by decide +kernel
theorem dX12_move_22 : decode cX12_move 22 = .ok (.imul, 1) := by decide +kernel
theorem dX12_move_23 : decode cX12_move 23 = .ok (.bipush 6, 2) := by decide +kernel
theorem dX12_move_25 : decode cX12_move 25 = .ok (.iadd, 1) := by decide +kernel
theorem dX12_move_26 : decode cX12_move 26 = .ok (.iaload, 1) := by decide +kernel
theorem dX12_move_27 : decode cX12_move 27 = .ok (.iconst 1, 1) := by decide +kernel
theorem dX12_move_28 : decode cX12_move 28 = .ok (.if_icmp .ne 16, 3) := by decide +kernel
theorem dX12_move_31 : decode cX12_move 31 = .ok (.aload_n 0, 1) := by decide +kernel
theorem dX12_move_32 : decode cX12_move 32 = .ok (.iload_n 3, 1) := by decide +kernel
theorem dX12_move_33 : decode cX12_move 33 = .ok (.iload_n 2, 1) := by decide +kernel
theorem dX12_move_34 : decode cX12_move 34 = .ok (.iconst 2, 1) := by decide +kernel
theorem dX12_move_35 : decode cX12_move 35 = .ok (.invokevirtual 304, 3) := by decide +kernel
theorem dX12_move_38 : decode cX12_move 38 = .ok (.iinc 3 1, 3) := by decide +kernel
theorem dX12_move_41 : decode cX12_move 41 = .ok (.goto (-34), 3) := by decide +kernel
theorem dX12_move_44 : decode cX12_move 44 = .ok (.return_, 1) := by decide +kernel
theorem dX12_happen_0 : decode cX12_happen 0 = .ok (.bipush 6, 2) := by decide +kernel
theorem dX12_happen_2 : decode cX12_happen 2 = .ok (.iload_n 1, 1) := by decide +kernel
theorem dX12_happen_3 : decode cX12_happen 3 = .ok (.imul, 1) := by decide +kernel
theorem dX12_happen_4 : decode cX12_happen 4 = .ok (.istore_n 2, 1) := by decide +kernel
theorem dX12_happen_5 : decode cX12_happen 5 = .ok (.aload_n 0, 1) := by decide +kernel
theorem dX12_happen_6 : decode cX12_happen 6 = .ok (.getfield 22, 3) := by decide +kernel
theorem dX12_happen_9 : decode cX12_happen 9 = .ok (.iload_n 2, 1) := by decide +kernel
theorem dX12_happen_10 : decode cX12_happen 10 = .ok (.iconst 2, 1) := by decide +kernel
theorem dX12_happen_11 : decode cX12_happen 11 = .ok (.iadd, 1) := by decide +kernel
theorem dX12_happen_12 : decode cX12_happen 12 = .ok (.iaload, 1) := by decide +kernel
theorem dX12_happen_13 : decode cX12_happen 13 = .ok (.istore_n 3, 1) := by decide +kernel
theorem dX12_happen_14 : decode cX12_happen 14 = .ok (.aload_n 0, 1) := by decide +kernel
theorem dX12_happen_15 : decode cX12_happen 15 = .ok (.getfield 22, 3) := by decide +kernel
theorem dX12_happen_18 : decode cX12_happen 18 = .ok (.iload_n 2, 1) := by decide +kernel
theorem dX12_happen_19 : decode cX12_happen 19 = .ok (.iconst 3, 1) := by decide +kernel
theorem dX12_happen_20 : decode cX12_happen 20 = .ok (.iadd, 1) := by decide +kernel
theorem dX12_happen_21 : decode cX12_happen 21 = .ok (.iaload, 1) := by decide +kernel
theorem dX12_happen_22 : decode cX12_happen 22 = .ok (.istore 4, 2) := by decide +kernel
theorem dX12_happen_24 : decode cX12_happen 24 = .ok (.aload_n 0, 1) := by decide +kernel
theorem dX12_happen_25 : decode cX12_happen 25 = .ok (.getfield 22, 3) := by decide +kernel
theorem dX12_happen_28 : decode cX12_happen 28 = .ok (.iload_n 2, 1) := by decide +kernel
theorem dX12_happen_29 : decode cX12_happen 29 = .ok (.iaload, 1) := by decide +kernel
theorem dX12_happen_30 : decode cX12_happen 30 = .ok (.tableswitch 114 2 6 #[34, 69, 80, 94, 103], 34) := by decide +kernel
theorem dX12_happen_64 : decode cX12_happen 64 = .ok (.aload_n 0, 1) := by decide +kernel
theorem dX12_happen_65 : decode cX12_happen 65 = .ok (.getfield 52, 3) := by decide +kernel
theorem dX12_happen_68 : decode cX12_happen 68 = .ok (.iload_n 3, 1) := by decide +kernel
theorem dX12_happen_69 : decode cX12_happen 69 = .ok (.dup2, 1) := by decide +kernel
theorem dX12_happen_70 : decode cX12_happen 70 = .ok (.iaload, 1) := by decide +kernel
theorem dX12_happen_71 : decode cX12_happen 71 = .ok (.aload_n 0, 1) := by decide +kernel
theorem dX12_happen_72 : decode cX12_happen 72 = .ok (.getfield 22, 3) := by decide +kernel
theorem dX12_happen_75 : decode cX12_happen 75 = .ok (.iload_n 2, 1) := by decide +kernel
theorem dX12_happen_76 : decode cX12_happen 76 = .ok (.iconst 4, 1) := by decide +kernel
theorem dX12_happen_77 : decode cX12_happen 77 = .ok (.iadd, 1) := by decide +kernel
theorem dX12_happen_78 : decode cX12_happen 78 = .ok (.iaload, 1) := by decide +kernel
theorem dX12_happen_79 : decode cX12_happen 79 = .ok (.iadd, 1) := by decide +kernel
theorem dX12_happen_80 : decode cX12_happen 80 = .ok (.iastore, 1) := by decide +kernel
theorem dX12_happen_81 : decode cX12_happen 81 = .ok (.aload_n 0, 1) := by decide +kernel
theorem dX12_happen_82 : decode cX12_happen 82 = .ok (.iload_n 3, 1) := by decide +kernel
theorem dX12_happen_83 : decode cX12_happen 83 = .ok (.iload 4, 2) := by decide +kernel
theorem dX12_happen_85 : decode cX12_happen 85 = .ok (.aload_n 0, 1) := by decide +kernel
theorem dX12_happen_86 : decode cX12_happen 86 = .ok (.getfield 22, 3) := by decide +kernel
theorem dX12_happen_89 : decode cX12_happen 89 = .ok (.iload_n 2, 1) := by decide +kernel
theorem dX12_happen_90 : decode cX12_happen 90 = .ok (.iconst 4, 1) := by decide +kernel
theorem dX12_happen_91 : decode cX12_happen 91 = .ok (.iadd, 1) := by decide +kernel
theorem dX12_happen_92 : decode cX12_happen 92 = .ok (.iaload, 1) := by decide +kernel
theorem dX12_happen_93 : decode cX12_happen 93 = .ok (.invokevirtual 300, 3) := by decide +kernel
theorem dX12_happen_96 : decode cX12_happen 96 = .ok (.goto 54, 3) := by decide +kernel
theorem dX12_happen_99 : decode cX12_happen 99 = .ok (.aload_n 0, 1) := by decide +kernel
theorem dX12_happen_100 : decode cX12_happen 100 = .ok (.getfield 52, 3) := by decide +kernel
theorem dX12_happen_103 : decode cX12_happen 103 = .ok (.iload_n 3, 1) := by decide +kernel
theorem dX12_happen_104 : decode cX12_happen 104 = .ok (.iload 4, 2) := by decide +kernel
theorem dX12_happen_106 : decode cX12_happen 106 = .ok (.iastore, 1) := by decide +kernel
theorem dX12_happen_107 : decode cX12_happen 107 = .ok (.goto 43, 3) := by decide +kernel
theorem dX12_happen_110 : decode cX12_happen 110 = .ok (.aload_n 0, 1) := by decide +kernel
theorem dX12_happen_111 : decode cX12_happen 111 = .ok (.getfield 67, 3) := by decide +kernel
theorem dX12_happen_114 : decode cX12_happen 114 = .ok (.iload_n 3, 1) := by decide +kernel
theorem dX12_happen_115 : decode cX12_happen 115 = .ok (.dup2, 1) := by decide +kernel
end
section
theorem dX12_happen_116 : decode cX12_happen 116 = .ok (.iaload, 1) := by decide +kernel
theorem dX12_happen_117 : decode cX12_happen 117 = .ok (.iload 4, 2) := by decide +kernel
theorem dX12_happen_119 : decode cX12_happen 119 = .ok (.iadd, 1) := by decide +kernel
theorem dX12_happen_120 : decode cX12_happen 120 = .ok (.iastore, 1) := by decide +kernel
theorem dX12_happen_121 : decode cX12_happen 121 = .ok (.goto 29, 3) := by decide +kernel
theorem dX12_happen_124 : decode cX12_happen 124 = .ok (.aload_n 0, 1) := by decide +kernel
theorem dX12_happen_125 : decode cX12_happen 125 = .ok (.iload_n 3, 1) := by decide +kernel
theorem dX12_happen_126 : decode cX12_happen 126 = .ok (.iload_n 1, 1) := by decide +kernel
theorem dX12_happen_127 : decode cX12_happen 127 = .ok (.invokevirtual 307, 3) := by decide +kernel
theorem dX12_happen_130 : decode cX12_happen 130 = .ok (.goto 20, 3) := by decide +kernel
theorem dX12_happen_133 : decode cX12_happen 133 = .ok (.aload_n 0, 1) := by decide +kernel
theorem dX12_happen_134 : decode cX12_happen 134 = .ok (.getfield 34, 3) := by decide +kernel
theorem dX12_happen_137 : decode cX12_happen 137 = .ok (.iload_n 3, 1) := by decide +kernel
theorem dX12_happen_138 : decode cX12_happen 138 = .ok (.iload 4, 2) := by decide +kernel
theorem dX12_happen_140 : decode cX12_happen 140 = .ok (.iastore, 1) := by decide +kernel
theorem dX12_happen_141 : decode cX12_happen 141 = .ok (.goto 9, 3) := by decide +kernel
theorem dX12_happen_144 : decode cX12_happen 144 = .ok (.aload_n 0, 1) := by decide +kernel
theorem dX12_happen_145 : decode cX12_happen 145 = .ok (.iload_n 1, 1) := by decide +kernel
theorem dX12_happen_146 : decode cX12_happen 146 = .ok (.iload_n 2, 1) := by decide +kernel
theorem dX12_happen_147 : decode cX12_happen 147 = .ok (.invokevirtual 310, 3) := by decide +kernel
theorem dX12_happen_150 : decode cX12_happen 150 = .ok (.return_, 1) := by decide +kernel
theorem dX12_goThrough_0 : decode cX12_goThrough 0 = .ok (.aload_n 0, 1) := by decide +kernel
theorem dX12_goThrough_1 : decode cX12_goThrough 1 = .ok (.iconst 0, 1) := by decide +kernel
theorem dX12_goThrough_2 : decode cX12_goThrough 2 = .ok (.putfield 288, 3) := by decide +kernel
theorem dX12_goThrough_5 : decode cX12_goThrough 5 = .ok (.aload_n 0, 1) := by decide +kernel
theorem dX12_goThrough_6 : decode cX12_goThrough 6 = .ok (.iconst 0, 1) := by decide +kernel
theorem dX12_goThrough_7 : decode cX12_goThrough 7 = .ok (.putfield 297, 3) := by decide +kernel
theorem dX12_goThrough_10 : decode cX12_goThrough 10 = .ok (.aload_n 0, 1) := by decide +kernel
theorem dX12_goThrough_11 : decode cX12_goThrough 11 = .ok (.iconst 0, 1) := by decide +kernel
theorem dX12_goThrough_12 : decode cX12_goThrough 12 = .ok (.putfield 294, 3) := by decide +kernel
theorem dX12_goThrough_15 : decode cX12_goThrough 15 = .ok (.iconst 0, 1) := by decide +kernel
theorem dX12_goThrough_16 : decode cX12_goThrough 16 = .ok (.istore 7, 2) := by decide +kernel
theorem dX12_goThrough_18 : decode cX12_goThrough 18 = .ok (.iload 7, 2) := by decide +kernel
theorem dX12_goThrough_20 : decode cX12_goThrough 20 = .ok (.iconst 5, 1) := by decide +kernel
theorem dX12_goThrough_21 : decode cX12_goThrough 21 = .ok (.if_icmp .ge 30, 3) := by decide +kernel
theorem dX12_goThrough_24 : decode cX12_goThrough 24 = .ok (.aload_n 0, 1) := by decide +kernel
theorem dX12_goThrough_25 : decode cX12_goThrough 25 = .ok (.getfield 34, 3) := by decide +kernel
theorem dX12_goThrough_28 : decode cX12_goThrough 28 = .ok (.iload 7, 2) := by decide +kernel
theorem dX12_goThrough_30 : decode cX12_goThrough 30 = .ok (.iload 7, 2) := by decide +kernel
theorem dX12_goThrough_32 : decode cX12_goThrough 32 = .ok (.iload 5, 2) := by decide +kernel
theorem dX12_goThrough_34 : decode cX12_goThrough 34 = .ok (.if_icmp .ne 8, 3) := by decide +kernel
theorem dX12_goThrough_37 : decode cX12_goThrough 37 = .ok (.iload 6, 2) := by decide +kernel
theorem dX12_goThrough_39 : decode cX12_goThrough 39 = .ok (.goto 5, 3) := by decide +kernel
theorem dX12_goThrough_42 : decode cX12_goThrough 42 = .ok (.ldc 146, 2) := by decide +kernel
theorem dX12_goThrough_44 : decode cX12_goThrough 44 = .ok (.iastore, 1) := by decide +kernel
theorem dX12_goThrough_45 : decode cX12_goThrough 45 = .ok (.iinc 7 1, 3) := by decide +kernel
theorem dX12_goThrough_48 : decode cX12_goThrough 48 = .ok (.goto (-30), 3) := by decide +kernel
theorem dX12_goThrough_51 : decode cX12_goThrough 51 = .ok (.iconst 0, 1) := by decide +kernel
theorem dX12_goThrough_52 : decode cX12_goThrough 52 = .ok (.istore 7, 2) := by decide +kernel
theorem dX12_goThrough_54 : decode cX12_goThrough 54 = .ok (.iload 7, 2) := by decide +kernel
theorem dX12_goThrough_56 : decode cX12_goThrough 56 = .ok (.iconst 3, 1) := by decide +kernel
theorem dX12_goThrough_57 : decode cX12_goThrough 57 = .ok (.if_icmp .ge 17, 3) := by decide +kernel
theorem dX12_goThrough_60 : decode cX12_goThrough 60 = .ok (.aload_n 0, 1) := by decide +kernel
theorem dX12_goThrough_61 : decode cX12_goThrough 61 = .ok (.getfield 67, 3) := by decide +kernel
theorem dX12_goThrough_64 : decode cX12_goThrough 64 = .ok (.iload 7, 2) := by decide +kernel
theorem dX12_goThrough_66 : decode cX12_goThrough 66 = .ok (.iconst 0, 1) := by decide +kernel
theorem dX12_goThrough_67 : decode cX12_goThrough 67 = .ok (.iastore, 1) := by decide +kernel
theorem dX12_goThrough_68 : decode cX12_goThrough 68 = .ok (.iinc 7 1, 3) := by decide +kernel
theorem dX12_goThrough_71 : decode cX12_goThrough 71 = .ok (.goto (-17), 3) := by decide +kernel
theorem dX12_goThrough_74 : decode cX12_goThrough 74 = .ok (.iload 4, 2) := by decide +kernel
theorem dX12_goThrough_76 : decode cX12_goThrough 76 = .ok (.ifCond .ge 7, 3) := by decide +kernel
theorem dX12_goThrough_79 : decode cX12_goThrough 79 = .ok (.iconst 1, 1) := by decide +kernel
theorem dX12_goThrough_80 : decode cX12_goThrough 80 = .ok (.goto 4, 3) := by decide +kernel
theorem dX12_goThrough_83 : decode cX12_goThrough 83 = .ok (.iconst 0, 1) := by decide +kernel
theorem dX12_goThrough_84 : decode cX12_goThrough 84 = .ok (.istore 7, 2) := by decide +kernel
theorem dX12_goThrough_86 : decode cX12_goThrough 86 = .ok (.iconst 0, 1) := by decide +kernel
theorem dX12_goThrough_87 : decode cX12_goThrough 87 = .ok (.istore 8, 2) := by decide +kernel
theorem dX12_goThrough_89 : decode cX12_goThrough 89 = .ok (.iload 8, 2) := by decide +kernel
theorem dX12_goThrough_91 : decode cX12_goThrough 91 = .ok (.aload_n 0, 1) := by decide +kernel
theorem dX12_goThrough_92 : decode cX12_goThrough 92 = .ok (.getfield 282, 3) := by decide +kernel
theorem dX12_goThrough_95 : decode cX12_goThrough 95 = .ok (.if_icmp .ge 63, 3) := by decide +kernel
theorem dX12_goThrough_98 : decode cX12_goThrough 98 = .ok (.aload_n 0, 1) := by decide +kernel
theorem dX12_goThrough_99 : decode cX12_goThrough 99 = .ok (.getfield 22, 3) := by decide +kernel
theorem dX12_goThrough_102 : decode cX12_goThrough 102 = .ok (.bipush 6, 2) := by decide +kernel
theorem dX12_goThrough_104 : decode cX12_goThrough 104 = .ok (.iload 8, 2) := by decide +kernel
theorem dX12_goThrough_106 : decode cX12_goThrough 106 = .ok (.imul, 1) := by decide +kernel
theorem dX12_goThrough_107 : decode cX12_goThrough 107 = .ok (.iconst 1, 1) := by decide +kernel
theorem dX12_goThrough_108 : decode cX12_goThrough 108 = .ok (.iadd, 1) := by decide +kernel
theorem dX12_goThrough_109 : decode cX12_goThrough 109 = .ok (.iaload, 1) := by decide +kernel
theorem dX12_goThrough_110 : decode cX12_goThrough 110 = .ok (.istore 9, 2) := by decide +kernel
theorem dX12_goThrough_112 : decode cX12_goThrough 112 = .ok (.iload 7, 2) := by decide +kernel
theorem dX12_goThrough_114 : decode cX12_goThrough 114 = .ok (.ifCond .ne 20, 3) := by decide +kernel
theorem dX12_goThrough_117 : decode cX12_goThrough 117 = .ok (.iload 9, 2) := by decide +kernel
theorem dX12_goThrough_119 : decode cX12_goThrough 119 = .ok (.iload_n 3, 1) := by decide +kernel
theorem dX12_goThrough_120 : decode cX12_goThrough 120 = .ok (.if_icmp .lt 14, 3) := by decide +kernel
theorem dX12_goThrough_123 : decode cX12_goThrough 123 = .ok (.aload_n 0, 1) := by decide +kernel
theorem dX12_goThrough_124 : decode cX12_goThrough 124 = .ok (.iload 4, 2) := by decide +kernel
theorem dX12_goThrough_126 : decode cX12_goThrough 126 = .ok (.iload 8, 2) := by decide +kernel
theorem dX12_goThrough_128 : decode cX12_goThrough 128 = .ok (.invokevirtual 307, 3) := by decide +kernel
theorem dX12_goThrough_131 : decode cX12_goThrough 131 = .ok (.iconst 1, 1) := by decide +kernel
theorem dX12_goThrough_132 : decode cX12_goThrough 132 = .ok (.istore 7, 2) := by decide +kernel
theorem dX12_goThrough_134 : decode cX12_goThrough 134 = .ok (.iload 9, 2) := by decide +kernel
theorem dX12_goThrough_136 : decode cX12_goThrough 136 = .ok (.iload_n 1, 1) := by decide +kernel
theorem dX12_goThrough_137 : decode cX12_goThrough 137 = .ok (.if_icmp .gt 15, 3) := by decide +kernel
theorem dX12_goThrough_140 : decode cX12_goThrough 140 = .ok (.iload 8, 2) := by decide +kernel
theorem dX12_goThrough_142 : decode cX12_goThrough 142 = .ok (.iload_n 2, 1) := by decide +kernel
theorem dX12_goThrough_143 : decode cX12_goThrough 143 = .ok (.if_icmp .eq 9, 3) := by decide +kernel
theorem dX12_goThrough_146 : decode cX12_goThrough 146 = .ok (.aload_n 0, 1) := by decide +kernel
theorem dX12_goThrough_147 : decode cX12_goThrough 147 = .ok (.iload 8, 2) := by decide +kernel
theorem dX12_goThrough_149 : decode cX12_goThrough 149 = .ok (.invokevirtual 313, 3) := by decide +kernel
theorem dX12_goThrough_152 : decode cX12_goThrough 152 = .ok (.iinc 8 1, 3) := by decide +kernel
theorem dX12_goThrough_155 : decode cX12_goThrough 155 = .ok (.goto (-66), 3) := by decide +kernel
theorem dX12_goThrough_158 : decode cX12_goThrough 158 = .ok (.iload 7, 2) := by decide +kernel
theorem dX12_goThrough_160 : decode cX12_goThrough 160 = .ok (.ifCond .ne 13, 3) := by decide +kernel
theorem dX12_goThrough_163 : decode cX12_goThrough 163 = .ok (.aload_n 0, 1) := by decide +kernel
theorem dX12_goThrough_164 : decode cX12_goThrough 164 = .ok (.iload 4, 2) := by decide +kernel
theorem dX12_goThrough_166 : decode cX12_goThrough 166 = .ok (.aload_n 0, 1) := by decide +kernel
theorem dX12_goThrough_167 : decode cX12_goThrough 167 = .ok (.getfield 282, 3) := by decide +kernel
theorem dX12_goThrough_170 : decode cX12_goThrough 170 = .ok (.invokevirtual 307, 3) := by decide +kernel
theorem dX12_goThrough_173 : decode cX12_goThrough 173 = .ok (.return_, 1) := by decide +kernel
theorem dX12_goAll_0 : decode cX12_goAll 0 = .ok (.aload_n 0, 1) := by decide +kernel
theorem dX12_goAll_1 : decode cX12_goAll 1 = .ok (.sipush 999, 3) := by decide +kernel
theorem dX12_goAll_4 : decode cX12_goAll 4 = .ok (.iconst (-1), 1) := by decide +kernel
theorem dX12_goAll_5 : decode cX12_goAll 5 = .ok (.iconst (-1), 1) := by decide +kernel
theorem dX12_goAll_6 : decode cX12_goAll 6 = .ok (.iconst (-1), 1) := by decide +kernel
theorem dX12_goAll_7 : decode cX12_goAll 7 = .ok (.iconst (-1), 1) := by decide +kernel
theorem dX12_goAll_8 : decode cX12_goAll 8 = .ok (.iconst (-1), 1) := by decide +kernel
theorem dX12_goAll_9 : decode cX12_goAll 9 = .ok (.invokevirtual 316, 3) := by decide +kernel
theorem dX12_goAll_12 : decode cX12_goAll 12 = .ok (.return_, 1) := by decide +kernel
theorem dX12_isThing_0 : decode cX12_isThing 0 = .ok (.iload_n 1, 1) := by decide +kernel
theorem dX12_isThing_1 : decode cX12_isThing 1 = .ok (.i2l, 1) := by decide +kernel
theorem dX12_isThing_2 : decode cX12_isThing 2 = .ok (.lconst 0, 1) := by decide +kernel
theorem dX12_isThing_3 : decode cX12_isThing 3 = .ok (.aload_n 0, 1) := by decide +kernel
theorem dX12_isThing_4 : decode cX12_isThing 4 = .ok (.getfield 285, 3) := by decide +kernel
theorem dX12_isThing_7 : decode cX12_isThing 7 = .ok (.iconst 1, 1) := by decide +kernel
theorem dX12_isThing_8 : decode cX12_isThing 8 = .ok (.isub, 1) := by decide +kernel
theorem dX12_isThing_9 : decode cX12_isThing 9 = .ok (.i2l, 1) := by decide +kernel
theorem dX12_isThing_10 : decode cX12_isThing 10 = .ok (.invokestatic 118, 3) := by decide +kernel
theorem dX12_isThing_13 : decode cX12_isThing 13 = .ok (.ireturn, 1) := by decide +kernel
theorem dX12_whose_0 : decode cX12_whose 0 = .ok (.aload_n 0, 1) := by decide +kernel
theorem dX12_whose_1 : decode cX12_whose 1 = .ok (.iconst 0, 1) := by decide +kernel
theorem dX12_whose_2 : decode cX12_whose 2 = .ok (.putfield 107, 3) := by decide +kernel
theorem dX12_whose_5 : decode cX12_whose 5 = .ok (.aload_n 0, 1) := by decide +kernel
theorem dX12_whose_6 : decode cX12_whose 6 = .ok (.iload_n 1, 1) := by decide +kernel
theorem dX12_whose_7 : decode cX12_whose 7 = .ok (.invokevirtual 320, 3) := by decide +kernel
theorem dX12_whose_10 : decode cX12_whose 10 = .ok (.ifCond .eq 15, 3) := by decide +kernel
theorem dX12_whose_13 : decode cX12_whose 13 = .ok (.iload_n 2, 1) := by decide +kernel
theorem dX12_whose_14 : decode cX12_whose 14 = .ok (.i2l, 1) := by decide +kernel
theorem dX12_whose_15 : decode cX12_whose 15 = .ok (.lconst 0, 1) := by decide +kernel
theorem dX12_whose_16 : decode cX12_whose 16 = .ok (.ldc2_w 323, 3) := by decide +kernel
theorem dX12_whose_19 : decode cX12_whose 19 = .ok (.invokestatic 118, 3) := by decide +kernel
theorem dX12_whose_22 : decode cX12_whose 22 = .ok (.ifCond .ne 7, 3) := by decide +kernel
theorem dX12_whose_25 : decode cX12_whose 25 = .ok (.ldc2_w 128, 3) := by decide +kernel
theorem dX12_whose_28 : decode cX12_whose 28 = .ok (.lreturn, 1) := by decide +kernel
theorem dX12_whose_29 : decode cX12_whose 29 = .ok (.aload_n 0, 1) := by decide +kernel
theorem dX12_whose_30 : decode cX12_whose 30 = .ok (.iload_n 2, 1) := by decide +kernel
theorem dX12_whose_31 : decode cX12_whose 31 = .ok (.iconst (-1), 1) := by decide +kernel
theorem dX12_whose_32 : decode cX12_whose 32 = .ok (.iconst (-1), 1) := by decide +kernel
theorem dX12_whose_33 : decode cX12_whose 33 = .ok (.iconst (-1), 1) := by decide +kernel
theorem dX12_whose_34 : decode cX12_whose 34 = .ok (.iconst (-1), 1) := by decide +kernel
theorem dX12_whose_35 : decode cX12_whose 35 = .ok (.iconst (-1), 1) := by decide +kernel
theorem dX12_whose_36 : decode cX12_whose 36 = .ok (.invokevirtual 316, 3) := by decide +kernel
theorem dX12_whose_39 : decode cX12_whose 39 = .ok (.iload_n 1, 1) := by decide +kernel
theorem dX12_whose_40 : decode cX12_whose 40 = .ok (.aload_n 0, 1) := by decide +kernel
theorem dX12_whose_41 : decode cX12_whose 41 = .ok (.getfield 297, 3) := by decide +kernel
theorem dX12_whose_44 : decode cX12_whose 44 = .ok (.if_icmp .ge 13, 3) := by decide +kernel
theorem dX12_whose_47 : decode cX12_whose 47 = .ok (.aload_n 0, 1) := by decide +kernel
theorem dX12_whose_48 : decode cX12_whose 48 = .ok (.getfield 37, 3) := by decide +kernel
theorem dX12_whose_51 : decode cX12_whose 51 = .ok (.iload_n 1, 1) := by decide +kernel
theorem dX12_whose_52 : decode cX12_whose 52 = .ok (.iaload, 1) := by decide +kernel
theorem dX12_whose_53 : decode cX12_whose 53 = .ok (.i2l, 1) := by decide +kernel
theorem dX12_whose_54 : decode cX12_whose 54 = .ok (.goto 6, 3) := by decide +kernel
theorem dX12_whose_57 : decode cX12_whose 57 = .ok (.ldc2_w 325, 3) := by decide +kernel
theorem dX12_whose_60 : decode cX12_whose 60 = .ok (.lreturn, 1) := by decide +kernel
theorem dX12_putsInto_0 : decode cX12_putsInto 0 = .ok (.iconst 0, 1) := by decide +kernel
theorem dX12_putsInto_1 : decode cX12_putsInto 1 = .ok (.istore_n 2, 1) := by decide +kernel
theorem dX12_putsInto_2 : decode cX12_putsInto 2 = .ok (.iconst 0, 1) := by decide +kernel
theorem dX12_putsInto_3 : decode cX12_putsInto 3 = .ok (.istore_n 3, 1) := by decide +kernel
theorem dX12_putsInto_4 : decode cX12_putsInto 4 = .ok (.iload_n 3, 1) := by decide +kernel
theorem dX12_putsInto_5 : decode cX12_putsInto 5 = .ok (.aload_n 0, 1) := by decide +kernel
theorem dX12_putsInto_6 : decode cX12_putsInto 6 = .ok (.getfield 294, 3) := by decide +kernel
theorem dX12_putsInto_9 : decode cX12_putsInto 9 = .ok (.if_icmp .ge 27, 3) := by decide +kernel
theorem dX12_putsInto_12 : decode cX12_putsInto 12 = .ok (.iload_n 2, 1) := by decide +kernel
theorem dX12_putsInto_13 : decode cX12_putsInto 13 = .ok (.aload_n 0, 1) := by decide +kernel
theorem dX12_putsInto_14 : decode cX12_putsInto 14 = .ok (.getfield 70, 3) := by decide +kernel
theorem dX12_putsInto_17 : decode cX12_putsInto 17 = .ok (.iload_n 3, 1) := by decide +kernel
theorem dX12_putsInto_18 : decode cX12_putsInto 18 = .ok (.iaload, 1) := by decide +kernel
theorem dX12_putsInto_19 : decode cX12_putsInto 19 = .ok (.iload_n 1, 1) := by decide +kernel
theorem dX12_putsInto_20 : decode cX12_putsInto 20 = .ok (.if_icmp .ne 7, 3) := by decide +kernel
theorem dX12_putsInto_23 : decode cX12_putsInto 23 = .ok (.iconst 1, 1) := by decide +kernel
theorem dX12_putsInto_24 : decode cX12_putsInto 24 = .ok (.goto 4, 3) := by decide +kernel
theorem dX12_putsInto_27 : decode cX12_putsInto 27 = .ok (.iconst 0, 1) := by decide +kernel
theorem dX12_putsInto_28 : decode cX12_putsInto 28 = .ok (.iadd, 1) := by decide +kernel
theorem dX12_putsInto_29 : decode cX12_putsInto 29 = .ok (.istore_n 2, 1) := by decide +kernel
theorem dX12_putsInto_30 : decode cX12_putsInto 30 = .ok (.iinc 3 1, 3) := by decide +kernel
theorem dX12_putsInto_33 : decode cX12_putsInto 33 = .ok (.goto (-29), 3) := by decide +kernel
theorem dX12_putsInto_36 : decode cX12_putsInto 36 = .ok (.iload_n 2, 1) := by decide +kernel
theorem dX12_putsInto_37 : decode cX12_putsInto 37 = .ok (.ireturn, 1) := by decide +kernel
theorem dX12_thing_0 : decode cX12_thing 0 = .ok (.aload_n 0, 1) := by decide +kernel
theorem dX12_thing_1 : decode cX12_thing 1 = .ok (.iconst 0, 1) := by decide +kernel
theorem dX12_thing_2 : decode cX12_thing 2 = .ok (.putfield 107, 3) := by decide +kernel
theorem dX12_thing_5 : decode cX12_thing 5 = .ok (.aload_n 0, 1) := by decide +kernel
theorem dX12_thing_6 : decode cX12_thing 6 = .ok (.iload_n 1, 1) := by decide +kernel
theorem dX12_thing_7 : decode cX12_thing 7 = .ok (.invokevirtual 320, 3) := by decide +kernel
theorem dX12_thing_10 : decode cX12_thing 10 = .ok (.ifCond .eq 15, 3) := by decide +kernel
theorem dX12_thing_13 : decode cX12_thing 13 = .ok (.iload_n 2, 1) := by decide +kernel
theorem dX12_thing_14 : decode cX12_thing 14 = .ok (.i2l, 1) := by decide +kernel
theorem dX12_thing_15 : decode cX12_thing 15 = .ok (.lconst 0, 1) := by decide +kernel
theorem dX12_thing_16 : decode cX12_thing 16 = .ok (.ldc2_w 327, 3) := by decide +kernel
theorem dX12_thing_19 : decode cX12_thing 19 = .ok (.invokestatic 118, 3) := by decide +kernel
theorem dX12_thing_22 : decode cX12_thing 22 = .ok (.ifCond .ne 7, 3) := by decide +kernel
theorem dX12_thing_25 : decode cX12_thing 25 = .ok (.ldc2_w 128, 3) := by decide +kernel
theorem dX12_thing_28 : decode cX12_thing 28 = .ok (.lreturn, 1) := by decide +kernel
theorem dX12_thing_29 : decode cX12_thing 29 = .ok (.aload_n 0, 1) := by decide +kernel
theorem dX12_thing_30 : decode cX12_thing 30 = .ok (.invokevirtual 329, 3) := by decide +kernel
theorem dX12_thing_33 : decode cX12_thing 33 = .ok (.iload_n 2, 1) := by decide +kernel
theorem dX12_thing_34 : decode cX12_thing 34 = .ok (.tableswitch 85 0 5 #[38, 46, 54, 62, 70, 78], 38) := by decide +kernel
theorem dX12_thing_72 : decode cX12_thing 72 = .ok (.aload_n 0, 1) := by decide +kernel
theorem dX12_thing_73 : decode cX12_thing 73 = .ok (.getfield 37, 3) := by decide +kernel
theorem dX12_thing_76 : decode cX12_thing 76 = .ok (.iload_n 1, 1) := by decide +kernel
theorem dX12_thing_77 : decode cX12_thing 77 = .ok (.iaload, 1) := by decide +kernel
theorem dX12_thing_78 : decode cX12_thing 78 = .ok (.i2l, 1) := by decide +kernel
theorem dX12_thing_79 : decode cX12_thing 79 = .ok (.lreturn, 1) := by decide +kernel
theorem dX12_thing_80 : decode cX12_thing 80 = .ok (.aload_n 0, 1) := by decide +kernel
theorem dX12_thing_81 : decode cX12_thing 81 = .ok (.getfield 43, 3) := by decide +kernel
theorem dX12_thing_84 : decode cX12_thing 84 = .ok (.iload_n 1, 1) := by decide +kernel
theorem dX12_thing_85 : decode cX12_thing 85 = .ok (.iaload, 1) := by decide +kernel
theorem dX12_thing_86 : decode cX12_thing 86 = .ok (.i2l, 1) := by decide +kernel
theorem dX12_thing_87 : decode cX12_thing 87 = .ok (.lreturn, 1) := by decide +kernel
theorem dX12_thing_88 : decode cX12_thing 88 = .ok (.aload_n 0, 1) := by decide +kernel
theorem dX12_thing_89 : decode cX12_thing 89 = .ok (.getfield 46, 3) := by decide +kernel
theorem dX12_thing_92 : decode cX12_thing 92 = .ok (.iload_n 1, 1) := by decide +kernel
theorem dX12_thing_93 : decode cX12_thing 93 = .ok (.iaload, 1) := by decide +kernel
theorem dX12_thing_94 : decode cX12_thing 94 = .ok (.i2l, 1) := by decide +kernel
theorem dX12_thing_95 : decode cX12_thing 95 = .ok (.lreturn, 1) := by decide +kernel
theorem dX12_thing_96 : decode cX12_thing 96 = .ok (.aload_n 0, 1) := by decide +kernel
theorem dX12_thing_97 : decode cX12_thing 97 = .ok (.getfield 49, 3) := by decide +kernel
theorem dX12_thing_100 : decode cX12_thing 100 = .ok (.iload_n 1, 1) := by decide +kernel
theorem dX12_thing_101 : decode cX12_thing 101 = .ok (.iaload, 1) := by decide +kernel
theorem dX12_thing_102 : decode cX12_thing 102 = .ok (.i2l, 1) := by decide +kernel
theorem dX12_thing_103 : decode cX12_thing 103 = .ok (.lreturn, 1) := by decide +kernel
theorem dX12_thing_104 : decode cX12_thing 104 = .ok (.aload_n 0, 1) := by decide +kernel
theorem dX12_thing_105 : decode cX12_thing 105 = .ok (.getfield 52, 3) := by decide +kernel
theorem dX12_thing_108 : decode cX12_thing 108 = .ok (.iload_n 1, 1) := by decide +kernel
theorem dX12_thing_109 : decode cX12_thing 109 = .ok (.iaload, 1) := by decide +kernel
theorem dX12_thing_110 : decode cX12_thing 110 = .ok (.i2l, 1) := by decide +kernel
theorem dX12_thing_111 : decode cX12_thing 111 = .ok (.lreturn, 1) := by decide +kernel
theorem dX12_thing_112 : decode cX12_thing 112 = .ok (.aload_n 0, 1) := by decide +kernel
theorem dX12_thing_113 : decode cX12_thing 113 = .ok (.iload_n 1, 1) := by decide +kernel
theorem dX12_thing_114 : decode cX12_thing 114 = .ok (.invokevirtual 332, 3) := by decide +kernel
theorem dX12_thing_117 : decode cX12_thing 117 = .ok (.i2l, 1) := by decide +kernel
theorem dX12_thing_118 : decode cX12_thing 118 = .ok (.lreturn, 1) := by decide +kernel
theorem dX12_thing_119 : decode cX12_thing 119 = .ok (.aload_n 0, 1) := by decide +kernel
theorem dX12_thing_120 : decode cX12_thing 120 = .ok (.getfield 61, 3) := by decide +kernel
theorem dX12_thing_123 : decode cX12_thing 123 = .ok (.iload_n 1, 1) := by decide +kernel
theorem dX12_thing_124 : decode cX12_thing 124 = .ok (.iaload, 1) := by decide +kernel
theorem dX12_thing_125 : decode cX12_thing 125 = .ok (.i2l, 1) := by decide +kernel
theorem dX12_thing_126 : decode cX12_thing 126 = .ok (.lreturn, 1) := by decide +kernel
theorem dX12_judge_0 : decode cX12_judge 0 = .ok (.aload_n 0, 1) := by decide +kernel
theorem dX12_judge_1 : decode cX12_judge 1 = .ok (.iconst 0, 1) := by decide +kernel
theorem dX12_judge_2 : decode cX12_judge 2 = .ok (.putfield 107, 3) := by decide +kernel
theorem dX12_judge_5 : decode cX12_judge 5 = .ok (.iload_n 1, 1) := by decide +kernel
theorem dX12_judge_6 : decode cX12_judge 6 = .ok (.invokestatic 122, 3) := by decide +kernel
theorem dX12_judge_9 : decode cX12_judge 9 = .ok (.ifCond .ne 7, 3) := by decide +kernel
theorem dX12_judge_12 : decode cX12_judge 12 = .ok (.ldc2_w 128, 3) := by decide +kernel
theorem dX12_judge_15 : decode cX12_judge 15 = .ok (.lreturn, 1) := by decide +kernel
theorem dX12_judge_16 : decode cX12_judge 16 = .ok (.aload_n 0, 1) := by decide +kernel
theorem dX12_judge_17 : decode cX12_judge 17 = .ok (.getfield 275, 3) := by decide +kernel
theorem dX12_judge_20 : decode cX12_judge 20 = .ok (.ifCond .ne 7, 3) := by decide +kernel
theorem dX12_judge_23 : decode cX12_judge 23 = .ok (.ldc2_w 335, 3) := by decide +kernel
theorem dX12_judge_26 : decode cX12_judge 26 = .ok (.lreturn, 1) := by decide +kernel
theorem dX12_judge_27 : decode cX12_judge 27 = .ok (.aload_n 0, 1) := by decide +kernel
theorem dX12_judge_28 : decode cX12_judge 28 = .ok (.getfield 9, 3) := by decide +kernel
theorem dX12_judge_31 : decode cX12_judge 31 = .ok (.iload_n 1, 1) := by decide +kernel
theorem dX12_judge_32 : decode cX12_judge 32 = .ok (.iaload, 1) := by decide +kernel
theorem dX12_judge_33 : decode cX12_judge 33 = .ok (.ifCond .ge 9, 3) := by decide +kernel
theorem dX12_judge_36 : decode cX12_judge 36 = .ok (.aload_n 0, 1) := by decide +kernel
theorem dX12_judge_37 : decode cX12_judge 37 = .ok (.iconst 1, 1) := by decide +kernel
theorem dX12_judge_38 : decode cX12_judge 38 = .ok (.invokevirtual 130, 3) := by decide +kernel
theorem dX12_judge_41 : decode cX12_judge 41 = .ok (.lreturn, 1) := by decide +kernel
theorem dX12_judge_42 : decode cX12_judge 42 = .ok (.iload_n 2, 1) := by decide +kernel
theorem dX12_judge_43 : decode cX12_judge 43 = .ok (.ifCond .lt 22, 3) := by decide +kernel
theorem dX12_judge_46 : decode cX12_judge 46 = .ok (.iload_n 2, 1) := by decide +kernel
theorem dX12_judge_47 : decode cX12_judge 47 = .ok (.i2l, 1) := by decide +kernel
theorem dX12_judge_48 : decode cX12_judge 48 = .ok (.aload_n 0, 1) := by decide +kernel
theorem dX12_judge_49 : decode cX12_judge 49 = .ok (.getfield 285, 3) := by decide +kernel
theorem dX12_judge_52 : decode cX12_judge 52 = .ok (.i2l, 1) := by decide +kernel
theorem dX12_judge_53 : decode cX12_judge 53 = .ok (.ladd, 1) := by decide +kernel
theorem dX12_judge_54 : decode cX12_judge 54 = .ok (.aload_n 0, 1) := by decide +kernel
theorem dX12_judge_55 : decode cX12_judge 55 = .ok (.getfield 13, 3) := by decide +kernel
theorem dX12_judge_58 : decode cX12_judge 58 = .ok (.iload_n 1, 1) := by decide +kernel
theorem dX12_judge_59 : decode cX12_judge 59 = .ok (.iaload, 1) := by decide +kernel
theorem dX12_judge_60 : decode cX12_judge 60 = .ok (.i2l, 1) := by decide +kernel
theorem dX12_judge_61 : decode cX12_judge 61 = .ok (.lcmp, 1) := by decide +kernel
theorem dX12_judge_62 : decode cX12_judge 62 = .ok (.ifCond .le 9, 3) := by decide +kernel
theorem dX12_judge_65 : decode cX12_judge 65 = .ok (.aload_n 0, 1) := by decide +kernel
theorem dX12_judge_66 : decode cX12_judge 66 = .ok (.iconst 2, 1) := by decide +kernel
theorem dX12_judge_67 : decode cX12_judge 67 = .ok (.invokevirtual 130, 3) := by decide +kernel
theorem dX12_judge_70 : decode cX12_judge 70 = .ok (.lreturn, 1) := by decide +kernel
theorem dX12_judge_71 : decode cX12_judge 71 = .ok (.iconst 0, 1) := by decide +kernel
theorem dX12_judge_72 : decode cX12_judge 72 = .ok (.istore_n 3, 1) := by decide +kernel
theorem dX12_judge_73 : decode cX12_judge 73 = .ok (.iload_n 3, 1) := by decide +kernel
theorem dX12_judge_74 : decode cX12_judge 74 = .ok (.aload_n 0, 1) := by decide +kernel
theorem dX12_judge_75 : decode cX12_judge 75 = .ok (.getfield 285, 3) := by decide +kernel
theorem dX12_judge_78 : decode cX12_judge 78 = .ok (.if_icmp .ge 37, 3) := by decide +kernel
theorem dX12_judge_81 : decode cX12_judge 81 = .ok (.aload_n 0, 1) := by decide +kernel
theorem dX12_judge_82 : decode cX12_judge 82 = .ok (.getfield 16, 3) := by decide +kernel
theorem dX12_judge_85 : decode cX12_judge 85 = .ok (.bipush 40, 2) := by decide +kernel
theorem dX12_judge_87 : decode cX12_judge 87 = .ok (.iload_n 1, 1) := by decide +kernel
theorem dX12_judge_88 : decode cX12_judge 88 = .ok (.imul, 1) := by decide +kernel
theorem dX12_judge_89 : decode cX12_judge 89 = .ok (.iload_n 2, 1) := by decide +kernel
theorem dX12_judge_90 : decode cX12_judge 90 = .ok (.iadd, 1) := by decide +kernel
theorem dX12_judge_91 : decode cX12_judge 91 = .ok (.iload_n 3, 1) := by decide +kernel
theorem dX12_judge_92 : decode cX12_judge 92 = .ok (.iadd, 1) := by decide +kernel
theorem dX12_judge_93 : decode cX12_judge 93 = .ok (.iaload, 1) := by decide +kernel
theorem dX12_judge_94 : decode cX12_judge 94 = .ok (.i2l, 1) := by decide +kernel
theorem dX12_judge_95 : decode cX12_judge 95 = .ok (.lconst 0, 1) := by decide +kernel
theorem dX12_judge_96 : decode cX12_judge 96 = .ok (.ldc2_w 126, 3) := by decide +kernel
theorem dX12_judge_99 : decode cX12_judge 99 = .ok (.invokestatic 118, 3) := by decide +kernel
theorem dX12_judge_102 : decode cX12_judge 102 = .ok (.ifCond .ne 7, 3) := by decide +kernel
theorem dX12_judge_105 : decode cX12_judge 105 = .ok (.ldc2_w 128, 3) := by decide +kernel
theorem dX12_judge_108 : decode cX12_judge 108 = .ok (.lreturn, 1) := by decide +kernel
theorem dX12_judge_109 : decode cX12_judge 109 = .ok (.iinc 3 1, 3) := by decide +kernel
theorem dX12_judge_112 : decode cX12_judge 112 = .ok (.goto (-39), 3) := by decide +kernel
theorem dX12_judge_115 : decode cX12_judge 115 = .ok (.aload_n 0, 1) := by decide +kernel
theorem dX12_judge_116 : decode cX12_judge 116 = .ok (.iconst 0, 1) := by decide +kernel
theorem dX12_judge_117 : decode cX12_judge 117 = .ok (.putfield 111, 3) := by decide +kernel
theorem dX12_judge_120 : decode cX12_judge 120 = .ok (.aload_n 0, 1) := by decide +kernel
theorem dX12_judge_121 : decode cX12_judge 121 = .ok (.invokevirtual 329, 3) := by decide +kernel
theorem dX12_judge_124 : decode cX12_judge 124 = .ok (.iconst 0, 1) := by decide +kernel
theorem dX12_judge_125 : decode cX12_judge 125 = .ok (.istore_n 3, 1) := by decide +kernel
theorem dX12_judge_126 : decode cX12_judge 126 = .ok (.iload_n 3, 1) := by decide +kernel
theorem dX12_judge_127 : decode cX12_judge 127 = .ok (.aload_n 0, 1) := by decide +kernel
theorem dX12_judge_128 : decode cX12_judge 128 = .ok (.getfield 285, 3) := by decide +kernel
theorem dX12_judge_131 : decode cX12_judge 131 = .ok (.if_icmp .ge 34, 3) := by decide +kernel
theorem dX12_judge_134 : decode cX12_judge 134 = .ok (.aload_n 0, 1) := by decide +kernel
theorem dX12_judge_135 : decode cX12_judge 135 = .ok (.getfield 37, 3) := by decide +kernel
theorem dX12_judge_138 : decode cX12_judge 138 = .ok (.iload_n 3, 1) := by decide +kernel
theorem dX12_judge_139 : decode cX12_judge 139 = .ok (.iaload, 1) := by decide +kernel
theorem dX12_judge_140 : decode cX12_judge 140 = .ok (.aload_n 0, 1) := by decide +kernel
theorem dX12_judge_141 : decode cX12_judge 141 = .ok (.getfield 16, 3) := by decide +kernel
theorem dX12_judge_144 : decode cX12_judge 144 = .ok (.bipush 40, 2) := by decide +kernel
theorem dX12_judge_146 : decode cX12_judge 146 = .ok (.iload_n 1, 1) := by decide +kernel
theorem dX12_judge_147 : decode cX12_judge 147 = .ok (.imul, 1) := by decide +kernel
theorem dX12_judge_148 : decode cX12_judge 148 = .ok (.iload_n 2, 1) := by decide +kernel
theorem dX12_judge_149 : decode cX12_judge 149 = .ok (.iadd, 1) := by decide +kernel
theorem dX12_judge_150 : decode cX12_judge 150 = .ok (.iload_n 3, 1) := by decide +kernel
theorem dX12_judge_151 : decode cX12_judge 151 = .ok (.iadd, 1) := by decide +kernel
theorem dX12_judge_152 : decode cX12_judge 152 = .ok (.iaload, 1) := by decide +kernel
theorem dX12_judge_153 : decode cX12_judge 153 = .ok (.if_icmp .eq 6, 3) := by decide +kernel
theorem dX12_judge_156 : decode cX12_judge 156 = .ok (.iload_n 3, 1) := by decide +kernel
theorem dX12_judge_157 : decode cX12_judge 157 = .ok (.i2l, 1) := by decide +kernel
theorem dX12_judge_158 : decode cX12_judge 158 = .ok (.lreturn, 1) := by decide +kernel
theorem dX12_judge_159 : decode cX12_judge 159 = .ok (.iinc 3 1, 3) := by decide +kernel
theorem dX12_judge_162 : decode cX12_judge 162 = .ok (.goto (-36), 3) := by decide +kernel
theorem dX12_judge_165 : decode cX12_judge 165 = .ok (.ldc2_w 325, 3) := by decide +kernel
theorem dX12_judge_168 : decode cX12_judge 168 = .ok (.lreturn, 1) := by decide +kernel
theorem dX12_laySums_0 : decode cX12_laySums 0 = .ok (.iconst 0, 1) := by decide +kernel
theorem dX12_laySums_1 : decode cX12_laySums 1 = .ok (.istore_n 1, 1) := by decide +kernel
theorem dX12_laySums_2 : decode cX12_laySums 2 = .ok (.iload_n 1, 1) := by decide +kernel
theorem dX12_laySums_3 : decode cX12_laySums 3 = .ok (.bipush 9, 2) := by decide +kernel
theorem dX12_laySums_5 : decode cX12_laySums 5 = .ok (.if_icmp .ge 23, 3) := by decide +kernel
theorem dX12_laySums_8 : decode cX12_laySums 8 = .ok (.aload_n 0, 1) := by decide +kernel
theorem dX12_laySums_9 : decode cX12_laySums 9 = .ok (.getfield 89, 3) := by decide +kernel
theorem dX12_laySums_12 : decode cX12_laySums 12 = .ok (.iload_n 1, 1) := by decide +kernel
theorem dX12_laySums_13 : decode cX12_laySums 13 = .ok (.lconst 0, 1) := by decide +kernel
theorem dX12_laySums_14 : decode cX12_laySums 14 = .ok (.lastore, 1) := by decide +kernel
theorem dX12_laySums_15 : decode cX12_laySums 15 = .ok (.aload_n 0, 1) := by decide +kernel
theorem dX12_laySums_16 : decode cX12_laySums 16 = .ok (.getfield 92, 3) := by decide +kernel
theorem dX12_laySums_19 : decode cX12_laySums 19 = .ok (.iload_n 1, 1) := by decide +kernel
theorem dX12_laySums_20 : decode cX12_laySums 20 = .ok (.lconst 0, 1) := by decide +kernel
theorem dX12_laySums_21 : decode cX12_laySums 21 = .ok (.lastore, 1) := by decide +kernel
theorem dX12_laySums_22 : decode cX12_laySums 22 = .ok (.iinc 1 1, 3) := by decide +kernel
theorem dX12_laySums_25 : decode cX12_laySums 25 = .ok (.goto (-23), 3) := by decide +kernel
theorem dX12_laySums_28 : decode cX12_laySums 28 = .ok (.iconst 0, 1) := by decide +kernel
theorem dX12_laySums_29 : decode cX12_laySums 29 = .ok (.istore_n 1, 1) := by decide +kernel
theorem dX12_laySums_30 : decode cX12_laySums 30 = .ok (.iload_n 1, 1) := by decide +kernel
theorem dX12_laySums_31 : decode cX12_laySums 31 = .ok (.iconst 3, 1) := by decide +kernel
theorem dX12_laySums_32 : decode cX12_laySums 32 = .ok (.if_icmp .ge 30, 3) := by decide +kernel
theorem dX12_laySums_35 : decode cX12_laySums 35 = .ok (.aload_n 0, 1) := by decide +kernel
theorem dX12_laySums_36 : decode cX12_laySums 36 = .ok (.getfield 82, 3) := by decide +kernel
theorem dX12_laySums_39 : decode cX12_laySums 39 = .ok (.iload_n 1, 1) := by decide +kernel
theorem dX12_laySums_40 : decode cX12_laySums 40 = .ok (.aload_n 0, 1) := by decide +kernel
theorem dX12_laySums_41 : decode cX12_laySums 41 = .ok (.getfield 67, 3) := by decide +kernel
theorem dX12_laySums_44 : decode cX12_laySums 44 = .ok (.iload_n 1, 1) := by decide +kernel
theorem dX12_laySums_45 : decode cX12_laySums 45 = .ok (.iaload, 1) := by decide +kernel
theorem dX12_laySums_46 : decode cX12_laySums 46 = .ok (.ineg, 1) := by decide +kernel
theorem dX12_laySums_47 : decode cX12_laySums 47 = .ok (.i2l, 1) := by decide +kernel
theorem dX12_laySums_48 : decode cX12_laySums 48 = .ok (.lastore, 1) := by decide +kernel
theorem dX12_laySums_49 : decode cX12_laySums 49 = .ok (.aload_n 0, 1) := by decide +kernel
theorem dX12_laySums_50 : decode cX12_laySums 50 = .ok (.getfield 86, 3) := by decide +kernel
theorem dX12_laySums_53 : decode cX12_laySums 53 = .ok (.iload_n 1, 1) := by decide +kernel
theorem dX12_laySums_54 : decode cX12_laySums 54 = .ok (.lconst 0, 1) := by decide +kernel
theorem dX12_laySums_55 : decode cX12_laySums 55 = .ok (.lastore, 1) := by decide +kernel
theorem dX12_laySums_56 : decode cX12_laySums 56 = .ok (.iinc 1 1, 3) := by decide +kernel
theorem dX12_laySums_59 : decode cX12_laySums 59 = .ok (.goto (-29), 3) := by decide +kernel
theorem dX12_laySums_62 : decode cX12_laySums 62 = .ok (.iconst 0, 1) := by decide +kernel
theorem dX12_laySums_63 : decode cX12_laySums 63 = .ok (.istore_n 1, 1) := by decide +kernel
theorem dX12_laySums_64 : decode cX12_laySums 64 = .ok (.iload_n 1, 1) := by decide +kernel
theorem dX12_laySums_65 : decode cX12_laySums 65 = .ok (.aload_n 0, 1) := by decide +kernel
theorem dX12_laySums_66 : decode cX12_laySums 66 = .ok (.getfield 297, 3) := by decide +kernel
theorem dX12_laySums_69 : decode cX12_laySums 69 = .ok (.if_icmp .ge 51, 3) := by decide +kernel
theorem dX12_laySums_72 : decode cX12_laySums 72 = .ok (.aload_n 0, 1) := by decide +kernel
theorem dX12_laySums_73 : decode cX12_laySums 73 = .ok (.getfield 82, 3) := by decide +kernel
theorem dX12_laySums_76 : decode cX12_laySums 76 = .ok (.aload_n 0, 1) := by decide +kernel
theorem dX12_laySums_77 : decode cX12_laySums 77 = .ok (.getfield 37, 3) := by decide +kernel
theorem dX12_laySums_80 : decode cX12_laySums 80 = .ok (.iload_n 1, 1) := by decide +kernel
theorem dX12_laySums_81 : decode cX12_laySums 81 = .ok (.iaload, 1) := by decide +kernel
theorem dX12_laySums_82 : decode cX12_laySums 82 = .ok (.dup2, 1) := by decide +kernel
theorem dX12_laySums_83 : decode cX12_laySums 83 = .ok (.laload, 1) := by decide +kernel
theorem dX12_laySums_84 : decode cX12_laySums 84 = .ok (.aload_n 0, 1) := by decide +kernel
theorem dX12_laySums_85 : decode cX12_laySums 85 = .ok (.getfield 52, 3) := by decide +kernel
theorem dX12_laySums_88 : decode cX12_laySums 88 = .ok (.iload_n 1, 1) := by decide +kernel
theorem dX12_laySums_89 : decode cX12_laySums 89 = .ok (.iaload, 1) := by decide +kernel
theorem dX12_laySums_90 : decode cX12_laySums 90 = .ok (.i2l, 1) := by decide +kernel
theorem dX12_laySums_91 : decode cX12_laySums 91 = .ok (.ladd, 1) := by decide +kernel
theorem dX12_laySums_92 : decode cX12_laySums 92 = .ok (.lastore, 1) := by decide +kernel
theorem dX12_laySums_93 : decode cX12_laySums 93 = .ok (.aload_n 0, 1) := by decide +kernel
theorem dX12_laySums_94 : decode cX12_laySums 94 = .ok (.getfield 86, 3) := by decide +kernel
theorem dX12_laySums_97 : decode cX12_laySums 97 = .ok (.aload_n 0, 1) := by decide +kernel
theorem dX12_laySums_98 : decode cX12_laySums 98 = .ok (.getfield 37, 3) := by decide +kernel
theorem dX12_laySums_101 : decode cX12_laySums 101 = .ok (.iload_n 1, 1) := by decide +kernel
theorem dX12_laySums_102 : decode cX12_laySums 102 = .ok (.iaload, 1) := by decide +kernel
theorem dX12_laySums_103 : decode cX12_laySums 103 = .ok (.dup2, 1) := by decide +kernel
theorem dX12_laySums_104 : decode cX12_laySums 104 = .ok (.laload, 1) := by decide +kernel
theorem dX12_laySums_105 : decode cX12_laySums 105 = .ok (.aload_n 0, 1) := by decide +kernel
theorem dX12_laySums_106 : decode cX12_laySums 106 = .ok (.getfield 55, 3) := by decide +kernel
theorem dX12_laySums_109 : decode cX12_laySums 109 = .ok (.iload_n 1, 1) := by decide +kernel
theorem dX12_laySums_110 : decode cX12_laySums 110 = .ok (.iaload, 1) := by decide +kernel
theorem dX12_laySums_111 : decode cX12_laySums 111 = .ok (.i2l, 1) := by decide +kernel
theorem dX12_laySums_112 : decode cX12_laySums 112 = .ok (.ladd, 1) := by decide +kernel
theorem dX12_laySums_113 : decode cX12_laySums 113 = .ok (.lastore, 1) := by decide +kernel
theorem dX12_laySums_114 : decode cX12_laySums 114 = .ok (.iinc 1 1, 3) := by decide +kernel
theorem dX12_laySums_117 : decode cX12_laySums 117 = .ok (.goto (-53), 3) := by decide +kernel
theorem dX12_laySums_120 : decode cX12_laySums 120 = .ok (.aload_n 0, 1) := by decide +kernel
theorem dX12_laySums_121 : decode cX12_laySums 121 = .ok (.getfield 19, 3) := by decide +kernel
theorem dX12_laySums_124 : decode cX12_laySums 124 = .ok (.bipush 8, 2) := by decide +kernel
theorem dX12_laySums_126 : decode cX12_laySums 126 = .ok (.aload_n 0, 1) := by decide +kernel
theorem dX12_laySums_127 : decode cX12_laySums 127 = .ok (.getfield 288, 3) := by decide +kernel
theorem dX12_laySums_130 : decode cX12_laySums 130 = .ok (.imul, 1) := by decide +kernel
theorem dX12_laySums_131 : decode cX12_laySums 131 = .ok (.iconst 5, 1) := by decide +kernel
theorem dX12_laySums_132 : decode cX12_laySums 132 = .ok (.iadd, 1) := by decide +kernel
theorem dX12_laySums_133 : decode cX12_laySums 133 = .ok (.iaload, 1) := by decide +kernel
theorem dX12_laySums_134 : decode cX12_laySums 134 = .ok (.istore_n 1, 1) := by decide +kernel
theorem dX12_laySums_135 : decode cX12_laySums 135 = .ok (.iconst 0, 1) := by decide +kernel
theorem dX12_laySums_136 : decode cX12_laySums 136 = .ok (.istore_n 2, 1) := by decide +kernel
theorem dX12_laySums_137 : decode cX12_laySums 137 = .ok (.iload_n 2, 1) := by decide +kernel
theorem dX12_laySums_138 : decode cX12_laySums 138 = .ok (.aload_n 0, 1) := by decide +kernel
theorem dX12_laySums_139 : decode cX12_laySums 139 = .ok (.getfield 294, 3) := by decide +kernel
theorem dX12_laySums_142 : decode cX12_laySums 142 = .ok (.if_icmp .ge 164, 3) := by decide +kernel
theorem dX12_laySums_145 : decode cX12_laySums 145 = .ok (.aload_n 0, 1) := by decide +kernel
theorem dX12_laySums_146 : decode cX12_laySums 146 = .ok (.getfield 37, 3) := by decide +kernel
theorem dX12_laySums_149 : decode cX12_laySums 149 = .ok (.aload_n 0, 1) := by decide +kernel
theorem dX12_laySums_150 : decode cX12_laySums 150 = .ok (.getfield 70, 3) := by decide +kernel
theorem dX12_laySums_153 : decode cX12_laySums 153 = .ok (.iload_n 2, 1) := by decide +kernel
theorem dX12_laySums_154 : decode cX12_laySums 154 = .ok (.iaload, 1) := by decide +kernel
theorem dX12_laySums_155 : decode cX12_laySums 155 = .ok (.iaload, 1) := by decide +kernel
theorem dX12_laySums_156 : decode cX12_laySums 156 = .ok (.istore_n 3, 1) := by decide +kernel
theorem dX12_laySums_157 : decode cX12_laySums 157 = .ok (.iconst 3, 1) := by decide +kernel
theorem dX12_laySums_158 : decode cX12_laySums 158 = .ok (.aload_n 0, 1) := by decide +kernel
theorem dX12_laySums_159 : decode cX12_laySums 159 = .ok (.getfield 73, 3) := by decide +kernel
theorem dX12_laySums_162 : decode cX12_laySums 162 = .ok (.iload_n 2, 1) := by decide +kernel
theorem dX12_laySums_163 : decode cX12_laySums 163 = .ok (.iaload, 1) := by decide +kernel
theorem dX12_laySums_164 : decode cX12_laySums 164 = .ok (.imul, 1) := by decide +kernel
theorem dX12_laySums_165 : decode cX12_laySums 165 = .ok (.iload_n 3, 1) := by decide +kernel
theorem dX12_laySums_166 : decode cX12_laySums 166 = .ok (.iadd, 1) := by decide +kernel
theorem dX12_laySums_167 : decode cX12_laySums 167 = .ok (.istore 4, 2) := by decide +kernel
theorem dX12_laySums_169 : decode cX12_laySums 169 = .ok (.aload_n 0, 1) := by decide +kernel
theorem dX12_laySums_170 : decode cX12_laySums 170 = .ok (.getfield 76, 3) := by decide +kernel
theorem dX12_laySums_173 : decode cX12_laySums 173 = .ok (.iload_n 2, 1) := by decide +kernel
theorem dX12_laySums_174 : decode cX12_laySums 174 = .ok (.iaload, 1) := by decide +kernel
theorem dX12_laySums_175 : decode cX12_laySums 175 = .ok (.aload_n 0, 1) := by decide +kernel
theorem dX12_laySums_176 : decode cX12_laySums 176 = .ok (.getfield 52, 3) := by decide +kernel
theorem dX12_laySums_179 : decode cX12_laySums 179 = .ok (.aload_n 0, 1) := by decide +kernel
theorem dX12_laySums_180 : decode cX12_laySums 180 = .ok (.getfield 70, 3) := by decide +kernel
theorem dX12_laySums_183 : decode cX12_laySums 183 = .ok (.iload_n 2, 1) := by decide +kernel
theorem dX12_laySums_184 : decode cX12_laySums 184 = .ok (.iaload, 1) := by decide +kernel
theorem dX12_laySums_185 : decode cX12_laySums 185 = .ok (.iaload, 1) := by decide +kernel
theorem dX12_laySums_186 : decode cX12_laySums 186 = .ok (.imul, 1) := by decide +kernel
theorem dX12_laySums_187 : decode cX12_laySums 187 = .ok (.aload_n 0, 1) := by decide +kernel
theorem dX12_laySums_188 : decode cX12_laySums 188 = .ok (.getfield 79, 3) := by decide +kernel
theorem dX12_laySums_191 : decode cX12_laySums 191 = .ok (.iload_n 2, 1) := by decide +kernel
theorem dX12_laySums_192 : decode cX12_laySums 192 = .ok (.iaload, 1) := by decide +kernel
theorem dX12_laySums_193 : decode cX12_laySums 193 = .ok (.idiv, 1) := by decide +kernel
theorem dX12_laySums_194 : decode cX12_laySums 194 = .ok (.istore 5, 2) := by decide +kernel
theorem dX12_laySums_196 : decode cX12_laySums 196 = .ok (.iload_n 1, 1) := by decide +kernel
theorem dX12_laySums_197 : decode cX12_laySums 197 = .ok (.ifCond .eq 35, 3) := by decide +kernel
theorem dX12_laySums_200 : decode cX12_laySums 200 = .ok (.iload_n 1, 1) := by decide +kernel
theorem dX12_laySums_201 : decode cX12_laySums 201 = .ok (.iconst 3, 1) := by decide +kernel
theorem dX12_laySums_202 : decode cX12_laySums 202 = .ok (.if_icmp .ne 14, 3) := by decide +kernel
theorem dX12_laySums_205 : decode cX12_laySums 205 = .ok (.aload_n 0, 1) := by decide +kernel
theorem dX12_laySums_206 : decode cX12_laySums 206 = .ok (.getfield 76, 3) := by decide +kernel
theorem dX12_laySums_209 : decode cX12_laySums 209 = .ok (.iload_n 2, 1) := by decide +kernel
theorem dX12_laySums_210 : decode cX12_laySums 210 = .ok (.iaload, 1) := by decide +kernel
theorem dX12_laySums_211 : decode cX12_laySums 211 = .ok (.iload 5, 2) := by decide +kernel
theorem dX12_laySums_213 : decode cX12_laySums 213 = .ok (.if_icmp .lt 19, 3) := by decide +kernel
theorem dX12_laySums_216 : decode cX12_laySums 216 = .ok (.iload_n 1, 1) := by decide +kernel
theorem dX12_laySums_217 : decode cX12_laySums 217 = .ok (.iconst 4, 1) := by decide +kernel
theorem dX12_laySums_218 : decode cX12_laySums 218 = .ok (.if_icmp .ne 18, 3) := by decide +kernel
theorem dX12_laySums_221 : decode cX12_laySums 221 = .ok (.aload_n 0, 1) := by decide +kernel
theorem dX12_laySums_222 : decode cX12_laySums 222 = .ok (.getfield 76, 3) := by decide +kernel
theorem dX12_laySums_225 : decode cX12_laySums 225 = .ok (.iload_n 2, 1) := by decide +kernel
theorem dX12_laySums_226 : decode cX12_laySums 226 = .ok (.iaload, 1) := by decide +kernel
theorem dX12_laySums_227 : decode cX12_laySums 227 = .ok (.iload 5, 2) := by decide +kernel
theorem dX12_laySums_229 : decode cX12_laySums 229 = .ok (.if_icmp .le 7, 3) := by decide +kernel
theorem dX12_laySums_232 : decode cX12_laySums 232 = .ok (.iconst 1, 1) := by decide +kernel
theorem dX12_laySums_233 : decode cX12_laySums 233 = .ok (.goto 4, 3) := by decide +kernel
theorem dX12_laySums_236 : decode cX12_laySums 236 = .ok (.iconst 0, 1) := by decide +kernel
theorem dX12_laySums_237 : decode cX12_laySums 237 = .ok (.istore 6, 2) := by decide +kernel
theorem dX12_laySums_239 : decode cX12_laySums 239 = .ok (.aload_n 0, 1) := by decide +kernel
theorem dX12_laySums_240 : decode cX12_laySums 240 = .ok (.getfield 86, 3) := by decide +kernel
theorem dX12_laySums_243 : decode cX12_laySums 243 = .ok (.iload_n 3, 1) := by decide +kernel
theorem dX12_laySums_244 : decode cX12_laySums 244 = .ok (.dup2, 1) := by decide +kernel
theorem dX12_laySums_245 : decode cX12_laySums 245 = .ok (.laload, 1) := by decide +kernel
theorem dX12_laySums_246 : decode cX12_laySums 246 = .ok (.aload_n 0, 1) := by decide +kernel
theorem dX12_laySums_247 : decode cX12_laySums 247 = .ok (.getfield 76, 3) := by decide +kernel
theorem dX12_laySums_250 : decode cX12_laySums 250 = .ok (.iload_n 2, 1) := by decide +kernel
theorem dX12_laySums_251 : decode cX12_laySums 251 = .ok (.iaload, 1) := by decide +kernel
theorem dX12_laySums_252 : decode cX12_laySums 252 = .ok (.i2l, 1) := by decide +kernel
theorem dX12_laySums_253 : decode cX12_laySums 253 = .ok (.ladd, 1) := by decide +kernel
theorem dX12_laySums_254 : decode cX12_laySums 254 = .ok (.lastore, 1) := by decide +kernel
theorem dX12_laySums_255 : decode cX12_laySums 255 = .ok (.aload_n 0, 1) := by decide +kernel
theorem dX12_laySums_256 : decode cX12_laySums 256 = .ok (.getfield 89, 3) := by decide +kernel
theorem dX12_laySums_259 : decode cX12_laySums 259 = .ok (.iload 4, 2) := by decide +kernel
theorem dX12_laySums_261 : decode cX12_laySums 261 = .ok (.dup2, 1) := by decide +kernel
theorem dX12_laySums_262 : decode cX12_laySums 262 = .ok (.laload, 1) := by decide +kernel
theorem dX12_laySums_263 : decode cX12_laySums 263 = .ok (.aload_n 0, 1) := by decide +kernel
theorem dX12_laySums_264 : decode cX12_laySums 264 = .ok (.getfield 76, 3) := by decide +kernel
theorem dX12_laySums_267 : decode cX12_laySums 267 = .ok (.iload_n 2, 1) := by decide +kernel
theorem dX12_laySums_268 : decode cX12_laySums 268 = .ok (.iaload, 1) := by decide +kernel
theorem dX12_laySums_269 : decode cX12_laySums 269 = .ok (.i2l, 1) := by decide +kernel
theorem dX12_laySums_270 : decode cX12_laySums 270 = .ok (.ladd, 1) := by decide +kernel
theorem dX12_laySums_271 : decode cX12_laySums 271 = .ok (.lastore, 1) := by decide +kernel
theorem dX12_laySums_272 : decode cX12_laySums 272 = .ok (.aload_n 0, 1) := by decide +kernel
theorem dX12_laySums_273 : decode cX12_laySums 273 = .ok (.getfield 92, 3) := by decide +kernel
theorem dX12_laySums_276 : decode cX12_laySums 276 = .ok (.iload 4, 2) := by decide +kernel
theorem dX12_laySums_278 : decode cX12_laySums 278 = .ok (.dup2, 1) := by decide +kernel
theorem dX12_laySums_279 : decode cX12_laySums 279 = .ok (.laload, 1) := by decide +kernel
theorem dX12_laySums_280 : decode cX12_laySums 280 = .ok (.iload 6, 2) := by decide +kernel
theorem dX12_laySums_282 : decode cX12_laySums 282 = .ok (.ifCond .eq 13, 3) := by decide +kernel
theorem dX12_laySums_285 : decode cX12_laySums 285 = .ok (.aload_n 0, 1) := by decide +kernel
theorem dX12_laySums_286 : decode cX12_laySums 286 = .ok (.getfield 76, 3) := by decide +kernel
theorem dX12_laySums_289 : decode cX12_laySums 289 = .ok (.iload_n 2, 1) := by decide +kernel
theorem dX12_laySums_290 : decode cX12_laySums 290 = .ok (.iaload, 1) := by decide +kernel
theorem dX12_laySums_291 : decode cX12_laySums 291 = .ok (.i2l, 1) := by decide +kernel
theorem dX12_laySums_292 : decode cX12_laySums 292 = .ok (.goto 6, 3) := by decide +kernel
theorem dX12_laySums_295 : decode cX12_laySums 295 = .ok (.iload 5, 2) := by decide +kernel
theorem dX12_laySums_297 : decode cX12_laySums 297 = .ok (.i2l, 1) := by decide +kernel
theorem dX12_laySums_298 : decode cX12_laySums 298 = .ok (.ladd, 1) := by decide +kernel
theorem dX12_laySums_299 : decode cX12_laySums 299 = .ok (.lastore, 1) := by decide +kernel
theorem dX12_laySums_300 : decode cX12_laySums 300 = .ok (.iinc 2 1, 3) := by decide +kernel
theorem dX12_laySums_303 : decode cX12_laySums 303 = .ok (.goto (-166), 3) := by decide +kernel
theorem dX12_laySums_306 : decode cX12_laySums 306 = .ok (.return_, 1) := by decide +kernel
theorem dX12_isPurse_0 : decode cX12_isPurse 0 = .ok (.iload_n 1, 1) := by decide +kernel
theorem dX12_isPurse_1 : decode cX12_isPurse 1 = .ok (.i2l, 1) := by decide +kernel
theorem dX12_isPurse_2 : decode cX12_isPurse 2 = .ok (.lconst 0, 1) := by decide +kernel
theorem dX12_isPurse_3 : decode cX12_isPurse 3 = .ok (.ldc2_w 126, 3) := by decide +kernel
theorem dX12_isPurse_6 : decode cX12_isPurse 6 = .ok (.invokestatic 118, 3) := by decide +kernel
theorem dX12_isPurse_9 : decode cX12_isPurse 9 = .ok (.ireturn, 1) := by decide +kernel
theorem dX12_purse_0 : decode cX12_purse 0 = .ok (.aload_n 0, 1) := by decide +kernel
theorem dX12_purse_1 : decode cX12_purse 1 = .ok (.iconst 0, 1) := by decide +kernel
theorem dX12_purse_2 : decode cX12_purse 2 = .ok (.putfield 107, 3) := by decide +kernel
theorem dX12_purse_5 : decode cX12_purse 5 = .ok (.aload_n 0, 1) := by decide +kernel
theorem dX12_purse_6 : decode cX12_purse 6 = .ok (.iload_n 1, 1) := by decide +kernel
theorem dX12_purse_7 : decode cX12_purse 7 = .ok (.invokevirtual 337, 3) := by decide +kernel
theorem dX12_purse_10 : decode cX12_purse 10 = .ok (.ifCond .eq 15, 3) := by decide +kernel
theorem dX12_purse_13 : decode cX12_purse 13 = .ok (.iload_n 2, 1) := by decide +kernel
theorem dX12_purse_14 : decode cX12_purse 14 = .ok (.i2l, 1) := by decide +kernel
theorem dX12_purse_15 : decode cX12_purse 15 = .ok (.lconst 0, 1) := by decide +kernel
theorem dX12_purse_16 : decode cX12_purse 16 = .ok (.ldc2_w 340, 3) := by decide +kernel
theorem dX12_purse_19 : decode cX12_purse 19 = .ok (.invokestatic 118, 3) := by decide +kernel
theorem dX12_purse_22 : decode cX12_purse 22 = .ok (.ifCond .ne 7, 3) := by decide +kernel
theorem dX12_purse_25 : decode cX12_purse 25 = .ok (.ldc2_w 128, 3) := by decide +kernel
theorem dX12_purse_28 : decode cX12_purse 28 = .ok (.lreturn, 1) := by decide +kernel
theorem dX12_purse_29 : decode cX12_purse 29 = .ok (.aload_n 0, 1) := by decide +kernel
theorem dX12_purse_30 : decode cX12_purse 30 = .ok (.invokevirtual 329, 3) := by decide +kernel
theorem dX12_purse_33 : decode cX12_purse 33 = .ok (.aload_n 0, 1) := by decide +kernel
theorem dX12_purse_34 : decode cX12_purse 34 = .ok (.invokevirtual 342, 3) := by decide +kernel
theorem dX12_purse_37 : decode cX12_purse 37 = .ok (.iconst 0, 1) := by decide +kernel
theorem dX12_purse_38 : decode cX12_purse 38 = .ok (.istore_n 3, 1) := by decide +kernel
theorem dX12_purse_39 : decode cX12_purse 39 = .ok (.iconst 0, 1) := by decide +kernel
theorem dX12_purse_40 : decode cX12_purse 40 = .ok (.istore 4, 2) := by decide +kernel
theorem dX12_purse_42 : decode cX12_purse 42 = .ok (.iload 4, 2) := by decide +kernel
theorem dX12_purse_44 : decode cX12_purse 44 = .ok (.aload_n 0, 1) := by decide +kernel
theorem dX12_purse_45 : decode cX12_purse 45 = .ok (.getfield 297, 3) := by decide +kernel
theorem dX12_purse_48 : decode cX12_purse 48 = .ok (.if_icmp .ge 28, 3) := by decide +kernel
theorem dX12_purse_51 : decode cX12_purse 51 = .ok (.iload_n 3, 1) := by decide +kernel
theorem dX12_purse_52 : decode cX12_purse 52 = .ok (.aload_n 0, 1) := by decide +kernel
theorem dX12_purse_53 : decode cX12_purse 53 = .ok (.getfield 37, 3) := by decide +kernel
theorem dX12_purse_56 : decode cX12_purse 56 = .ok (.iload 4, 2) := by decide +kernel
theorem dX12_purse_58 : decode cX12_purse 58 = .ok (.iaload, 1) := by decide +kernel
theorem dX12_purse_59 : decode cX12_purse 59 = .ok (.iload_n 1, 1) := by decide +kernel
theorem dX12_purse_60 : decode cX12_purse 60 = .ok (.if_icmp .ne 7, 3) := by decide +kernel
theorem dX12_purse_63 : decode cX12_purse 63 = .ok (.iconst 1, 1) := by decide +kernel
theorem dX12_purse_64 : decode cX12_purse 64 = .ok (.goto 4, 3) := by decide +kernel
theorem dX12_purse_67 : decode cX12_purse 67 = .ok (.iconst 0, 1) := by decide +kernel
theorem dX12_purse_68 : decode cX12_purse 68 = .ok (.iadd, 1) := by decide +kernel
theorem dX12_purse_69 : decode cX12_purse 69 = .ok (.istore_n 3, 1) := by decide +kernel
theorem dX12_purse_70 : decode cX12_purse 70 = .ok (.iinc 4 1, 3) := by decide +kernel
theorem dX12_purse_73 : decode cX12_purse 73 = .ok (.goto (-31), 3) := by decide +kernel
theorem dX12_purse_76 : decode cX12_purse 76 = .ok (.iload_n 2, 1) := by decide +kernel
theorem dX12_purse_77 : decode cX12_purse 77 = .ok (.ifCond .ne 12, 3) := by decide +kernel
theorem dX12_purse_80 : decode cX12_purse 80 = .ok (.aload_n 0, 1) := by decide +kernel
theorem dX12_purse_81 : decode cX12_purse 81 = .ok (.getfield 82, 3) := by decide +kernel
theorem dX12_purse_84 : decode cX12_purse 84 = .ok (.iload_n 1, 1) := by decide +kernel
theorem dX12_purse_85 : decode cX12_purse 85 = .ok (.laload, 1) := by decide +kernel
theorem dX12_purse_86 : decode cX12_purse 86 = .ok (.goto 34, 3) := by decide +kernel
theorem dX12_purse_89 : decode cX12_purse 89 = .ok (.iload_n 2, 1) := by decide +kernel
theorem dX12_purse_90 : decode cX12_purse 90 = .ok (.iconst 1, 1) := by decide +kernel
theorem dX12_purse_91 : decode cX12_purse 91 = .ok (.if_icmp .ne 12, 3) := by decide +kernel
theorem dX12_purse_94 : decode cX12_purse 94 = .ok (.aload_n 0, 1) := by decide +kernel
theorem dX12_purse_95 : decode cX12_purse 95 = .ok (.getfield 86, 3) := by decide +kernel
theorem dX12_purse_98 : decode cX12_purse 98 = .ok (.iload_n 1, 1) := by decide +kernel
theorem dX12_purse_99 : decode cX12_purse 99 = .ok (.laload, 1) := by decide +kernel
theorem dX12_purse_100 : decode cX12_purse 100 = .ok (.goto 20, 3) := by decide +kernel
theorem dX12_purse_103 : decode cX12_purse 103 = .ok (.iload_n 2, 1) := by decide +kernel
theorem dX12_purse_104 : decode cX12_purse 104 = .ok (.iconst 2, 1) := by decide +kernel
theorem dX12_purse_105 : decode cX12_purse 105 = .ok (.if_icmp .ne 13, 3) := by decide +kernel
theorem dX12_purse_108 : decode cX12_purse 108 = .ok (.aload_n 0, 1) := by decide +kernel
theorem dX12_purse_109 : decode cX12_purse 109 = .ok (.getfield 67, 3) := by decide +kernel
theorem dX12_purse_112 : decode cX12_purse 112 = .ok (.iload_n 1, 1) := by decide +kernel
theorem dX12_purse_113 : decode cX12_purse 113 = .ok (.iaload, 1) := by decide +kernel
theorem dX12_purse_114 : decode cX12_purse 114 = .ok (.i2l, 1) := by decide +kernel
theorem dX12_purse_115 : decode cX12_purse 115 = .ok (.goto 5, 3) := by decide +kernel
theorem dX12_purse_118 : decode cX12_purse 118 = .ok (.iload_n 3, 1) := by decide +kernel
theorem dX12_purse_119 : decode cX12_purse 119 = .ok (.i2l, 1) := by decide +kernel
theorem dX12_purse_120 : decode cX12_purse 120 = .ok (.lreturn, 1) := by decide +kernel
theorem dX12_fed_0 : decode cX12_fed 0 = .ok (.aload_n 0, 1) := by decide +kernel
theorem dX12_fed_1 : decode cX12_fed 1 = .ok (.iconst 0, 1) := by decide +kernel
theorem dX12_fed_2 : decode cX12_fed 2 = .ok (.putfield 107, 3) := by decide +kernel
theorem dX12_fed_5 : decode cX12_fed 5 = .ok (.aload_n 0, 1) := by decide +kernel
theorem dX12_fed_6 : decode cX12_fed 6 = .ok (.iload_n 1, 1) := by decide +kernel
theorem dX12_fed_7 : decode cX12_fed 7 = .ok (.invokevirtual 337, 3) := by decide +kernel
theorem dX12_fed_10 : decode cX12_fed 10 = .ok (.ifCond .eq 16, 3) := by decide +kernel
theorem dX12_fed_13 : decode cX12_fed 13 = .ok (.aload_n 0, 1) := by decide +kernel
theorem dX12_fed_14 : decode cX12_fed 14 = .ok (.iload_n 2, 1) := by decide +kernel
theorem dX12_fed_15 : decode cX12_fed 15 = .ok (.invokevirtual 337, 3) := by decide +kernel
theorem dX12_fed_18 : decode cX12_fed 18 = .ok (.ifCond .eq 8, 3) := by decide +kernel
theorem dX12_fed_21 : decode cX12_fed 21 = .ok (.iload_n 1, 1) := by decide +kernel
theorem dX12_fed_22 : decode cX12_fed 22 = .ok (.iload_n 2, 1) := by decide +kernel
theorem dX12_fed_23 : decode cX12_fed 23 = .ok (.if_icmp .ne 7, 3) := by decide +kernel
theorem dX12_fed_26 : decode cX12_fed 26 = .ok (.ldc2_w 128, 3) := by decide +kernel
theorem dX12_fed_29 : decode cX12_fed 29 = .ok (.lreturn, 1) := by decide +kernel
theorem dX12_fed_30 : decode cX12_fed 30 = .ok (.aload_n 0, 1) := by decide +kernel
theorem dX12_fed_31 : decode cX12_fed 31 = .ok (.invokevirtual 329, 3) := by decide +kernel
theorem dX12_fed_34 : decode cX12_fed 34 = .ok (.aload_n 0, 1) := by decide +kernel
theorem dX12_fed_35 : decode cX12_fed 35 = .ok (.invokevirtual 342, 3) := by decide +kernel
theorem dX12_fed_38 : decode cX12_fed 38 = .ok (.aload_n 0, 1) := by decide +kernel
theorem dX12_fed_39 : decode cX12_fed 39 = .ok (.getfield 89, 3) := by decide +kernel
theorem dX12_fed_42 : decode cX12_fed 42 = .ok (.iconst 3, 1) := by decide +kernel
theorem dX12_fed_43 : decode cX12_fed 43 = .ok (.iload_n 1, 1) := by decide +kernel
theorem dX12_fed_44 : decode cX12_fed 44 = .ok (.imul, 1) := by decide +kernel
theorem dX12_fed_45 : decode cX12_fed 45 = .ok (.iload_n 2, 1) := by decide +kernel
theorem dX12_fed_46 : decode cX12_fed 46 = .ok (.iadd, 1) := by decide +kernel
theorem dX12_fed_47 : decode cX12_fed 47 = .ok (.laload, 1) := by decide +kernel
theorem dX12_fed_48 : decode cX12_fed 48 = .ok (.lreturn, 1) := by decide +kernel
theorem dX12_minor_0 : decode cX12_minor 0 = .ok (.aload_n 0, 1) := by decide +kernel
theorem dX12_minor_1 : decode cX12_minor 1 = .ok (.getfield 101, 3) := by decide +kernel
theorem dX12_minor_4 : decode cX12_minor 4 = .ok (.iconst 3, 1) := by decide +kernel
theorem dX12_minor_5 : decode cX12_minor 5 = .ok (.iload_n 1, 1) := by decide +kernel
theorem dX12_minor_6 : decode cX12_minor 6 = .ok (.imul, 1) := by decide +kernel
theorem dX12_minor_7 : decode cX12_minor 7 = .ok (.iload_n 3, 1) := by decide +kernel
theorem dX12_minor_8 : decode cX12_minor 8 = .ok (.iadd, 1) := by decide +kernel
theorem dX12_minor_9 : decode cX12_minor 9 = .ok (.laload, 1) := by decide +kernel
theorem dX12_minor_10 : decode cX12_minor 10 = .ok (.aload_n 0, 1) := by decide +kernel
theorem dX12_minor_11 : decode cX12_minor 11 = .ok (.getfield 101, 3) := by decide +kernel
theorem dX12_minor_14 : decode cX12_minor 14 = .ok (.iconst 3, 1) := by decide +kernel
theorem dX12_minor_15 : decode cX12_minor 15 = .ok (.iload_n 2, 1) := by decide +kernel
theorem dX12_minor_16 : decode cX12_minor 16 = .ok (.imul, 1) := by decide +kernel
theorem dX12_minor_17 : decode cX12_minor 17 = .ok (.iload 4, 2) := by decide +kernel
theorem dX12_minor_19 : decode cX12_minor 19 = .ok (.iadd, 1) := by decide +kernel
theorem dX12_minor_20 : decode cX12_minor 20 = .ok (.laload, 1) := by decide +kernel
theorem dX12_minor_21 : decode cX12_minor 21 = .ok (.lmul, 1) := by decide +kernel
theorem dX12_minor_22 : decode cX12_minor 22 = .ok (.aload_n 0, 1) := by decide +kernel
theorem dX12_minor_23 : decode cX12_minor 23 = .ok (.getfield 101, 3) := by decide +kernel
theorem dX12_minor_26 : decode cX12_minor 26 = .ok (.iconst 3, 1) := by decide +kernel
theorem dX12_minor_27 : decode cX12_minor 27 = .ok (.iload_n 1, 1) := by decide +kernel
theorem dX12_minor_28 : decode cX12_minor 28 = .ok (.imul, 1) := by decide +kernel
theorem dX12_minor_29 : decode cX12_minor 29 = .ok (.iload 4, 2) := by decide +kernel
theorem dX12_minor_31 : decode cX12_minor 31 = .ok (.iadd, 1) := by decide +kernel
theorem dX12_minor_32 : decode cX12_minor 32 = .ok (.laload, 1) := by decide +kernel
theorem dX12_minor_33 : decode cX12_minor 33 = .ok (.aload_n 0, 1) := by decide +kernel
theorem dX12_minor_34 : decode cX12_minor 34 = .ok (.getfield 101, 3) := by decide +kernel
theorem dX12_minor_37 : decode cX12_minor 37 = .ok (.iconst 3, 1) := by decide +kernel
theorem dX12_minor_38 : decode cX12_minor 38 = .ok (.iload_n 2, 1) := by decide +kernel
theorem dX12_minor_39 : decode cX12_minor 39 = .ok (.imul, 1) := by decide +kernel
theorem dX12_minor_40 : decode cX12_minor 40 = .ok (.iload_n 3, 1) := by decide +kernel
theorem dX12_minor_41 : decode cX12_minor 41 = .ok (.iadd, 1) := by decide +kernel
theorem dX12_minor_42 : decode cX12_minor 42 = .ok (.laload, 1) := by decide +kernel
theorem dX12_minor_43 : decode cX12_minor 43 = .ok (.lmul, 1) := by decide +kernel
theorem dX12_minor_44 : decode cX12_minor 44 = .ok (.lsub, 1) := by decide +kernel
theorem dX12_minor_45 : decode cX12_minor 45 = .ok (.lreturn, 1) := by decide +kernel
theorem dX12_determinant_0 : decode cX12_determinant 0 = .ok (.aload_n 0, 1) := by decide +kernel
theorem dX12_determinant_1 : decode cX12_determinant 1 = .ok (.getfield 101, 3) := by decide +kernel
theorem dX12_determinant_4 : decode cX12_determinant 4 = .ok (.iconst 0, 1) := by decide +kernel
theorem dX12_determinant_5 : decode cX12_determinant 5 = .ok (.laload, 1) := by decide +kernel
theorem dX12_determinant_6 : decode cX12_determinant 6 = .ok (.aload_n 0, 1) := by decide +kernel
theorem dX12_determinant_7 : decode cX12_determinant 7 = .ok (.iconst 1, 1) := by decide +kernel
theorem dX12_determinant_8 : decode cX12_determinant 8 = .ok (.iconst 2, 1) := by decide +kernel
theorem dX12_determinant_9 : decode cX12_determinant 9 = .ok (.iconst 1, 1) := by decide +kernel
theorem dX12_determinant_10 : decode cX12_determinant 10 = .ok (.iconst 2, 1) := by decide +kernel
theorem dX12_determinant_11 : decode cX12_determinant 11 = .ok (.invokevirtual 345, 3) := by decide +kernel
theorem dX12_determinant_14 : decode cX12_determinant 14 = .ok (.lmul, 1) := by decide +kernel
theorem dX12_determinant_15 : decode cX12_determinant 15 = .ok (.aload_n 0, 1) := by decide +kernel
theorem dX12_determinant_16 : decode cX12_determinant 16 = .ok (.getfield 101, 3) := by decide +kernel
theorem dX12_determinant_19 : decode cX12_determinant 19 = .ok (.iconst 1, 1) := by decide +kernel
theorem dX12_determinant_20 : decode cX12_determinant 20 = .ok (.laload, 1) := by decide +kernel
theorem dX12_determinant_21 : decode cX12_determinant 21 = .ok (.aload_n 0, 1) := by decide +kernel
theorem dX12_determinant_22 : decode cX12_determinant 22 = .ok (.iconst 1, 1) := by decide +kernel
theorem dX12_determinant_23 : decode cX12_determinant 23 = .ok (.iconst 2, 1) := by decide +kernel
theorem dX12_determinant_24 : decode cX12_determinant 24 = .ok (.iconst 0, 1) := by decide +kernel
theorem dX12_determinant_25 : decode cX12_determinant 25 = .ok (.iconst 2, 1) := by decide +kernel
theorem dX12_determinant_26 : decode cX12_determinant 26 = .ok (.invokevirtual 345, 3) := by decide +kernel
theorem dX12_determinant_29 : decode cX12_determinant 29 = .ok (.lmul, 1) := by decide +kernel
theorem dX12_determinant_30 : decode cX12_determinant 30 = .ok (.lsub, 1) := by decide +kernel
theorem dX12_determinant_31 : decode cX12_determinant 31 = .ok (.aload_n 0, 1) := by decide +kernel
theorem dX12_determinant_32 : decode cX12_determinant 32 = .ok (.getfield 101, 3) := by decide +kernel
theorem dX12_determinant_35 : decode cX12_determinant 35 = .ok (.iconst 2, 1) := by decide +kernel
theorem dX12_determinant_36 : decode cX12_determinant 36 = .ok (.laload, 1) := by decide +kernel
theorem dX12_determinant_37 : decode cX12_determinant 37 = .ok (.aload_n 0, 1) := by decide +kernel
theorem dX12_determinant_38 : decode cX12_determinant 38 = .ok (.iconst 1, 1) := by decide +kernel
theorem dX12_determinant_39 : decode cX12_determinant 39 = .ok (.iconst 2, 1) := by decide +kernel
theorem dX12_determinant_40 : decode cX12_determinant 40 = .ok (.iconst 0, 1) := by decide +kernel
theorem dX12_determinant_41 : decode cX12_determinant 41 = .ok (.iconst 1, 1) := by decide +kernel
theorem dX12_determinant_42 : decode cX12_determinant 42 = .ok (.invokevirtual 345, 3) := by decide +kernel
theorem dX12_determinant_45 : decode cX12_determinant 45 = .ok (.lmul, 1) := by decide +kernel
theorem dX12_determinant_46 : decode cX12_determinant 46 = .ok (.ladd, 1) := by decide +kernel
theorem dX12_determinant_47 : decode cX12_determinant 47 = .ok (.lreturn, 1) := by decide +kernel
theorem dX12_laySides_0 : decode cX12_laySides 0 = .ok (.iconst 0, 1) := by decide +kernel
theorem dX12_laySides_1 : decode cX12_laySides 1 = .ok (.istore_n 1, 1) := by decide +kernel
theorem dX12_laySides_2 : decode cX12_laySides 2 = .ok (.iload_n 1, 1) := by decide +kernel
theorem dX12_laySides_3 : decode cX12_laySides 3 = .ok (.iconst 3, 1) := by decide +kernel
theorem dX12_laySides_4 : decode cX12_laySides 4 = .ok (.if_icmp .ge 72, 3) := by decide +kernel
theorem dX12_laySides_7 : decode cX12_laySides 7 = .ok (.iconst 0, 1) := by decide +kernel
theorem dX12_laySides_8 : decode cX12_laySides 8 = .ok (.istore_n 2, 1) := by decide +kernel
theorem dX12_laySides_9 : decode cX12_laySides 9 = .ok (.iload_n 2, 1) := by decide +kernel
theorem dX12_laySides_10 : decode cX12_laySides 10 = .ok (.iconst 3, 1) := by decide +kernel
theorem dX12_laySides_11 : decode cX12_laySides 11 = .ok (.if_icmp .ge 59, 3) := by decide +kernel
theorem dX12_laySides_14 : decode cX12_laySides 14 = .ok (.aload_n 0, 1) := by decide +kernel
theorem dX12_laySides_15 : decode cX12_laySides 15 = .ok (.getfield 101, 3) := by decide +kernel
theorem dX12_laySides_18 : decode cX12_laySides 18 = .ok (.iconst 3, 1) := by decide +kernel
theorem dX12_laySides_19 : decode cX12_laySides 19 = .ok (.iload_n 1, 1) := by decide +kernel
theorem dX12_laySides_20 : decode cX12_laySides 20 = .ok (.imul, 1) := by decide +kernel
theorem dX12_laySides_21 : decode cX12_laySides 21 = .ok (.iload_n 2, 1) := by decide +kernel
theorem dX12_laySides_22 : decode cX12_laySides 22 = .ok (.iadd, 1) := by decide +kernel
theorem dX12_laySides_23 : decode cX12_laySides 23 = .ok (.iload_n 1, 1) := by decide +kernel
theorem dX12_laySides_24 : decode cX12_laySides 24 = .ok (.iload_n 2, 1) := by decide +kernel
theorem dX12_laySides_25 : decode cX12_laySides 25 = .ok (.if_icmp .ne 27, 3) := by decide +kernel
theorem dX12_laySides_28 : decode cX12_laySides 28 = .ok (.aload_n 0, 1) := by decide +kernel
theorem dX12_laySides_29 : decode cX12_laySides 29 = .ok (.getfield 86, 3) := by decide +kernel
theorem dX12_laySides_32 : decode cX12_laySides 32 = .ok (.iload_n 1, 1) := by decide +kernel
theorem dX12_laySides_33 : decode cX12_laySides 33 = .ok (.laload, 1) := by decide +kernel
theorem dX12_laySides_34 : decode cX12_laySides 34 = .ok (.lconst 0, 1) := by decide +kernel
theorem dX12_laySides_35 : decode cX12_laySides 35 = .ok (.lcmp, 1) := by decide +kernel
theorem dX12_laySides_36 : decode cX12_laySides 36 = .ok (.ifCond .ne 7, 3) := by decide +kernel
theorem dX12_laySides_39 : decode cX12_laySides 39 = .ok (.lconst 1, 1) := by decide +kernel
theorem dX12_laySides_40 : decode cX12_laySides 40 = .ok (.goto 23, 3) := by decide +kernel
theorem dX12_laySides_43 : decode cX12_laySides 43 = .ok (.aload_n 0, 1) := by decide +kernel
theorem dX12_laySides_44 : decode cX12_laySides 44 = .ok (.getfield 86, 3) := by decide +kernel
theorem dX12_laySides_47 : decode cX12_laySides 47 = .ok (.iload_n 1, 1) := by decide +kernel
theorem dX12_laySides_48 : decode cX12_laySides 48 = .ok (.laload, 1) := by decide +kernel
theorem dX12_laySides_49 : decode cX12_laySides 49 = .ok (.goto 14, 3) := by decide +kernel
theorem dX12_laySides_52 : decode cX12_laySides 52 = .ok (.aload_n 0, 1) := by decide +kernel
theorem dX12_laySides_53 : decode cX12_laySides 53 = .ok (.getfield 89, 3) := by decide +kernel
theorem dX12_laySides_56 : decode cX12_laySides 56 = .ok (.iconst 3, 1) := by decide +kernel
theorem dX12_laySides_57 : decode cX12_laySides 57 = .ok (.iload_n 1, 1) := by decide +kernel
theorem dX12_laySides_58 : decode cX12_laySides 58 = .ok (.imul, 1) := by decide +kernel
theorem dX12_laySides_59 : decode cX12_laySides 59 = .ok (.iload_n 2, 1) := by decide +kernel
theorem dX12_laySides_60 : decode cX12_laySides 60 = .ok (.iadd, 1) := by decide +kernel
theorem dX12_laySides_61 : decode cX12_laySides 61 = .ok (.laload, 1) := by decide +kernel
theorem dX12_laySides_62 : decode cX12_laySides 62 = .ok (.lneg, 1) := by decide +kernel
theorem dX12_laySides_63 : decode cX12_laySides 63 = .ok (.lastore, 1) := by decide +kernel
theorem dX12_laySides_64 : decode cX12_laySides 64 = .ok (.iinc 2 1, 3) := by decide +kernel
theorem dX12_laySides_67 : decode cX12_laySides 67 = .ok (.goto (-58), 3) := by decide +kernel
theorem dX12_laySides_70 : decode cX12_laySides 70 = .ok (.iinc 1 1, 3) := by decide +kernel
theorem dX12_laySides_73 : decode cX12_laySides 73 = .ok (.goto (-71), 3) := by decide +kernel
theorem dX12_laySides_76 : decode cX12_laySides 76 = .ok (.iconst 0, 1) := by decide +kernel
theorem dX12_laySides_77 : decode cX12_laySides 77 = .ok (.istore_n 1, 1) := by decide +kernel
theorem dX12_laySides_78 : decode cX12_laySides 78 = .ok (.iload_n 1, 1) := by decide +kernel
theorem dX12_laySides_79 : decode cX12_laySides 79 = .ok (.iconst 3, 1) := by decide +kernel
theorem dX12_laySides_80 : decode cX12_laySides 80 = .ok (.if_icmp .ge 52, 3) := by decide +kernel
theorem dX12_laySides_83 : decode cX12_laySides 83 = .ok (.iconst 0, 1) := by decide +kernel
theorem dX12_laySides_84 : decode cX12_laySides 84 = .ok (.istore_n 2, 1) := by decide +kernel
theorem dX12_laySides_85 : decode cX12_laySides 85 = .ok (.iload_n 2, 1) := by decide +kernel
theorem dX12_laySides_86 : decode cX12_laySides 86 = .ok (.iconst 3, 1) := by decide +kernel
theorem dX12_laySides_87 : decode cX12_laySides 87 = .ok (.if_icmp .ge 39, 3) := by decide +kernel
theorem dX12_laySides_90 : decode cX12_laySides 90 = .ok (.aload_n 0, 1) := by decide +kernel
theorem dX12_laySides_91 : decode cX12_laySides 91 = .ok (.getfield 101, 3) := by decide +kernel
theorem dX12_laySides_94 : decode cX12_laySides 94 = .ok (.iconst 4, 1) := by decide +kernel
theorem dX12_laySides_95 : decode cX12_laySides 95 = .ok (.iload_n 1, 1) := by decide +kernel
theorem dX12_laySides_96 : decode cX12_laySides 96 = .ok (.imul, 1) := by decide +kernel
theorem dX12_laySides_97 : decode cX12_laySides 97 = .ok (.dup2, 1) := by decide +kernel
theorem dX12_laySides_98 : decode cX12_laySides 98 = .ok (.laload, 1) := by decide +kernel
theorem dX12_laySides_99 : decode cX12_laySides 99 = .ok (.iload_n 1, 1) := by decide +kernel
theorem dX12_laySides_100 : decode cX12_laySides 100 = .ok (.iload_n 2, 1) := by decide +kernel
theorem dX12_laySides_101 : decode cX12_laySides 101 = .ok (.if_icmp .ne 7, 3) := by decide +kernel
theorem dX12_laySides_104 : decode cX12_laySides 104 = .ok (.lconst 0, 1) := by decide +kernel
theorem dX12_laySides_105 : decode cX12_laySides 105 = .ok (.goto 13, 3) := by decide +kernel
theorem dX12_laySides_108 : decode cX12_laySides 108 = .ok (.aload_n 0, 1) := by decide +kernel
theorem dX12_laySides_109 : decode cX12_laySides 109 = .ok (.getfield 89, 3) := by decide +kernel
theorem dX12_laySides_112 : decode cX12_laySides 112 = .ok (.iconst 3, 1) := by decide +kernel
theorem dX12_laySides_113 : decode cX12_laySides 113 = .ok (.iload_n 2, 1) := by decide +kernel
theorem dX12_laySides_114 : decode cX12_laySides 114 = .ok (.imul, 1) := by decide +kernel
theorem dX12_laySides_115 : decode cX12_laySides 115 = .ok (.iload_n 1, 1) := by decide +kernel
theorem dX12_laySides_116 : decode cX12_laySides 116 = .ok (.iadd, 1) := by decide +kernel
theorem dX12_laySides_117 : decode cX12_laySides 117 = .ok (.laload, 1) := by decide +kernel
theorem dX12_laySides_118 : decode cX12_laySides 118 = .ok (.ladd, 1) := by decide +kernel
theorem dX12_laySides_119 : decode cX12_laySides 119 = .ok (.lastore, 1) := by decide +kernel
theorem dX12_laySides_120 : decode cX12_laySides 120 = .ok (.iinc 2 1, 3) := by decide +kernel
theorem dX12_laySides_123 : decode cX12_laySides 123 = .ok (.goto (-38), 3) := by decide +kernel
theorem dX12_laySides_126 : decode cX12_laySides 126 = .ok (.iinc 1 1, 3) := by decide +kernel
theorem dX12_laySides_129 : decode cX12_laySides 129 = .ok (.goto (-51), 3) := by decide +kernel
theorem dX12_laySides_132 : decode cX12_laySides 132 = .ok (.return_, 1) := by decide +kernel
theorem dX12_layNets_0 : decode cX12_layNets 0 = .ok (.aload_n 0, 1) := by decide +kernel
theorem dX12_layNets_1 : decode cX12_layNets 1 = .ok (.invokevirtual 342, 3) := by decide +kernel
theorem dX12_layNets_4 : decode cX12_layNets 4 = .ok (.aload_n 0, 1) := by decide +kernel
theorem dX12_layNets_5 : decode cX12_layNets 5 = .ok (.getfield 19, 3) := by decide +kernel
theorem dX12_layNets_8 : decode cX12_layNets 8 = .ok (.bipush 8, 2) := by decide +kernel
theorem dX12_layNets_10 : decode cX12_layNets 10 = .ok (.aload_n 0, 1) := by decide +kernel
theorem dX12_layNets_11 : decode cX12_layNets 11 = .ok (.getfield 288, 3) := by decide +kernel
theorem dX12_layNets_14 : decode cX12_layNets 14 = .ok (.imul, 1) := by decide +kernel
theorem dX12_layNets_15 : decode cX12_layNets 15 = .ok (.iconst 5, 1) := by decide +kernel
theorem dX12_layNets_16 : decode cX12_layNets 16 = .ok (.iadd, 1) := by decide +kernel
theorem dX12_layNets_17 : decode cX12_layNets 17 = .ok (.iaload, 1) := by decide +kernel
theorem dX12_layNets_18 : decode cX12_layNets 18 = .ok (.iconst 1, 1) := by decide +kernel
theorem dX12_layNets_19 : decode cX12_layNets 19 = .ok (.if_icmp .eq 86, 3) := by decide +kernel
theorem dX12_layNets_22 : decode cX12_layNets 22 = .ok (.aload_n 0, 1) := by decide +kernel
theorem dX12_layNets_23 : decode cX12_layNets 23 = .ok (.lconst 1, 1) := by decide +kernel
theorem dX12_layNets_24 : decode cX12_layNets 24 = .ok (.putfield 349, 3) := by decide +kernel
theorem dX12_layNets_27 : decode cX12_layNets 27 = .ok (.iconst 0, 1) := by decide +kernel
theorem dX12_layNets_28 : decode cX12_layNets 28 = .ok (.istore_n 1, 1) := by decide +kernel
theorem dX12_layNets_29 : decode cX12_layNets 29 = .ok (.iload_n 1, 1) := by decide +kernel
theorem dX12_layNets_30 : decode cX12_layNets 30 = .ok (.iconst 3, 1) := by decide +kernel
theorem dX12_layNets_31 : decode cX12_layNets 31 = .ok (.if_icmp .ge 73, 3) := by decide +kernel
theorem dX12_layNets_34 : decode cX12_layNets 34 = .ok (.aload_n 0, 1) := by decide +kernel
theorem dX12_layNets_35 : decode cX12_layNets 35 = .ok (.getfield 95, 3) := by decide +kernel
theorem dX12_layNets_38 : decode cX12_layNets 38 = .ok (.iload_n 1, 1) := by decide +kernel
theorem dX12_layNets_39 : decode cX12_layNets 39 = .ok (.aload_n 0, 1) := by decide +kernel
theorem dX12_layNets_40 : decode cX12_layNets 40 = .ok (.getfield 82, 3) := by decide +kernel
theorem dX12_layNets_43 : decode cX12_layNets 43 = .ok (.iload_n 1, 1) := by decide +kernel
theorem dX12_layNets_44 : decode cX12_layNets 44 = .ok (.laload, 1) := by decide +kernel
theorem dX12_layNets_45 : decode cX12_layNets 45 = .ok (.lastore, 1) := by decide +kernel
theorem dX12_layNets_46 : decode cX12_layNets 46 = .ok (.iconst 0, 1) := by decide +kernel
theorem dX12_layNets_47 : decode cX12_layNets 47 = .ok (.istore_n 2, 1) := by decide +kernel
theorem dX12_layNets_48 : decode cX12_layNets 48 = .ok (.iload_n 2, 1) := by decide +kernel
theorem dX12_layNets_49 : decode cX12_layNets 49 = .ok (.iconst 3, 1) := by decide +kernel
theorem dX12_layNets_50 : decode cX12_layNets 50 = .ok (.if_icmp .ge 48, 3) := by decide +kernel
theorem dX12_layNets_53 : decode cX12_layNets 53 = .ok (.aload_n 0, 1) := by decide +kernel
theorem dX12_layNets_54 : decode cX12_layNets 54 = .ok (.getfield 95, 3) := by decide +kernel
theorem dX12_layNets_57 : decode cX12_layNets 57 = .ok (.iload_n 1, 1) := by decide +kernel
theorem dX12_layNets_58 : decode cX12_layNets 58 = .ok (.dup2, 1) := by decide +kernel
theorem dX12_layNets_59 : decode cX12_layNets 59 = .ok (.laload, 1) := by decide +kernel
theorem dX12_layNets_60 : decode cX12_layNets 60 = .ok (.iload_n 1, 1) := by decide +kernel
theorem dX12_layNets_61 : decode cX12_layNets 61 = .ok (.iload_n 2, 1) := by decide +kernel
theorem dX12_layNets_62 : decode cX12_layNets 62 = .ok (.if_icmp .ne 7, 3) := by decide +kernel
theorem dX12_layNets_65 : decode cX12_layNets 65 = .ok (.lconst 0, 1) := by decide +kernel
theorem dX12_layNets_66 : decode cX12_layNets 66 = .ok (.goto 24, 3) := by decide +kernel
theorem dX12_layNets_69 : decode cX12_layNets 69 = .ok (.aload_n 0, 1) := by decide +kernel
theorem dX12_layNets_70 : decode cX12_layNets 70 = .ok (.getfield 92, 3) := by decide +kernel
theorem dX12_layNets_73 : decode cX12_layNets 73 = .ok (.iconst 3, 1) := by decide +kernel
theorem dX12_layNets_74 : decode cX12_layNets 74 = .ok (.iload_n 1, 1) := by decide +kernel
theorem dX12_layNets_75 : decode cX12_layNets 75 = .ok (.imul, 1) := by decide +kernel
theorem dX12_layNets_76 : decode cX12_layNets 76 = .ok (.iload_n 2, 1) := by decide +kernel
theorem dX12_layNets_77 : decode cX12_layNets 77 = .ok (.iadd, 1) := by decide +kernel
theorem dX12_layNets_78 : decode cX12_layNets 78 = .ok (.laload, 1) := by decide +kernel
theorem dX12_layNets_79 : decode cX12_layNets 79 = .ok (.aload_n 0, 1) := by decide +kernel
theorem dX12_layNets_80 : decode cX12_layNets 80 = .ok (.getfield 92, 3) := by decide +kernel
theorem dX12_layNets_83 : decode cX12_layNets 83 = .ok (.iconst 3, 1) := by decide +kernel
theorem dX12_layNets_84 : decode cX12_layNets 84 = .ok (.iload_n 2, 1) := by decide +kernel
theorem dX12_layNets_85 : decode cX12_layNets 85 = .ok (.imul, 1) := by decide +kernel
theorem dX12_layNets_86 : decode cX12_layNets 86 = .ok (.iload_n 1, 1) := by decide +kernel
theorem dX12_layNets_87 : decode cX12_layNets 87 = .ok (.iadd, 1) := by decide +kernel
theorem dX12_layNets_88 : decode cX12_layNets 88 = .ok (.laload, 1) := by decide +kernel
theorem dX12_layNets_89 : decode cX12_layNets 89 = .ok (.lsub, 1) := by decide +kernel
theorem dX12_layNets_90 : decode cX12_layNets 90 = .ok (.ladd, 1) := by decide +kernel
theorem dX12_layNets_91 : decode cX12_layNets 91 = .ok (.lastore, 1) := by decide +kernel
theorem dX12_layNets_92 : decode cX12_layNets 92 = .ok (.iinc 2 1, 3) := by decide +kernel
theorem dX12_layNets_95 : decode cX12_layNets 95 = .ok (.goto (-47), 3) := by decide +kernel
theorem dX12_layNets_98 : decode cX12_layNets 98 = .ok (.iinc 1 1, 3) := by decide +kernel
theorem dX12_layNets_101 : decode cX12_layNets 101 = .ok (.goto (-72), 3) := by decide +kernel
theorem dX12_layNets_104 : decode cX12_layNets 104 = .ok (.return_, 1) := by decide +kernel
theorem dX12_layNets_105 : decode cX12_layNets 105 = .ok (.aload_n 0, 1) := by decide +kernel
theorem dX12_layNets_106 : decode cX12_layNets 106 = .ok (.invokevirtual 353, 3) := by decide +kernel
theorem dX12_layNets_109 : decode cX12_layNets 109 = .ok (.aload_n 0, 1) := by decide +kernel
theorem dX12_layNets_110 : decode cX12_layNets 110 = .ok (.aload_n 0, 1) := by decide +kernel
theorem dX12_layNets_111 : decode cX12_layNets 111 = .ok (.invokevirtual 356, 3) := by decide +kernel
theorem dX12_layNets_114 : decode cX12_layNets 114 = .ok (.putfield 349, 3) := by decide +kernel
theorem dX12_layNets_117 : decode cX12_layNets 117 = .ok (.iconst 0, 1) := by decide +kernel
theorem dX12_layNets_118 : decode cX12_layNets 118 = .ok (.istore_n 1, 1) := by decide +kernel
theorem dX12_layNets_119 : decode cX12_layNets 119 = .ok (.iload_n 1, 1) := by decide +kernel
theorem dX12_layNets_120 : decode cX12_layNets 120 = .ok (.iconst 3, 1) := by decide +kernel
theorem dX12_layNets_121 : decode cX12_layNets 121 = .ok (.if_icmp .ge 86, 3) := by decide +kernel
theorem dX12_layNets_124 : decode cX12_layNets 124 = .ok (.aload_n 0, 1) := by decide +kernel
theorem dX12_layNets_125 : decode cX12_layNets 125 = .ok (.invokevirtual 353, 3) := by decide +kernel
theorem dX12_layNets_128 : decode cX12_layNets 128 = .ok (.iconst 0, 1) := by decide +kernel
theorem dX12_layNets_129 : decode cX12_layNets 129 = .ok (.istore_n 2, 1) := by decide +kernel
theorem dX12_layNets_130 : decode cX12_layNets 130 = .ok (.iload_n 2, 1) := by decide +kernel
theorem dX12_layNets_131 : decode cX12_layNets 131 = .ok (.iconst 3, 1) := by decide +kernel
theorem dX12_layNets_132 : decode cX12_layNets 132 = .ok (.if_icmp .ge 25, 3) := by decide +kernel
theorem dX12_layNets_135 : decode cX12_layNets 135 = .ok (.aload_n 0, 1) := by decide +kernel
theorem dX12_layNets_136 : decode cX12_layNets 136 = .ok (.getfield 101, 3) := by decide +kernel
theorem dX12_layNets_139 : decode cX12_layNets 139 = .ok (.iconst 3, 1) := by decide +kernel
theorem dX12_layNets_140 : decode cX12_layNets 140 = .ok (.iload_n 2, 1) := by decide +kernel
theorem dX12_layNets_141 : decode cX12_layNets 141 = .ok (.imul, 1) := by decide +kernel
theorem dX12_layNets_142 : decode cX12_layNets 142 = .ok (.iload_n 1, 1) := by decide +kernel
theorem dX12_layNets_143 : decode cX12_layNets 143 = .ok (.iadd, 1) := by decide +kernel
theorem dX12_layNets_144 : decode cX12_layNets 144 = .ok (.aload_n 0, 1) := by decide +kernel
theorem dX12_layNets_145 : decode cX12_layNets 145 = .ok (.getfield 82, 3) := by decide +kernel
theorem dX12_layNets_148 : decode cX12_layNets 148 = .ok (.iload_n 2, 1) := by decide +kernel
theorem dX12_layNets_149 : decode cX12_layNets 149 = .ok (.laload, 1) := by decide +kernel
theorem dX12_layNets_150 : decode cX12_layNets 150 = .ok (.lastore, 1) := by decide +kernel
theorem dX12_layNets_151 : decode cX12_layNets 151 = .ok (.iinc 2 1, 3) := by decide +kernel
theorem dX12_layNets_154 : decode cX12_layNets 154 = .ok (.goto (-24), 3) := by decide +kernel
theorem dX12_layNets_157 : decode cX12_layNets 157 = .ok (.aload_n 0, 1) := by decide +kernel
theorem dX12_layNets_158 : decode cX12_layNets 158 = .ok (.getfield 98, 3) := by decide +kernel
theorem dX12_layNets_161 : decode cX12_layNets 161 = .ok (.iload_n 1, 1) := by decide +kernel
theorem dX12_layNets_162 : decode cX12_layNets 162 = .ok (.aload_n 0, 1) := by decide +kernel
theorem dX12_layNets_163 : decode cX12_layNets 163 = .ok (.invokevirtual 356, 3) := by decide +kernel
theorem dX12_layNets_166 : decode cX12_layNets 166 = .ok (.lastore, 1) := by decide +kernel
theorem dX12_layNets_167 : decode cX12_layNets 167 = .ok (.aload_n 0, 1) := by decide +kernel
theorem dX12_layNets_168 : decode cX12_layNets 168 = .ok (.getfield 95, 3) := by decide +kernel
theorem dX12_layNets_171 : decode cX12_layNets 171 = .ok (.iload_n 1, 1) := by decide +kernel
theorem dX12_layNets_172 : decode cX12_layNets 172 = .ok (.aload_n 0, 1) := by decide +kernel
theorem dX12_layNets_173 : decode cX12_layNets 173 = .ok (.getfield 86, 3) := by decide +kernel
theorem dX12_layNets_176 : decode cX12_layNets 176 = .ok (.iload_n 1, 1) := by decide +kernel
theorem dX12_layNets_177 : decode cX12_layNets 177 = .ok (.laload, 1) := by decide +kernel
theorem dX12_layNets_178 : decode cX12_layNets 178 = .ok (.lconst 0, 1) := by decide +kernel
theorem dX12_layNets_179 : decode cX12_layNets 179 = .ok (.lcmp, 1) := by decide +kernel
theorem dX12_layNets_180 : decode cX12_layNets 180 = .ok (.ifCond .ne 7, 3) := by decide +kernel
theorem dX12_layNets_183 : decode cX12_layNets 183 = .ok (.lconst 1, 1) := by decide +kernel
theorem dX12_layNets_184 : decode cX12_layNets 184 = .ok (.goto 9, 3) := by decide +kernel
theorem dX12_layNets_187 : decode cX12_layNets 187 = .ok (.aload_n 0, 1) := by decide +kernel
theorem dX12_layNets_188 : decode cX12_layNets 188 = .ok (.getfield 86, 3) := by decide +kernel
theorem dX12_layNets_191 : decode cX12_layNets 191 = .ok (.iload_n 1, 1) := by decide +kernel
theorem dX12_layNets_192 : decode cX12_layNets 192 = .ok (.laload, 1) := by decide +kernel
theorem dX12_layNets_193 : decode cX12_layNets 193 = .ok (.aload_n 0, 1) := by decide +kernel
theorem dX12_layNets_194 : decode cX12_layNets 194 = .ok (.getfield 98, 3) := by decide +kernel
theorem dX12_layNets_197 : decode cX12_layNets 197 = .ok (.iload_n 1, 1) := by decide +kernel
theorem dX12_layNets_198 : decode cX12_layNets 198 = .ok (.laload, 1) := by decide +kernel
theorem dX12_layNets_199 : decode cX12_layNets 199 = .ok (.lmul, 1) := by decide +kernel
theorem dX12_layNets_200 : decode cX12_layNets 200 = .ok (.lastore, 1) := by decide +kernel
theorem dX12_layNets_201 : decode cX12_layNets 201 = .ok (.iinc 1 1, 3) := by decide +kernel
theorem dX12_layNets_204 : decode cX12_layNets 204 = .ok (.goto (-85), 3) := by decide +kernel
theorem dX12_layNets_207 : decode cX12_layNets 207 = .ok (.return_, 1) := by decide +kernel
theorem dX12_partOf_0 : decode cX12_partOf 0 = .ok (.lload_n 0, 1) := by decide +kernel
theorem dX12_partOf_1 : decode cX12_partOf 1 = .ok (.lconst 0, 1) := by decide +kernel
theorem dX12_partOf_2 : decode cX12_partOf 2 = .ok (.lcmp, 1) := by decide +kernel
theorem dX12_partOf_3 : decode cX12_partOf 3 = .ok (.ifCond .ge 8, 3) := by decide +kernel
theorem dX12_partOf_6 : decode cX12_partOf 6 = .ok (.lload_n 0, 1) := by decide +kernel
theorem dX12_partOf_7 : decode cX12_partOf 7 = .ok (.lneg, 1) := by decide +kernel
theorem dX12_partOf_8 : decode cX12_partOf 8 = .ok (.goto 4, 3) := by decide +kernel
theorem dX12_partOf_11 : decode cX12_partOf 11 = .ok (.lload_n 0, 1) := by decide +kernel
theorem dX12_partOf_12 : decode cX12_partOf 12 = .ok (.lstore 5, 2) := by decide +kernel
theorem dX12_partOf_14 : decode cX12_partOf 14 = .ok (.lload_n 2, 1) := by decide +kernel
theorem dX12_partOf_15 : decode cX12_partOf 15 = .ok (.lstore 7, 2) := by decide +kernel
theorem dX12_partOf_17 : decode cX12_partOf 17 = .ok (.lload 7, 2) := by decide +kernel
theorem dX12_partOf_19 : decode cX12_partOf 19 = .ok (.lconst 0, 1) := by decide +kernel
theorem dX12_partOf_20 : decode cX12_partOf 20 = .ok (.lcmp, 1) := by decide +kernel
theorem dX12_partOf_21 : decode cX12_partOf 21 = .ok (.ifCond .eq 21, 3) := by decide +kernel
theorem dX12_partOf_24 : decode cX12_partOf 24 = .ok (.lload 5, 2) := by decide +kernel
theorem dX12_partOf_26 : decode cX12_partOf 26 = .ok (.lload 7, 2) := by decide +kernel
theorem dX12_partOf_28 : decode cX12_partOf 28 = .ok (.lrem, 1) := by decide +kernel
theorem dX12_partOf_29 : decode cX12_partOf 29 = .ok (.lstore 9, 2) := by decide +kernel
theorem dX12_partOf_31 : decode cX12_partOf 31 = .ok (.lload 7, 2) := by decide +kernel
theorem dX12_partOf_33 : decode cX12_partOf 33 = .ok (.lstore 5, 2) := by decide +kernel
theorem dX12_partOf_35 : decode cX12_partOf 35 = .ok (.lload 9, 2) := by decide +kernel
theorem dX12_partOf_37 : decode cX12_partOf 37 = .ok (.lstore 7, 2) := by decide +kernel
theorem dX12_partOf_39 : decode cX12_partOf 39 = .ok (.goto (-22), 3) := by decide +kernel
theorem dX12_partOf_42 : decode cX12_partOf 42 = .ok (.iload 4, 2) := by decide +kernel
theorem dX12_partOf_44 : decode cX12_partOf 44 = .ok (.ifCond .ne 7, 3) := by decide +kernel
theorem dX12_partOf_47 : decode cX12_partOf 47 = .ok (.lload_n 0, 1) := by decide +kernel
theorem dX12_partOf_48 : decode cX12_partOf 48 = .ok (.goto 4, 3) := by decide +kernel
theorem dX12_partOf_51 : decode cX12_partOf 51 = .ok (.lload_n 2, 1) := by decide +kernel
theorem dX12_partOf_52 : decode cX12_partOf 52 = .ok (.lload 5, 2) := by decide +kernel
theorem dX12_partOf_54 : decode cX12_partOf 54 = .ok (.ldiv, 1) := by decide +kernel
theorem dX12_partOf_55 : decode cX12_partOf 55 = .ok (.lreturn, 1) := by decide +kernel
theorem dX12_owed_0 : decode cX12_owed 0 = .ok (.aload_n 0, 1) := by decide +kernel
theorem dX12_owed_1 : decode cX12_owed 1 = .ok (.iconst 0, 1) := by decide +kernel
theorem dX12_owed_2 : decode cX12_owed 2 = .ok (.putfield 107, 3) := by decide +kernel
theorem dX12_owed_5 : decode cX12_owed 5 = .ok (.aload_n 0, 1) := by decide +kernel
theorem dX12_owed_6 : decode cX12_owed 6 = .ok (.iload_n 1, 1) := by decide +kernel
theorem dX12_owed_7 : decode cX12_owed 7 = .ok (.invokevirtual 337, 3) := by decide +kernel
theorem dX12_owed_10 : decode cX12_owed 10 = .ok (.ifCond .eq 26, 3) := by decide +kernel
theorem dX12_owed_13 : decode cX12_owed 13 = .ok (.aload_n 0, 1) := by decide +kernel
theorem dX12_owed_14 : decode cX12_owed 14 = .ok (.iload_n 2, 1) := by decide +kernel
theorem dX12_owed_15 : decode cX12_owed 15 = .ok (.invokevirtual 337, 3) := by decide +kernel
theorem dX12_owed_18 : decode cX12_owed 18 = .ok (.ifCond .eq 18, 3) := by decide +kernel
theorem dX12_owed_21 : decode cX12_owed 21 = .ok (.iload_n 1, 1) := by decide +kernel
theorem dX12_owed_22 : decode cX12_owed 22 = .ok (.iload_n 2, 1) := by decide +kernel
theorem dX12_owed_23 : decode cX12_owed 23 = .ok (.if_icmp .eq 13, 3) := by decide +kernel
theorem dX12_owed_26 : decode cX12_owed 26 = .ok (.iload_n 3, 1) := by decide +kernel
theorem dX12_owed_27 : decode cX12_owed 27 = .ok (.i2l, 1) := by decide +kernel
theorem dX12_owed_28 : decode cX12_owed 28 = .ok (.lconst 0, 1) := by decide +kernel
theorem dX12_owed_29 : decode cX12_owed 29 = .ok (.lconst 1, 1) := by decide +kernel
theorem dX12_owed_30 : decode cX12_owed 30 = .ok (.invokestatic 118, 3) := by decide +kernel
theorem dX12_owed_33 : decode cX12_owed 33 = .ok (.ifCond .ne 7, 3) := by decide +kernel
theorem dX12_owed_36 : decode cX12_owed 36 = .ok (.ldc2_w 128, 3) := by decide +kernel
theorem dX12_owed_39 : decode cX12_owed 39 = .ok (.lreturn, 1) := by decide +kernel
theorem dX12_owed_40 : decode cX12_owed 40 = .ok (.aload_n 0, 1) := by decide +kernel
theorem dX12_owed_41 : decode cX12_owed 41 = .ok (.getfield 275, 3) := by decide +kernel
theorem dX12_owed_44 : decode cX12_owed 44 = .ok (.ifCond .ne 7, 3) := by decide +kernel
theorem dX12_owed_47 : decode cX12_owed 47 = .ok (.ldc2_w 335, 3) := by decide +kernel
theorem dX12_owed_50 : decode cX12_owed 50 = .ok (.lreturn, 1) := by decide +kernel
theorem dX12_owed_51 : decode cX12_owed 51 = .ok (.aload_n 0, 1) := by decide +kernel
theorem dX12_owed_52 : decode cX12_owed 52 = .ok (.invokevirtual 329, 3) := by decide +kernel
theorem dX12_owed_55 : decode cX12_owed 55 = .ok (.aload_n 0, 1) := by decide +kernel
theorem dX12_owed_56 : decode cX12_owed 56 = .ok (.invokevirtual 359, 3) := by decide +kernel
theorem dX12_owed_59 : decode cX12_owed 59 = .ok (.aload_n 0, 1) := by decide +kernel
theorem dX12_owed_60 : decode cX12_owed 60 = .ok (.getfield 19, 3) := by decide +kernel
theorem dX12_owed_63 : decode cX12_owed 63 = .ok (.bipush 8, 2) := by decide +kernel
theorem dX12_owed_65 : decode cX12_owed 65 = .ok (.aload_n 0, 1) := by decide +kernel
theorem dX12_owed_66 : decode cX12_owed 66 = .ok (.getfield 288, 3) := by decide +kernel
theorem dX12_owed_69 : decode cX12_owed 69 = .ok (.imul, 1) := by decide +kernel
theorem dX12_owed_70 : decode cX12_owed 70 = .ok (.iconst 5, 1) := by decide +kernel
theorem dX12_owed_71 : decode cX12_owed 71 = .ok (.iadd, 1) := by decide +kernel
theorem dX12_owed_72 : decode cX12_owed 72 = .ok (.iaload, 1) := by decide +kernel
theorem dX12_owed_73 : decode cX12_owed 73 = .ok (.iconst 1, 1) := by decide +kernel
theorem dX12_owed_74 : decode cX12_owed 74 = .ok (.if_icmp .ne 29, 3) := by decide +kernel
theorem dX12_owed_77 : decode cX12_owed 77 = .ok (.aload_n 0, 1) := by decide +kernel
theorem dX12_owed_78 : decode cX12_owed 78 = .ok (.getfield 89, 3) := by decide +kernel
theorem dX12_owed_81 : decode cX12_owed 81 = .ok (.iconst 3, 1) := by decide +kernel
theorem dX12_owed_82 : decode cX12_owed 82 = .ok (.iload_n 1, 1) := by decide +kernel
theorem dX12_owed_83 : decode cX12_owed 83 = .ok (.imul, 1) := by decide +kernel
theorem dX12_owed_84 : decode cX12_owed 84 = .ok (.iload_n 2, 1) := by decide +kernel
theorem dX12_owed_85 : decode cX12_owed 85 = .ok (.iadd, 1) := by decide +kernel
theorem dX12_owed_86 : decode cX12_owed 86 = .ok (.laload, 1) := by decide +kernel
theorem dX12_owed_87 : decode cX12_owed 87 = .ok (.aload_n 0, 1) := by decide +kernel
theorem dX12_owed_88 : decode cX12_owed 88 = .ok (.getfield 98, 3) := by decide +kernel
theorem dX12_owed_91 : decode cX12_owed 91 = .ok (.iload_n 2, 1) := by decide +kernel
theorem dX12_owed_92 : decode cX12_owed 92 = .ok (.laload, 1) := by decide +kernel
theorem dX12_owed_93 : decode cX12_owed 93 = .ok (.lmul, 1) := by decide +kernel
theorem dX12_owed_94 : decode cX12_owed 94 = .ok (.aload_n 0, 1) := by decide +kernel
theorem dX12_owed_95 : decode cX12_owed 95 = .ok (.getfield 349, 3) := by decide +kernel
theorem dX12_owed_98 : decode cX12_owed 98 = .ok (.iload_n 3, 1) := by decide +kernel
theorem dX12_owed_99 : decode cX12_owed 99 = .ok (.invokestatic 362, 3) := by decide +kernel
theorem dX12_owed_102 : decode cX12_owed 102 = .ok (.lreturn, 1) := by decide +kernel
theorem dX12_owed_103 : decode cX12_owed 103 = .ok (.iload_n 3, 1) := by decide +kernel
theorem dX12_owed_104 : decode cX12_owed 104 = .ok (.ifCond .ne 16, 3) := by decide +kernel
theorem dX12_owed_107 : decode cX12_owed 107 = .ok (.aload_n 0, 1) := by decide +kernel
theorem dX12_owed_108 : decode cX12_owed 108 = .ok (.getfield 92, 3) := by decide +kernel
theorem dX12_owed_111 : decode cX12_owed 111 = .ok (.iconst 3, 1) := by decide +kernel
theorem dX12_owed_112 : decode cX12_owed 112 = .ok (.iload_n 1, 1) := by decide +kernel
theorem dX12_owed_113 : decode cX12_owed 113 = .ok (.imul, 1) := by decide +kernel
theorem dX12_owed_114 : decode cX12_owed 114 = .ok (.iload_n 2, 1) := by decide +kernel
theorem dX12_owed_115 : decode cX12_owed 115 = .ok (.iadd, 1) := by decide +kernel
theorem dX12_owed_116 : decode cX12_owed 116 = .ok (.laload, 1) := by decide +kernel
theorem dX12_owed_117 : decode cX12_owed 117 = .ok (.goto 4, 3) := by decide +kernel
theorem dX12_owed_120 : decode cX12_owed 120 = .ok (.lconst 1, 1) := by decide +kernel
theorem dX12_owed_121 : decode cX12_owed 121 = .ok (.lreturn, 1) := by decide +kernel
theorem dX12_net_0 : decode cX12_net 0 = .ok (.aload_n 0, 1) := by decide +kernel
theorem dX12_net_1 : decode cX12_net 1 = .ok (.iconst 0, 1) := by decide +kernel
theorem dX12_net_2 : decode cX12_net 2 = .ok (.putfield 107, 3) := by decide +kernel
theorem dX12_net_5 : decode cX12_net 5 = .ok (.aload_n 0, 1) := by decide +kernel
theorem dX12_net_6 : decode cX12_net 6 = .ok (.iload_n 1, 1) := by decide +kernel
theorem dX12_net_7 : decode cX12_net 7 = .ok (.invokevirtual 337, 3) := by decide +kernel
theorem dX12_net_10 : decode cX12_net 10 = .ok (.ifCond .eq 13, 3) := by decide +kernel
theorem dX12_net_13 : decode cX12_net 13 = .ok (.iload_n 2, 1) := by decide +kernel
theorem dX12_net_14 : decode cX12_net 14 = .ok (.i2l, 1) := by decide +kernel
theorem dX12_net_15 : decode cX12_net 15 = .ok (.lconst 0, 1) := by decide +kernel
theorem dX12_net_16 : decode cX12_net 16 = .ok (.lconst 1, 1) := by decide +kernel
theorem dX12_net_17 : decode cX12_net 17 = .ok (.invokestatic 118, 3) := by decide +kernel
theorem dX12_net_20 : decode cX12_net 20 = .ok (.ifCond .ne 7, 3) := by decide +kernel
theorem dX12_net_23 : decode cX12_net 23 = .ok (.ldc2_w 128, 3) := by decide +kernel
theorem dX12_net_26 : decode cX12_net 26 = .ok (.lreturn, 1) := by decide +kernel
theorem dX12_net_27 : decode cX12_net 27 = .ok (.aload_n 0, 1) := by decide +kernel
theorem dX12_net_28 : decode cX12_net 28 = .ok (.getfield 275, 3) := by decide +kernel
theorem dX12_net_31 : decode cX12_net 31 = .ok (.ifCond .ne 7, 3) := by decide +kernel
theorem dX12_net_34 : decode cX12_net 34 = .ok (.ldc2_w 335, 3) := by decide +kernel
theorem dX12_net_37 : decode cX12_net 37 = .ok (.lreturn, 1) := by decide +kernel
theorem dX12_net_38 : decode cX12_net 38 = .ok (.aload_n 0, 1) := by decide +kernel
theorem dX12_net_39 : decode cX12_net 39 = .ok (.invokevirtual 329, 3) := by decide +kernel
theorem dX12_net_42 : decode cX12_net 42 = .ok (.aload_n 0, 1) := by decide +kernel
theorem dX12_net_43 : decode cX12_net 43 = .ok (.invokevirtual 359, 3) := by decide +kernel
theorem dX12_net_46 : decode cX12_net 46 = .ok (.aload_n 0, 1) := by decide +kernel
theorem dX12_net_47 : decode cX12_net 47 = .ok (.getfield 95, 3) := by decide +kernel
theorem dX12_net_50 : decode cX12_net 50 = .ok (.iload_n 1, 1) := by decide +kernel
theorem dX12_net_51 : decode cX12_net 51 = .ok (.laload, 1) := by decide +kernel
theorem dX12_net_52 : decode cX12_net 52 = .ok (.aload_n 0, 1) := by decide +kernel
theorem dX12_net_53 : decode cX12_net 53 = .ok (.getfield 349, 3) := by decide +kernel
theorem dX12_net_56 : decode cX12_net 56 = .ok (.iload_n 2, 1) := by decide +kernel
theorem dX12_net_57 : decode cX12_net 57 = .ok (.invokestatic 362, 3) := by decide +kernel
theorem dX12_net_60 : decode cX12_net 60 = .ok (.lreturn, 1) := by decide +kernel
theorem dX12_endOf_0 : decode cX12_endOf 0 = .ok (.aload_n 0, 1) := by decide +kernel
theorem dX12_endOf_1 : decode cX12_endOf 1 = .ok (.getfield 19, 3) := by decide +kernel
theorem dX12_endOf_4 : decode cX12_endOf 4 = .ok (.bipush 8, 2) := by decide +kernel
theorem dX12_endOf_6 : decode cX12_endOf 6 = .ok (.aload_n 0, 1) := by decide +kernel
theorem dX12_endOf_7 : decode cX12_endOf 7 = .ok (.getfield 288, 3) := by decide +kernel
theorem dX12_endOf_10 : decode cX12_endOf 10 = .ok (.imul, 1) := by decide +kernel
theorem dX12_endOf_11 : decode cX12_endOf 11 = .ok (.bipush 7, 2) := by decide +kernel
theorem dX12_endOf_13 : decode cX12_endOf 13 = .ok (.iadd, 1) := by decide +kernel
theorem dX12_endOf_14 : decode cX12_endOf 14 = .ok (.iaload, 1) := by decide +kernel
theorem dX12_endOf_15 : decode cX12_endOf 15 = .ok (.i2l, 1) := by decide +kernel
theorem dX12_endOf_16 : decode cX12_endOf 16 = .ok (.lstore_n 2, 1) := by decide +kernel
theorem dX12_endOf_17 : decode cX12_endOf 17 = .ok (.ldc2_w 366, 3) := by decide +kernel
theorem dX12_endOf_20 : decode cX12_endOf 20 = .ok (.aload_n 0, 1) := by decide +kernel
theorem dX12_endOf_21 : decode cX12_endOf 21 = .ok (.getfield 95, 3) := by decide +kernel
theorem dX12_endOf_24 : decode cX12_endOf 24 = .ok (.iload_n 1, 1) := by decide +kernel
theorem dX12_endOf_25 : decode cX12_endOf 25 = .ok (.laload, 1) := by decide +kernel
theorem dX12_endOf_26 : decode cX12_endOf 26 = .ok (.lmul, 1) := by decide +kernel
theorem dX12_endOf_27 : decode cX12_endOf 27 = .ok (.iload_n 1, 1) := by decide +kernel
theorem dX12_endOf_28 : decode cX12_endOf 28 = .ok (.ifCond .ne 7, 3) := by decide +kernel
theorem dX12_endOf_31 : decode cX12_endOf 31 = .ok (.lload_n 2, 1) := by decide +kernel
theorem dX12_endOf_32 : decode cX12_endOf 32 = .ok (.goto 8, 3) := by decide +kernel
theorem dX12_endOf_35 : decode cX12_endOf 35 = .ok (.ldc2_w 366, 3) := by decide +kernel
theorem dX12_endOf_38 : decode cX12_endOf 38 = .ok (.lload_n 2, 1) := by decide +kernel
theorem dX12_endOf_39 : decode cX12_endOf 39 = .ok (.lsub, 1) := by decide +kernel
theorem dX12_endOf_40 : decode cX12_endOf 40 = .ok (.aload_n 0, 1) := by decide +kernel
theorem dX12_endOf_41 : decode cX12_endOf 41 = .ok (.getfield 95, 3) := by decide +kernel
theorem dX12_endOf_44 : decode cX12_endOf 44 = .ok (.iconst 2, 1) := by decide +kernel
theorem dX12_endOf_45 : decode cX12_endOf 45 = .ok (.laload, 1) := by decide +kernel
theorem dX12_endOf_46 : decode cX12_endOf 46 = .ok (.lmul, 1) := by decide +kernel
theorem dX12_endOf_47 : decode cX12_endOf 47 = .ok (.ladd, 1) := by decide +kernel
theorem dX12_endOf_48 : decode cX12_endOf 48 = .ok (.lreturn, 1) := by decide +kernel
theorem dX12_end_0 : decode cX12_end 0 = .ok (.aload_n 0, 1) := by decide +kernel
theorem dX12_end_1 : decode cX12_end 1 = .ok (.iconst 0, 1) := by decide +kernel
theorem dX12_end_2 : decode cX12_end 2 = .ok (.putfield 107, 3) := by decide +kernel
theorem dX12_end_5 : decode cX12_end 5 = .ok (.iload_n 1, 1) := by decide +kernel
theorem dX12_end_6 : decode cX12_end 6 = .ok (.i2l, 1) := by decide +kernel
theorem dX12_end_7 : decode cX12_end 7 = .ok (.lconst 0, 1) := by decide +kernel
theorem dX12_end_8 : decode cX12_end 8 = .ok (.lconst 1, 1) := by decide +kernel
theorem dX12_end_9 : decode cX12_end 9 = .ok (.invokestatic 118, 3) := by decide +kernel
theorem dX12_end_12 : decode cX12_end 12 = .ok (.ifCond .eq 13, 3) := by decide +kernel
theorem dX12_end_15 : decode cX12_end 15 = .ok (.iload_n 2, 1) := by decide +kernel
theorem dX12_end_16 : decode cX12_end 16 = .ok (.i2l, 1) := by decide +kernel
theorem dX12_end_17 : decode cX12_end 17 = .ok (.lconst 0, 1) := by decide +kernel
theorem dX12_end_18 : decode cX12_end 18 = .ok (.lconst 1, 1) := by decide +kernel
theorem dX12_end_19 : decode cX12_end 19 = .ok (.invokestatic 118, 3) := by decide +kernel
theorem dX12_end_22 : decode cX12_end 22 = .ok (.ifCond .ne 7, 3) := by decide +kernel
theorem dX12_end_25 : decode cX12_end 25 = .ok (.ldc2_w 128, 3) := by decide +kernel
theorem dX12_end_28 : decode cX12_end 28 = .ok (.lreturn, 1) := by decide +kernel
theorem dX12_end_29 : decode cX12_end 29 = .ok (.aload_n 0, 1) := by decide +kernel
theorem dX12_end_30 : decode cX12_end 30 = .ok (.getfield 275, 3) := by decide +kernel
theorem dX12_end_33 : decode cX12_end 33 = .ok (.ifCond .ne 7, 3) := by decide +kernel
theorem dX12_end_36 : decode cX12_end 36 = .ok (.ldc2_w 335, 3) := by decide +kernel
theorem dX12_end_39 : decode cX12_end 39 = .ok (.lreturn, 1) := by decide +kernel
theorem dX12_end_40 : decode cX12_end 40 = .ok (.aload_n 0, 1) := by decide +kernel
theorem dX12_end_41 : decode cX12_end 41 = .ok (.invokevirtual 329, 3) := by decide +kernel
theorem dX12_end_44 : decode cX12_end 44 = .ok (.aload_n 0, 1) := by decide +kernel
theorem dX12_end_45 : decode cX12_end 45 = .ok (.invokevirtual 359, 3) := by decide +kernel
theorem dX12_end_48 : decode cX12_end 48 = .ok (.aload_n 0, 1) := by decide +kernel
theorem dX12_end_49 : decode cX12_end 49 = .ok (.iload_n 1, 1) := by decide +kernel
theorem dX12_end_50 : decode cX12_end 50 = .ok (.invokevirtual 368, 3) := by decide +kernel
theorem dX12_end_53 : decode cX12_end 53 = .ok (.ldc2_w 366, 3) := by decide +kernel
theorem dX12_end_56 : decode cX12_end 56 = .ok (.aload_n 0, 1) := by decide +kernel
theorem dX12_end_57 : decode cX12_end 57 = .ok (.getfield 349, 3) := by decide +kernel
theorem dX12_end_60 : decode cX12_end 60 = .ok (.lmul, 1) := by decide +kernel
theorem dX12_end_61 : decode cX12_end 61 = .ok (.iload_n 2, 1) := by decide +kernel
theorem dX12_end_62 : decode cX12_end 62 = .ok (.invokestatic 362, 3) := by decide +kernel
theorem dX12_end_65 : decode cX12_end 65 = .ok (.lreturn, 1) := by decide +kernel
theorem dX12_beside_0 : decode cX12_beside 0 = .ok (.aload_n 0, 1) := by decide +kernel
theorem dX12_beside_1 : decode cX12_beside 1 = .ok (.iconst 0, 1) := by decide +kernel
theorem dX12_beside_2 : decode cX12_beside 2 = .ok (.putfield 107, 3) := by decide +kernel
theorem dX12_beside_5 : decode cX12_beside 5 = .ok (.aload_n 0, 1) := by decide +kernel
theorem dX12_beside_6 : decode cX12_beside 6 = .ok (.getfield 275, 3) := by decide +kernel
theorem dX12_beside_9 : decode cX12_beside 9 = .ok (.ifCond .ne 7, 3) := by decide +kernel
theorem dX12_beside_12 : decode cX12_beside 12 = .ok (.ldc2_w 335, 3) := by decide +kernel
theorem dX12_beside_15 : decode cX12_beside 15 = .ok (.lreturn, 1) := by decide +kernel
theorem dX12_beside_16 : decode cX12_beside 16 = .ok (.iload_n 1, 1) := by decide +kernel
theorem dX12_beside_17 : decode cX12_beside 17 = .ok (.i2l, 1) := by decide +kernel
theorem dX12_beside_18 : decode cX12_beside 18 = .ok (.lconst 0, 1) := by decide +kernel
theorem dX12_beside_19 : decode cX12_beside 19 = .ok (.aload_n 0, 1) := by decide +kernel
theorem dX12_beside_20 : decode cX12_beside 20 = .ok (.getfield 279, 3) := by decide +kernel
theorem dX12_beside_23 : decode cX12_beside 23 = .ok (.iconst 1, 1) := by decide +kernel
theorem dX12_beside_24 : decode cX12_beside 24 = .ok (.isub, 1) := by decide +kernel
theorem dX12_beside_25 : decode cX12_beside 25 = .ok (.i2l, 1) := by decide +kernel
theorem dX12_beside_26 : decode cX12_beside 26 = .ok (.invokestatic 118, 3) := by decide +kernel
theorem dX12_beside_29 : decode cX12_beside 29 = .ok (.ifCond .eq 25, 3) := by decide +kernel
theorem dX12_beside_32 : decode cX12_beside 32 = .ok (.iload_n 2, 1) := by decide +kernel
theorem dX12_beside_33 : decode cX12_beside 33 = .ok (.i2l, 1) := by decide +kernel
theorem dX12_beside_34 : decode cX12_beside 34 = .ok (.lconst 0, 1) := by decide +kernel
theorem dX12_beside_35 : decode cX12_beside 35 = .ok (.ldc2_w 323, 3) := by decide +kernel
theorem dX12_beside_38 : decode cX12_beside 38 = .ok (.invokestatic 118, 3) := by decide +kernel
theorem dX12_beside_41 : decode cX12_beside 41 = .ok (.ifCond .eq 13, 3) := by decide +kernel
theorem dX12_beside_44 : decode cX12_beside 44 = .ok (.iload_n 3, 1) := by decide +kernel
theorem dX12_beside_45 : decode cX12_beside 45 = .ok (.i2l, 1) := by decide +kernel
theorem dX12_beside_46 : decode cX12_beside 46 = .ok (.lconst 0, 1) := by decide +kernel
theorem dX12_beside_47 : decode cX12_beside 47 = .ok (.lconst 1, 1) := by decide +kernel
theorem dX12_beside_48 : decode cX12_beside 48 = .ok (.invokestatic 118, 3) := by decide +kernel
theorem dX12_beside_51 : decode cX12_beside 51 = .ok (.ifCond .ne 7, 3) := by decide +kernel
theorem dX12_beside_54 : decode cX12_beside 54 = .ok (.ldc2_w 128, 3) := by decide +kernel
theorem dX12_beside_57 : decode cX12_beside 57 = .ok (.lreturn, 1) := by decide +kernel
theorem dX12_beside_58 : decode cX12_beside 58 = .ok (.aload_n 0, 1) := by decide +kernel
theorem dX12_beside_59 : decode cX12_beside 59 = .ok (.sipush 999, 3) := by decide +kernel
theorem dX12_beside_62 : decode cX12_beside 62 = .ok (.iconst (-1), 1) := by decide +kernel
theorem dX12_beside_63 : decode cX12_beside 63 = .ok (.iload_n 2, 1) := by decide +kernel
theorem dX12_beside_64 : decode cX12_beside 64 = .ok (.iload_n 1, 1) := by decide +kernel
theorem dX12_beside_65 : decode cX12_beside 65 = .ok (.iconst (-1), 1) := by decide +kernel
theorem dX12_beside_66 : decode cX12_beside 66 = .ok (.iconst (-1), 1) := by decide +kernel
theorem dX12_beside_67 : decode cX12_beside 67 = .ok (.invokevirtual 316, 3) := by decide +kernel
theorem dX12_beside_70 : decode cX12_beside 70 = .ok (.aload_n 0, 1) := by decide +kernel
theorem dX12_beside_71 : decode cX12_beside 71 = .ok (.invokevirtual 359, 3) := by decide +kernel
theorem dX12_beside_74 : decode cX12_beside 74 = .ok (.aload_n 0, 1) := by decide +kernel
theorem dX12_beside_75 : decode cX12_beside 75 = .ok (.iconst 0, 1) := by decide +kernel
theorem dX12_beside_76 : decode cX12_beside 76 = .ok (.invokevirtual 368, 3) := by decide +kernel
theorem dX12_beside_79 : decode cX12_beside 79 = .ok (.ldc2_w 366, 3) := by decide +kernel
theorem dX12_beside_82 : decode cX12_beside 82 = .ok (.aload_n 0, 1) := by decide +kernel
theorem dX12_beside_83 : decode cX12_beside 83 = .ok (.getfield 349, 3) := by decide +kernel
theorem dX12_beside_86 : decode cX12_beside 86 = .ok (.lmul, 1) := by decide +kernel
theorem dX12_beside_87 : decode cX12_beside 87 = .ok (.iload_n 3, 1) := by decide +kernel
theorem dX12_beside_88 : decode cX12_beside 88 = .ok (.invokestatic 362, 3) := by decide +kernel
theorem dX12_beside_91 : decode cX12_beside 91 = .ok (.lreturn, 1) := by decide +kernel
theorem dX12_hangs_0 : decode cX12_hangs 0 = .ok (.aload_n 0, 1) := by decide +kernel
theorem dX12_hangs_1 : decode cX12_hangs 1 = .ok (.iconst 0, 1) := by decide +kernel
theorem dX12_hangs_2 : decode cX12_hangs 2 = .ok (.putfield 107, 3) := by decide +kernel
theorem dX12_hangs_5 : decode cX12_hangs 5 = .ok (.aload_n 0, 1) := by decide +kernel
theorem dX12_hangs_6 : decode cX12_hangs 6 = .ok (.getfield 275, 3) := by decide +kernel
theorem dX12_hangs_9 : decode cX12_hangs 9 = .ok (.ifCond .ne 7, 3) := by decide +kernel
theorem dX12_hangs_12 : decode cX12_hangs 12 = .ok (.ldc2_w 335, 3) := by decide +kernel
theorem dX12_hangs_15 : decode cX12_hangs 15 = .ok (.lreturn, 1) := by decide +kernel
theorem dX12_hangs_16 : decode cX12_hangs 16 = .ok (.aload_n 0, 1) := by decide +kernel
theorem dX12_hangs_17 : decode cX12_hangs 17 = .ok (.invokevirtual 329, 3) := by decide +kernel
theorem dX12_hangs_20 : decode cX12_hangs 20 = .ok (.aload_n 0, 1) := by decide +kernel
theorem dX12_hangs_21 : decode cX12_hangs 21 = .ok (.invokevirtual 359, 3) := by decide +kernel
theorem dX12_hangs_24 : decode cX12_hangs 24 = .ok (.aload_n 0, 1) := by decide +kernel
theorem dX12_hangs_25 : decode cX12_hangs 25 = .ok (.iconst 0, 1) := by decide +kernel
theorem dX12_hangs_26 : decode cX12_hangs 26 = .ok (.invokevirtual 368, 3) := by decide +kernel
theorem dX12_hangs_29 : decode cX12_hangs 29 = .ok (.ldc2_w 366, 3) := by decide +kernel
theorem dX12_hangs_32 : decode cX12_hangs 32 = .ok (.aload_n 0, 1) := by decide +kernel
theorem dX12_hangs_33 : decode cX12_hangs 33 = .ok (.getfield 349, 3) := by decide +kernel
theorem dX12_hangs_36 : decode cX12_hangs 36 = .ok (.lmul, 1) := by decide +kernel
theorem dX12_hangs_37 : decode cX12_hangs 37 = .ok (.ldiv, 1) := by decide +kernel
theorem dX12_hangs_38 : decode cX12_hangs 38 = .ok (.lstore_n 1, 1) := by decide +kernel
theorem dX12_hangs_39 : decode cX12_hangs 39 = .ok (.ldc 146, 2) := by decide +kernel
theorem dX12_hangs_41 : decode cX12_hangs 41 = .ok (.istore_n 3, 1) := by decide +kernel
theorem dX12_hangs_42 : decode cX12_hangs 42 = .ok (.ldc2_w 199, 3) := by decide +kernel
theorem dX12_hangs_45 : decode cX12_hangs 45 = .ok (.lstore 4, 2) := by decide +kernel
theorem dX12_hangs_47 : decode cX12_hangs 47 = .ok (.iconst 0, 1) := by decide +kernel
theorem dX12_hangs_48 : decode cX12_hangs 48 = .ok (.istore 6, 2) := by decide +kernel
theorem dX12_hangs_50 : decode cX12_hangs 50 = .ok (.iload 6, 2) := by decide +kernel
theorem dX12_hangs_52 : decode cX12_hangs 52 = .ok (.aload_n 0, 1) := by decide +kernel
theorem dX12_hangs_53 : decode cX12_hangs 53 = .ok (.getfield 282, 3) := by decide +kernel
theorem dX12_hangs_56 : decode cX12_hangs 56 = .ok (.if_icmp .ge 122, 3) := by decide +kernel
theorem dX12_hangs_59 : decode cX12_hangs 59 = .ok (.aload_n 0, 1) := by decide +kernel
theorem dX12_hangs_60 : decode cX12_hangs 60 = .ok (.getfield 22, 3) := by decide +kernel
theorem dX12_hangs_63 : decode cX12_hangs 63 = .ok (.bipush 6, 2) := by decide +kernel
theorem dX12_hangs_65 : decode cX12_hangs 65 = .ok (.iload 6, 2) := by decide +kernel
theorem dX12_hangs_67 : decode cX12_hangs 67 = .ok (.imul, 1) := by decide +kernel
theorem dX12_hangs_68 : decode cX12_hangs 68 = .ok (.iaload, 1) := by decide +kernel
theorem dX12_hangs_69 : decode cX12_hangs 69 = .ok (.istore 7, 2) := by decide +kernel
theorem dX12_hangs_71 : decode cX12_hangs 71 = .ok (.iload 7, 2) := by decide +kernel
theorem dX12_hangs_73 : decode cX12_hangs 73 = .ok (.ifCond .eq 99, 3) := by decide +kernel
theorem dX12_hangs_76 : decode cX12_hangs 76 = .ok (.iload 7, 2) := by decide +kernel
theorem dX12_hangs_78 : decode cX12_hangs 78 = .ok (.iconst 1, 1) := by decide +kernel
theorem dX12_hangs_79 : decode cX12_hangs 79 = .ok (.if_icmp .eq 93, 3) := by decide +kernel
theorem dX12_hangs_82 : decode cX12_hangs 82 = .ok (.iload 7, 2) := by decide +kernel
theorem dX12_hangs_84 : decode cX12_hangs 84 = .ok (.iconst 5, 1) := by decide +kernel
theorem dX12_hangs_85 : decode cX12_hangs 85 = .ok (.if_icmp .eq 87, 3) := by decide +kernel
theorem dX12_hangs_88 : decode cX12_hangs 88 = .ok (.aload_n 0, 1) := by decide +kernel
theorem dX12_hangs_89 : decode cX12_hangs 89 = .ok (.sipush 999, 3) := by decide +kernel
theorem dX12_hangs_92 : decode cX12_hangs 92 = .ok (.iload 6, 2) := by decide +kernel
theorem dX12_hangs_94 : decode cX12_hangs 94 = .ok (.iconst (-1), 1) := by decide +kernel
theorem dX12_hangs_95 : decode cX12_hangs 95 = .ok (.iconst (-1), 1) := by decide +kernel
theorem dX12_hangs_96 : decode cX12_hangs 96 = .ok (.iconst (-1), 1) := by decide +kernel
theorem dX12_hangs_97 : decode cX12_hangs 97 = .ok (.iconst (-1), 1) := by decide +kernel
theorem dX12_hangs_98 : decode cX12_hangs 98 = .ok (.invokevirtual 316, 3) := by decide +kernel
theorem dX12_hangs_101 : decode cX12_hangs 101 = .ok (.aload_n 0, 1) := by decide +kernel
theorem dX12_hangs_102 : decode cX12_hangs 102 = .ok (.invokevirtual 359, 3) := by decide +kernel
theorem dX12_hangs_105 : decode cX12_hangs 105 = .ok (.aload_n 0, 1) := by decide +kernel
theorem dX12_hangs_106 : decode cX12_hangs 106 = .ok (.iconst 0, 1) := by decide +kernel
theorem dX12_hangs_107 : decode cX12_hangs 107 = .ok (.invokevirtual 368, 3) := by decide +kernel
theorem dX12_hangs_110 : decode cX12_hangs 110 = .ok (.ldc2_w 366, 3) := by decide +kernel
theorem dX12_hangs_113 : decode cX12_hangs 113 = .ok (.aload_n 0, 1) := by decide +kernel
theorem dX12_hangs_114 : decode cX12_hangs 114 = .ok (.getfield 349, 3) := by decide +kernel
theorem dX12_hangs_117 : decode cX12_hangs 117 = .ok (.lmul, 1) := by decide +kernel
theorem dX12_hangs_118 : decode cX12_hangs 118 = .ok (.ldiv, 1) := by decide +kernel
theorem dX12_hangs_119 : decode cX12_hangs 119 = .ok (.lload_n 1, 1) := by decide +kernel
theorem dX12_hangs_120 : decode cX12_hangs 120 = .ok (.lsub, 1) := by decide +kernel
theorem dX12_hangs_121 : decode cX12_hangs 121 = .ok (.lstore 8, 2) := by decide +kernel
theorem dX12_hangs_123 : decode cX12_hangs 123 = .ok (.lload 8, 2) := by decide +kernel
theorem dX12_hangs_125 : decode cX12_hangs 125 = .ok (.lconst 0, 1) := by decide +kernel
theorem dX12_hangs_126 : decode cX12_hangs 126 = .ok (.lcmp, 1) := by decide +kernel
theorem dX12_hangs_127 : decode cX12_hangs 127 = .ok (.ifCond .ge 9, 3) := by decide +kernel
theorem dX12_hangs_130 : decode cX12_hangs 130 = .ok (.lload 8, 2) := by decide +kernel
theorem dX12_hangs_132 : decode cX12_hangs 132 = .ok (.lneg, 1) := by decide +kernel
theorem dX12_hangs_133 : decode cX12_hangs 133 = .ok (.goto 5, 3) := by decide +kernel
theorem dX12_hangs_136 : decode cX12_hangs 136 = .ok (.lload 8, 2) := by decide +kernel
theorem dX12_hangs_138 : decode cX12_hangs 138 = .ok (.lstore 8, 2) := by decide +kernel
theorem dX12_hangs_140 : decode cX12_hangs 140 = .ok (.lload 8, 2) := by decide +kernel
theorem dX12_hangs_142 : decode cX12_hangs 142 = .ok (.lload 4, 2) := by decide +kernel
theorem dX12_hangs_144 : decode cX12_hangs 144 = .ok (.lcmp, 1) := by decide +kernel
theorem dX12_hangs_145 : decode cX12_hangs 145 = .ok (.ifCond .le 8, 3) := by decide +kernel
theorem dX12_hangs_148 : decode cX12_hangs 148 = .ok (.iload 6, 2) := by decide +kernel
theorem dX12_hangs_150 : decode cX12_hangs 150 = .ok (.goto 4, 3) := by decide +kernel
theorem dX12_hangs_153 : decode cX12_hangs 153 = .ok (.iload_n 3, 1) := by decide +kernel
theorem dX12_hangs_154 : decode cX12_hangs 154 = .ok (.istore_n 3, 1) := by decide +kernel
theorem dX12_hangs_155 : decode cX12_hangs 155 = .ok (.lload 8, 2) := by decide +kernel
theorem dX12_hangs_157 : decode cX12_hangs 157 = .ok (.lload 4, 2) := by decide +kernel
theorem dX12_hangs_159 : decode cX12_hangs 159 = .ok (.lcmp, 1) := by decide +kernel
theorem dX12_hangs_160 : decode cX12_hangs 160 = .ok (.ifCond .le 8, 3) := by decide +kernel
theorem dX12_hangs_163 : decode cX12_hangs 163 = .ok (.lload 8, 2) := by decide +kernel
theorem dX12_hangs_165 : decode cX12_hangs 165 = .ok (.goto 5, 3) := by decide +kernel
theorem dX12_hangs_168 : decode cX12_hangs 168 = .ok (.lload 4, 2) := by decide +kernel
theorem dX12_hangs_170 : decode cX12_hangs 170 = .ok (.lstore 4, 2) := by decide +kernel
theorem dX12_hangs_172 : decode cX12_hangs 172 = .ok (.iinc 6 1, 3) := by decide +kernel
theorem dX12_hangs_175 : decode cX12_hangs 175 = .ok (.goto (-125), 3) := by decide +kernel
theorem dX12_hangs_178 : decode cX12_hangs 178 = .ok (.iload_n 3, 1) := by decide +kernel
theorem dX12_hangs_179 : decode cX12_hangs 179 = .ok (.i2l, 1) := by decide +kernel
theorem dX12_hangs_180 : decode cX12_hangs 180 = .ok (.lreturn, 1) := by decide +kernel
theorem dX12_isWished_0 : decode cX12_isWished 0 = .ok (.aload_n 0, 1) := by decide +kernel
theorem dX12_isWished_1 : decode cX12_isWished 1 = .ok (.sipush 999, 3) := by decide +kernel
theorem dX12_isWished_4 : decode cX12_isWished 4 = .ok (.iconst (-1), 1) := by decide +kernel
theorem dX12_isWished_5 : decode cX12_isWished 5 = .ok (.iconst (-1), 1) := by decide +kernel
theorem dX12_isWished_6 : decode cX12_isWished 6 = .ok (.iconst (-1), 1) := by decide +kernel
theorem dX12_isWished_7 : decode cX12_isWished 7 = .ok (.iload_n 1, 1) := by decide +kernel
theorem dX12_isWished_8 : decode cX12_isWished 8 = .ok (.iload_n 2, 1) := by decide +kernel
theorem dX12_isWished_9 : decode cX12_isWished 9 = .ok (.invokevirtual 316, 3) := by decide +kernel
theorem dX12_isWished_12 : decode cX12_isWished 12 = .ok (.aload_n 0, 1) := by decide +kernel
theorem dX12_isWished_13 : decode cX12_isWished 13 = .ok (.invokevirtual 359, 3) := by decide +kernel
theorem dX12_isWished_16 : decode cX12_isWished 16 = .ok (.aload_n 0, 1) := by decide +kernel
theorem dX12_isWished_17 : decode cX12_isWished 17 = .ok (.iconst 0, 1) := by decide +kernel
end
section
theorem dX12_isWished_18 : decode cX12_isWished 18 = .ok (.invokevirtual 368, 3) := by decide +kernel
theorem dX12_isWished_21 : decode cX12_isWished 21 = .ok (.iload_n 3, 1) := by decide +kernel
theorem dX12_isWished_22 : decode cX12_isWished 22 = .ok (.i2l, 1) := by decide +kernel
theorem dX12_isWished_23 : decode cX12_isWished 23 = .ok (.ldc2_w 366, 3) := by decide +kernel
theorem dX12_isWished_26 : decode cX12_isWished 26 = .ok (.lmul, 1) := by decide +kernel
theorem dX12_isWished_27 : decode cX12_isWished 27 = .ok (.aload_n 0, 1) := by decide +kernel
theorem dX12_isWished_28 : decode cX12_isWished 28 = .ok (.getfield 349, 3) := by decide +kernel
theorem dX12_isWished_31 : decode cX12_isWished 31 = .ok (.lmul, 1) := by decide +kernel
theorem dX12_isWished_32 : decode cX12_isWished 32 = .ok (.lcmp, 1) := by decide +kernel
theorem dX12_isWished_33 : decode cX12_isWished 33 = .ok (.ifCond .lt 28, 3) := by decide +kernel
theorem dX12_isWished_36 : decode cX12_isWished 36 = .ok (.aload_n 0, 1) := by decide +kernel
theorem dX12_isWished_37 : decode cX12_isWished 37 = .ok (.iconst 1, 1) := by decide +kernel
theorem dX12_isWished_38 : decode cX12_isWished 38 = .ok (.invokevirtual 368, 3) := by decide +kernel
theorem dX12_isWished_41 : decode cX12_isWished 41 = .ok (.iload 4, 2) := by decide +kernel
theorem dX12_isWished_43 : decode cX12_isWished 43 = .ok (.i2l, 1) := by decide +kernel
theorem dX12_isWished_44 : decode cX12_isWished 44 = .ok (.ldc2_w 366, 3) := by decide +kernel
theorem dX12_isWished_47 : decode cX12_isWished 47 = .ok (.lmul, 1) := by decide +kernel
theorem dX12_isWished_48 : decode cX12_isWished 48 = .ok (.aload_n 0, 1) := by decide +kernel
theorem dX12_isWished_49 : decode cX12_isWished 49 = .ok (.getfield 349, 3) := by decide +kernel
theorem dX12_isWished_52 : decode cX12_isWished 52 = .ok (.lmul, 1) := by decide +kernel
theorem dX12_isWished_53 : decode cX12_isWished 53 = .ok (.lcmp, 1) := by decide +kernel
theorem dX12_isWished_54 : decode cX12_isWished 54 = .ok (.ifCond .lt 7, 3) := by decide +kernel
theorem dX12_isWished_57 : decode cX12_isWished 57 = .ok (.iconst 1, 1) := by decide +kernel
theorem dX12_isWished_58 : decode cX12_isWished 58 = .ok (.goto 4, 3) := by decide +kernel
theorem dX12_isWished_61 : decode cX12_isWished 61 = .ok (.iconst 0, 1) := by decide +kernel
theorem dX12_isWished_62 : decode cX12_isWished 62 = .ok (.ireturn, 1) := by decide +kernel
theorem dX12_beforehand_0 : decode cX12_beforehand 0 = .ok (.aload_n 0, 1) := by decide +kernel
theorem dX12_beforehand_1 : decode cX12_beforehand 1 = .ok (.iconst 0, 1) := by decide +kernel
theorem dX12_beforehand_2 : decode cX12_beforehand 2 = .ok (.putfield 107, 3) := by decide +kernel
theorem dX12_beforehand_5 : decode cX12_beforehand 5 = .ok (.iload_n 1, 1) := by decide +kernel
theorem dX12_beforehand_6 : decode cX12_beforehand 6 = .ok (.i2l, 1) := by decide +kernel
theorem dX12_beforehand_7 : decode cX12_beforehand 7 = .ok (.ldc2_w 371, 3) := by decide +kernel
theorem dX12_beforehand_10 : decode cX12_beforehand 10 = .ok (.ldc2_w 373, 3) := by decide +kernel
theorem dX12_beforehand_13 : decode cX12_beforehand 13 = .ok (.invokestatic 118, 3) := by decide +kernel
theorem dX12_beforehand_16 : decode cX12_beforehand 16 = .ok (.ifCond .eq 17, 3) := by decide +kernel
theorem dX12_beforehand_19 : decode cX12_beforehand 19 = .ok (.iload_n 2, 1) := by decide +kernel
theorem dX12_beforehand_20 : decode cX12_beforehand 20 = .ok (.i2l, 1) := by decide +kernel
theorem dX12_beforehand_21 : decode cX12_beforehand 21 = .ok (.ldc2_w 371, 3) := by decide +kernel
theorem dX12_beforehand_24 : decode cX12_beforehand 24 = .ok (.ldc2_w 373, 3) := by decide +kernel
theorem dX12_beforehand_27 : decode cX12_beforehand 27 = .ok (.invokestatic 118, 3) := by decide +kernel
theorem dX12_beforehand_30 : decode cX12_beforehand 30 = .ok (.ifCond .ne 7, 3) := by decide +kernel
theorem dX12_beforehand_33 : decode cX12_beforehand 33 = .ok (.ldc2_w 128, 3) := by decide +kernel
theorem dX12_beforehand_36 : decode cX12_beforehand 36 = .ok (.lreturn, 1) := by decide +kernel
theorem dX12_beforehand_37 : decode cX12_beforehand 37 = .ok (.aload_n 0, 1) := by decide +kernel
theorem dX12_beforehand_38 : decode cX12_beforehand 38 = .ok (.getfield 275, 3) := by decide +kernel
theorem dX12_beforehand_41 : decode cX12_beforehand 41 = .ok (.ifCond .ne 7, 3) := by decide +kernel
theorem dX12_beforehand_44 : decode cX12_beforehand 44 = .ok (.ldc2_w 335, 3) := by decide +kernel
theorem dX12_beforehand_47 : decode cX12_beforehand 47 = .ok (.lreturn, 1) := by decide +kernel
theorem dX12_beforehand_48 : decode cX12_beforehand 48 = .ok (.aload_n 0, 1) := by decide +kernel
theorem dX12_beforehand_49 : decode cX12_beforehand 49 = .ok (.iconst (-1), 1) := by decide +kernel
theorem dX12_beforehand_50 : decode cX12_beforehand 50 = .ok (.iconst (-1), 1) := by decide +kernel
theorem dX12_beforehand_51 : decode cX12_beforehand 51 = .ok (.iload_n 1, 1) := by decide +kernel
theorem dX12_beforehand_52 : decode cX12_beforehand 52 = .ok (.iload_n 2, 1) := by decide +kernel
theorem dX12_beforehand_53 : decode cX12_beforehand 53 = .ok (.invokevirtual 375, 3) := by decide +kernel
theorem dX12_beforehand_56 : decode cX12_beforehand 56 = .ok (.ifCond .eq 7, 3) := by decide +kernel
theorem dX12_beforehand_59 : decode cX12_beforehand 59 = .ok (.ldc2_w 379, 3) := by decide +kernel
theorem dX12_beforehand_62 : decode cX12_beforehand 62 = .ok (.lreturn, 1) := by decide +kernel
theorem dX12_beforehand_63 : decode cX12_beforehand 63 = .ok (.iconst 0, 1) := by decide +kernel
theorem dX12_beforehand_64 : decode cX12_beforehand 64 = .ok (.istore_n 3, 1) := by decide +kernel
theorem dX12_beforehand_65 : decode cX12_beforehand 65 = .ok (.iload_n 3, 1) := by decide +kernel
theorem dX12_beforehand_66 : decode cX12_beforehand 66 = .ok (.bipush 15, 2) := by decide +kernel
theorem dX12_beforehand_68 : decode cX12_beforehand 68 = .ok (.if_icmp .ge 27, 3) := by decide +kernel
theorem dX12_beforehand_71 : decode cX12_beforehand 71 = .ok (.aload_n 0, 1) := by decide +kernel
theorem dX12_beforehand_72 : decode cX12_beforehand 72 = .ok (.iload_n 3, 1) := by decide +kernel
theorem dX12_beforehand_73 : decode cX12_beforehand 73 = .ok (.iconst 3, 1) := by decide +kernel
theorem dX12_beforehand_74 : decode cX12_beforehand 74 = .ok (.idiv, 1) := by decide +kernel
theorem dX12_beforehand_75 : decode cX12_beforehand 75 = .ok (.iload_n 3, 1) := by decide +kernel
theorem dX12_beforehand_76 : decode cX12_beforehand 76 = .ok (.iconst 3, 1) := by decide +kernel
theorem dX12_beforehand_77 : decode cX12_beforehand 77 = .ok (.irem, 1) := by decide +kernel
theorem dX12_beforehand_78 : decode cX12_beforehand 78 = .ok (.iload_n 1, 1) := by decide +kernel
theorem dX12_beforehand_79 : decode cX12_beforehand 79 = .ok (.iload_n 2, 1) := by decide +kernel
theorem dX12_beforehand_80 : decode cX12_beforehand 80 = .ok (.invokevirtual 375, 3) := by decide +kernel
theorem dX12_beforehand_83 : decode cX12_beforehand 83 = .ok (.ifCond .eq 6, 3) := by decide +kernel
theorem dX12_beforehand_86 : decode cX12_beforehand 86 = .ok (.iload_n 3, 1) := by decide +kernel
theorem dX12_beforehand_87 : decode cX12_beforehand 87 = .ok (.i2l, 1) := by decide +kernel
theorem dX12_beforehand_88 : decode cX12_beforehand 88 = .ok (.lreturn, 1) := by decide +kernel
theorem dX12_beforehand_89 : decode cX12_beforehand 89 = .ok (.iinc 3 1, 3) := by decide +kernel
theorem dX12_beforehand_92 : decode cX12_beforehand 92 = .ok (.goto (-27), 3) := by decide +kernel
theorem dX12_beforehand_95 : decode cX12_beforehand 95 = .ok (.ldc2_w 325, 3) := by decide +kernel
theorem dX12_beforehand_98 : decode cX12_beforehand 98 = .ok (.lreturn, 1) := by decide +kernel
theorem dX12_isFed_0 : decode cX12_isFed 0 = .ok (.iconst 0, 1) := by decide +kernel
theorem dX12_isFed_1 : decode cX12_isFed 1 = .ok (.istore_n 2, 1) := by decide +kernel
theorem dX12_isFed_2 : decode cX12_isFed 2 = .ok (.iconst 0, 1) := by decide +kernel
theorem dX12_isFed_3 : decode cX12_isFed 3 = .ok (.istore_n 3, 1) := by decide +kernel
theorem dX12_isFed_4 : decode cX12_isFed 4 = .ok (.iload_n 3, 1) := by decide +kernel
theorem dX12_isFed_5 : decode cX12_isFed 5 = .ok (.aload_n 0, 1) := by decide +kernel
theorem dX12_isFed_6 : decode cX12_isFed 6 = .ok (.getfield 294, 3) := by decide +kernel
theorem dX12_isFed_9 : decode cX12_isFed 9 = .ok (.if_icmp .ge 44, 3) := by decide +kernel
theorem dX12_isFed_12 : decode cX12_isFed 12 = .ok (.iload_n 2, 1) := by decide +kernel
theorem dX12_isFed_13 : decode cX12_isFed 13 = .ok (.ifCond .ne 28, 3) := by decide +kernel
theorem dX12_isFed_16 : decode cX12_isFed 16 = .ok (.aload_n 0, 1) := by decide +kernel
theorem dX12_isFed_17 : decode cX12_isFed 17 = .ok (.getfield 70, 3) := by decide +kernel
theorem dX12_isFed_20 : decode cX12_isFed 20 = .ok (.iload_n 3, 1) := by decide +kernel
theorem dX12_isFed_21 : decode cX12_isFed 21 = .ok (.iaload, 1) := by decide +kernel
theorem dX12_isFed_22 : decode cX12_isFed 22 = .ok (.iload_n 1, 1) := by decide +kernel
theorem dX12_isFed_23 : decode cX12_isFed 23 = .ok (.if_icmp .ne 22, 3) := by decide +kernel
theorem dX12_isFed_26 : decode cX12_isFed 26 = .ok (.aload_n 0, 1) := by decide +kernel
theorem dX12_isFed_27 : decode cX12_isFed 27 = .ok (.getfield 73, 3) := by decide +kernel
theorem dX12_isFed_30 : decode cX12_isFed 30 = .ok (.iload_n 3, 1) := by decide +kernel
theorem dX12_isFed_31 : decode cX12_isFed 31 = .ok (.iaload, 1) := by decide +kernel
theorem dX12_isFed_32 : decode cX12_isFed 32 = .ok (.aload_n 0, 1) := by decide +kernel
theorem dX12_isFed_33 : decode cX12_isFed 33 = .ok (.getfield 37, 3) := by decide +kernel
theorem dX12_isFed_36 : decode cX12_isFed 36 = .ok (.iload_n 1, 1) := by decide +kernel
theorem dX12_isFed_37 : decode cX12_isFed 37 = .ok (.iaload, 1) := by decide +kernel
theorem dX12_isFed_38 : decode cX12_isFed 38 = .ok (.if_icmp .eq 7, 3) := by decide +kernel
theorem dX12_isFed_41 : decode cX12_isFed 41 = .ok (.iconst 1, 1) := by decide +kernel
theorem dX12_isFed_42 : decode cX12_isFed 42 = .ok (.goto 4, 3) := by decide +kernel
theorem dX12_isFed_45 : decode cX12_isFed 45 = .ok (.iconst 0, 1) := by decide +kernel
theorem dX12_isFed_46 : decode cX12_isFed 46 = .ok (.istore_n 2, 1) := by decide +kernel
theorem dX12_isFed_47 : decode cX12_isFed 47 = .ok (.iinc 3 1, 3) := by decide +kernel
theorem dX12_isFed_50 : decode cX12_isFed 50 = .ok (.goto (-46), 3) := by decide +kernel
theorem dX12_isFed_53 : decode cX12_isFed 53 = .ok (.iload_n 2, 1) := by decide +kernel
theorem dX12_isFed_54 : decode cX12_isFed 54 = .ok (.ireturn, 1) := by decide +kernel
theorem dX12_kindOf_0 : decode cX12_kindOf 0 = .ok (.aload_n 0, 1) := by decide +kernel
theorem dX12_kindOf_1 : decode cX12_kindOf 1 = .ok (.getfield 37, 3) := by decide +kernel
theorem dX12_kindOf_4 : decode cX12_kindOf 4 = .ok (.iload_n 1, 1) := by decide +kernel
theorem dX12_kindOf_5 : decode cX12_kindOf 5 = .ok (.iaload, 1) := by decide +kernel
theorem dX12_kindOf_6 : decode cX12_kindOf 6 = .ok (.iconst 2, 1) := by decide +kernel
theorem dX12_kindOf_7 : decode cX12_kindOf 7 = .ok (.if_icmp .ne 19, 3) := by decide +kernel
theorem dX12_kindOf_10 : decode cX12_kindOf 10 = .ok (.aload_n 0, 1) := by decide +kernel
theorem dX12_kindOf_11 : decode cX12_kindOf 11 = .ok (.getfield 61, 3) := by decide +kernel
theorem dX12_kindOf_14 : decode cX12_kindOf 14 = .ok (.iload_n 1, 1) := by decide +kernel
theorem dX12_kindOf_15 : decode cX12_kindOf 15 = .ok (.iaload, 1) := by decide +kernel
theorem dX12_kindOf_16 : decode cX12_kindOf 16 = .ok (.iconst 4, 1) := by decide +kernel
theorem dX12_kindOf_17 : decode cX12_kindOf 17 = .ok (.if_icmp .ne 7, 3) := by decide +kernel
theorem dX12_kindOf_20 : decode cX12_kindOf 20 = .ok (.iconst 5, 1) := by decide +kernel
theorem dX12_kindOf_21 : decode cX12_kindOf 21 = .ok (.goto 4, 3) := by decide +kernel
theorem dX12_kindOf_24 : decode cX12_kindOf 24 = .ok (.iconst 2, 1) := by decide +kernel
theorem dX12_kindOf_25 : decode cX12_kindOf 25 = .ok (.ireturn, 1) := by decide +kernel
theorem dX12_kindOf_26 : decode cX12_kindOf 26 = .ok (.aload_n 0, 1) := by decide +kernel
theorem dX12_kindOf_27 : decode cX12_kindOf 27 = .ok (.iload_n 1, 1) := by decide +kernel
theorem dX12_kindOf_28 : decode cX12_kindOf 28 = .ok (.invokevirtual 381, 3) := by decide +kernel
theorem dX12_kindOf_31 : decode cX12_kindOf 31 = .ok (.ifCond .ne 7, 3) := by decide +kernel
theorem dX12_kindOf_34 : decode cX12_kindOf 34 = .ok (.iconst 1, 1) := by decide +kernel
theorem dX12_kindOf_35 : decode cX12_kindOf 35 = .ok (.goto 23, 3) := by decide +kernel
theorem dX12_kindOf_38 : decode cX12_kindOf 38 = .ok (.aload_n 0, 1) := by decide +kernel
theorem dX12_kindOf_39 : decode cX12_kindOf 39 = .ok (.getfield 40, 3) := by decide +kernel
theorem dX12_kindOf_42 : decode cX12_kindOf 42 = .ok (.iload_n 1, 1) := by decide +kernel
theorem dX12_kindOf_43 : decode cX12_kindOf 43 = .ok (.iaload, 1) := by decide +kernel
theorem dX12_kindOf_44 : decode cX12_kindOf 44 = .ok (.aload_n 0, 1) := by decide +kernel
theorem dX12_kindOf_45 : decode cX12_kindOf 45 = .ok (.getfield 37, 3) := by decide +kernel
theorem dX12_kindOf_48 : decode cX12_kindOf 48 = .ok (.iload_n 1, 1) := by decide +kernel
theorem dX12_kindOf_49 : decode cX12_kindOf 49 = .ok (.iaload, 1) := by decide +kernel
theorem dX12_kindOf_50 : decode cX12_kindOf 50 = .ok (.if_icmp .ne 7, 3) := by decide +kernel
theorem dX12_kindOf_53 : decode cX12_kindOf 53 = .ok (.iconst 3, 1) := by decide +kernel
theorem dX12_kindOf_54 : decode cX12_kindOf 54 = .ok (.goto 4, 3) := by decide +kernel
theorem dX12_kindOf_57 : decode cX12_kindOf 57 = .ok (.iconst 4, 1) := by decide +kernel
theorem dX12_kindOf_58 : decode cX12_kindOf 58 = .ok (.ireturn, 1) := by decide +kernel
theorem dX12_isOf_0 : decode cX12_isOf 0 = .ok (.iload_n 1, 1) := by decide +kernel
theorem dX12_isOf_1 : decode cX12_isOf 1 = .ok (.ifCond .eq 47, 3) := by decide +kernel
theorem dX12_isOf_4 : decode cX12_isOf 4 = .ok (.iload_n 0, 1) := by decide +kernel
theorem dX12_isOf_5 : decode cX12_isOf 5 = .ok (.iload_n 1, 1) := by decide +kernel
theorem dX12_isOf_6 : decode cX12_isOf 6 = .ok (.if_icmp .eq 42, 3) := by decide +kernel
theorem dX12_isOf_9 : decode cX12_isOf 9 = .ok (.iload_n 1, 1) := by decide +kernel
theorem dX12_isOf_10 : decode cX12_isOf 10 = .ok (.iconst 1, 1) := by decide +kernel
theorem dX12_isOf_11 : decode cX12_isOf 11 = .ok (.if_icmp .ne 17, 3) := by decide +kernel
theorem dX12_isOf_14 : decode cX12_isOf 14 = .ok (.iload_n 0, 1) := by decide +kernel
theorem dX12_isOf_15 : decode cX12_isOf 15 = .ok (.i2l, 1) := by decide +kernel
theorem dX12_isOf_16 : decode cX12_isOf 16 = .ok (.ldc2_w 340, 3) := by decide +kernel
theorem dX12_isOf_19 : decode cX12_isOf 19 = .ok (.ldc2_w 384, 3) := by decide +kernel
theorem dX12_isOf_22 : decode cX12_isOf 22 = .ok (.invokestatic 118, 3) := by decide +kernel
theorem dX12_isOf_25 : decode cX12_isOf 25 = .ok (.ifCond .ne 23, 3) := by decide +kernel
theorem dX12_isOf_28 : decode cX12_isOf 28 = .ok (.iload_n 1, 1) := by decide +kernel
theorem dX12_isOf_29 : decode cX12_isOf 29 = .ok (.iconst 3, 1) := by decide +kernel
theorem dX12_isOf_30 : decode cX12_isOf 30 = .ok (.if_icmp .ne 8, 3) := by decide +kernel
theorem dX12_isOf_33 : decode cX12_isOf 33 = .ok (.iload_n 0, 1) := by decide +kernel
theorem dX12_isOf_34 : decode cX12_isOf 34 = .ok (.iconst 4, 1) := by decide +kernel
theorem dX12_isOf_35 : decode cX12_isOf 35 = .ok (.if_icmp .eq 13, 3) := by decide +kernel
theorem dX12_isOf_38 : decode cX12_isOf 38 = .ok (.iload_n 1, 1) := by decide +kernel
theorem dX12_isOf_39 : decode cX12_isOf 39 = .ok (.iconst 2, 1) := by decide +kernel
theorem dX12_isOf_40 : decode cX12_isOf 40 = .ok (.if_icmp .ne 12, 3) := by decide +kernel
theorem dX12_isOf_43 : decode cX12_isOf 43 = .ok (.iload_n 0, 1) := by decide +kernel
theorem dX12_isOf_44 : decode cX12_isOf 44 = .ok (.iconst 5, 1) := by decide +kernel
theorem dX12_isOf_45 : decode cX12_isOf 45 = .ok (.if_icmp .ne 7, 3) := by decide +kernel
theorem dX12_isOf_48 : decode cX12_isOf 48 = .ok (.iconst 1, 1) := by decide +kernel
theorem dX12_isOf_49 : decode cX12_isOf 49 = .ok (.goto 4, 3) := by decide +kernel
theorem dX12_isOf_52 : decode cX12_isOf 52 = .ok (.iconst 0, 1) := by decide +kernel
theorem dX12_isOf_53 : decode cX12_isOf 53 = .ok (.ireturn, 1) := by decide +kernel
theorem dX12_kind_0 : decode cX12_kind 0 = .ok (.aload_n 0, 1) := by decide +kernel
theorem dX12_kind_1 : decode cX12_kind 1 = .ok (.iconst 0, 1) := by decide +kernel
theorem dX12_kind_2 : decode cX12_kind 2 = .ok (.putfield 107, 3) := by decide +kernel
theorem dX12_kind_5 : decode cX12_kind 5 = .ok (.aload_n 0, 1) := by decide +kernel
theorem dX12_kind_6 : decode cX12_kind 6 = .ok (.iload_n 1, 1) := by decide +kernel
theorem dX12_kind_7 : decode cX12_kind 7 = .ok (.invokevirtual 320, 3) := by decide +kernel
theorem dX12_kind_10 : decode cX12_kind 10 = .ok (.ifCond .ne 7, 3) := by decide +kernel
theorem dX12_kind_13 : decode cX12_kind 13 = .ok (.ldc2_w 128, 3) := by decide +kernel
theorem dX12_kind_16 : decode cX12_kind 16 = .ok (.lreturn, 1) := by decide +kernel
theorem dX12_kind_17 : decode cX12_kind 17 = .ok (.aload_n 0, 1) := by decide +kernel
theorem dX12_kind_18 : decode cX12_kind 18 = .ok (.invokevirtual 329, 3) := by decide +kernel
theorem dX12_kind_21 : decode cX12_kind 21 = .ok (.aload_n 0, 1) := by decide +kernel
theorem dX12_kind_22 : decode cX12_kind 22 = .ok (.iload_n 1, 1) := by decide +kernel
theorem dX12_kind_23 : decode cX12_kind 23 = .ok (.invokevirtual 386, 3) := by decide +kernel
theorem dX12_kind_26 : decode cX12_kind 26 = .ok (.i2l, 1) := by decide +kernel
theorem dX12_kind_27 : decode cX12_kind 27 = .ok (.lreturn, 1) := by decide +kernel
theorem dX12_as_0 : decode cX12_as 0 = .ok (.aload_n 0, 1) := by decide +kernel
theorem dX12_as_1 : decode cX12_as 1 = .ok (.iconst 0, 1) := by decide +kernel
theorem dX12_as_2 : decode cX12_as 2 = .ok (.putfield 107, 3) := by decide +kernel
theorem dX12_as_5 : decode cX12_as 5 = .ok (.aload_n 0, 1) := by decide +kernel
theorem dX12_as_6 : decode cX12_as 6 = .ok (.iload_n 1, 1) := by decide +kernel
theorem dX12_as_7 : decode cX12_as 7 = .ok (.invokevirtual 320, 3) := by decide +kernel
theorem dX12_as_10 : decode cX12_as 10 = .ok (.ifCond .eq 15, 3) := by decide +kernel
theorem dX12_as_13 : decode cX12_as 13 = .ok (.iload_n 2, 1) := by decide +kernel
theorem dX12_as_14 : decode cX12_as 14 = .ok (.i2l, 1) := by decide +kernel
theorem dX12_as_15 : decode cX12_as 15 = .ok (.lconst 0, 1) := by decide +kernel
theorem dX12_as_16 : decode cX12_as 16 = .ok (.ldc2_w 389, 3) := by decide +kernel
theorem dX12_as_19 : decode cX12_as 19 = .ok (.invokestatic 118, 3) := by decide +kernel
theorem dX12_as_22 : decode cX12_as 22 = .ok (.ifCond .ne 7, 3) := by decide +kernel
theorem dX12_as_25 : decode cX12_as 25 = .ok (.ldc2_w 128, 3) := by decide +kernel
theorem dX12_as_28 : decode cX12_as 28 = .ok (.lreturn, 1) := by decide +kernel
theorem dX12_as_29 : decode cX12_as 29 = .ok (.aload_n 0, 1) := by decide +kernel
theorem dX12_as_30 : decode cX12_as 30 = .ok (.iconst 0, 1) := by decide +kernel
theorem dX12_as_31 : decode cX12_as 31 = .ok (.putfield 111, 3) := by decide +kernel
theorem dX12_as_34 : decode cX12_as 34 = .ok (.aload_n 0, 1) := by decide +kernel
theorem dX12_as_35 : decode cX12_as 35 = .ok (.invokevirtual 329, 3) := by decide +kernel
theorem dX12_as_38 : decode cX12_as 38 = .ok (.aload_n 0, 1) := by decide +kernel
theorem dX12_as_39 : decode cX12_as 39 = .ok (.iload_n 1, 1) := by decide +kernel
theorem dX12_as_40 : decode cX12_as 40 = .ok (.invokevirtual 386, 3) := by decide +kernel
theorem dX12_as_43 : decode cX12_as 43 = .ok (.iload_n 2, 1) := by decide +kernel
theorem dX12_as_44 : decode cX12_as 44 = .ok (.invokestatic 391, 3) := by decide +kernel
theorem dX12_as_47 : decode cX12_as 47 = .ok (.ifCond .eq 8, 3) := by decide +kernel
theorem dX12_as_50 : decode cX12_as 50 = .ok (.iload_n 1, 1) := by decide +kernel
theorem dX12_as_51 : decode cX12_as 51 = .ok (.i2l, 1) := by decide +kernel
theorem dX12_as_52 : decode cX12_as 52 = .ok (.goto 8, 3) := by decide +kernel
theorem dX12_as_55 : decode cX12_as 55 = .ok (.aload_n 0, 1) := by decide +kernel
theorem dX12_as_56 : decode cX12_as 56 = .ok (.iconst 3, 1) := by decide +kernel
theorem dX12_as_57 : decode cX12_as 57 = .ok (.invokevirtual 130, 3) := by decide +kernel
theorem dX12_as_60 : decode cX12_as 60 = .ok (.lreturn, 1) := by decide +kernel
theorem dX12_began_0 : decode cX12_began 0 = .ok (.aload_n 0, 1) := by decide +kernel
theorem dX12_began_1 : decode cX12_began 1 = .ok (.getfield 395, 3) := by decide +kernel
theorem dX12_began_4 : decode cX12_began 4 = .ok (.bipush 16, 2) := by decide +kernel
theorem dX12_began_6 : decode cX12_began 6 = .ok (.if_icmp .ge 23, 3) := by decide +kernel
theorem dX12_began_9 : decode cX12_began 9 = .ok (.aload_n 0, 1) := by decide +kernel
theorem dX12_began_10 : decode cX12_began 10 = .ok (.getfield 104, 3) := by decide +kernel
theorem dX12_began_13 : decode cX12_began 13 = .ok (.aload_n 0, 1) := by decide +kernel
theorem dX12_began_14 : decode cX12_began 14 = .ok (.getfield 395, 3) := by decide +kernel
theorem dX12_began_17 : decode cX12_began 17 = .ok (.iload_n 1, 1) := by decide +kernel
theorem dX12_began_18 : decode cX12_began 18 = .ok (.iastore, 1) := by decide +kernel
theorem dX12_began_19 : decode cX12_began 19 = .ok (.aload_n 0, 1) := by decide +kernel
theorem dX12_began_20 : decode cX12_began 20 = .ok (.dup, 1) := by decide +kernel
theorem dX12_began_21 : decode cX12_began 21 = .ok (.getfield 395, 3) := by decide +kernel
theorem dX12_began_24 : decode cX12_began 24 = .ok (.iconst 1, 1) := by decide +kernel
theorem dX12_began_25 : decode cX12_began 25 = .ok (.iadd, 1) := by decide +kernel
theorem dX12_began_26 : decode cX12_began 26 = .ok (.putfield 395, 3) := by decide +kernel
theorem dX12_began_29 : decode cX12_began 29 = .ok (.return_, 1) := by decide +kernel
theorem dX12_commonSize_0 : decode cX12_commonSize 0 = .ok (.aload_n 0, 1) := by decide +kernel
theorem dX12_commonSize_1 : decode cX12_commonSize 1 = .ok (.bipush 14, 2) := by decide +kernel
theorem dX12_commonSize_3 : decode cX12_commonSize 3 = .ok (.invokevirtual 398, 3) := by decide +kernel
theorem dX12_commonSize_6 : decode cX12_commonSize 6 = .ok (.aload_n 0, 1) := by decide +kernel
theorem dX12_commonSize_7 : decode cX12_commonSize 7 = .ok (.bipush 10, 2) := by decide +kernel
theorem dX12_commonSize_9 : decode cX12_commonSize 9 = .ok (.invokevirtual 398, 3) := by decide +kernel
theorem dX12_commonSize_12 : decode cX12_commonSize 12 = .ok (.iconst 3, 1) := by decide +kernel
theorem dX12_commonSize_13 : decode cX12_commonSize 13 = .ok (.aload_n 0, 1) := by decide +kernel
theorem dX12_commonSize_14 : decode cX12_commonSize 14 = .ok (.getfield 52, 3) := by decide +kernel
theorem dX12_commonSize_17 : decode cX12_commonSize 17 = .ok (.iload_n 1, 1) := by decide +kernel
theorem dX12_commonSize_18 : decode cX12_commonSize 18 = .ok (.iaload, 1) := by decide +kernel
theorem dX12_commonSize_19 : decode cX12_commonSize 19 = .ok (.imul, 1) := by decide +kernel
theorem dX12_commonSize_20 : decode cX12_commonSize 20 = .ok (.ireturn, 1) := by decide +kernel
theorem dX12_markOf_0 : decode cX12_markOf 0 = .ok (.iload_n 2, 1) := by decide +kernel
theorem dX12_markOf_1 : decode cX12_markOf 1 = .ok (.iconst 4, 1) := by decide +kernel
theorem dX12_markOf_2 : decode cX12_markOf 2 = .ok (.if_icmp .eq 8, 3) := by decide +kernel
theorem dX12_markOf_5 : decode cX12_markOf 5 = .ok (.iload_n 2, 1) := by decide +kernel
theorem dX12_markOf_6 : decode cX12_markOf 6 = .ok (.iconst 5, 1) := by decide +kernel
theorem dX12_markOf_7 : decode cX12_markOf 7 = .ok (.if_icmp .ne 19, 3) := by decide +kernel
theorem dX12_markOf_10 : decode cX12_markOf 10 = .ok (.aload_n 0, 1) := by decide +kernel
theorem dX12_markOf_11 : decode cX12_markOf 11 = .ok (.iload_n 2, 1) := by decide +kernel
theorem dX12_markOf_12 : decode cX12_markOf 12 = .ok (.iconst 4, 1) := by decide +kernel
theorem dX12_markOf_13 : decode cX12_markOf 13 = .ok (.if_icmp .ne 8, 3) := by decide +kernel
theorem dX12_markOf_16 : decode cX12_markOf 16 = .ok (.bipush 23, 2) := by decide +kernel
theorem dX12_markOf_18 : decode cX12_markOf 18 = .ok (.goto 5, 3) := by decide +kernel
theorem dX12_markOf_21 : decode cX12_markOf 21 = .ok (.bipush 22, 2) := by decide +kernel
theorem dX12_markOf_23 : decode cX12_markOf 23 = .ok (.invokevirtual 398, 3) := by decide +kernel
theorem dX12_markOf_26 : decode cX12_markOf 26 = .ok (.iload_n 2, 1) := by decide +kernel
theorem dX12_markOf_27 : decode cX12_markOf 27 = .ok (.iconst 1, 1) := by decide +kernel
theorem dX12_markOf_28 : decode cX12_markOf 28 = .ok (.invokestatic 391, 3) := by decide +kernel
theorem dX12_markOf_31 : decode cX12_markOf 31 = .ok (.istore_n 3, 1) := by decide +kernel
theorem dX12_markOf_32 : decode cX12_markOf 32 = .ok (.iload_n 3, 1) := by decide +kernel
theorem dX12_markOf_33 : decode cX12_markOf 33 = .ok (.ifCond .eq 9, 3) := by decide +kernel
theorem dX12_markOf_36 : decode cX12_markOf 36 = .ok (.aload_n 0, 1) := by decide +kernel
theorem dX12_markOf_37 : decode cX12_markOf 37 = .ok (.bipush 21, 2) := by decide +kernel
theorem dX12_markOf_39 : decode cX12_markOf 39 = .ok (.invokevirtual 398, 3) := by decide +kernel
theorem dX12_markOf_42 : decode cX12_markOf 42 = .ok (.aload_n 0, 1) := by decide +kernel
theorem dX12_markOf_43 : decode cX12_markOf 43 = .ok (.bipush 20, 2) := by decide +kernel
theorem dX12_markOf_45 : decode cX12_markOf 45 = .ok (.invokevirtual 398, 3) := by decide +kernel
theorem dX12_markOf_48 : decode cX12_markOf 48 = .ok (.iload_n 1, 1) := by decide +kernel
theorem dX12_markOf_49 : decode cX12_markOf 49 = .ok (.iload_n 3, 1) := by decide +kernel
theorem dX12_markOf_50 : decode cX12_markOf 50 = .ok (.ifCond .eq 15, 3) := by decide +kernel
theorem dX12_markOf_53 : decode cX12_markOf 53 = .ok (.bipush 10, 2) := by decide +kernel
theorem dX12_markOf_55 : decode cX12_markOf 55 = .ok (.aload_n 0, 1) := by decide +kernel
theorem dX12_markOf_56 : decode cX12_markOf 56 = .ok (.getfield 37, 3) := by decide +kernel
theorem dX12_markOf_59 : decode cX12_markOf 59 = .ok (.iload_n 1, 1) := by decide +kernel
theorem dX12_markOf_60 : decode cX12_markOf 60 = .ok (.iaload, 1) := by decide +kernel
theorem dX12_markOf_61 : decode cX12_markOf 61 = .ok (.imul, 1) := by decide +kernel
theorem dX12_markOf_62 : decode cX12_markOf 62 = .ok (.goto 4, 3) := by decide +kernel
theorem dX12_markOf_65 : decode cX12_markOf 65 = .ok (.iconst 0, 1) := by decide +kernel
theorem dX12_markOf_66 : decode cX12_markOf 66 = .ok (.iadd, 1) := by decide +kernel
theorem dX12_markOf_67 : decode cX12_markOf 67 = .ok (.iload_n 2, 1) := by decide +kernel
theorem dX12_markOf_68 : decode cX12_markOf 68 = .ok (.iconst 4, 1) := by decide +kernel
theorem dX12_markOf_69 : decode cX12_markOf 69 = .ok (.if_icmp .ne 8, 3) := by decide +kernel
theorem dX12_markOf_72 : decode cX12_markOf 72 = .ok (.bipush 100, 2) := by decide +kernel
theorem dX12_markOf_74 : decode cX12_markOf 74 = .ok (.goto 4, 3) := by decide +kernel
theorem dX12_markOf_77 : decode cX12_markOf 77 = .ok (.iconst 0, 1) := by decide +kernel
theorem dX12_markOf_78 : decode cX12_markOf 78 = .ok (.iadd, 1) := by decide +kernel
theorem dX12_markOf_79 : decode cX12_markOf 79 = .ok (.istore 4, 2) := by decide +kernel
theorem dX12_markOf_81 : decode cX12_markOf 81 = .ok (.iload_n 2, 1) := by decide +kernel
theorem dX12_markOf_82 : decode cX12_markOf 82 = .ok (.iconst 5, 1) := by decide +kernel
theorem dX12_markOf_83 : decode cX12_markOf 83 = .ok (.if_icmp .ne 14, 3) := by decide +kernel
theorem dX12_markOf_86 : decode cX12_markOf 86 = .ok (.iload 4, 2) := by decide +kernel
theorem dX12_markOf_88 : decode cX12_markOf 88 = .ok (.aload_n 0, 1) := by decide +kernel
theorem dX12_markOf_89 : decode cX12_markOf 89 = .ok (.iload_n 1, 1) := by decide +kernel
theorem dX12_markOf_90 : decode cX12_markOf 90 = .ok (.invokevirtual 401, 3) := by decide +kernel
theorem dX12_markOf_93 : decode cX12_markOf 93 = .ok (.iadd, 1) := by decide +kernel
theorem dX12_markOf_94 : decode cX12_markOf 94 = .ok (.goto 5, 3) := by decide +kernel
theorem dX12_markOf_97 : decode cX12_markOf 97 = .ok (.iload 4, 2) := by decide +kernel
theorem dX12_markOf_99 : decode cX12_markOf 99 = .ok (.ireturn, 1) := by decide +kernel
theorem dX12_sizeOf_0 : decode cX12_sizeOf 0 = .ok (.iload_n 2, 1) := by decide +kernel
theorem dX12_sizeOf_1 : decode cX12_sizeOf 1 = .ok (.iconst 2, 1) := by decide +kernel
theorem dX12_sizeOf_2 : decode cX12_sizeOf 2 = .ok (.invokestatic 391, 3) := by decide +kernel
theorem dX12_sizeOf_5 : decode cX12_sizeOf 5 = .ok (.ifCond .eq 9, 3) := by decide +kernel
theorem dX12_sizeOf_8 : decode cX12_sizeOf 8 = .ok (.aload_n 0, 1) := by decide +kernel
theorem dX12_sizeOf_9 : decode cX12_sizeOf 9 = .ok (.iload_n 1, 1) := by decide +kernel
theorem dX12_sizeOf_10 : decode cX12_sizeOf 10 = .ok (.invokevirtual 401, 3) := by decide +kernel
theorem dX12_sizeOf_13 : decode cX12_sizeOf 13 = .ok (.ireturn, 1) := by decide +kernel
theorem dX12_sizeOf_14 : decode cX12_sizeOf 14 = .ok (.iload_n 2, 1) := by decide +kernel
theorem dX12_sizeOf_15 : decode cX12_sizeOf 15 = .ok (.iconst 4, 1) := by decide +kernel
theorem dX12_sizeOf_16 : decode cX12_sizeOf 16 = .ok (.if_icmp .ne 9, 3) := by decide +kernel
theorem dX12_sizeOf_19 : decode cX12_sizeOf 19 = .ok (.aload_n 0, 1) := by decide +kernel
theorem dX12_sizeOf_20 : decode cX12_sizeOf 20 = .ok (.bipush 13, 2) := by decide +kernel
theorem dX12_sizeOf_22 : decode cX12_sizeOf 22 = .ok (.invokevirtual 398, 3) := by decide +kernel
theorem dX12_sizeOf_25 : decode cX12_sizeOf 25 = .ok (.iload_n 2, 1) := by decide +kernel
theorem dX12_sizeOf_26 : decode cX12_sizeOf 26 = .ok (.iconst 3, 1) := by decide +kernel
theorem dX12_sizeOf_27 : decode cX12_sizeOf 27 = .ok (.invokestatic 391, 3) := by decide +kernel
theorem dX12_sizeOf_30 : decode cX12_sizeOf 30 = .ok (.ifCond .eq 9, 3) := by decide +kernel
theorem dX12_sizeOf_33 : decode cX12_sizeOf 33 = .ok (.aload_n 0, 1) := by decide +kernel
theorem dX12_sizeOf_34 : decode cX12_sizeOf 34 = .ok (.bipush 12, 2) := by decide +kernel
theorem dX12_sizeOf_36 : decode cX12_sizeOf 36 = .ok (.invokevirtual 398, 3) := by decide +kernel
theorem dX12_sizeOf_39 : decode cX12_sizeOf 39 = .ok (.aload_n 0, 1) := by decide +kernel
theorem dX12_sizeOf_40 : decode cX12_sizeOf 40 = .ok (.bipush 11, 2) := by decide +kernel
theorem dX12_sizeOf_42 : decode cX12_sizeOf 42 = .ok (.invokevirtual 398, 3) := by decide +kernel
theorem dX12_sizeOf_45 : decode cX12_sizeOf 45 = .ok (.aload_n 0, 1) := by decide +kernel
theorem dX12_sizeOf_46 : decode cX12_sizeOf 46 = .ok (.bipush 10, 2) := by decide +kernel
theorem dX12_sizeOf_48 : decode cX12_sizeOf 48 = .ok (.invokevirtual 398, 3) := by decide +kernel
theorem dX12_sizeOf_51 : decode cX12_sizeOf 51 = .ok (.aload_n 0, 1) := by decide +kernel
theorem dX12_sizeOf_52 : decode cX12_sizeOf 52 = .ok (.getfield 52, 3) := by decide +kernel
theorem dX12_sizeOf_55 : decode cX12_sizeOf 55 = .ok (.iload_n 1, 1) := by decide +kernel
theorem dX12_sizeOf_56 : decode cX12_sizeOf 56 = .ok (.iaload, 1) := by decide +kernel
theorem dX12_sizeOf_57 : decode cX12_sizeOf 57 = .ok (.aload_n 0, 1) := by decide +kernel
theorem dX12_sizeOf_58 : decode cX12_sizeOf 58 = .ok (.iload_n 1, 1) := by decide +kernel
theorem dX12_sizeOf_59 : decode cX12_sizeOf 59 = .ok (.iload_n 2, 1) := by decide +kernel
theorem dX12_sizeOf_60 : decode cX12_sizeOf 60 = .ok (.invokevirtual 404, 3) := by decide +kernel
theorem dX12_sizeOf_63 : decode cX12_sizeOf 63 = .ok (.iadd, 1) := by decide +kernel
theorem dX12_sizeOf_64 : decode cX12_sizeOf 64 = .ok (.istore_n 3, 1) := by decide +kernel
theorem dX12_sizeOf_65 : decode cX12_sizeOf 65 = .ok (.iload_n 3, 1) := by decide +kernel
theorem dX12_sizeOf_66 : decode cX12_sizeOf 66 = .ok (.iload_n 2, 1) := by decide +kernel
theorem dX12_sizeOf_67 : decode cX12_sizeOf 67 = .ok (.iconst 3, 1) := by decide +kernel
theorem dX12_sizeOf_68 : decode cX12_sizeOf 68 = .ok (.invokestatic 391, 3) := by decide +kernel
theorem dX12_sizeOf_71 : decode cX12_sizeOf 71 = .ok (.ifCond .eq 11, 3) := by decide +kernel
theorem dX12_sizeOf_74 : decode cX12_sizeOf 74 = .ok (.aload_n 0, 1) := by decide +kernel
theorem dX12_sizeOf_75 : decode cX12_sizeOf 75 = .ok (.iload_n 1, 1) := by decide +kernel
theorem dX12_sizeOf_76 : decode cX12_sizeOf 76 = .ok (.invokevirtual 332, 3) := by decide +kernel
theorem dX12_sizeOf_79 : decode cX12_sizeOf 79 = .ok (.goto 4, 3) := by decide +kernel
theorem dX12_sizeOf_82 : decode cX12_sizeOf 82 = .ok (.iconst 0, 1) := by decide +kernel
theorem dX12_sizeOf_83 : decode cX12_sizeOf 83 = .ok (.isub, 1) := by decide +kernel
theorem dX12_sizeOf_84 : decode cX12_sizeOf 84 = .ok (.istore_n 3, 1) := by decide +kernel
theorem dX12_sizeOf_85 : decode cX12_sizeOf 85 = .ok (.iload_n 2, 1) := by decide +kernel
theorem dX12_sizeOf_86 : decode cX12_sizeOf 86 = .ok (.iconst 4, 1) := by decide +kernel
theorem dX12_sizeOf_87 : decode cX12_sizeOf 87 = .ok (.if_icmp .ne 9, 3) := by decide +kernel
theorem dX12_sizeOf_90 : decode cX12_sizeOf 90 = .ok (.iconst 2, 1) := by decide +kernel
theorem dX12_sizeOf_91 : decode cX12_sizeOf 91 = .ok (.iload_n 3, 1) := by decide +kernel
theorem dX12_sizeOf_92 : decode cX12_sizeOf 92 = .ok (.imul, 1) := by decide +kernel
theorem dX12_sizeOf_93 : decode cX12_sizeOf 93 = .ok (.goto 4, 3) := by decide +kernel
theorem dX12_sizeOf_96 : decode cX12_sizeOf 96 = .ok (.iload_n 3, 1) := by decide +kernel
theorem dX12_sizeOf_97 : decode cX12_sizeOf 97 = .ok (.ireturn, 1) := by decide +kernel
theorem dX12_ask_0 : decode cX12_ask 0 = .ok (.aload_n 0, 1) := by decide +kernel
theorem dX12_ask_1 : decode cX12_ask 1 = .ok (.iconst 0, 1) := by decide +kernel
theorem dX12_ask_2 : decode cX12_ask 2 = .ok (.putfield 107, 3) := by decide +kernel
theorem dX12_ask_5 : decode cX12_ask 5 = .ok (.aload_n 0, 1) := by decide +kernel
theorem dX12_ask_6 : decode cX12_ask 6 = .ok (.iload_n 1, 1) := by decide +kernel
theorem dX12_ask_7 : decode cX12_ask 7 = .ok (.invokevirtual 320, 3) := by decide +kernel
theorem dX12_ask_10 : decode cX12_ask 10 = .ok (.ifCond .eq 13, 3) := by decide +kernel
theorem dX12_ask_13 : decode cX12_ask 13 = .ok (.iload_n 2, 1) := by decide +kernel
theorem dX12_ask_14 : decode cX12_ask 14 = .ok (.i2l, 1) := by decide +kernel
theorem dX12_ask_15 : decode cX12_ask 15 = .ok (.lconst 0, 1) := by decide +kernel
theorem dX12_ask_16 : decode cX12_ask 16 = .ok (.lconst 1, 1) := by decide +kernel
theorem dX12_ask_17 : decode cX12_ask 17 = .ok (.invokestatic 118, 3) := by decide +kernel
theorem dX12_ask_20 : decode cX12_ask 20 = .ok (.ifCond .ne 7, 3) := by decide +kernel
theorem dX12_ask_23 : decode cX12_ask 23 = .ok (.ldc2_w 128, 3) := by decide +kernel
theorem dX12_ask_26 : decode cX12_ask 26 = .ok (.lreturn, 1) := by decide +kernel
theorem dX12_ask_27 : decode cX12_ask 27 = .ok (.aload_n 0, 1) := by decide +kernel
theorem dX12_ask_28 : decode cX12_ask 28 = .ok (.iconst 0, 1) := by decide +kernel
theorem dX12_ask_29 : decode cX12_ask 29 = .ok (.putfield 395, 3) := by decide +kernel
theorem dX12_ask_32 : decode cX12_ask 32 = .ok (.aload_n 0, 1) := by decide +kernel
theorem dX12_ask_33 : decode cX12_ask 33 = .ok (.invokevirtual 329, 3) := by decide +kernel
theorem dX12_ask_36 : decode cX12_ask 36 = .ok (.iload_n 2, 1) := by decide +kernel
theorem dX12_ask_37 : decode cX12_ask 37 = .ok (.ifCond .ne 17, 3) := by decide +kernel
theorem dX12_ask_40 : decode cX12_ask 40 = .ok (.aload_n 0, 1) := by decide +kernel
theorem dX12_ask_41 : decode cX12_ask 41 = .ok (.iload_n 1, 1) := by decide +kernel
theorem dX12_ask_42 : decode cX12_ask 42 = .ok (.aload_n 0, 1) := by decide +kernel
theorem dX12_ask_43 : decode cX12_ask 43 = .ok (.iload_n 1, 1) := by decide +kernel
theorem dX12_ask_44 : decode cX12_ask 44 = .ok (.invokevirtual 386, 3) := by decide +kernel
theorem dX12_ask_47 : decode cX12_ask 47 = .ok (.invokevirtual 407, 3) := by decide +kernel
theorem dX12_ask_50 : decode cX12_ask 50 = .ok (.i2l, 1) := by decide +kernel
theorem dX12_ask_51 : decode cX12_ask 51 = .ok (.goto 14, 3) := by decide +kernel
theorem dX12_ask_54 : decode cX12_ask 54 = .ok (.aload_n 0, 1) := by decide +kernel
theorem dX12_ask_55 : decode cX12_ask 55 = .ok (.iload_n 1, 1) := by decide +kernel
theorem dX12_ask_56 : decode cX12_ask 56 = .ok (.aload_n 0, 1) := by decide +kernel
theorem dX12_ask_57 : decode cX12_ask 57 = .ok (.iload_n 1, 1) := by decide +kernel
theorem dX12_ask_58 : decode cX12_ask 58 = .ok (.invokevirtual 386, 3) := by decide +kernel
theorem dX12_ask_61 : decode cX12_ask 61 = .ok (.invokevirtual 404, 3) := by decide +kernel
theorem dX12_ask_64 : decode cX12_ask 64 = .ok (.i2l, 1) := by decide +kernel
theorem dX12_ask_65 : decode cX12_ask 65 = .ok (.lreturn, 1) := by decide +kernel
theorem dX12_trace_0 : decode cX12_trace 0 = .ok (.aload_n 0, 1) := by decide +kernel
theorem dX12_trace_1 : decode cX12_trace 1 = .ok (.iconst 0, 1) := by decide +kernel
theorem dX12_trace_2 : decode cX12_trace 2 = .ok (.putfield 107, 3) := by decide +kernel
theorem dX12_trace_5 : decode cX12_trace 5 = .ok (.iload_n 1, 1) := by decide +kernel
theorem dX12_trace_6 : decode cX12_trace 6 = .ok (.i2l, 1) := by decide +kernel
theorem dX12_trace_7 : decode cX12_trace 7 = .ok (.lconst 0, 1) := by decide +kernel
theorem dX12_trace_8 : decode cX12_trace 8 = .ok (.aload_n 0, 1) := by decide +kernel
theorem dX12_trace_9 : decode cX12_trace 9 = .ok (.getfield 395, 3) := by decide +kernel
theorem dX12_trace_12 : decode cX12_trace 12 = .ok (.iconst 1, 1) := by decide +kernel
theorem dX12_trace_13 : decode cX12_trace 13 = .ok (.isub, 1) := by decide +kernel
theorem dX12_trace_14 : decode cX12_trace 14 = .ok (.i2l, 1) := by decide +kernel
theorem dX12_trace_15 : decode cX12_trace 15 = .ok (.invokestatic 118, 3) := by decide +kernel
theorem dX12_trace_18 : decode cX12_trace 18 = .ok (.ifCond .eq 12, 3) := by decide +kernel
theorem dX12_trace_21 : decode cX12_trace 21 = .ok (.aload_n 0, 1) := by decide +kernel
theorem dX12_trace_22 : decode cX12_trace 22 = .ok (.getfield 104, 3) := by decide +kernel
theorem dX12_trace_25 : decode cX12_trace 25 = .ok (.iload_n 1, 1) := by decide +kernel
theorem dX12_trace_26 : decode cX12_trace 26 = .ok (.iaload, 1) := by decide +kernel
theorem dX12_trace_27 : decode cX12_trace 27 = .ok (.goto 5, 3) := by decide +kernel
theorem dX12_trace_30 : decode cX12_trace 30 = .ok (.ldc 146, 2) := by decide +kernel
theorem dX12_trace_32 : decode cX12_trace 32 = .ok (.ireturn, 1) := by decide +kernel
theorem dX12_count_0 : decode cX12_count 0 = .ok (.aload_n 0, 1) := by decide +kernel
theorem dX12_count_1 : decode cX12_count 1 = .ok (.iconst 0, 1) := by decide +kernel
theorem dX12_count_2 : decode cX12_count 2 = .ok (.putfield 107, 3) := by decide +kernel
theorem dX12_count_5 : decode cX12_count 5 = .ok (.iconst 0, 1) := by decide +kernel
theorem dX12_count_6 : decode cX12_count 6 = .ok (.istore_n 2, 1) := by decide +kernel
theorem dX12_count_7 : decode cX12_count 7 = .ok (.iload_n 1, 1) := by decide +kernel
theorem dX12_count_8 : decode cX12_count 8 = .ok (.i2l, 1) := by decide +kernel
theorem dX12_count_9 : decode cX12_count 9 = .ok (.lconst 0, 1) := by decide +kernel
theorem dX12_count_10 : decode cX12_count 10 = .ok (.ldc2_w 327, 3) := by decide +kernel
theorem dX12_count_13 : decode cX12_count 13 = .ok (.invokestatic 118, 3) := by decide +kernel
theorem dX12_count_16 : decode cX12_count 16 = .ok (.ifCond .ne 7, 3) := by decide +kernel
theorem dX12_count_19 : decode cX12_count 19 = .ok (.ldc2_w 128, 3) := by decide +kernel
theorem dX12_count_22 : decode cX12_count 22 = .ok (.lreturn, 1) := by decide +kernel
theorem dX12_count_23 : decode cX12_count 23 = .ok (.aload_n 0, 1) := by decide +kernel
theorem dX12_count_24 : decode cX12_count 24 = .ok (.invokevirtual 329, 3) := by decide +kernel
theorem dX12_count_27 : decode cX12_count 27 = .ok (.iload_n 1, 1) := by decide +kernel
theorem dX12_count_28 : decode cX12_count 28 = .ok (.tableswitch 104 0 5 #[40, 74, 80, 86, 92, 98], 40) := by decide +kernel
theorem dX12_count_68 : decode cX12_count 68 = .ok (.iconst 0, 1) := by decide +kernel
theorem dX12_count_69 : decode cX12_count 69 = .ok (.istore_n 3, 1) := by decide +kernel
theorem dX12_count_70 : decode cX12_count 70 = .ok (.iload_n 3, 1) := by decide +kernel
theorem dX12_count_71 : decode cX12_count 71 = .ok (.bipush 8, 2) := by decide +kernel
theorem dX12_count_73 : decode cX12_count 73 = .ok (.if_icmp .ge 26, 3) := by decide +kernel
theorem dX12_count_76 : decode cX12_count 76 = .ok (.iload_n 2, 1) := by decide +kernel
theorem dX12_count_77 : decode cX12_count 77 = .ok (.aload_n 0, 1) := by decide +kernel
theorem dX12_count_78 : decode cX12_count 78 = .ok (.getfield 9, 3) := by decide +kernel
theorem dX12_count_81 : decode cX12_count 81 = .ok (.iload_n 3, 1) := by decide +kernel
theorem dX12_count_82 : decode cX12_count 82 = .ok (.iaload, 1) := by decide +kernel
theorem dX12_count_83 : decode cX12_count 83 = .ok (.ifCond .lt 7, 3) := by decide +kernel
theorem dX12_count_86 : decode cX12_count 86 = .ok (.iconst 1, 1) := by decide +kernel
theorem dX12_count_87 : decode cX12_count 87 = .ok (.goto 4, 3) := by decide +kernel
theorem dX12_count_90 : decode cX12_count 90 = .ok (.iconst 0, 1) := by decide +kernel
theorem dX12_count_91 : decode cX12_count 91 = .ok (.iadd, 1) := by decide +kernel
theorem dX12_count_92 : decode cX12_count 92 = .ok (.istore_n 2, 1) := by decide +kernel
theorem dX12_count_93 : decode cX12_count 93 = .ok (.iinc 3 1, 3) := by decide +kernel
theorem dX12_count_96 : decode cX12_count 96 = .ok (.goto (-26), 3) := by decide +kernel
theorem dX12_count_99 : decode cX12_count 99 = .ok (.iload_n 2, 1) := by decide +kernel
theorem dX12_count_100 : decode cX12_count 100 = .ok (.i2l, 1) := by decide +kernel
theorem dX12_count_101 : decode cX12_count 101 = .ok (.lreturn, 1) := by decide +kernel
theorem dX12_count_102 : decode cX12_count 102 = .ok (.aload_n 0, 1) := by decide +kernel
theorem dX12_count_103 : decode cX12_count 103 = .ok (.getfield 279, 3) := by decide +kernel
theorem dX12_count_106 : decode cX12_count 106 = .ok (.i2l, 1) := by decide +kernel
theorem dX12_count_107 : decode cX12_count 107 = .ok (.lreturn, 1) := by decide +kernel
theorem dX12_count_108 : decode cX12_count 108 = .ok (.aload_n 0, 1) := by decide +kernel
theorem dX12_count_109 : decode cX12_count 109 = .ok (.getfield 282, 3) := by decide +kernel
theorem dX12_count_112 : decode cX12_count 112 = .ok (.i2l, 1) := by decide +kernel
theorem dX12_count_113 : decode cX12_count 113 = .ok (.lreturn, 1) := by decide +kernel
theorem dX12_count_114 : decode cX12_count 114 = .ok (.aload_n 0, 1) := by decide +kernel
theorem dX12_count_115 : decode cX12_count 115 = .ok (.getfield 285, 3) := by decide +kernel
theorem dX12_count_118 : decode cX12_count 118 = .ok (.i2l, 1) := by decide +kernel
theorem dX12_count_119 : decode cX12_count 119 = .ok (.lreturn, 1) := by decide +kernel
theorem dX12_count_120 : decode cX12_count 120 = .ok (.aload_n 0, 1) := by decide +kernel
theorem dX12_count_121 : decode cX12_count 121 = .ok (.getfield 294, 3) := by decide +kernel
theorem dX12_count_124 : decode cX12_count 124 = .ok (.i2l, 1) := by decide +kernel
theorem dX12_count_125 : decode cX12_count 125 = .ok (.lreturn, 1) := by decide +kernel
theorem dX12_count_126 : decode cX12_count 126 = .ok (.aload_n 0, 1) := by decide +kernel
theorem dX12_count_127 : decode cX12_count 127 = .ok (.getfield 136, 3) := by decide +kernel
theorem dX12_count_130 : decode cX12_count 130 = .ok (.i2l, 1) := by decide +kernel
theorem dX12_count_131 : decode cX12_count 131 = .ok (.lreturn, 1) := by decide +kernel
theorem dX12_count_132 : decode cX12_count 132 = .ok (.aload_n 0, 1) := by decide +kernel
theorem dX12_count_133 : decode cX12_count 133 = .ok (.getfield 275, 3) := by decide +kernel
theorem dX12_count_136 : decode cX12_count 136 = .ok (.ifCond .eq 11, 3) := by decide +kernel
theorem dX12_count_139 : decode cX12_count 139 = .ok (.aload_n 0, 1) := by decide +kernel
theorem dX12_count_140 : decode cX12_count 140 = .ok (.getfield 288, 3) := by decide +kernel
theorem dX12_count_143 : decode cX12_count 143 = .ok (.i2l, 1) := by decide +kernel
theorem dX12_count_144 : decode cX12_count 144 = .ok (.goto 6, 3) := by decide +kernel
theorem dX12_count_147 : decode cX12_count 147 = .ok (.ldc2_w 325, 3) := by decide +kernel
theorem dX12_count_150 : decode cX12_count 150 = .ok (.lreturn, 1) := by decide +kernel
theorem dX12_status_0 : decode cX12_status 0 = .ok (.aload_n 0, 1) := by decide +kernel
theorem dX12_status_1 : decode cX12_status 1 = .ok (.iconst 0, 1) := by decide +kernel
theorem dX12_status_2 : decode cX12_status 2 = .ok (.putfield 107, 3) := by decide +kernel
theorem dX12_status_5 : decode cX12_status 5 = .ok (.aload_n 0, 1) := by decide +kernel
theorem dX12_status_6 : decode cX12_status 6 = .ok (.getfield 111, 3) := by decide +kernel
theorem dX12_status_9 : decode cX12_status 9 = .ok (.ireturn, 1) := by decide +kernel
theorem dJ9_abs_067f4_0 : decode cJ9_abs_067f4 0 = .ok (.lload_n 0, 1) := by decide +kernel
theorem dJ9_abs_067f4_1 : decode cJ9_abs_067f4 1 = .ok (.lconst 0, 1) := by decide +kernel
theorem dJ9_abs_067f4_2 : decode cJ9_abs_067f4 2 = .ok (.lcmp, 1) := by decide +kernel
theorem dJ9_abs_067f4_3 : decode cJ9_abs_067f4 3 = .ok (.ifCond .ge 8, 3) := by decide +kernel
theorem dJ9_abs_067f4_6 : decode cJ9_abs_067f4 6 = .ok (.lload_n 0, 1) := by decide +kernel
theorem dJ9_abs_067f4_7 : decode cJ9_abs_067f4 7 = .ok (.lneg, 1) := by decide +kernel
theorem dJ9_abs_067f4_8 : decode cJ9_abs_067f4 8 = .ok (.goto 4, 3) := by decide +kernel
theorem dJ9_abs_067f4_11 : decode cJ9_abs_067f4 11 = .ok (.lload_n 0, 1) := by decide +kernel
theorem dJ9_abs_067f4_12 : decode cJ9_abs_067f4 12 = .ok (.lreturn, 1) := by decide +kernel
theorem dJ9_max_7cf53_0 : decode cJ9_max_7cf53 0 = .ok (.iload_n 0, 1) := by decide +kernel
theorem dJ9_max_7cf53_1 : decode cJ9_max_7cf53 1 = .ok (.iload_n 1, 1) := by decide +kernel
theorem dJ9_max_7cf53_2 : decode cJ9_max_7cf53 2 = .ok (.if_icmp .lt 7, 3) := by decide +kernel
theorem dJ9_max_7cf53_5 : decode cJ9_max_7cf53 5 = .ok (.iload_n 0, 1) := by decide +kernel
theorem dJ9_max_7cf53_6 : decode cJ9_max_7cf53 6 = .ok (.goto 4, 3) := by decide +kernel
theorem dJ9_max_7cf53_9 : decode cJ9_max_7cf53 9 = .ok (.iload_n 1, 1) := by decide +kernel
theorem dJ9_max_7cf53_10 : decode cJ9_max_7cf53 10 = .ok (.ireturn, 1) := by decide +kernel
theorem dJ9_min_7cf53_0 : decode cJ9_min_7cf53 0 = .ok (.iload_n 0, 1) := by decide +kernel
theorem dJ9_min_7cf53_1 : decode cJ9_min_7cf53 1 = .ok (.iload_n 1, 1) := by decide +kernel
theorem dJ9_min_7cf53_2 : decode cJ9_min_7cf53 2 = .ok (.if_icmp .gt 7, 3) := by decide +kernel
theorem dJ9_min_7cf53_5 : decode cJ9_min_7cf53 5 = .ok (.iload_n 0, 1) := by decide +kernel
theorem dJ9_min_7cf53_6 : decode cJ9_min_7cf53 6 = .ok (.goto 4, 3) := by decide +kernel
theorem dJ9_min_7cf53_9 : decode cJ9_min_7cf53 9 = .ok (.iload_n 1, 1) := by decide +kernel
theorem dJ9_min_7cf53_10 : decode cJ9_min_7cf53 10 = .ok (.ireturn, 1) := by decide +kernel
theorem dJ0_length_8abf5_0 : decode cJ0_length_8abf5 0 = .ok (.aload_n 0, 1) := by decide +kernel
theorem dJ0_length_8abf5_1 : decode cJ0_length_8abf5 1 = .ok (.getfield 9, 3) := by decide +kernel
theorem dJ0_length_8abf5_4 : decode cJ0_length_8abf5 4 = .ok (.arraylength, 1) := by decide +kernel
theorem dJ0_length_8abf5_5 : decode cJ0_length_8abf5 5 = .ok (.aload_n 0, 1) := by decide +kernel
theorem dJ0_length_8abf5_6 : decode cJ0_length_8abf5 6 = .ok (.invokevirtual 335, 3) := by decide +kernel
theorem dJ0_length_8abf5_9 : decode cJ0_length_8abf5 9 = .ok (.ishr, 1) := by decide +kernel
theorem dJ0_length_8abf5_10 : decode cJ0_length_8abf5 10 = .ok (.ireturn, 1) := by decide +kernel
theorem dJ0_charAt_5068e_0 : decode cJ0_charAt_5068e 0 = .ok (.aload_n 0, 1) := by decide +kernel
theorem dJ0_charAt_5068e_1 : decode cJ0_charAt_5068e 1 = .ok (.invokevirtual 492, 3) := by decide +kernel
theorem dJ0_charAt_5068e_4 : decode cJ0_charAt_5068e 4 = .ok (.ifCond .eq 12, 3) := by decide +kernel
theorem dJ0_charAt_5068e_7 : decode cJ0_charAt_5068e 7 = .ok (.aload_n 0, 1) := by decide +kernel
theorem dJ0_charAt_5068e_8 : decode cJ0_charAt_5068e 8 = .ok (.getfield 9, 3) := by decide +kernel
theorem dJ0_charAt_5068e_11 : decode cJ0_charAt_5068e 11 = .ok (.iload_n 1, 1) := by decide +kernel
theorem dJ0_charAt_5068e_12 : decode cJ0_charAt_5068e 12 = .ok (.invokestatic 495, 3) := by decide +kernel
theorem dJ0_charAt_5068e_15 : decode cJ0_charAt_5068e 15 = .ok (.ireturn, 1) := by decide +kernel
theorem dJ0_charAt_5068e_16 : decode cJ0_charAt_5068e 16 = .ok (.aload_n 0, 1) := by decide +kernel
theorem dJ0_charAt_5068e_17 : decode cJ0_charAt_5068e 17 = .ok (.getfield 9, 3) := by decide +kernel
theorem dJ0_charAt_5068e_20 : decode cJ0_charAt_5068e 20 = .ok (.iload_n 1, 1) := by decide +kernel
theorem dJ0_charAt_5068e_21 : decode cJ0_charAt_5068e 21 = .ok (.invokestatic 498, 3) := by decide +kernel
theorem dJ0_charAt_5068e_24 : decode cJ0_charAt_5068e 24 = .ok (.ireturn, 1) := by decide +kernel
theorem dJ0_coder_7d493_0 : decode cJ0_coder_7d493 0 = .ok (.getstatic 38, 3) := by decide +kernel
theorem dJ0_coder_7d493_3 : decode cJ0_coder_7d493 3 = .ok (.ifCond .eq 10, 3) := by decide +kernel
theorem dJ0_coder_7d493_6 : decode cJ0_coder_7d493 6 = .ok (.aload_n 0, 1) := by decide +kernel
theorem dJ0_coder_7d493_7 : decode cJ0_coder_7d493 7 = .ok (.getfield 15, 3) := by decide +kernel
theorem dJ0_coder_7d493_10 : decode cJ0_coder_7d493 10 = .ok (.goto 4, 3) := by decide +kernel
theorem dJ0_coder_7d493_13 : decode cJ0_coder_7d493 13 = .ok (.iconst 1, 1) := by decide +kernel
theorem dJ0_coder_7d493_14 : decode cJ0_coder_7d493 14 = .ok (.ireturn, 1) := by decide +kernel
theorem dJ0_isLatin1_aae02_0 : decode cJ0_isLatin1_aae02 0 = .ok (.getstatic 38, 3) := by decide +kernel
theorem dJ0_isLatin1_aae02_3 : decode cJ0_isLatin1_aae02 3 = .ok (.ifCond .eq 14, 3) := by decide +kernel
theorem dJ0_isLatin1_aae02_6 : decode cJ0_isLatin1_aae02 6 = .ok (.aload_n 0, 1) := by decide +kernel
theorem dJ0_isLatin1_aae02_7 : decode cJ0_isLatin1_aae02 7 = .ok (.getfield 15, 3) := by decide +kernel
theorem dJ0_isLatin1_aae02_10 : decode cJ0_isLatin1_aae02 10 = .ok (.ifCond .ne 7, 3) := by decide +kernel
theorem dJ0_isLatin1_aae02_13 : decode cJ0_isLatin1_aae02 13 = .ok (.iconst 1, 1) := by decide +kernel
theorem dJ0_isLatin1_aae02_14 : decode cJ0_isLatin1_aae02 14 = .ok (.goto 4, 3) := by decide +kernel
theorem dJ0_isLatin1_aae02_17 : decode cJ0_isLatin1_aae02 17 = .ok (.iconst 0, 1) := by decide +kernel
theorem dJ0_isLatin1_aae02_18 : decode cJ0_isLatin1_aae02 18 = .ok (.ireturn, 1) := by decide +kernel
theorem dJ0_checkIndex_df160_0 : decode cJ0_checkIndex_df160 0 = .ok (.iload_n 0, 1) := by decide +kernel
theorem dJ0_checkIndex_df160_1 : decode cJ0_checkIndex_df160 1 = .ok (.iload_n 1, 1) := by decide +kernel
theorem dJ0_checkIndex_df160_2 : decode cJ0_checkIndex_df160 2 = .ok (.getstatic 1053, 3) := by decide +kernel
theorem dJ0_checkIndex_df160_5 : decode cJ0_checkIndex_df160 5 = .ok (.invokestatic 1059, 3) := by decide +kernel
theorem dJ0_checkIndex_df160_8 : decode cJ0_checkIndex_df160 8 = .ok (.pop, 1) := by decide +kernel
theorem dJ0_checkIndex_df160_9 : decode cJ0_checkIndex_df160 9 = .ok (.return_, 1) := by decide +kernel
theorem dJ1_charAt_3b067_0 : decode cJ1_charAt_3b067 0 = .ok (.iload_n 1, 1) := by decide +kernel
theorem dJ1_charAt_3b067_1 : decode cJ1_charAt_3b067 1 = .ok (.aload_n 0, 1) := by decide +kernel
theorem dJ1_charAt_3b067_2 : decode cJ1_charAt_3b067 2 = .ok (.arraylength, 1) := by decide +kernel
theorem dJ1_charAt_3b067_3 : decode cJ1_charAt_3b067 3 = .ok (.invokestatic 9, 3) := by decide +kernel
theorem dJ1_charAt_3b067_6 : decode cJ1_charAt_3b067 6 = .ok (.aload_n 0, 1) := by decide +kernel
theorem dJ1_charAt_3b067_7 : decode cJ1_charAt_3b067 7 = .ok (.iload_n 1, 1) := by decide +kernel
theorem dJ1_charAt_3b067_8 : decode cJ1_charAt_3b067 8 = .ok (.baload, 1) := by decide +kernel
theorem dJ1_charAt_3b067_9 : decode cJ1_charAt_3b067 9 = .ok (.sipush 255, 3) := by decide +kernel
theorem dJ1_charAt_3b067_12 : decode cJ1_charAt_3b067 12 = .ok (.iand, 1) := by decide +kernel
theorem dJ1_charAt_3b067_13 : decode cJ1_charAt_3b067 13 = .ok (.i2c, 1) := by decide +kernel
theorem dJ1_charAt_3b067_14 : decode cJ1_charAt_3b067 14 = .ok (.ireturn, 1) := by decide +kernel
theorem dJ2_getChar_3b067_0 : decode cJ2_getChar_3b067 0 = .ok (.getstatic 44, 3) := by decide +kernel
theorem dJ2_getChar_3b067_3 : decode cJ2_getChar_3b067 3 = .ok (.ifCond .ne 25, 3) := by decide +kernel
theorem dJ2_getChar_3b067_6 : decode cJ2_getChar_3b067 6 = .ok (.iload_n 1, 1) := by decide +kernel
theorem dJ2_getChar_3b067_7 : decode cJ2_getChar_3b067 7 = .ok (.ifCond .lt 11, 3) := by decide +kernel
theorem dJ2_getChar_3b067_10 : decode cJ2_getChar_3b067 10 = .ok (.iload_n 1, 1) := by decide +kernel
theorem dJ2_getChar_3b067_11 : decode cJ2_getChar_3b067 11 = .ok (.aload_n 0, 1) := by decide +kernel
theorem dJ2_getChar_3b067_12 : decode cJ2_getChar_3b067 12 = .ok (.invokestatic 48, 3) := by decide +kernel
theorem dJ2_getChar_3b067_15 : decode cJ2_getChar_3b067 15 = .ok (.if_icmp .lt 13, 3) := by decide +kernel
theorem dJ2_getChar_3b067_18 : decode cJ2_getChar_3b067 18 = .ok (.new 52, 3) := by decide +kernel
theorem dJ2_getChar_3b067_21 : decode cJ2_getChar_3b067 21 = .ok (.dup, 1) := by decide +kernel
theorem dJ2_getChar_3b067_22 : decode cJ2_getChar_3b067 22 = .ok (.ldc 54, 2) := by decide +kernel
theorem dJ2_getChar_3b067_24 : decode cJ2_getChar_3b067 24 = .ok (.invokespecial 56, 3) := by decide +kernel
theorem dJ2_getChar_3b067_27 : decode cJ2_getChar_3b067 27 = .ok (.athrow, 1) := by decide +kernel
theorem dJ2_getChar_3b067_28 : decode cJ2_getChar_3b067 28 = .ok (.iload_n 1, 1) := by decide +kernel
theorem dJ2_getChar_3b067_29 : decode cJ2_getChar_3b067 29 = .ok (.iconst 1, 1) := by decide +kernel
theorem dJ2_getChar_3b067_30 : decode cJ2_getChar_3b067 30 = .ok (.ishl, 1) := by decide +kernel
theorem dJ2_getChar_3b067_31 : decode cJ2_getChar_3b067 31 = .ok (.istore_n 1, 1) := by decide +kernel
theorem dJ2_getChar_3b067_32 : decode cJ2_getChar_3b067 32 = .ok (.aload_n 0, 1) := by decide +kernel
theorem dJ2_getChar_3b067_33 : decode cJ2_getChar_3b067 33 = .ok (.iload_n 1, 1) := by decide +kernel
theorem dJ2_getChar_3b067_34 : decode cJ2_getChar_3b067 34 = .ok (.iinc 1 1, 3) := by decide +kernel
theorem dJ2_getChar_3b067_37 : decode cJ2_getChar_3b067 37 = .ok (.baload, 1) := by decide +kernel
theorem dJ2_getChar_3b067_38 : decode cJ2_getChar_3b067 38 = .ok (.sipush 255, 3) := by decide +kernel
theorem dJ2_getChar_3b067_41 : decode cJ2_getChar_3b067 41 = .ok (.iand, 1) := by decide +kernel
theorem dJ2_getChar_3b067_42 : decode cJ2_getChar_3b067 42 = .ok (.getstatic 59, 3) := by decide +kernel
theorem dJ2_getChar_3b067_45 : decode cJ2_getChar_3b067 45 = .ok (.ishl, 1) := by decide +kernel
theorem dJ2_getChar_3b067_46 : decode cJ2_getChar_3b067 46 = .ok (.aload_n 0, 1) := by decide +kernel
theorem dJ2_getChar_3b067_47 : decode cJ2_getChar_3b067 47 = .ok (.iload_n 1, 1) := by decide +kernel
theorem dJ2_getChar_3b067_48 : decode cJ2_getChar_3b067 48 = .ok (.baload, 1) := by decide +kernel
theorem dJ2_getChar_3b067_49 : decode cJ2_getChar_3b067 49 = .ok (.sipush 255, 3) := by decide +kernel
theorem dJ2_getChar_3b067_52 : decode cJ2_getChar_3b067 52 = .ok (.iand, 1) := by decide +kernel
theorem dJ2_getChar_3b067_53 : decode cJ2_getChar_3b067 53 = .ok (.getstatic 63, 3) := by decide +kernel
theorem dJ2_getChar_3b067_56 : decode cJ2_getChar_3b067 56 = .ok (.ishl, 1) := by decide +kernel
theorem dJ2_getChar_3b067_57 : decode cJ2_getChar_3b067 57 = .ok (.ior, 1) := by decide +kernel
theorem dJ2_getChar_3b067_58 : decode cJ2_getChar_3b067 58 = .ok (.i2c, 1) := by decide +kernel
theorem dJ2_getChar_3b067_59 : decode cJ2_getChar_3b067 59 = .ok (.ireturn, 1) := by decide +kernel
theorem dJ2_length_9d52b_0 : decode cJ2_length_9d52b 0 = .ok (.aload_n 0, 1) := by decide +kernel
theorem dJ2_length_9d52b_1 : decode cJ2_length_9d52b 1 = .ok (.arraylength, 1) := by decide +kernel
theorem dJ2_length_9d52b_2 : decode cJ2_length_9d52b 2 = .ok (.iconst 1, 1) := by decide +kernel
theorem dJ2_length_9d52b_3 : decode cJ2_length_9d52b 3 = .ok (.ishr, 1) := by decide +kernel
theorem dJ2_length_9d52b_4 : decode cJ2_length_9d52b 4 = .ok (.ireturn, 1) := by decide +kernel
theorem dJ2_charAt_3b067_0 : decode cJ2_charAt_3b067 0 = .ok (.iload_n 1, 1) := by decide +kernel
theorem dJ2_charAt_3b067_1 : decode cJ2_charAt_3b067 1 = .ok (.aload_n 0, 1) := by decide +kernel
theorem dJ2_charAt_3b067_2 : decode cJ2_charAt_3b067 2 = .ok (.invokestatic 67, 3) := by decide +kernel
theorem dJ2_charAt_3b067_5 : decode cJ2_charAt_3b067 5 = .ok (.aload_n 0, 1) := by decide +kernel
theorem dJ2_charAt_3b067_6 : decode cJ2_charAt_3b067 6 = .ok (.iload_n 1, 1) := by decide +kernel
theorem dJ2_charAt_3b067_7 : decode cJ2_charAt_3b067 7 = .ok (.invokestatic 71, 3) := by decide +kernel
theorem dJ2_charAt_3b067_10 : decode cJ2_charAt_3b067 10 = .ok (.ireturn, 1) := by decide +kernel
theorem dJ2_checkIndex_2214a_0 : decode cJ2_checkIndex_2214a 0 = .ok (.iload_n 0, 1) := by decide +kernel
theorem dJ2_checkIndex_2214a_1 : decode cJ2_checkIndex_2214a 1 = .ok (.aload_n 1, 1) := by decide +kernel
theorem dJ2_checkIndex_2214a_2 : decode cJ2_checkIndex_2214a 2 = .ok (.invokestatic 48, 3) := by decide +kernel
theorem dJ2_checkIndex_2214a_5 : decode cJ2_checkIndex_2214a 5 = .ok (.invokestatic 414, 3) := by decide +kernel
theorem dJ2_checkIndex_2214a_8 : decode cJ2_checkIndex_2214a 8 = .ok (.return_, 1) := by decide +kernel
theorem dJ7_fill_d0a16_0 : decode cJ7_fill_d0a16 0 = .ok (.iconst 0, 1) := by decide +kernel
theorem dJ7_fill_d0a16_1 : decode cJ7_fill_d0a16 1 = .ok (.istore_n 3, 1) := by decide +kernel
theorem dJ7_fill_d0a16_2 : decode cJ7_fill_d0a16 2 = .ok (.aload_n 0, 1) := by decide +kernel
theorem dJ7_fill_d0a16_3 : decode cJ7_fill_d0a16 3 = .ok (.arraylength, 1) := by decide +kernel
theorem dJ7_fill_d0a16_4 : decode cJ7_fill_d0a16 4 = .ok (.istore 4, 2) := by decide +kernel
theorem dJ7_fill_d0a16_6 : decode cJ7_fill_d0a16 6 = .ok (.iload_n 3, 1) := by decide +kernel
theorem dJ7_fill_d0a16_7 : decode cJ7_fill_d0a16 7 = .ok (.iload 4, 2) := by decide +kernel
theorem dJ7_fill_d0a16_9 : decode cJ7_fill_d0a16 9 = .ok (.if_icmp .ge 13, 3) := by decide +kernel
theorem dJ7_fill_d0a16_12 : decode cJ7_fill_d0a16 12 = .ok (.aload_n 0, 1) := by decide +kernel
theorem dJ7_fill_d0a16_13 : decode cJ7_fill_d0a16 13 = .ok (.iload_n 3, 1) := by decide +kernel
theorem dJ7_fill_d0a16_14 : decode cJ7_fill_d0a16 14 = .ok (.lload_n 1, 1) := by decide +kernel
theorem dJ7_fill_d0a16_15 : decode cJ7_fill_d0a16 15 = .ok (.lastore, 1) := by decide +kernel
theorem dJ7_fill_d0a16_16 : decode cJ7_fill_d0a16 16 = .ok (.iinc 3 1, 3) := by decide +kernel
theorem dJ7_fill_d0a16_19 : decode cJ7_fill_d0a16 19 = .ok (.goto (-13), 3) := by decide +kernel
theorem dJ7_fill_d0a16_22 : decode cJ7_fill_d0a16 22 = .ok (.return_, 1) := by decide +kernel
theorem dJ7_fill_53178_0 : decode cJ7_fill_53178 0 = .ok (.iconst 0, 1) := by decide +kernel
theorem dJ7_fill_53178_1 : decode cJ7_fill_53178 1 = .ok (.istore_n 2, 1) := by decide +kernel
theorem dJ7_fill_53178_2 : decode cJ7_fill_53178 2 = .ok (.aload_n 0, 1) := by decide +kernel
theorem dJ7_fill_53178_3 : decode cJ7_fill_53178 3 = .ok (.arraylength, 1) := by decide +kernel
theorem dJ7_fill_53178_4 : decode cJ7_fill_53178 4 = .ok (.istore_n 3, 1) := by decide +kernel
theorem dJ7_fill_53178_5 : decode cJ7_fill_53178 5 = .ok (.iload_n 2, 1) := by decide +kernel
theorem dJ7_fill_53178_6 : decode cJ7_fill_53178 6 = .ok (.iload_n 3, 1) := by decide +kernel
theorem dJ7_fill_53178_7 : decode cJ7_fill_53178 7 = .ok (.if_icmp .ge 13, 3) := by decide +kernel
theorem dJ7_fill_53178_10 : decode cJ7_fill_53178 10 = .ok (.aload_n 0, 1) := by decide +kernel
theorem dJ7_fill_53178_11 : decode cJ7_fill_53178 11 = .ok (.iload_n 2, 1) := by decide +kernel
theorem dJ7_fill_53178_12 : decode cJ7_fill_53178 12 = .ok (.iload_n 1, 1) := by decide +kernel
theorem dJ7_fill_53178_13 : decode cJ7_fill_53178 13 = .ok (.iastore, 1) := by decide +kernel
theorem dJ7_fill_53178_14 : decode cJ7_fill_53178 14 = .ok (.iinc 2 1, 3) := by decide +kernel
theorem dJ7_fill_53178_17 : decode cJ7_fill_53178 17 = .ok (.goto (-12), 3) := by decide +kernel
theorem dJ7_fill_53178_20 : decode cJ7_fill_53178 20 = .ok (.return_, 1) := by decide +kernel
theorem dJ3_checkIndex_8e157_0 : decode cJ3_checkIndex_8e157 0 = .ok (.iload_n 0, 1) := by decide +kernel
theorem dJ3_checkIndex_8e157_1 : decode cJ3_checkIndex_8e157 1 = .ok (.ifCond .lt 8, 3) := by decide +kernel
theorem dJ3_checkIndex_8e157_4 : decode cJ3_checkIndex_8e157 4 = .ok (.iload_n 0, 1) := by decide +kernel
theorem dJ3_checkIndex_8e157_5 : decode cJ3_checkIndex_8e157 5 = .ok (.iload_n 1, 1) := by decide +kernel
theorem dJ3_checkIndex_8e157_6 : decode cJ3_checkIndex_8e157 6 = .ok (.if_icmp .lt 10, 3) := by decide +kernel
theorem dJ3_checkIndex_8e157_9 : decode cJ3_checkIndex_8e157 9 = .ok (.aload_n 2, 1) := by decide +kernel
theorem dJ3_checkIndex_8e157_10 : decode cJ3_checkIndex_8e157 10 = .ok (.iload_n 0, 1) := by decide +kernel
theorem dJ3_checkIndex_8e157_11 : decode cJ3_checkIndex_8e157 11 = .ok (.iload_n 1, 1) := by decide +kernel
theorem dJ3_checkIndex_8e157_12 : decode cJ3_checkIndex_8e157 12 = .ok (.invokestatic 95, 3) := by decide +kernel
theorem dJ3_checkIndex_8e157_15 : decode cJ3_checkIndex_8e157 15 = .ok (.athrow, 1) := by decide +kernel
theorem dJ3_checkIndex_8e157_16 : decode cJ3_checkIndex_8e157 16 = .ok (.iload_n 0, 1) := by decide +kernel
theorem dJ3_checkIndex_8e157_17 : decode cJ3_checkIndex_8e157 17 = .ok (.ireturn, 1) := by decide +kernel
theorem dL_law_0 : decode cL_law 0 = .ok (.new 7, 3) := by decide +kernel
theorem dL_law_3 : decode cL_law 3 = .ok (.dup, 1) := by decide +kernel
theorem dL_law_4 : decode cL_law 4 = .ok (.invokespecial 9, 3) := by decide +kernel
theorem dL_law_7 : decode cL_law 7 = .ok (.astore_n 1, 1) := by decide +kernel
theorem dL_law_8 : decode cL_law 8 = .ok (.new 10, 3) := by decide +kernel
theorem dL_law_11 : decode cL_law 11 = .ok (.dup, 1) := by decide +kernel
theorem dL_law_12 : decode cL_law 12 = .ok (.invokespecial 12, 3) := by decide +kernel
theorem dL_law_15 : decode cL_law 15 = .ok (.astore_n 2, 1) := by decide +kernel
theorem dL_law_16 : decode cL_law 16 = .ok (.iconst 0, 1) := by decide +kernel
theorem dL_law_17 : decode cL_law 17 = .ok (.istore_n 3, 1) := by decide +kernel
theorem dL_law_18 : decode cL_law 18 = .ok (.iload_n 3, 1) := by decide +kernel
theorem dL_law_19 : decode cL_law 19 = .ok (.aload_n 0, 1) := by decide +kernel
theorem dL_law_20 : decode cL_law 20 = .ok (.arraylength, 1) := by decide +kernel
theorem dL_law_21 : decode cL_law 21 = .ok (.bipush 6, 2) := by decide +kernel
theorem dL_law_23 : decode cL_law 23 = .ok (.isub, 1) := by decide +kernel
theorem dL_law_24 : decode cL_law 24 = .ok (.if_icmp .gt 919, 3) := by decide +kernel
theorem dL_law_27 : decode cL_law 27 = .ok (.aload_n 0, 1) := by decide +kernel
theorem dL_law_28 : decode cL_law 28 = .ok (.iload_n 3, 1) := by decide +kernel
theorem dL_law_29 : decode cL_law 29 = .ok (.iaload, 1) := by decide +kernel
theorem dL_law_30 : decode cL_law 30 = .ok (.bipush 31, 2) := by decide +kernel
theorem dL_law_32 : decode cL_law 32 = .ok (.iand, 1) := by decide +kernel
theorem dL_law_33 : decode cL_law 33 = .ok (.tableswitch 904 0 23 #[111, 155, 199, 263, 287, 351, 365, 378, 412, 446, 480, 514, 548, 592, 626, 660, 704, 718, 752, 776, 810, 844, 867, 891], 111) := by decide +kernel
theorem dL_law_144 : decode cL_law 144 = .ok (.aload_n 1, 1) := by decide +kernel
theorem dL_law_145 : decode cL_law 145 = .ok (.aload_n 0, 1) := by decide +kernel
theorem dL_law_146 : decode cL_law 146 = .ok (.iload_n 3, 1) := by decide +kernel
theorem dL_law_147 : decode cL_law 147 = .ok (.iconst 1, 1) := by decide +kernel
theorem dL_law_148 : decode cL_law 148 = .ok (.iadd, 1) := by decide +kernel
theorem dL_law_149 : decode cL_law 149 = .ok (.iaload, 1) := by decide +kernel
theorem dL_law_150 : decode cL_law 150 = .ok (.aload_n 0, 1) := by decide +kernel
theorem dL_law_151 : decode cL_law 151 = .ok (.iload_n 3, 1) := by decide +kernel
theorem dL_law_152 : decode cL_law 152 = .ok (.iconst 2, 1) := by decide +kernel
theorem dL_law_153 : decode cL_law 153 = .ok (.iadd, 1) := by decide +kernel
theorem dL_law_154 : decode cL_law 154 = .ok (.iaload, 1) := by decide +kernel
theorem dL_law_155 : decode cL_law 155 = .ok (.aload_n 0, 1) := by decide +kernel
theorem dL_law_156 : decode cL_law 156 = .ok (.iload_n 3, 1) := by decide +kernel
theorem dL_law_157 : decode cL_law 157 = .ok (.iconst 3, 1) := by decide +kernel
theorem dL_law_158 : decode cL_law 158 = .ok (.iadd, 1) := by decide +kernel
theorem dL_law_159 : decode cL_law 159 = .ok (.iaload, 1) := by decide +kernel
theorem dL_law_160 : decode cL_law 160 = .ok (.invokevirtual 13, 3) := by decide +kernel
theorem dL_law_163 : decode cL_law 163 = .ok (.aload_n 2, 1) := by decide +kernel
theorem dL_law_164 : decode cL_law 164 = .ok (.aload_n 0, 1) := by decide +kernel
theorem dL_law_165 : decode cL_law 165 = .ok (.iload_n 3, 1) := by decide +kernel
theorem dL_law_166 : decode cL_law 166 = .ok (.iconst 1, 1) := by decide +kernel
theorem dL_law_167 : decode cL_law 167 = .ok (.iadd, 1) := by decide +kernel
theorem dL_law_168 : decode cL_law 168 = .ok (.iaload, 1) := by decide +kernel
theorem dL_law_169 : decode cL_law 169 = .ok (.aload_n 0, 1) := by decide +kernel
theorem dL_law_170 : decode cL_law 170 = .ok (.iload_n 3, 1) := by decide +kernel
theorem dL_law_171 : decode cL_law 171 = .ok (.iconst 2, 1) := by decide +kernel
theorem dL_law_172 : decode cL_law 172 = .ok (.iadd, 1) := by decide +kernel
theorem dL_law_173 : decode cL_law 173 = .ok (.iaload, 1) := by decide +kernel
theorem dL_law_174 : decode cL_law 174 = .ok (.aload_n 0, 1) := by decide +kernel
theorem dL_law_175 : decode cL_law 175 = .ok (.iload_n 3, 1) := by decide +kernel
theorem dL_law_176 : decode cL_law 176 = .ok (.iconst 3, 1) := by decide +kernel
theorem dL_law_177 : decode cL_law 177 = .ok (.iadd, 1) := by decide +kernel
theorem dL_law_178 : decode cL_law 178 = .ok (.iaload, 1) := by decide +kernel
theorem dL_law_179 : decode cL_law 179 = .ok (.invokevirtual 17, 3) := by decide +kernel
theorem dL_law_182 : decode cL_law 182 = .ok (.lcmp, 1) := by decide +kernel
theorem dL_law_183 : decode cL_law 183 = .ok (.ifCond .eq 754, 3) := by decide +kernel
theorem dL_law_186 : decode cL_law 186 = .ok (.iconst 0, 1) := by decide +kernel
theorem dL_law_187 : decode cL_law 187 = .ok (.ireturn, 1) := by decide +kernel
theorem dL_law_188 : decode cL_law 188 = .ok (.aload_n 1, 1) := by decide +kernel
theorem dL_law_189 : decode cL_law 189 = .ok (.aload_n 0, 1) := by decide +kernel
theorem dL_law_190 : decode cL_law 190 = .ok (.iload_n 3, 1) := by decide +kernel
theorem dL_law_191 : decode cL_law 191 = .ok (.iconst 1, 1) := by decide +kernel
theorem dL_law_192 : decode cL_law 192 = .ok (.iadd, 1) := by decide +kernel
theorem dL_law_193 : decode cL_law 193 = .ok (.iaload, 1) := by decide +kernel
theorem dL_law_194 : decode cL_law 194 = .ok (.aload_n 0, 1) := by decide +kernel
theorem dL_law_195 : decode cL_law 195 = .ok (.iload_n 3, 1) := by decide +kernel
theorem dL_law_196 : decode cL_law 196 = .ok (.iconst 2, 1) := by decide +kernel
theorem dL_law_197 : decode cL_law 197 = .ok (.iadd, 1) := by decide +kernel
theorem dL_law_198 : decode cL_law 198 = .ok (.iaload, 1) := by decide +kernel
theorem dL_law_199 : decode cL_law 199 = .ok (.aload_n 0, 1) := by decide +kernel
theorem dL_law_200 : decode cL_law 200 = .ok (.iload_n 3, 1) := by decide +kernel
theorem dL_law_201 : decode cL_law 201 = .ok (.iconst 3, 1) := by decide +kernel
theorem dL_law_202 : decode cL_law 202 = .ok (.iadd, 1) := by decide +kernel
theorem dL_law_203 : decode cL_law 203 = .ok (.iaload, 1) := by decide +kernel
theorem dL_law_204 : decode cL_law 204 = .ok (.invokevirtual 18, 3) := by decide +kernel
theorem dL_law_207 : decode cL_law 207 = .ok (.aload_n 2, 1) := by decide +kernel
theorem dL_law_208 : decode cL_law 208 = .ok (.aload_n 0, 1) := by decide +kernel
theorem dL_law_209 : decode cL_law 209 = .ok (.iload_n 3, 1) := by decide +kernel
theorem dL_law_210 : decode cL_law 210 = .ok (.iconst 1, 1) := by decide +kernel
theorem dL_law_211 : decode cL_law 211 = .ok (.iadd, 1) := by decide +kernel
theorem dL_law_212 : decode cL_law 212 = .ok (.iaload, 1) := by decide +kernel
theorem dL_law_213 : decode cL_law 213 = .ok (.aload_n 0, 1) := by decide +kernel
theorem dL_law_214 : decode cL_law 214 = .ok (.iload_n 3, 1) := by decide +kernel
theorem dL_law_215 : decode cL_law 215 = .ok (.iconst 2, 1) := by decide +kernel
theorem dL_law_216 : decode cL_law 216 = .ok (.iadd, 1) := by decide +kernel
theorem dL_law_217 : decode cL_law 217 = .ok (.iaload, 1) := by decide +kernel
theorem dL_law_218 : decode cL_law 218 = .ok (.aload_n 0, 1) := by decide +kernel
theorem dL_law_219 : decode cL_law 219 = .ok (.iload_n 3, 1) := by decide +kernel
theorem dL_law_220 : decode cL_law 220 = .ok (.iconst 3, 1) := by decide +kernel
theorem dL_law_221 : decode cL_law 221 = .ok (.iadd, 1) := by decide +kernel
theorem dL_law_222 : decode cL_law 222 = .ok (.iaload, 1) := by decide +kernel
theorem dL_law_223 : decode cL_law 223 = .ok (.invokevirtual 21, 3) := by decide +kernel
theorem dL_law_226 : decode cL_law 226 = .ok (.lcmp, 1) := by decide +kernel
theorem dL_law_227 : decode cL_law 227 = .ok (.ifCond .eq 710, 3) := by decide +kernel
theorem dL_law_230 : decode cL_law 230 = .ok (.iconst 0, 1) := by decide +kernel
theorem dL_law_231 : decode cL_law 231 = .ok (.ireturn, 1) := by decide +kernel
theorem dL_law_232 : decode cL_law 232 = .ok (.aload_n 1, 1) := by decide +kernel
theorem dL_law_233 : decode cL_law 233 = .ok (.aload_n 0, 1) := by decide +kernel
theorem dL_law_234 : decode cL_law 234 = .ok (.iload_n 3, 1) := by decide +kernel
theorem dL_law_235 : decode cL_law 235 = .ok (.iconst 1, 1) := by decide +kernel
theorem dL_law_236 : decode cL_law 236 = .ok (.iadd, 1) := by decide +kernel
theorem dL_law_237 : decode cL_law 237 = .ok (.iaload, 1) := by decide +kernel
theorem dL_law_238 : decode cL_law 238 = .ok (.aload_n 0, 1) := by decide +kernel
theorem dL_law_239 : decode cL_law 239 = .ok (.iload_n 3, 1) := by decide +kernel
theorem dL_law_240 : decode cL_law 240 = .ok (.iconst 2, 1) := by decide +kernel
theorem dL_law_241 : decode cL_law 241 = .ok (.iadd, 1) := by decide +kernel
theorem dL_law_242 : decode cL_law 242 = .ok (.iaload, 1) := by decide +kernel
theorem dL_law_243 : decode cL_law 243 = .ok (.aload_n 0, 1) := by decide +kernel
theorem dL_law_244 : decode cL_law 244 = .ok (.iload_n 3, 1) := by decide +kernel
theorem dL_law_245 : decode cL_law 245 = .ok (.iconst 3, 1) := by decide +kernel
theorem dL_law_246 : decode cL_law 246 = .ok (.iadd, 1) := by decide +kernel
theorem dL_law_247 : decode cL_law 247 = .ok (.iaload, 1) := by decide +kernel
theorem dL_law_248 : decode cL_law 248 = .ok (.aload_n 0, 1) := by decide +kernel
theorem dL_law_249 : decode cL_law 249 = .ok (.iload_n 3, 1) := by decide +kernel
theorem dL_law_250 : decode cL_law 250 = .ok (.iconst 4, 1) := by decide +kernel
theorem dL_law_251 : decode cL_law 251 = .ok (.iadd, 1) := by decide +kernel
theorem dL_law_252 : decode cL_law 252 = .ok (.iaload, 1) := by decide +kernel
theorem dL_law_253 : decode cL_law 253 = .ok (.aload_n 0, 1) := by decide +kernel
theorem dL_law_254 : decode cL_law 254 = .ok (.iload_n 3, 1) := by decide +kernel
theorem dL_law_255 : decode cL_law 255 = .ok (.iconst 5, 1) := by decide +kernel
theorem dL_law_256 : decode cL_law 256 = .ok (.iadd, 1) := by decide +kernel
theorem dL_law_257 : decode cL_law 257 = .ok (.iaload, 1) := by decide +kernel
theorem dL_law_258 : decode cL_law 258 = .ok (.invokevirtual 22, 3) := by decide +kernel
theorem dL_law_261 : decode cL_law 261 = .ok (.aload_n 2, 1) := by decide +kernel
theorem dL_law_262 : decode cL_law 262 = .ok (.aload_n 0, 1) := by decide +kernel
theorem dL_law_263 : decode cL_law 263 = .ok (.iload_n 3, 1) := by decide +kernel
theorem dL_law_264 : decode cL_law 264 = .ok (.iconst 1, 1) := by decide +kernel
theorem dL_law_265 : decode cL_law 265 = .ok (.iadd, 1) := by decide +kernel
theorem dL_law_266 : decode cL_law 266 = .ok (.iaload, 1) := by decide +kernel
theorem dL_law_267 : decode cL_law 267 = .ok (.aload_n 0, 1) := by decide +kernel
theorem dL_law_268 : decode cL_law 268 = .ok (.iload_n 3, 1) := by decide +kernel
theorem dL_law_269 : decode cL_law 269 = .ok (.iconst 2, 1) := by decide +kernel
theorem dL_law_270 : decode cL_law 270 = .ok (.iadd, 1) := by decide +kernel
theorem dL_law_271 : decode cL_law 271 = .ok (.iaload, 1) := by decide +kernel
theorem dL_law_272 : decode cL_law 272 = .ok (.aload_n 0, 1) := by decide +kernel
theorem dL_law_273 : decode cL_law 273 = .ok (.iload_n 3, 1) := by decide +kernel
theorem dL_law_274 : decode cL_law 274 = .ok (.iconst 3, 1) := by decide +kernel
theorem dL_law_275 : decode cL_law 275 = .ok (.iadd, 1) := by decide +kernel
theorem dL_law_276 : decode cL_law 276 = .ok (.iaload, 1) := by decide +kernel
theorem dL_law_277 : decode cL_law 277 = .ok (.aload_n 0, 1) := by decide +kernel
theorem dL_law_278 : decode cL_law 278 = .ok (.iload_n 3, 1) := by decide +kernel
theorem dL_law_279 : decode cL_law 279 = .ok (.iconst 4, 1) := by decide +kernel
theorem dL_law_280 : decode cL_law 280 = .ok (.iadd, 1) := by decide +kernel
theorem dL_law_281 : decode cL_law 281 = .ok (.iaload, 1) := by decide +kernel
theorem dL_law_282 : decode cL_law 282 = .ok (.aload_n 0, 1) := by decide +kernel
theorem dL_law_283 : decode cL_law 283 = .ok (.iload_n 3, 1) := by decide +kernel
theorem dL_law_284 : decode cL_law 284 = .ok (.iconst 5, 1) := by decide +kernel
theorem dL_law_285 : decode cL_law 285 = .ok (.iadd, 1) := by decide +kernel
theorem dL_law_286 : decode cL_law 286 = .ok (.iaload, 1) := by decide +kernel
theorem dL_law_287 : decode cL_law 287 = .ok (.invokevirtual 26, 3) := by decide +kernel
theorem dL_law_290 : decode cL_law 290 = .ok (.lcmp, 1) := by decide +kernel
theorem dL_law_291 : decode cL_law 291 = .ok (.ifCond .eq 646, 3) := by decide +kernel
theorem dL_law_294 : decode cL_law 294 = .ok (.iconst 0, 1) := by decide +kernel
theorem dL_law_295 : decode cL_law 295 = .ok (.ireturn, 1) := by decide +kernel
theorem dL_law_296 : decode cL_law 296 = .ok (.aload_n 1, 1) := by decide +kernel
theorem dL_law_297 : decode cL_law 297 = .ok (.aload_n 0, 1) := by decide +kernel
theorem dL_law_298 : decode cL_law 298 = .ok (.iload_n 3, 1) := by decide +kernel
theorem dL_law_299 : decode cL_law 299 = .ok (.iconst 1, 1) := by decide +kernel
theorem dL_law_300 : decode cL_law 300 = .ok (.iadd, 1) := by decide +kernel
theorem dL_law_301 : decode cL_law 301 = .ok (.iaload, 1) := by decide +kernel
theorem dL_law_302 : decode cL_law 302 = .ok (.invokevirtual 27, 3) := by decide +kernel
theorem dL_law_305 : decode cL_law 305 = .ok (.aload_n 2, 1) := by decide +kernel
theorem dL_law_306 : decode cL_law 306 = .ok (.aload_n 0, 1) := by decide +kernel
theorem dL_law_307 : decode cL_law 307 = .ok (.iload_n 3, 1) := by decide +kernel
theorem dL_law_308 : decode cL_law 308 = .ok (.iconst 1, 1) := by decide +kernel
theorem dL_law_309 : decode cL_law 309 = .ok (.iadd, 1) := by decide +kernel
theorem dL_law_310 : decode cL_law 310 = .ok (.iaload, 1) := by decide +kernel
theorem dL_law_311 : decode cL_law 311 = .ok (.invokevirtual 31, 3) := by decide +kernel
theorem dL_law_314 : decode cL_law 314 = .ok (.lcmp, 1) := by decide +kernel
theorem dL_law_315 : decode cL_law 315 = .ok (.ifCond .eq 622, 3) := by decide +kernel
theorem dL_law_318 : decode cL_law 318 = .ok (.iconst 0, 1) := by decide +kernel
theorem dL_law_319 : decode cL_law 319 = .ok (.ireturn, 1) := by decide +kernel
theorem dL_law_320 : decode cL_law 320 = .ok (.aload_n 1, 1) := by decide +kernel
theorem dL_law_321 : decode cL_law 321 = .ok (.aload_n 0, 1) := by decide +kernel
theorem dL_law_322 : decode cL_law 322 = .ok (.iload_n 3, 1) := by decide +kernel
theorem dL_law_323 : decode cL_law 323 = .ok (.iconst 1, 1) := by decide +kernel
theorem dL_law_324 : decode cL_law 324 = .ok (.iadd, 1) := by decide +kernel
theorem dL_law_325 : decode cL_law 325 = .ok (.iaload, 1) := by decide +kernel
theorem dL_law_326 : decode cL_law 326 = .ok (.i2l, 1) := by decide +kernel
theorem dL_law_327 : decode cL_law 327 = .ok (.bipush 32, 2) := by decide +kernel
theorem dL_law_329 : decode cL_law 329 = .ok (.lshl, 1) := by decide +kernel
theorem dL_law_330 : decode cL_law 330 = .ok (.aload_n 0, 1) := by decide +kernel
theorem dL_law_331 : decode cL_law 331 = .ok (.iload_n 3, 1) := by decide +kernel
theorem dL_law_332 : decode cL_law 332 = .ok (.iconst 2, 1) := by decide +kernel
theorem dL_law_333 : decode cL_law 333 = .ok (.iadd, 1) := by decide +kernel
theorem dL_law_334 : decode cL_law 334 = .ok (.iaload, 1) := by decide +kernel
theorem dL_law_335 : decode cL_law 335 = .ok (.i2l, 1) := by decide +kernel
theorem dL_law_336 : decode cL_law 336 = .ok (.ldc2_w 32, 3) := by decide +kernel
theorem dL_law_339 : decode cL_law 339 = .ok (.land, 1) := by decide +kernel
theorem dL_law_340 : decode cL_law 340 = .ok (.lor, 1) := by decide +kernel
theorem dL_law_341 : decode cL_law 341 = .ok (.aload_n 0, 1) := by decide +kernel
theorem dL_law_342 : decode cL_law 342 = .ok (.iload_n 3, 1) := by decide +kernel
theorem dL_law_343 : decode cL_law 343 = .ok (.iconst 3, 1) := by decide +kernel
theorem dL_law_344 : decode cL_law 344 = .ok (.iadd, 1) := by decide +kernel
theorem dL_law_345 : decode cL_law 345 = .ok (.iaload, 1) := by decide +kernel
theorem dL_law_346 : decode cL_law 346 = .ok (.invokevirtual 34, 3) := by decide +kernel
theorem dL_law_349 : decode cL_law 349 = .ok (.aload_n 2, 1) := by decide +kernel
theorem dL_law_350 : decode cL_law 350 = .ok (.aload_n 0, 1) := by decide +kernel
theorem dL_law_351 : decode cL_law 351 = .ok (.iload_n 3, 1) := by decide +kernel
theorem dL_law_352 : decode cL_law 352 = .ok (.iconst 1, 1) := by decide +kernel
theorem dL_law_353 : decode cL_law 353 = .ok (.iadd, 1) := by decide +kernel
theorem dL_law_354 : decode cL_law 354 = .ok (.iaload, 1) := by decide +kernel
theorem dL_law_355 : decode cL_law 355 = .ok (.i2l, 1) := by decide +kernel
theorem dL_law_356 : decode cL_law 356 = .ok (.bipush 32, 2) := by decide +kernel
theorem dL_law_358 : decode cL_law 358 = .ok (.lshl, 1) := by decide +kernel
theorem dL_law_359 : decode cL_law 359 = .ok (.aload_n 0, 1) := by decide +kernel
theorem dL_law_360 : decode cL_law 360 = .ok (.iload_n 3, 1) := by decide +kernel
theorem dL_law_361 : decode cL_law 361 = .ok (.iconst 2, 1) := by decide +kernel
theorem dL_law_362 : decode cL_law 362 = .ok (.iadd, 1) := by decide +kernel
theorem dL_law_363 : decode cL_law 363 = .ok (.iaload, 1) := by decide +kernel
theorem dL_law_364 : decode cL_law 364 = .ok (.i2l, 1) := by decide +kernel
theorem dL_law_365 : decode cL_law 365 = .ok (.ldc2_w 32, 3) := by decide +kernel
theorem dL_law_368 : decode cL_law 368 = .ok (.land, 1) := by decide +kernel
theorem dL_law_369 : decode cL_law 369 = .ok (.lor, 1) := by decide +kernel
theorem dL_law_370 : decode cL_law 370 = .ok (.aload_n 0, 1) := by decide +kernel
theorem dL_law_371 : decode cL_law 371 = .ok (.iload_n 3, 1) := by decide +kernel
theorem dL_law_372 : decode cL_law 372 = .ok (.iconst 3, 1) := by decide +kernel
theorem dL_law_373 : decode cL_law 373 = .ok (.iadd, 1) := by decide +kernel
theorem dL_law_374 : decode cL_law 374 = .ok (.iaload, 1) := by decide +kernel
theorem dL_law_375 : decode cL_law 375 = .ok (.invokevirtual 38, 3) := by decide +kernel
theorem dL_law_378 : decode cL_law 378 = .ok (.lcmp, 1) := by decide +kernel
theorem dL_law_379 : decode cL_law 379 = .ok (.ifCond .eq 558, 3) := by decide +kernel
theorem dL_law_382 : decode cL_law 382 = .ok (.iconst 0, 1) := by decide +kernel
theorem dL_law_383 : decode cL_law 383 = .ok (.ireturn, 1) := by decide +kernel
theorem dL_law_384 : decode cL_law 384 = .ok (.aload_n 1, 1) := by decide +kernel
theorem dL_law_385 : decode cL_law 385 = .ok (.invokevirtual 39, 3) := by decide +kernel
theorem dL_law_388 : decode cL_law 388 = .ok (.aload_n 2, 1) := by decide +kernel
theorem dL_law_389 : decode cL_law 389 = .ok (.invokevirtual 43, 3) := by decide +kernel
theorem dL_law_392 : decode cL_law 392 = .ok (.lcmp, 1) := by decide +kernel
theorem dL_law_393 : decode cL_law 393 = .ok (.ifCond .eq 544, 3) := by decide +kernel
theorem dL_law_396 : decode cL_law 396 = .ok (.iconst 0, 1) := by decide +kernel
theorem dL_law_397 : decode cL_law 397 = .ok (.ireturn, 1) := by decide +kernel
theorem dL_law_398 : decode cL_law 398 = .ok (.aload_n 1, 1) := by decide +kernel
theorem dL_law_399 : decode cL_law 399 = .ok (.invokevirtual 44, 3) := by decide +kernel
theorem dL_law_402 : decode cL_law 402 = .ok (.aload_n 2, 1) := by decide +kernel
theorem dL_law_403 : decode cL_law 403 = .ok (.invokevirtual 48, 3) := by decide +kernel
theorem dL_law_406 : decode cL_law 406 = .ok (.if_icmp .eq 531, 3) := by decide +kernel
theorem dL_law_409 : decode cL_law 409 = .ok (.iconst 0, 1) := by decide +kernel
theorem dL_law_410 : decode cL_law 410 = .ok (.ireturn, 1) := by decide +kernel
theorem dL_law_411 : decode cL_law 411 = .ok (.aload_n 1, 1) := by decide +kernel
theorem dL_law_412 : decode cL_law 412 = .ok (.aload_n 0, 1) := by decide +kernel
theorem dL_law_413 : decode cL_law 413 = .ok (.iload_n 3, 1) := by decide +kernel
theorem dL_law_414 : decode cL_law 414 = .ok (.iconst 1, 1) := by decide +kernel
theorem dL_law_415 : decode cL_law 415 = .ok (.iadd, 1) := by decide +kernel
theorem dL_law_416 : decode cL_law 416 = .ok (.iaload, 1) := by decide +kernel
theorem dL_law_417 : decode cL_law 417 = .ok (.aload_n 0, 1) := by decide +kernel
theorem dL_law_418 : decode cL_law 418 = .ok (.iload_n 3, 1) := by decide +kernel
theorem dL_law_419 : decode cL_law 419 = .ok (.iconst 2, 1) := by decide +kernel
theorem dL_law_420 : decode cL_law 420 = .ok (.iadd, 1) := by decide +kernel
theorem dL_law_421 : decode cL_law 421 = .ok (.iaload, 1) := by decide +kernel
theorem dL_law_422 : decode cL_law 422 = .ok (.invokevirtual 49, 3) := by decide +kernel
theorem dL_law_425 : decode cL_law 425 = .ok (.aload_n 2, 1) := by decide +kernel
theorem dL_law_426 : decode cL_law 426 = .ok (.aload_n 0, 1) := by decide +kernel
theorem dL_law_427 : decode cL_law 427 = .ok (.iload_n 3, 1) := by decide +kernel
theorem dL_law_428 : decode cL_law 428 = .ok (.iconst 1, 1) := by decide +kernel
theorem dL_law_429 : decode cL_law 429 = .ok (.iadd, 1) := by decide +kernel
theorem dL_law_430 : decode cL_law 430 = .ok (.iaload, 1) := by decide +kernel
theorem dL_law_431 : decode cL_law 431 = .ok (.aload_n 0, 1) := by decide +kernel
theorem dL_law_432 : decode cL_law 432 = .ok (.iload_n 3, 1) := by decide +kernel
theorem dL_law_433 : decode cL_law 433 = .ok (.iconst 2, 1) := by decide +kernel
theorem dL_law_434 : decode cL_law 434 = .ok (.iadd, 1) := by decide +kernel
theorem dL_law_435 : decode cL_law 435 = .ok (.iaload, 1) := by decide +kernel
theorem dL_law_436 : decode cL_law 436 = .ok (.invokevirtual 53, 3) := by decide +kernel
theorem dL_law_439 : decode cL_law 439 = .ok (.lcmp, 1) := by decide +kernel
theorem dL_law_440 : decode cL_law 440 = .ok (.ifCond .eq 497, 3) := by decide +kernel
theorem dL_law_443 : decode cL_law 443 = .ok (.iconst 0, 1) := by decide +kernel
theorem dL_law_444 : decode cL_law 444 = .ok (.ireturn, 1) := by decide +kernel
theorem dL_law_445 : decode cL_law 445 = .ok (.aload_n 1, 1) := by decide +kernel
theorem dL_law_446 : decode cL_law 446 = .ok (.aload_n 0, 1) := by decide +kernel
theorem dL_law_447 : decode cL_law 447 = .ok (.iload_n 3, 1) := by decide +kernel
theorem dL_law_448 : decode cL_law 448 = .ok (.iconst 1, 1) := by decide +kernel
theorem dL_law_449 : decode cL_law 449 = .ok (.iadd, 1) := by decide +kernel
theorem dL_law_450 : decode cL_law 450 = .ok (.iaload, 1) := by decide +kernel
theorem dL_law_451 : decode cL_law 451 = .ok (.aload_n 0, 1) := by decide +kernel
theorem dL_law_452 : decode cL_law 452 = .ok (.iload_n 3, 1) := by decide +kernel
theorem dL_law_453 : decode cL_law 453 = .ok (.iconst 2, 1) := by decide +kernel
theorem dL_law_454 : decode cL_law 454 = .ok (.iadd, 1) := by decide +kernel
theorem dL_law_455 : decode cL_law 455 = .ok (.iaload, 1) := by decide +kernel
theorem dL_law_456 : decode cL_law 456 = .ok (.invokevirtual 54, 3) := by decide +kernel
theorem dL_law_459 : decode cL_law 459 = .ok (.aload_n 2, 1) := by decide +kernel
theorem dL_law_460 : decode cL_law 460 = .ok (.aload_n 0, 1) := by decide +kernel
theorem dL_law_461 : decode cL_law 461 = .ok (.iload_n 3, 1) := by decide +kernel
theorem dL_law_462 : decode cL_law 462 = .ok (.iconst 1, 1) := by decide +kernel
theorem dL_law_463 : decode cL_law 463 = .ok (.iadd, 1) := by decide +kernel
theorem dL_law_464 : decode cL_law 464 = .ok (.iaload, 1) := by decide +kernel
theorem dL_law_465 : decode cL_law 465 = .ok (.aload_n 0, 1) := by decide +kernel
theorem dL_law_466 : decode cL_law 466 = .ok (.iload_n 3, 1) := by decide +kernel
theorem dL_law_467 : decode cL_law 467 = .ok (.iconst 2, 1) := by decide +kernel
theorem dL_law_468 : decode cL_law 468 = .ok (.iadd, 1) := by decide +kernel
theorem dL_law_469 : decode cL_law 469 = .ok (.iaload, 1) := by decide +kernel
theorem dL_law_470 : decode cL_law 470 = .ok (.invokevirtual 57, 3) := by decide +kernel
theorem dL_law_473 : decode cL_law 473 = .ok (.lcmp, 1) := by decide +kernel
theorem dL_law_474 : decode cL_law 474 = .ok (.ifCond .eq 463, 3) := by decide +kernel
theorem dL_law_477 : decode cL_law 477 = .ok (.iconst 0, 1) := by decide +kernel
theorem dL_law_478 : decode cL_law 478 = .ok (.ireturn, 1) := by decide +kernel
theorem dL_law_479 : decode cL_law 479 = .ok (.aload_n 1, 1) := by decide +kernel
theorem dL_law_480 : decode cL_law 480 = .ok (.aload_n 0, 1) := by decide +kernel
theorem dL_law_481 : decode cL_law 481 = .ok (.iload_n 3, 1) := by decide +kernel
theorem dL_law_482 : decode cL_law 482 = .ok (.iconst 1, 1) := by decide +kernel
theorem dL_law_483 : decode cL_law 483 = .ok (.iadd, 1) := by decide +kernel
theorem dL_law_484 : decode cL_law 484 = .ok (.iaload, 1) := by decide +kernel
theorem dL_law_485 : decode cL_law 485 = .ok (.aload_n 0, 1) := by decide +kernel
theorem dL_law_486 : decode cL_law 486 = .ok (.iload_n 3, 1) := by decide +kernel
theorem dL_law_487 : decode cL_law 487 = .ok (.iconst 2, 1) := by decide +kernel
theorem dL_law_488 : decode cL_law 488 = .ok (.iadd, 1) := by decide +kernel
theorem dL_law_489 : decode cL_law 489 = .ok (.iaload, 1) := by decide +kernel
theorem dL_law_490 : decode cL_law 490 = .ok (.invokevirtual 58, 3) := by decide +kernel
theorem dL_law_493 : decode cL_law 493 = .ok (.aload_n 2, 1) := by decide +kernel
theorem dL_law_494 : decode cL_law 494 = .ok (.aload_n 0, 1) := by decide +kernel
theorem dL_law_495 : decode cL_law 495 = .ok (.iload_n 3, 1) := by decide +kernel
theorem dL_law_496 : decode cL_law 496 = .ok (.iconst 1, 1) := by decide +kernel
theorem dL_law_497 : decode cL_law 497 = .ok (.iadd, 1) := by decide +kernel
theorem dL_law_498 : decode cL_law 498 = .ok (.iaload, 1) := by decide +kernel
theorem dL_law_499 : decode cL_law 499 = .ok (.aload_n 0, 1) := by decide +kernel
theorem dL_law_500 : decode cL_law 500 = .ok (.iload_n 3, 1) := by decide +kernel
theorem dL_law_501 : decode cL_law 501 = .ok (.iconst 2, 1) := by decide +kernel
theorem dL_law_502 : decode cL_law 502 = .ok (.iadd, 1) := by decide +kernel
theorem dL_law_503 : decode cL_law 503 = .ok (.iaload, 1) := by decide +kernel
theorem dL_law_504 : decode cL_law 504 = .ok (.invokevirtual 61, 3) := by decide +kernel
theorem dL_law_507 : decode cL_law 507 = .ok (.lcmp, 1) := by decide +kernel
theorem dL_law_508 : decode cL_law 508 = .ok (.ifCond .eq 429, 3) := by decide +kernel
theorem dL_law_511 : decode cL_law 511 = .ok (.iconst 0, 1) := by decide +kernel
theorem dL_law_512 : decode cL_law 512 = .ok (.ireturn, 1) := by decide +kernel
theorem dL_law_513 : decode cL_law 513 = .ok (.aload_n 1, 1) := by decide +kernel
theorem dL_law_514 : decode cL_law 514 = .ok (.aload_n 0, 1) := by decide +kernel
theorem dL_law_515 : decode cL_law 515 = .ok (.iload_n 3, 1) := by decide +kernel
theorem dL_law_516 : decode cL_law 516 = .ok (.iconst 1, 1) := by decide +kernel
theorem dL_law_517 : decode cL_law 517 = .ok (.iadd, 1) := by decide +kernel
theorem dL_law_518 : decode cL_law 518 = .ok (.iaload, 1) := by decide +kernel
theorem dL_law_519 : decode cL_law 519 = .ok (.aload_n 0, 1) := by decide +kernel
theorem dL_law_520 : decode cL_law 520 = .ok (.iload_n 3, 1) := by decide +kernel
theorem dL_law_521 : decode cL_law 521 = .ok (.iconst 2, 1) := by decide +kernel
theorem dL_law_522 : decode cL_law 522 = .ok (.iadd, 1) := by decide +kernel
theorem dL_law_523 : decode cL_law 523 = .ok (.iaload, 1) := by decide +kernel
theorem dL_law_524 : decode cL_law 524 = .ok (.invokevirtual 62, 3) := by decide +kernel
theorem dL_law_527 : decode cL_law 527 = .ok (.aload_n 2, 1) := by decide +kernel
theorem dL_law_528 : decode cL_law 528 = .ok (.aload_n 0, 1) := by decide +kernel
theorem dL_law_529 : decode cL_law 529 = .ok (.iload_n 3, 1) := by decide +kernel
theorem dL_law_530 : decode cL_law 530 = .ok (.iconst 1, 1) := by decide +kernel
theorem dL_law_531 : decode cL_law 531 = .ok (.iadd, 1) := by decide +kernel
theorem dL_law_532 : decode cL_law 532 = .ok (.iaload, 1) := by decide +kernel
theorem dL_law_533 : decode cL_law 533 = .ok (.aload_n 0, 1) := by decide +kernel
theorem dL_law_534 : decode cL_law 534 = .ok (.iload_n 3, 1) := by decide +kernel
theorem dL_law_535 : decode cL_law 535 = .ok (.iconst 2, 1) := by decide +kernel
theorem dL_law_536 : decode cL_law 536 = .ok (.iadd, 1) := by decide +kernel
theorem dL_law_537 : decode cL_law 537 = .ok (.iaload, 1) := by decide +kernel
theorem dL_law_538 : decode cL_law 538 = .ok (.invokevirtual 65, 3) := by decide +kernel
theorem dL_law_541 : decode cL_law 541 = .ok (.lcmp, 1) := by decide +kernel
theorem dL_law_542 : decode cL_law 542 = .ok (.ifCond .eq 395, 3) := by decide +kernel
theorem dL_law_545 : decode cL_law 545 = .ok (.iconst 0, 1) := by decide +kernel
theorem dL_law_546 : decode cL_law 546 = .ok (.ireturn, 1) := by decide +kernel
theorem dL_law_547 : decode cL_law 547 = .ok (.aload_n 1, 1) := by decide +kernel
theorem dL_law_548 : decode cL_law 548 = .ok (.aload_n 0, 1) := by decide +kernel
theorem dL_law_549 : decode cL_law 549 = .ok (.iload_n 3, 1) := by decide +kernel
theorem dL_law_550 : decode cL_law 550 = .ok (.iconst 1, 1) := by decide +kernel
theorem dL_law_551 : decode cL_law 551 = .ok (.iadd, 1) := by decide +kernel
theorem dL_law_552 : decode cL_law 552 = .ok (.iaload, 1) := by decide +kernel
theorem dL_law_553 : decode cL_law 553 = .ok (.aload_n 0, 1) := by decide +kernel
theorem dL_law_554 : decode cL_law 554 = .ok (.iload_n 3, 1) := by decide +kernel
theorem dL_law_555 : decode cL_law 555 = .ok (.iconst 2, 1) := by decide +kernel
theorem dL_law_556 : decode cL_law 556 = .ok (.iadd, 1) := by decide +kernel
theorem dL_law_557 : decode cL_law 557 = .ok (.iaload, 1) := by decide +kernel
theorem dL_law_558 : decode cL_law 558 = .ok (.invokevirtual 66, 3) := by decide +kernel
theorem dL_law_561 : decode cL_law 561 = .ok (.aload_n 2, 1) := by decide +kernel
theorem dL_law_562 : decode cL_law 562 = .ok (.aload_n 0, 1) := by decide +kernel
theorem dL_law_563 : decode cL_law 563 = .ok (.iload_n 3, 1) := by decide +kernel
theorem dL_law_564 : decode cL_law 564 = .ok (.iconst 1, 1) := by decide +kernel
theorem dL_law_565 : decode cL_law 565 = .ok (.iadd, 1) := by decide +kernel
theorem dL_law_566 : decode cL_law 566 = .ok (.iaload, 1) := by decide +kernel
theorem dL_law_567 : decode cL_law 567 = .ok (.aload_n 0, 1) := by decide +kernel
theorem dL_law_568 : decode cL_law 568 = .ok (.iload_n 3, 1) := by decide +kernel
theorem dL_law_569 : decode cL_law 569 = .ok (.iconst 2, 1) := by decide +kernel
theorem dL_law_570 : decode cL_law 570 = .ok (.iadd, 1) := by decide +kernel
theorem dL_law_571 : decode cL_law 571 = .ok (.iaload, 1) := by decide +kernel
theorem dL_law_572 : decode cL_law 572 = .ok (.invokevirtual 69, 3) := by decide +kernel
theorem dL_law_575 : decode cL_law 575 = .ok (.lcmp, 1) := by decide +kernel
theorem dL_law_576 : decode cL_law 576 = .ok (.ifCond .eq 361, 3) := by decide +kernel
theorem dL_law_579 : decode cL_law 579 = .ok (.iconst 0, 1) := by decide +kernel
theorem dL_law_580 : decode cL_law 580 = .ok (.ireturn, 1) := by decide +kernel
theorem dL_law_581 : decode cL_law 581 = .ok (.aload_n 1, 1) := by decide +kernel
theorem dL_law_582 : decode cL_law 582 = .ok (.aload_n 0, 1) := by decide +kernel
theorem dL_law_583 : decode cL_law 583 = .ok (.iload_n 3, 1) := by decide +kernel
theorem dL_law_584 : decode cL_law 584 = .ok (.iconst 1, 1) := by decide +kernel
theorem dL_law_585 : decode cL_law 585 = .ok (.iadd, 1) := by decide +kernel
theorem dL_law_586 : decode cL_law 586 = .ok (.iaload, 1) := by decide +kernel
theorem dL_law_587 : decode cL_law 587 = .ok (.aload_n 0, 1) := by decide +kernel
theorem dL_law_588 : decode cL_law 588 = .ok (.iload_n 3, 1) := by decide +kernel
theorem dL_law_589 : decode cL_law 589 = .ok (.iconst 2, 1) := by decide +kernel
theorem dL_law_590 : decode cL_law 590 = .ok (.iadd, 1) := by decide +kernel
theorem dL_law_591 : decode cL_law 591 = .ok (.iaload, 1) := by decide +kernel
theorem dL_law_592 : decode cL_law 592 = .ok (.aload_n 0, 1) := by decide +kernel
theorem dL_law_593 : decode cL_law 593 = .ok (.iload_n 3, 1) := by decide +kernel
theorem dL_law_594 : decode cL_law 594 = .ok (.iconst 3, 1) := by decide +kernel
theorem dL_law_595 : decode cL_law 595 = .ok (.iadd, 1) := by decide +kernel
theorem dL_law_596 : decode cL_law 596 = .ok (.iaload, 1) := by decide +kernel
theorem dL_law_597 : decode cL_law 597 = .ok (.invokevirtual 70, 3) := by decide +kernel
theorem dL_law_600 : decode cL_law 600 = .ok (.aload_n 2, 1) := by decide +kernel
theorem dL_law_601 : decode cL_law 601 = .ok (.aload_n 0, 1) := by decide +kernel
theorem dL_law_602 : decode cL_law 602 = .ok (.iload_n 3, 1) := by decide +kernel
theorem dL_law_603 : decode cL_law 603 = .ok (.iconst 1, 1) := by decide +kernel
theorem dL_law_604 : decode cL_law 604 = .ok (.iadd, 1) := by decide +kernel
theorem dL_law_605 : decode cL_law 605 = .ok (.iaload, 1) := by decide +kernel
theorem dL_law_606 : decode cL_law 606 = .ok (.aload_n 0, 1) := by decide +kernel
theorem dL_law_607 : decode cL_law 607 = .ok (.iload_n 3, 1) := by decide +kernel
theorem dL_law_608 : decode cL_law 608 = .ok (.iconst 2, 1) := by decide +kernel
theorem dL_law_609 : decode cL_law 609 = .ok (.iadd, 1) := by decide +kernel
theorem dL_law_610 : decode cL_law 610 = .ok (.iaload, 1) := by decide +kernel
theorem dL_law_611 : decode cL_law 611 = .ok (.aload_n 0, 1) := by decide +kernel
theorem dL_law_612 : decode cL_law 612 = .ok (.iload_n 3, 1) := by decide +kernel
theorem dL_law_613 : decode cL_law 613 = .ok (.iconst 3, 1) := by decide +kernel
theorem dL_law_614 : decode cL_law 614 = .ok (.iadd, 1) := by decide +kernel
theorem dL_law_615 : decode cL_law 615 = .ok (.iaload, 1) := by decide +kernel
theorem dL_law_616 : decode cL_law 616 = .ok (.invokevirtual 73, 3) := by decide +kernel
theorem dL_law_619 : decode cL_law 619 = .ok (.lcmp, 1) := by decide +kernel
theorem dL_law_620 : decode cL_law 620 = .ok (.ifCond .eq 317, 3) := by decide +kernel
theorem dL_law_623 : decode cL_law 623 = .ok (.iconst 0, 1) := by decide +kernel
theorem dL_law_624 : decode cL_law 624 = .ok (.ireturn, 1) := by decide +kernel
theorem dL_law_625 : decode cL_law 625 = .ok (.aload_n 1, 1) := by decide +kernel
theorem dL_law_626 : decode cL_law 626 = .ok (.aload_n 0, 1) := by decide +kernel
theorem dL_law_627 : decode cL_law 627 = .ok (.iload_n 3, 1) := by decide +kernel
theorem dL_law_628 : decode cL_law 628 = .ok (.iconst 1, 1) := by decide +kernel
theorem dL_law_629 : decode cL_law 629 = .ok (.iadd, 1) := by decide +kernel
theorem dL_law_630 : decode cL_law 630 = .ok (.iaload, 1) := by decide +kernel
theorem dL_law_631 : decode cL_law 631 = .ok (.aload_n 0, 1) := by decide +kernel
theorem dL_law_632 : decode cL_law 632 = .ok (.iload_n 3, 1) := by decide +kernel
theorem dL_law_633 : decode cL_law 633 = .ok (.iconst 2, 1) := by decide +kernel
theorem dL_law_634 : decode cL_law 634 = .ok (.iadd, 1) := by decide +kernel
theorem dL_law_635 : decode cL_law 635 = .ok (.iaload, 1) := by decide +kernel
theorem dL_law_636 : decode cL_law 636 = .ok (.invokevirtual 74, 3) := by decide +kernel
theorem dL_law_639 : decode cL_law 639 = .ok (.aload_n 2, 1) := by decide +kernel
theorem dL_law_640 : decode cL_law 640 = .ok (.aload_n 0, 1) := by decide +kernel
theorem dL_law_641 : decode cL_law 641 = .ok (.iload_n 3, 1) := by decide +kernel
theorem dL_law_642 : decode cL_law 642 = .ok (.iconst 1, 1) := by decide +kernel
theorem dL_law_643 : decode cL_law 643 = .ok (.iadd, 1) := by decide +kernel
theorem dL_law_644 : decode cL_law 644 = .ok (.iaload, 1) := by decide +kernel
theorem dL_law_645 : decode cL_law 645 = .ok (.aload_n 0, 1) := by decide +kernel
theorem dL_law_646 : decode cL_law 646 = .ok (.iload_n 3, 1) := by decide +kernel
theorem dL_law_647 : decode cL_law 647 = .ok (.iconst 2, 1) := by decide +kernel
theorem dL_law_648 : decode cL_law 648 = .ok (.iadd, 1) := by decide +kernel
theorem dL_law_649 : decode cL_law 649 = .ok (.iaload, 1) := by decide +kernel
theorem dL_law_650 : decode cL_law 650 = .ok (.invokevirtual 77, 3) := by decide +kernel
theorem dL_law_653 : decode cL_law 653 = .ok (.lcmp, 1) := by decide +kernel
theorem dL_law_654 : decode cL_law 654 = .ok (.ifCond .eq 283, 3) := by decide +kernel
theorem dL_law_657 : decode cL_law 657 = .ok (.iconst 0, 1) := by decide +kernel
theorem dL_law_658 : decode cL_law 658 = .ok (.ireturn, 1) := by decide +kernel
theorem dL_law_659 : decode cL_law 659 = .ok (.aload_n 1, 1) := by decide +kernel
theorem dL_law_660 : decode cL_law 660 = .ok (.aload_n 0, 1) := by decide +kernel
theorem dL_law_661 : decode cL_law 661 = .ok (.iload_n 3, 1) := by decide +kernel
theorem dL_law_662 : decode cL_law 662 = .ok (.iconst 1, 1) := by decide +kernel
theorem dL_law_663 : decode cL_law 663 = .ok (.iadd, 1) := by decide +kernel
theorem dL_law_664 : decode cL_law 664 = .ok (.iaload, 1) := by decide +kernel
theorem dL_law_665 : decode cL_law 665 = .ok (.aload_n 0, 1) := by decide +kernel
theorem dL_law_666 : decode cL_law 666 = .ok (.iload_n 3, 1) := by decide +kernel
theorem dL_law_667 : decode cL_law 667 = .ok (.iconst 2, 1) := by decide +kernel
theorem dL_law_668 : decode cL_law 668 = .ok (.iadd, 1) := by decide +kernel
theorem dL_law_669 : decode cL_law 669 = .ok (.iaload, 1) := by decide +kernel
theorem dL_law_670 : decode cL_law 670 = .ok (.invokevirtual 78, 3) := by decide +kernel
theorem dL_law_673 : decode cL_law 673 = .ok (.aload_n 2, 1) := by decide +kernel
theorem dL_law_674 : decode cL_law 674 = .ok (.aload_n 0, 1) := by decide +kernel
theorem dL_law_675 : decode cL_law 675 = .ok (.iload_n 3, 1) := by decide +kernel
theorem dL_law_676 : decode cL_law 676 = .ok (.iconst 1, 1) := by decide +kernel
theorem dL_law_677 : decode cL_law 677 = .ok (.iadd, 1) := by decide +kernel
theorem dL_law_678 : decode cL_law 678 = .ok (.iaload, 1) := by decide +kernel
theorem dL_law_679 : decode cL_law 679 = .ok (.aload_n 0, 1) := by decide +kernel
theorem dL_law_680 : decode cL_law 680 = .ok (.iload_n 3, 1) := by decide +kernel
theorem dL_law_681 : decode cL_law 681 = .ok (.iconst 2, 1) := by decide +kernel
theorem dL_law_682 : decode cL_law 682 = .ok (.iadd, 1) := by decide +kernel
theorem dL_law_683 : decode cL_law 683 = .ok (.iaload, 1) := by decide +kernel
theorem dL_law_684 : decode cL_law 684 = .ok (.invokevirtual 81, 3) := by decide +kernel
theorem dL_law_687 : decode cL_law 687 = .ok (.lcmp, 1) := by decide +kernel
theorem dL_law_688 : decode cL_law 688 = .ok (.ifCond .eq 249, 3) := by decide +kernel
theorem dL_law_691 : decode cL_law 691 = .ok (.iconst 0, 1) := by decide +kernel
theorem dL_law_692 : decode cL_law 692 = .ok (.ireturn, 1) := by decide +kernel
theorem dL_law_693 : decode cL_law 693 = .ok (.aload_n 1, 1) := by decide +kernel
theorem dL_law_694 : decode cL_law 694 = .ok (.aload_n 0, 1) := by decide +kernel
theorem dL_law_695 : decode cL_law 695 = .ok (.iload_n 3, 1) := by decide +kernel
theorem dL_law_696 : decode cL_law 696 = .ok (.iconst 1, 1) := by decide +kernel
theorem dL_law_697 : decode cL_law 697 = .ok (.iadd, 1) := by decide +kernel
theorem dL_law_698 : decode cL_law 698 = .ok (.iaload, 1) := by decide +kernel
theorem dL_law_699 : decode cL_law 699 = .ok (.aload_n 0, 1) := by decide +kernel
theorem dL_law_700 : decode cL_law 700 = .ok (.iload_n 3, 1) := by decide +kernel
theorem dL_law_701 : decode cL_law 701 = .ok (.iconst 2, 1) := by decide +kernel
theorem dL_law_702 : decode cL_law 702 = .ok (.iadd, 1) := by decide +kernel
theorem dL_law_703 : decode cL_law 703 = .ok (.iaload, 1) := by decide +kernel
theorem dL_law_704 : decode cL_law 704 = .ok (.aload_n 0, 1) := by decide +kernel
theorem dL_law_705 : decode cL_law 705 = .ok (.iload_n 3, 1) := by decide +kernel
theorem dL_law_706 : decode cL_law 706 = .ok (.iconst 3, 1) := by decide +kernel
theorem dL_law_707 : decode cL_law 707 = .ok (.iadd, 1) := by decide +kernel
theorem dL_law_708 : decode cL_law 708 = .ok (.iaload, 1) := by decide +kernel
theorem dL_law_709 : decode cL_law 709 = .ok (.invokevirtual 82, 3) := by decide +kernel
theorem dL_law_712 : decode cL_law 712 = .ok (.aload_n 2, 1) := by decide +kernel
theorem dL_law_713 : decode cL_law 713 = .ok (.aload_n 0, 1) := by decide +kernel
theorem dL_law_714 : decode cL_law 714 = .ok (.iload_n 3, 1) := by decide +kernel
theorem dL_law_715 : decode cL_law 715 = .ok (.iconst 1, 1) := by decide +kernel
theorem dL_law_716 : decode cL_law 716 = .ok (.iadd, 1) := by decide +kernel
theorem dL_law_717 : decode cL_law 717 = .ok (.iaload, 1) := by decide +kernel
theorem dL_law_718 : decode cL_law 718 = .ok (.aload_n 0, 1) := by decide +kernel
theorem dL_law_719 : decode cL_law 719 = .ok (.iload_n 3, 1) := by decide +kernel
theorem dL_law_720 : decode cL_law 720 = .ok (.iconst 2, 1) := by decide +kernel
theorem dL_law_721 : decode cL_law 721 = .ok (.iadd, 1) := by decide +kernel
theorem dL_law_722 : decode cL_law 722 = .ok (.iaload, 1) := by decide +kernel
theorem dL_law_723 : decode cL_law 723 = .ok (.aload_n 0, 1) := by decide +kernel
theorem dL_law_724 : decode cL_law 724 = .ok (.iload_n 3, 1) := by decide +kernel
theorem dL_law_725 : decode cL_law 725 = .ok (.iconst 3, 1) := by decide +kernel
theorem dL_law_726 : decode cL_law 726 = .ok (.iadd, 1) := by decide +kernel
theorem dL_law_727 : decode cL_law 727 = .ok (.iaload, 1) := by decide +kernel
theorem dL_law_728 : decode cL_law 728 = .ok (.invokevirtual 85, 3) := by decide +kernel
theorem dL_law_731 : decode cL_law 731 = .ok (.lcmp, 1) := by decide +kernel
theorem dL_law_732 : decode cL_law 732 = .ok (.ifCond .eq 205, 3) := by decide +kernel
theorem dL_law_735 : decode cL_law 735 = .ok (.iconst 0, 1) := by decide +kernel
theorem dL_law_736 : decode cL_law 736 = .ok (.ireturn, 1) := by decide +kernel
theorem dL_law_737 : decode cL_law 737 = .ok (.aload_n 1, 1) := by decide +kernel
theorem dL_law_738 : decode cL_law 738 = .ok (.invokevirtual 86, 3) := by decide +kernel
theorem dL_law_741 : decode cL_law 741 = .ok (.aload_n 2, 1) := by decide +kernel
theorem dL_law_742 : decode cL_law 742 = .ok (.invokevirtual 89, 3) := by decide +kernel
theorem dL_law_745 : decode cL_law 745 = .ok (.lcmp, 1) := by decide +kernel
theorem dL_law_746 : decode cL_law 746 = .ok (.ifCond .eq 191, 3) := by decide +kernel
theorem dL_law_749 : decode cL_law 749 = .ok (.iconst 0, 1) := by decide +kernel
theorem dL_law_750 : decode cL_law 750 = .ok (.ireturn, 1) := by decide +kernel
theorem dL_law_751 : decode cL_law 751 = .ok (.aload_n 1, 1) := by decide +kernel
theorem dL_law_752 : decode cL_law 752 = .ok (.aload_n 0, 1) := by decide +kernel
theorem dL_law_753 : decode cL_law 753 = .ok (.iload_n 3, 1) := by decide +kernel
theorem dL_law_754 : decode cL_law 754 = .ok (.iconst 1, 1) := by decide +kernel
theorem dL_law_755 : decode cL_law 755 = .ok (.iadd, 1) := by decide +kernel
theorem dL_law_756 : decode cL_law 756 = .ok (.iaload, 1) := by decide +kernel
theorem dL_law_757 : decode cL_law 757 = .ok (.aload_n 0, 1) := by decide +kernel
theorem dL_law_758 : decode cL_law 758 = .ok (.iload_n 3, 1) := by decide +kernel
theorem dL_law_759 : decode cL_law 759 = .ok (.iconst 2, 1) := by decide +kernel
theorem dL_law_760 : decode cL_law 760 = .ok (.iadd, 1) := by decide +kernel
theorem dL_law_761 : decode cL_law 761 = .ok (.iaload, 1) := by decide +kernel
theorem dL_law_762 : decode cL_law 762 = .ok (.invokevirtual 90, 3) := by decide +kernel
theorem dL_law_765 : decode cL_law 765 = .ok (.aload_n 2, 1) := by decide +kernel
theorem dL_law_766 : decode cL_law 766 = .ok (.aload_n 0, 1) := by decide +kernel
theorem dL_law_767 : decode cL_law 767 = .ok (.iload_n 3, 1) := by decide +kernel
theorem dL_law_768 : decode cL_law 768 = .ok (.iconst 1, 1) := by decide +kernel
theorem dL_law_769 : decode cL_law 769 = .ok (.iadd, 1) := by decide +kernel
theorem dL_law_770 : decode cL_law 770 = .ok (.iaload, 1) := by decide +kernel
theorem dL_law_771 : decode cL_law 771 = .ok (.aload_n 0, 1) := by decide +kernel
theorem dL_law_772 : decode cL_law 772 = .ok (.iload_n 3, 1) := by decide +kernel
theorem dL_law_773 : decode cL_law 773 = .ok (.iconst 2, 1) := by decide +kernel
theorem dL_law_774 : decode cL_law 774 = .ok (.iadd, 1) := by decide +kernel
theorem dL_law_775 : decode cL_law 775 = .ok (.iaload, 1) := by decide +kernel
theorem dL_law_776 : decode cL_law 776 = .ok (.invokevirtual 93, 3) := by decide +kernel
theorem dL_law_779 : decode cL_law 779 = .ok (.lcmp, 1) := by decide +kernel
theorem dL_law_780 : decode cL_law 780 = .ok (.ifCond .eq 157, 3) := by decide +kernel
theorem dL_law_783 : decode cL_law 783 = .ok (.iconst 0, 1) := by decide +kernel
theorem dL_law_784 : decode cL_law 784 = .ok (.ireturn, 1) := by decide +kernel
theorem dL_law_785 : decode cL_law 785 = .ok (.aload_n 1, 1) := by decide +kernel
theorem dL_law_786 : decode cL_law 786 = .ok (.aload_n 0, 1) := by decide +kernel
theorem dL_law_787 : decode cL_law 787 = .ok (.iload_n 3, 1) := by decide +kernel
theorem dL_law_788 : decode cL_law 788 = .ok (.iconst 1, 1) := by decide +kernel
theorem dL_law_789 : decode cL_law 789 = .ok (.iadd, 1) := by decide +kernel
theorem dL_law_790 : decode cL_law 790 = .ok (.iaload, 1) := by decide +kernel
theorem dL_law_791 : decode cL_law 791 = .ok (.invokevirtual 94, 3) := by decide +kernel
theorem dL_law_794 : decode cL_law 794 = .ok (.aload_n 2, 1) := by decide +kernel
theorem dL_law_795 : decode cL_law 795 = .ok (.aload_n 0, 1) := by decide +kernel
theorem dL_law_796 : decode cL_law 796 = .ok (.iload_n 3, 1) := by decide +kernel
theorem dL_law_797 : decode cL_law 797 = .ok (.iconst 1, 1) := by decide +kernel
theorem dL_law_798 : decode cL_law 798 = .ok (.iadd, 1) := by decide +kernel
theorem dL_law_799 : decode cL_law 799 = .ok (.iaload, 1) := by decide +kernel
theorem dL_law_800 : decode cL_law 800 = .ok (.invokevirtual 97, 3) := by decide +kernel
theorem dL_law_803 : decode cL_law 803 = .ok (.lcmp, 1) := by decide +kernel
theorem dL_law_804 : decode cL_law 804 = .ok (.ifCond .eq 133, 3) := by decide +kernel
theorem dL_law_807 : decode cL_law 807 = .ok (.iconst 0, 1) := by decide +kernel
theorem dL_law_808 : decode cL_law 808 = .ok (.ireturn, 1) := by decide +kernel
theorem dL_law_809 : decode cL_law 809 = .ok (.aload_n 1, 1) := by decide +kernel
theorem dL_law_810 : decode cL_law 810 = .ok (.aload_n 0, 1) := by decide +kernel
theorem dL_law_811 : decode cL_law 811 = .ok (.iload_n 3, 1) := by decide +kernel
theorem dL_law_812 : decode cL_law 812 = .ok (.iconst 1, 1) := by decide +kernel
theorem dL_law_813 : decode cL_law 813 = .ok (.iadd, 1) := by decide +kernel
theorem dL_law_814 : decode cL_law 814 = .ok (.iaload, 1) := by decide +kernel
theorem dL_law_815 : decode cL_law 815 = .ok (.aload_n 0, 1) := by decide +kernel
theorem dL_law_816 : decode cL_law 816 = .ok (.iload_n 3, 1) := by decide +kernel
theorem dL_law_817 : decode cL_law 817 = .ok (.iconst 2, 1) := by decide +kernel
theorem dL_law_818 : decode cL_law 818 = .ok (.iadd, 1) := by decide +kernel
theorem dL_law_819 : decode cL_law 819 = .ok (.iaload, 1) := by decide +kernel
theorem dL_law_820 : decode cL_law 820 = .ok (.invokevirtual 98, 3) := by decide +kernel
theorem dL_law_823 : decode cL_law 823 = .ok (.aload_n 2, 1) := by decide +kernel
theorem dL_law_824 : decode cL_law 824 = .ok (.aload_n 0, 1) := by decide +kernel
theorem dL_law_825 : decode cL_law 825 = .ok (.iload_n 3, 1) := by decide +kernel
theorem dL_law_826 : decode cL_law 826 = .ok (.iconst 1, 1) := by decide +kernel
theorem dL_law_827 : decode cL_law 827 = .ok (.iadd, 1) := by decide +kernel
theorem dL_law_828 : decode cL_law 828 = .ok (.iaload, 1) := by decide +kernel
theorem dL_law_829 : decode cL_law 829 = .ok (.aload_n 0, 1) := by decide +kernel
theorem dL_law_830 : decode cL_law 830 = .ok (.iload_n 3, 1) := by decide +kernel
theorem dL_law_831 : decode cL_law 831 = .ok (.iconst 2, 1) := by decide +kernel
theorem dL_law_832 : decode cL_law 832 = .ok (.iadd, 1) := by decide +kernel
theorem dL_law_833 : decode cL_law 833 = .ok (.iaload, 1) := by decide +kernel
theorem dL_law_834 : decode cL_law 834 = .ok (.invokevirtual 101, 3) := by decide +kernel
theorem dL_law_837 : decode cL_law 837 = .ok (.lcmp, 1) := by decide +kernel
theorem dL_law_838 : decode cL_law 838 = .ok (.ifCond .eq 99, 3) := by decide +kernel
theorem dL_law_841 : decode cL_law 841 = .ok (.iconst 0, 1) := by decide +kernel
theorem dL_law_842 : decode cL_law 842 = .ok (.ireturn, 1) := by decide +kernel
theorem dL_law_843 : decode cL_law 843 = .ok (.aload_n 1, 1) := by decide +kernel
theorem dL_law_844 : decode cL_law 844 = .ok (.aload_n 0, 1) := by decide +kernel
theorem dL_law_845 : decode cL_law 845 = .ok (.iload_n 3, 1) := by decide +kernel
theorem dL_law_846 : decode cL_law 846 = .ok (.iconst 1, 1) := by decide +kernel
theorem dL_law_847 : decode cL_law 847 = .ok (.iadd, 1) := by decide +kernel
theorem dL_law_848 : decode cL_law 848 = .ok (.iaload, 1) := by decide +kernel
theorem dL_law_849 : decode cL_law 849 = .ok (.aload_n 0, 1) := by decide +kernel
theorem dL_law_850 : decode cL_law 850 = .ok (.iload_n 3, 1) := by decide +kernel
theorem dL_law_851 : decode cL_law 851 = .ok (.iconst 2, 1) := by decide +kernel
theorem dL_law_852 : decode cL_law 852 = .ok (.iadd, 1) := by decide +kernel
theorem dL_law_853 : decode cL_law 853 = .ok (.iaload, 1) := by decide +kernel
theorem dL_law_854 : decode cL_law 854 = .ok (.invokevirtual 102, 3) := by decide +kernel
theorem dL_law_857 : decode cL_law 857 = .ok (.aload_n 2, 1) := by decide +kernel
theorem dL_law_858 : decode cL_law 858 = .ok (.aload_n 0, 1) := by decide +kernel
theorem dL_law_859 : decode cL_law 859 = .ok (.iload_n 3, 1) := by decide +kernel
theorem dL_law_860 : decode cL_law 860 = .ok (.iconst 1, 1) := by decide +kernel
theorem dL_law_861 : decode cL_law 861 = .ok (.iadd, 1) := by decide +kernel
theorem dL_law_862 : decode cL_law 862 = .ok (.iaload, 1) := by decide +kernel
theorem dL_law_863 : decode cL_law 863 = .ok (.aload_n 0, 1) := by decide +kernel
theorem dL_law_864 : decode cL_law 864 = .ok (.iload_n 3, 1) := by decide +kernel
theorem dL_law_865 : decode cL_law 865 = .ok (.iconst 2, 1) := by decide +kernel
theorem dL_law_866 : decode cL_law 866 = .ok (.iadd, 1) := by decide +kernel
theorem dL_law_867 : decode cL_law 867 = .ok (.iaload, 1) := by decide +kernel
theorem dL_law_868 : decode cL_law 868 = .ok (.invokevirtual 105, 3) := by decide +kernel
theorem dL_law_871 : decode cL_law 871 = .ok (.lcmp, 1) := by decide +kernel
theorem dL_law_872 : decode cL_law 872 = .ok (.ifCond .eq 65, 3) := by decide +kernel
theorem dL_law_875 : decode cL_law 875 = .ok (.iconst 0, 1) := by decide +kernel
theorem dL_law_876 : decode cL_law 876 = .ok (.ireturn, 1) := by decide +kernel
theorem dL_law_877 : decode cL_law 877 = .ok (.aload_n 1, 1) := by decide +kernel
theorem dL_law_878 : decode cL_law 878 = .ok (.aload_n 0, 1) := by decide +kernel
theorem dL_law_879 : decode cL_law 879 = .ok (.iload_n 3, 1) := by decide +kernel
theorem dL_law_880 : decode cL_law 880 = .ok (.iconst 1, 1) := by decide +kernel
end
section
theorem dL_law_881 : decode cL_law 881 = .ok (.iadd, 1) := by decide +kernel
theorem dL_law_882 : decode cL_law 882 = .ok (.iaload, 1) := by decide +kernel
theorem dL_law_883 : decode cL_law 883 = .ok (.invokevirtual 106, 3) := by decide +kernel
theorem dL_law_886 : decode cL_law 886 = .ok (.aload_n 2, 1) := by decide +kernel
theorem dL_law_887 : decode cL_law 887 = .ok (.aload_n 0, 1) := by decide +kernel
theorem dL_law_888 : decode cL_law 888 = .ok (.iload_n 3, 1) := by decide +kernel
theorem dL_law_889 : decode cL_law 889 = .ok (.iconst 1, 1) := by decide +kernel
theorem dL_law_890 : decode cL_law 890 = .ok (.iadd, 1) := by decide +kernel
theorem dL_law_891 : decode cL_law 891 = .ok (.iaload, 1) := by decide +kernel
theorem dL_law_892 : decode cL_law 892 = .ok (.invokevirtual 110, 3) := by decide +kernel
theorem dL_law_895 : decode cL_law 895 = .ok (.if_icmp .eq 42, 3) := by decide +kernel
theorem dL_law_898 : decode cL_law 898 = .ok (.iconst 0, 1) := by decide +kernel
theorem dL_law_899 : decode cL_law 899 = .ok (.ireturn, 1) := by decide +kernel
theorem dL_law_900 : decode cL_law 900 = .ok (.aload_n 1, 1) := by decide +kernel
theorem dL_law_901 : decode cL_law 901 = .ok (.aload_n 0, 1) := by decide +kernel
theorem dL_law_902 : decode cL_law 902 = .ok (.iload_n 3, 1) := by decide +kernel
theorem dL_law_903 : decode cL_law 903 = .ok (.iconst 1, 1) := by decide +kernel
theorem dL_law_904 : decode cL_law 904 = .ok (.iadd, 1) := by decide +kernel
theorem dL_law_905 : decode cL_law 905 = .ok (.iaload, 1) := by decide +kernel
theorem dL_law_906 : decode cL_law 906 = .ok (.invokevirtual 111, 3) := by decide +kernel
theorem dL_law_909 : decode cL_law 909 = .ok (.aload_n 2, 1) := by decide +kernel
theorem dL_law_910 : decode cL_law 910 = .ok (.aload_n 0, 1) := by decide +kernel
theorem dL_law_911 : decode cL_law 911 = .ok (.iload_n 3, 1) := by decide +kernel
theorem dL_law_912 : decode cL_law 912 = .ok (.iconst 1, 1) := by decide +kernel
theorem dL_law_913 : decode cL_law 913 = .ok (.iadd, 1) := by decide +kernel
theorem dL_law_914 : decode cL_law 914 = .ok (.iaload, 1) := by decide +kernel
theorem dL_law_915 : decode cL_law 915 = .ok (.invokevirtual 114, 3) := by decide +kernel
theorem dL_law_918 : decode cL_law 918 = .ok (.lcmp, 1) := by decide +kernel
theorem dL_law_919 : decode cL_law 919 = .ok (.ifCond .eq 18, 3) := by decide +kernel
theorem dL_law_922 : decode cL_law 922 = .ok (.iconst 0, 1) := by decide +kernel
theorem dL_law_923 : decode cL_law 923 = .ok (.ireturn, 1) := by decide +kernel
theorem dL_law_924 : decode cL_law 924 = .ok (.aload_n 1, 1) := by decide +kernel
theorem dL_law_925 : decode cL_law 925 = .ok (.invokevirtual 115, 3) := by decide +kernel
theorem dL_law_928 : decode cL_law 928 = .ok (.aload_n 2, 1) := by decide +kernel
theorem dL_law_929 : decode cL_law 929 = .ok (.invokevirtual 118, 3) := by decide +kernel
theorem dL_law_932 : decode cL_law 932 = .ok (.if_icmp .eq 5, 3) := by decide +kernel
theorem dL_law_935 : decode cL_law 935 = .ok (.iconst 0, 1) := by decide +kernel
theorem dL_law_936 : decode cL_law 936 = .ok (.ireturn, 1) := by decide +kernel
theorem dL_law_937 : decode cL_law 937 = .ok (.iinc 3 6, 3) := by decide +kernel
theorem dL_law_940 : decode cL_law 940 = .ok (.goto (-922), 3) := by decide +kernel
theorem dL_law_943 : decode cL_law 943 = .ok (.iconst 1, 1) := by decide +kernel
theorem dL_law_944 : decode cL_law 944 = .ok (.ireturn, 1) := by decide +kernel
end
section
/-! THE BASE: universal words, contracts (Ct), the walk's judgement (zW), instruction rows over it -/
def zU : List Cond := lw_tbl.filter goodWord
theorem zm (i : Nat) {w : Cond} (h : lw_tbl[i]? = some w) (g : goodWord w = true) : w ∈ zU := List.mem_filter.mpr ⟨List.mem_of_getElem? h, g⟩
theorem zU_good : GoodIn zU zU := fun _ h => ⟨h, good_of_word (List.mem_filter.mp h).2⟩
theorem zgood {w : Cond} (h : w ∈ zU) : GoodIn zU (w :: zU) := fun v hv => (List.mem_cons.mp hv).elim (fun e => by subst e; exact zU_good _ h) (zU_good v)
theorem zin {ws : List Cond} (ps : List Nat) (hp : ws = ps.filterMap (fun i => lw_tbl[i]?)) (h : ws.all goodWord = true) : ∀ w ∈ ws, w ∈ zU := by
  intro w hw
  have h1 := List.all_eq_true.mp h w hw
  rw [hp] at hw
  obtain ⟨i, -, hi⟩ := List.mem_filterMap.mp hw
  exact zm i hi h1
/-- what is fixed over a run: classes' numbers and slots, the classes of byte, int and long arrays, the String constants and their rows -/
abbrev zG : Type := va_G × ClassId × ClassId × ClassId × (Nat → Nat) × (Nat → Nat)
abbrev gB (G : zG) : ClassId := G.2.1
abbrev gI (G : zG) : ClassId := G.2.2.1
abbrev gJ (G : zG) : ClassId := G.2.2.2.1
abbrev gK (G : zG) : Nat → Nat := G.2.2.2.2.1
abbrev gV (G : zG) : Nat → Nat := G.2.2.2.2.2
abbrev zT (G : zG) : List (ClassId × FieldType) := [(gB G, .byte), (gI G, .int), (gJ G, .long)]
def zTxt : List String := ["law", "own both", "most both", "sums parts worth less more", "stays all", "come buy put now owes land agree", "brought given earned heired"]
def zIdx : List Nat := [43, 64, 72, 77, 82, 97, 118]
def zByt : List (List Int32) := zTxt.map (fun t => t.toList.map (fun c => Int32.ofNat c.toNat))
def zLen : List Nat := [3, 8, 9, 26, 9, 32, 27]
def zNest : List (String × Nat × MethodName) := [(RX11, 21, yX6_init), (RX11, 28, yX7_init), (RX11, 38, yX2_init), (RX11, 45, yX8_init), (RX11, 58, yX10_init), (RX2, 11, yX7_init)]
def zCast : List (String × String) := [(RX3, RX5), (RX0, RX5), (RX0, RX3), (RX4, RX1)]
def zNo : List (String × String) := [(RX1, RX5), (RX4, RX5), (RX5, RX1), (RX3, RX1), (RX0, RX1), (RX5, RX3), (RX1, RX3), (RX4, RX3), (RX5, RX0), (RX3, RX0), (RX1, RX0), (RX4, RX0), (RX5, RX4), (RX3, RX4), (RX0, RX4), (RX1, RX4)]
/-- what stands outside all worlds: String constants, two statics, links to nest mates, which class is which -/
def zE (G : zG) (A : Nat → Prop) (U : State) (H : Heap) : Prop :=
  (vk_S 7 zLen zByt (gK G) (gV G) A U H ∧ (∀ i, i < 7 → vk_R RX6 (zIdx.getD i 0) (zTxt.getD i "") (gK G i) U)) ∧ (va_Z "java/lang/String" "COMPACT_STRINGS" "Z" (.int 1) A U H ∧ va_Zq "jdk/internal/util/Preconditions" "SIOOBE_FORMATTER" "Ljava/util/function/BiFunction;" A U H) ∧
  (∀ q ∈ zNest, va_Nw (.methodLinkNest q.1 q.2.1 q.2.2 RX11) U) ∧ (∀ q ∈ zCast, va_Nw (.castable q.1 q.2) U) ∧ ∀ q ∈ zNo, va_Nc q.1 q.2 U
theorem zE.same {G : zG} {A : Nat → Prop} {H : Heap} {u U : State} (hv : u.vm = U.vm) (h : zE G A u H) : zE G A U H := by
  have ha : u.vm.Alike U.vm := hv ▸ Vm.Alike.refl u.vm
  obtain ⟨⟨h1, h2⟩, ⟨h3, h4⟩, h5, h6, h7⟩ := h
  exact ⟨⟨h1.moved ha, fun i hi => (h2 i hi).same hv.symm⟩, ⟨h3.moved ha, h4.moved ha⟩, fun q hq => (h5 q hq).same rfl hv, fun q hq => (h6 q hq).same rfl hv, fun q hq => (h7 q hq).moved ha⟩
theorem zE.warm {G : zG} {A : Nat → Prop} {H : Heap} {u U : State} (hW : u.WarmedH U.vm) (h : zE G A u H) : zE G A U H := by
  have ha : u.vm.Alike U.vm := hW.alike
  obtain ⟨⟨h1, h2⟩, ⟨h3, h4⟩, h5, h6, h7⟩ := h
  exact ⟨⟨h1.moved ha, fun i hi => (h2 i hi).warm hW⟩, ⟨h3.moved ha, h4.moved ha⟩, fun q hq => (h5 q hq).warmM hW, fun q hq => (h6 q hq).warmC hW, fun q hq => (h7 q hq).moved ha⟩
theorem zE.kept {G : zG} {A : Nat → Prop} {H H1 : Heap} {U : State} (hq : ∀ a : Nat, a < H.size → ¬ A a → H1[a]? = H[a]?) (h : zE G A U H) : zE G A U H1 := by
  obtain ⟨⟨h1, h2⟩, ⟨h3, h4⟩, h5⟩ := h
  exact ⟨⟨h1.kept hq, h2⟩, ⟨h3.kept hq, h4.kept hq⟩, h5⟩
theorem zE.narrow {G : zG} {A B : Nat → Prop} {H : Heap} {U : State} (hq : ∀ q, B q → A q) (h : zE G A U H) : zE G B U H := by
  obtain ⟨⟨h1, h2⟩, ⟨h3, h4⟩, h5⟩ := h
  exact ⟨⟨h1.narrow hq, h2⟩, ⟨h3.narrow hq, h4.narrow hq⟩, h5⟩
/-- CONTRACTS: from the world w and the arguments av, y returns r, and the world is w1 -/
def zPre (G : zG) (av : List Value) (w : va_W) (sz : Nat) : Array Value → State → Prop := va_Pc av (fun U => U.heap.size = sz ∧ va_P G.1 vwCl w U.heap ∧ va_K G.1 vwCl (zT G) U ∧ va_D (fun _ => True) w ∧ zE G (va_A w sz) U U.heap)
def zPost (G : zG) (w : va_W) (sz : Nat) (r : Option Value) (w1 : va_W) : Array Value → State → Outcome → State → Prop := fun _ st oc t => oc = .returned r ∧ va_P G.1 vwCl w1 t.heap ∧ va_K G.1 vwCl (zT G) t ∧ va_D (va_A w sz) w1 ∧ va_F (va_A w sz) st t
def Ct (l : Launch) (G : zG) (y : MethodName) (cc : ByteArray) (maxL : Nat) (ret : Option FieldType) (rm : Room) (av : List Value) (w : va_W) (r : Option Value) (w1 : va_W) : Prop := ∀ sz, Met l y (.code y cc maxL ret :: zU) rm (zPre G av w sz) (zPost G w sz r w1) rm.cells rm.slots (va_A w sz)
theorem zPre_blind {G : zG} {av : List Value} {w : va_W} {sz : Nat} : FrameBlind (zPre G av w sz) := fun a U g mk q => by
  obtain ⟨q0, q1, qP, qK, qD, qE⟩ := q
  exact ⟨q0, q1, qP, va_K.moved (u := U) (U := U.calling g mk a) (Vm.Alike.refl U.vm) qK, qD, zE.same (u := U) (U := U.calling g mk a) rfl qE⟩
theorem zA_sub {w wc : va_W} {sz : Nat} (isC : List Nat) (hC : isC.map (fun i => w[i]?) = wc.map some) : ∀ q, va_A wc sz q → va_A w sz q := by
  intro q h
  rcases h with ⟨k, e, h⟩ | h
  · have h1 : (isC.map (fun i => w[i]?))[k]? = some (some (q, e)) := by rw [hC, List.getElem?_map, h]; rfl
    rw [List.getElem?_map] at h1
    cases hi : isC[k]? with
    | none => rw [hi] at h1; cases h1
    | some i => rw [hi] at h1; exact Or.inl ⟨i, e, Option.some.inj h1⟩
  · exact Or.inr h
theorem zD_self {w w1 : va_W} {sz : Nat} {A : Nat → Prop} (h : va_D A w1) (hA : ∀ q, A q → va_A w sz q) : va_D (va_A w sz) w1 := h.weaken (fun _ _ _ h => hA _ h)
/-- THE FRAME: a contract over a part of a world is one over the whole of it -/
theorem Ct.frame {l : Launch} {G : zG} {y : MethodName} {cc : ByteArray} {maxL : Nat} {ret : Option FieldType} {rm : Room} {av : List Value} {wc wc1 : va_W} {r : Option Value} (h : Ct l G y cc maxL ret rm av wc r wc1) {w w' wr : va_W} (isC isR isP : List Nat) (hC : isC.map (fun i => w[i]?) = wc.map some) (hnC : va_nd isC = true) (hR : isR.map (fun i => w[i]?) = wr.map some) (hnR : va_nd isR = true) (hdis : ∀ i ∈ isR, i ∉ isC) (hP' : isP.map (fun i => (wr ++ wc1)[i]?) = w'.map some) (hnP : va_nd isP = true) : Ct l G y cc maxL ret rm av w r w' := by
  intro sz p e ha hc hk s m args below hf happ hP _
  obtain ⟨q0, q1, qP, qK, qD, qE⟩ := hP
  have hsub := zA_sub (sz := sz) isC hC
  have hPc : va_P G.1 vwCl wc s.heap := by
    intro k q hq
    have h1 : (isC.map (fun i => w[i]?))[k]? = some (some q) := by rw [hC, List.getElem?_map, hq]; rfl
    rw [List.getElem?_map] at h1
    cases hi : isC[k]? with
    | none => rw [hi] at h1; cases h1
    | some i => rw [hi] at h1; exact qP i q (Option.some.inj h1)
  obtain ⟨n, o, a1, a2, a3, ⟨⟨b1, b2, b3, b4, b5⟩, L, b6, b7⟩⟩ := h sz p e ha hc hk s m args below hf happ ⟨q0, q1, hPc, qK, qD.sub isC hnC hC, zE.narrow hsub qE⟩ trivial
  refine ⟨n, o, a1, a2, a3, ⟨⟨b1, ?_⟩, L, b6, fun q hq => hsub _ (b7 q hq)⟩⟩
  subst q1
  obtain ⟨j1, j2⟩ := va_join (A0 := va_A w s.heap.size) (wr := wr) qP (qD.self (sz := s.heap.size)) isC isR hC hR hnR hdis (fun q h1 h2 => b5.2 q h1 h2) hsub b2 b4
  refine ⟨?_, b3, j2.sub isP hnP hP', b5.1, fun q h1 h2 => b5.2 q h1 (fun z => h2 (hsub q z))⟩
  intro k q hq
  have h1 : (isP.map (fun i => (wr ++ wc1)[i]?))[k]? = some (some q) := by rw [hP', List.getElem?_map, hq]; rfl
  rw [List.getElem?_map] at h1
  cases hi : isP[k]? with
  | none => rw [hi] at h1; cases h1
  | some i => rw [hi] at h1; exact j1 i q (Option.some.inj h1)
/-- a running method: all that stays as it is -/
abbrev zX : Type := Program × Launch × Env × Room × State × MethodId × Array Value × List Frame × Method × Code × (Nat → Prop) × (State → Prop)
abbrev xp (x : zX) : Program := x.1
abbrev xl (x : zX) : Launch := x.2.1
abbrev xe (x : zX) : Env := x.2.2.1
abbrev xR (x : zX) : Room := x.2.2.2.1
abbrev xs (x : zX) : State := x.2.2.2.2.1
abbrev xm (x : zX) : MethodId := x.2.2.2.2.2.1
abbrev xa (x : zX) : Array Value := x.2.2.2.2.2.2.1
abbrev xb (x : zX) : List Frame := x.2.2.2.2.2.2.2.1
abbrev xt (x : zX) : Method := x.2.2.2.2.2.2.2.2.1
abbrev xc (x : zX) : Code := x.2.2.2.2.2.2.2.2.2.1
abbrev xA (x : zX) : Nat → Prop := x.2.2.2.2.2.2.2.2.2.2.1
abbrev xQ (x : zX) : State → Prop := x.2.2.2.2.2.2.2.2.2.2.2
/-- the machine at pc, with locals lv, operand stack st, and the world w -/
def zW (x : zX) (G : zG) (ce sl pc : Nat) (lv : List (Nat × Value)) (st : List Value) (w : va_W) : Prop :=
  ∀ (H : Heap) (locs : List Loc) (ls : Array Slot), va_P G.1 vwCl w H → va_D (xA x) w → va_S (xA x) (xs x).heap H locs → lv_has ls (xc x).maxLocals lv → W (xp x) (xl x) (xe x) (xR x) (xs x) (xm x) (xa x) (xb x) (xt x) (xc x) H locs ce sl (xQ x) (F0 (xm x) pc ls st)
/-- what a row may use of a running method -/
def zC (x : zX) (G : zG) (own : String) (cc : ByteArray) (nL : Nat) (ret : Option FieldType) (rm : Room) : Prop :=
  (xp x).tables.exec = Jvm.exec ∧ (xc x).code = cc ∧ (xc x).maxLocals = nL ∧ (xs x).vm.findClass own = some (xm x).cls ∧ (∀ w ∈ zU, w.before (xa x) (xs x) = true) ∧ (xt x).sig.returnType = ret ∧ (xt x).locks = false ∧ va_K G.1 vwCl (zT G) (xs x) ∧ (∀ q, (xs x).heap.size ≤ q → xA x q) ∧ xR x = rm ∧ zE G (xA x) (xs x) (xs x).heap
/-- where its end must lead -/
def zO (x : zX) (G : zG) (r : Option Value) (w1 : va_W) (mc ms : Nat) : Prop := ∃ w0 : va_W, xA x = va_A w0 (xs x).heap.size ∧ xQ x = MQ (xb x) (zPost G w0 (xs x).heap.size r w1) (xa x) (xs x) mc ms (xA x)
theorem zMet {l : Launch} {G : zG} {y : MethodName} {cc : ByteArray} {maxL : Nat} {ret : Option FieldType} {rm : Room} {av : List Value} {w : va_W} {r : Option Value} {w1 : va_W} {own : String} (ho : y.cls = own) (hy : plainName y.cls = true) (hl : (lg_sl av).length ≤ maxL) (body : ∀ x : zX, xl x = l → zC x G own cc maxL ret rm → zO x G r w1 rm.cells rm.slots → zW x G 0 0 0 (lv_args 0 av) [] w) : Ct l G y cc maxL ret rm av w r w1 := by
  intro sz
  refine Met.ofW (cc := cc) (maxL := maxL) (ret := ret) hy rfl ?_
  intro p e s m args below meth c s₁ B hml hv
  obtain ⟨rfl, hsz, hP, hK, hD0, hE⟩ := hv
  subst hsz
  have hts := atoms_spec (ws := .code y cc maxL ret :: zU) B.pre
  have hown : s.vm.findClass own = some m.cls := by rw [← ho]; exact findClass_of_methodNamed B.named
  have hD := hD0.self (sz := s.heap.size)
  have hl0 := lv_entry av (n := maxL) hl
  rw [lg_entry_eq]
  refine body (p, l, e, rm, s, m, av.toArray, below, meth, c, va_A w s.heap.size, MQ below (zPost G w s.heap.size r w1) av.toArray s rm.cells rm.slots (va_A w s.heap.size)) rfl ⟨B.exec, B.bytes, hml, hown, fun v hv => hts v (List.mem_cons_of_mem _ hv), B.returns, B.notSynchronized, hK, fun q h => Or.inr h, rfl, hE⟩ ⟨w, rfl, rfl⟩ s.heap [] _ hP hD va_S.rf ?_
  show lv_has _ c.maxLocals _
  rw [hml]
  exact hl0
end
section
/-! INSTRUCTION ROWS over zW. A pure function f gives the method's answer as an Option; 'h : f .. = some o' is taken apart row by row. -/
def zn {α β : Type} (e : α) (k : α → Option β) : Option β := k e
def zg {β : Type} (b : Bool) (k : Option β) : Option β := if b = true then k else none
def zix (i : Int32) (n : Nat) : Bool := decide (¬ (i < 0 ∨ n ≤ i.toNatClampNeg))
def znz (i : Int32) : Bool := decide (¬ i = 0)
def zlz (i : Int64) : Bool := decide (¬ i = 0)
def zb (b : Bool) : Int32 := if b = true then 1 else 0
def zbo (i : Int32) : Bool := decide (i = 0) || decide (i = 1)
theorem zbo_e {i : Int32} (h : zbo i = true) : i = zb (decide (i = 1)) := by
  simp only [zbo, Bool.or_eq_true, decide_eq_true_eq] at h
  rcases h with h | h <;> subst h <;> rfl
theorem zg_o {β : Type} {b : Bool} {k : Option β} {o : β} (h : zg b k = some o) : b = true ∧ k = some o := by
  unfold zg at h
  split at h
  · exact ⟨by assumption, h⟩
  · cases h
theorem bind_o {α β : Type} {e : Option α} {k : α → Option β} {o : β} (h : Option.bind e k = some o) : ∃ y, e = some y ∧ k y = some o := by
  cases e with
  | none => cases h
  | some y => exact ⟨y, rfl, h⟩
theorem zix_in {i : Int32} {n : Nat} (h : zix i n = true) : vp_in i n := by unfold vp_in; exact of_decide_eq_true h
theorem znz_ne {i : Int32} (h : znz i = true) : ¬ i = 0 := of_decide_eq_true h
theorem zlz_ne {i : Int64} (h : zlz i = true) : ¬ i = 0 := of_decide_eq_true h
section ZR
variable {x : zX} {G : zG} {ce sl pc : Nat} {lv : List (Nat × Value)} {st : List Value} {w : va_W} {own : String} {cc : ByteArray} {nL : Nat} {ret : Option FieldType} {rm : Room}
/-- locals in another order, or fewer -/
theorem z_perm (ks : List Nat) {lv' : List (Nat × Value)} (hl : lv_pick lv ks = lv') (K : zW x G ce sl pc lv' st w) : zW x G ce sl pc lv st w := fun H locs ls hP hD hS h => K H locs ls hP hD hS (lv_sub h ks hl)
theorem z_pc {pc' : Nat} (e : pc' = pc) (K : zW x G ce sl pc' lv st w) : zW x G ce sl pc lv st w := e ▸ K
theorem z_st {st' : List Value} (e : st = st') (K : zW x G ce sl pc lv st' w) : zW x G ce sl pc lv st w := e ▸ K
theorem z_wide {ce' sl' : Nat} (h1 : ce ≤ ce') (h2 : sl ≤ sl') (K : zW x G ce' sl' pc lv st w) : zW x G ce sl pc lv st w := fun H locs ls hP hD hS h => W.widen h1 h2 (K H locs ls hP hD hS h)
/-- a part of the world, or the same in another order -/
theorem z_world {w' : va_W} (is : List Nat) (hn : va_nd is = true) (hs : is.map (fun i => w[i]?) = w'.map some) (K : zW x G ce sl pc lv st w') : zW x G ce sl pc lv st w := fun H locs ls hP hD hS h => K H locs ls (by
    intro k q hq
    have h1 : (is.map (fun i => w[i]?))[k]? = some (some q) := by rw [hs, List.getElem?_map, hq]; rfl
    rw [List.getElem?_map] at h1
    cases hi : is[k]? with
    | none => rw [hi] at h1; cases h1
    | some i => rw [hi] at h1; exact hP i q (Option.some.inj h1)) (hD.sub is hn hs) hS h
theorem z_iconst (C : zC x G own cc nL ret rm) {n : Int} (v : Int32) (hd : decode cc pc = .ok (.iconst n, 1)) (hv : Int32.ofInt n = v) (K : zW x G ce sl (pc + 1) lv (.int v :: st) w) : zW x G ce sl pc lv (st) w := fun H locs ls hP hD hS hl => lv_iconst C.1 C.2.1 hd hv (K H locs ls hP hD hS hl)
theorem z_bipush (C : zC x G own cc nL ret rm) {n : Int} (v : Int32) (hd : decode cc pc = .ok (.bipush n, 2)) (hv : (Int8.ofInt n).toInt32 = v) (K : zW x G ce sl (pc + 2) lv (.int v :: st) w) : zW x G ce sl pc lv (st) w := fun H locs ls hP hD hS hl => lv_bipush C.1 C.2.1 hd hv (K H locs ls hP hD hS hl)
theorem z_sipush (C : zC x G own cc nL ret rm) {n : Int} (v : Int32) (hd : decode cc pc = .ok (.sipush n, 3)) (hv : (Int16.ofInt n).toInt32 = v) (K : zW x G ce sl (pc + 3) lv (.int v :: st) w) : zW x G ce sl pc lv (st) w := fun H locs ls hP hD hS hl => lv_sipush C.1 C.2.1 hd hv (K H locs ls hP hD hS hl)
theorem z_lconst (C : zC x G own cc nL ret rm) {n : Fin 2} (v : Int64) (hd : decode cc pc = .ok (.lconst n, 1)) (hv : Int64.ofNat (n : Nat) = v) (K : zW x G ce sl (pc + 1) lv (.long v :: st) w) : zW x G ce sl pc lv (st) w := fun H locs ls hP hD hS hl => lv_lconst C.1 C.2.1 hd hv (K H locs ls hP hD hS hl)
theorem z_ldc (C : zC x G own cc nL ret rm) {i : Nat} {v : Int32} (hk : Cond.constant own i v ∈ zU) (hd : decode cc pc = .ok (.ldc i, 2)) (K : zW x G ce sl (pc + 2) lv (.int v :: st) w) : zW x G ce sl pc lv st w := fun H locs ls hP hD hS hl => lv_ldc C.1 C.2.1 C.2.2.2.1 (C.2.2.2.2.1 _ hk) hd (K H locs ls hP hD hS hl)
theorem z_ldc2 (C : zC x G own cc nL ret rm) {i : Nat} {v : Int64} (hk : Cond.constantLong own i v ∈ zU) (hd : decode cc pc = .ok (.ldc2_w i, 3)) (K : zW x G ce sl (pc + 3) lv (.long v :: st) w) : zW x G ce sl pc lv st w := fun H locs ls hP hD hS hl => lv_ldc2 C.1 C.2.1 C.2.2.2.1 (C.2.2.2.2.1 _ hk) hd (K H locs ls hP hD hS hl)
theorem z_iload_n (C : zC x G own cc nL ret rm) {k : Fin 4} {v : Int32} (hd : decode cc pc = .ok (.iload_n k, 1)) (j : Nat) (hj : lv[j]? = some ((k : Nat), .int v)) (K : zW x G ce sl (pc + 1) lv (.int v :: st) w) : zW x G ce sl pc lv (st) w := fun H locs ls hP hD hS hl => lv_iload_n C.1 C.2.1 hd rfl (lv_at hl j hj) (K H locs ls hP hD hS hl)
theorem z_iload (C : zC x G own cc nL ret rm) {k : Nat} {v : Int32} (hd : decode cc pc = .ok (.iload k, 2)) (j : Nat) (hj : lv[j]? = some (k, .int v)) (K : zW x G ce sl (pc + 2) lv (.int v :: st) w) : zW x G ce sl pc lv (st) w := fun H locs ls hP hD hS hl => lv_iload C.1 C.2.1 hd (lv_at hl j hj) (K H locs ls hP hD hS hl)
theorem z_istore_n (C : zC x G own cc nL ret rm) {k : Fin 4} {v : Int32} (hd : decode cc pc = .ok (.istore_n k, 1)) (hn : (k : Nat) < nL) {lvr : List (Nat × Value)} (hl' : lv.filter (fun q => !(q.1 == (k : Nat)) && !(q.1 + 1 == (k : Nat) && q.2.category == 2)) = lvr) (K : zW x G ce sl (pc + 1) (((k : Nat), .int v) :: lvr) st w) : zW x G ce sl pc lv (.int v :: st) w := fun H locs ls hP hD hS hl => lv_istore_n C.1 C.2.1 hd rfl hl (by rw [C.2.2.1]; exact hn) (by rw [hl']) (fun ls' h2 => K H locs ls' hP hD hS h2)
theorem z_istore_nN (C : zC x G own cc nL ret rm) {k : Fin 4} {e : Int32} {α : Type} {o : α} {kk : Int32 → Option α} (hd : decode cc pc = .ok (.istore_n k, 1)) (hn : (k : Nat) < nL) {lvr : List (Nat × Value)} (hl' : lv.filter (fun q => !(q.1 == (k : Nat)) && !(q.1 + 1 == (k : Nat) && q.2.category == 2)) = lvr) (h : zn e kk = some o) (K : ∀ v : Int32, kk v = some o → zW x G ce sl (pc + 1) (((k : Nat), .int v) :: lvr) st w) : zW x G ce sl pc lv (.int e :: st) w := z_istore_n C hd hn hl' (K e h)
theorem z_istore (C : zC x G own cc nL ret rm) {k : Nat} {v : Int32} (hd : decode cc pc = .ok (.istore k, 2)) (hn : (k : Nat) < nL) {lvr : List (Nat × Value)} (hl' : lv.filter (fun q => !(q.1 == (k : Nat)) && !(q.1 + 1 == (k : Nat) && q.2.category == 2)) = lvr) (K : zW x G ce sl (pc + 2) (((k : Nat), .int v) :: lvr) st w) : zW x G ce sl pc lv (.int v :: st) w := fun H locs ls hP hD hS hl => lv_istore C.1 C.2.1 hd hl (by rw [C.2.2.1]; exact hn) (by rw [hl']) (fun ls' h2 => K H locs ls' hP hD hS h2)
theorem z_istoreN (C : zC x G own cc nL ret rm) {k : Nat} {e : Int32} {α : Type} {o : α} {kk : Int32 → Option α} (hd : decode cc pc = .ok (.istore k, 2)) (hn : (k : Nat) < nL) {lvr : List (Nat × Value)} (hl' : lv.filter (fun q => !(q.1 == (k : Nat)) && !(q.1 + 1 == (k : Nat) && q.2.category == 2)) = lvr) (h : zn e kk = some o) (K : ∀ v : Int32, kk v = some o → zW x G ce sl (pc + 2) (((k : Nat), .int v) :: lvr) st w) : zW x G ce sl pc lv (.int e :: st) w := z_istore C hd hn hl' (K e h)
theorem z_lload_n (C : zC x G own cc nL ret rm) {k : Fin 4} {v : Int64} (hd : decode cc pc = .ok (.lload_n k, 1)) (j : Nat) (hj : lv[j]? = some ((k : Nat), .long v)) (K : zW x G ce sl (pc + 1) lv (.long v :: st) w) : zW x G ce sl pc lv (st) w := fun H locs ls hP hD hS hl => lv_lload_n C.1 C.2.1 hd rfl (lv_at hl j hj) (K H locs ls hP hD hS hl)
theorem z_lload (C : zC x G own cc nL ret rm) {k : Nat} {v : Int64} (hd : decode cc pc = .ok (.lload k, 2)) (j : Nat) (hj : lv[j]? = some (k, .long v)) (K : zW x G ce sl (pc + 2) lv (.long v :: st) w) : zW x G ce sl pc lv (st) w := fun H locs ls hP hD hS hl => lv_lload C.1 C.2.1 hd (lv_at hl j hj) (K H locs ls hP hD hS hl)
theorem z_lstore_n (C : zC x G own cc nL ret rm) {k : Fin 4} {v : Int64} (hd : decode cc pc = .ok (.lstore_n k, 1)) (hn : (k : Nat) + 1 < nL) {lvr : List (Nat × Value)} (hl' : lv.filter (fun q => !(q.1 == (k : Nat)) && (!(q.1 == (k : Nat) + 1) && !(q.1 + 1 == (k : Nat) && q.2.category == 2))) = lvr) (K : zW x G ce sl (pc + 1) (((k : Nat), .long v) :: lvr) st w) : zW x G ce sl pc lv (.long v :: st) w := fun H locs ls hP hD hS hl => lv_lstore_n C.1 C.2.1 hd rfl hl (by rw [C.2.2.1]; exact hn) (by rw [hl']) (fun ls' h2 => K H locs ls' hP hD hS h2)
theorem z_lstore_nN (C : zC x G own cc nL ret rm) {k : Fin 4} {e : Int64} {α : Type} {o : α} {kk : Int64 → Option α} (hd : decode cc pc = .ok (.lstore_n k, 1)) (hn : (k : Nat) + 1 < nL) {lvr : List (Nat × Value)} (hl' : lv.filter (fun q => !(q.1 == (k : Nat)) && (!(q.1 == (k : Nat) + 1) && !(q.1 + 1 == (k : Nat) && q.2.category == 2))) = lvr) (h : zn e kk = some o) (K : ∀ v : Int64, kk v = some o → zW x G ce sl (pc + 1) (((k : Nat), .long v) :: lvr) st w) : zW x G ce sl pc lv (.long e :: st) w := z_lstore_n C hd hn hl' (K e h)
theorem z_lstore (C : zC x G own cc nL ret rm) {k : Nat} {v : Int64} (hd : decode cc pc = .ok (.lstore k, 2)) (hn : (k : Nat) + 1 < nL) {lvr : List (Nat × Value)} (hl' : lv.filter (fun q => !(q.1 == (k : Nat)) && (!(q.1 == (k : Nat) + 1) && !(q.1 + 1 == (k : Nat) && q.2.category == 2))) = lvr) (K : zW x G ce sl (pc + 2) (((k : Nat), .long v) :: lvr) st w) : zW x G ce sl pc lv (.long v :: st) w := fun H locs ls hP hD hS hl => lv_lstore C.1 C.2.1 hd hl (by rw [C.2.2.1]; exact hn) (by rw [hl']) (fun ls' h2 => K H locs ls' hP hD hS h2)
theorem z_lstoreN (C : zC x G own cc nL ret rm) {k : Nat} {e : Int64} {α : Type} {o : α} {kk : Int64 → Option α} (hd : decode cc pc = .ok (.lstore k, 2)) (hn : (k : Nat) + 1 < nL) {lvr : List (Nat × Value)} (hl' : lv.filter (fun q => !(q.1 == (k : Nat)) && (!(q.1 == (k : Nat) + 1) && !(q.1 + 1 == (k : Nat) && q.2.category == 2))) = lvr) (h : zn e kk = some o) (K : ∀ v : Int64, kk v = some o → zW x G ce sl (pc + 2) (((k : Nat), .long v) :: lvr) st w) : zW x G ce sl pc lv (.long e :: st) w := z_lstore C hd hn hl' (K e h)
theorem z_aload_n (C : zC x G own cc nL ret rm) {k : Fin 4} {v : Nat} (hd : decode cc pc = .ok (.aload_n k, 1)) (j : Nat) (hj : lv[j]? = some ((k : Nat), .ref v)) (K : zW x G ce sl (pc + 1) lv (.ref v :: st) w) : zW x G ce sl pc lv (st) w := fun H locs ls hP hD hS hl => lv_aload_n C.1 C.2.1 hd rfl (lv_at hl j hj) (K H locs ls hP hD hS hl)
theorem z_aload (C : zC x G own cc nL ret rm) {k : Nat} {v : Nat} (hd : decode cc pc = .ok (.aload k, 2)) (j : Nat) (hj : lv[j]? = some (k, .ref v)) (K : zW x G ce sl (pc + 2) lv (.ref v :: st) w) : zW x G ce sl pc lv (st) w := fun H locs ls hP hD hS hl => lv_aload C.1 C.2.1 hd (lv_at hl j hj) (K H locs ls hP hD hS hl)
theorem z_astore_n (C : zC x G own cc nL ret rm) {k : Fin 4} {v : Nat} (hd : decode cc pc = .ok (.astore_n k, 1)) (hn : (k : Nat) < nL) {lvr : List (Nat × Value)} (hl' : lv.filter (fun q => !(q.1 == (k : Nat)) && !(q.1 + 1 == (k : Nat) && q.2.category == 2)) = lvr) (K : zW x G ce sl (pc + 1) (((k : Nat), .ref v) :: lvr) st w) : zW x G ce sl pc lv (.ref v :: st) w := fun H locs ls hP hD hS hl => lv_astore_n C.1 C.2.1 hd rfl hl (by rw [C.2.2.1]; exact hn) (by rw [hl']) (fun ls' h2 => K H locs ls' hP hD hS h2)
theorem z_astore (C : zC x G own cc nL ret rm) {k : Nat} {v : Nat} (hd : decode cc pc = .ok (.astore k, 2)) (hn : (k : Nat) < nL) {lvr : List (Nat × Value)} (hl' : lv.filter (fun q => !(q.1 == (k : Nat)) && !(q.1 + 1 == (k : Nat) && q.2.category == 2)) = lvr) (K : zW x G ce sl (pc + 2) (((k : Nat), .ref v) :: lvr) st w) : zW x G ce sl pc lv (.ref v :: st) w := fun H locs ls hP hD hS hl => lv_astore C.1 C.2.1 hd hl (by rw [C.2.2.1]; exact hn) (by rw [hl']) (fun ls' h2 => K H locs ls' hP hD hS h2)
theorem z_iinc (C : zC x G own cc nL ret rm) {k : Nat} {n : Int} {y : Int32} {α : Type} {o : α} {kk : Int32 → Option α} (hd : decode cc pc = .ok (.iinc k n, 3)) (j : Nat) (hj : lv[j]? = some (k, .int y)) (c : Int32) (hc : Int32.ofInt n = c) (hn : k < nL) {lvr : List (Nat × Value)} (hl' : lv.filter (fun q => !(q.1 == k) && !(q.1 + 1 == k && q.2.category == 2)) = lvr) (h : zn (y + c) kk = some o) (K : ∀ v : Int32, kk v = some o → zW x G ce sl (pc + 3) ((k, .int v) :: lvr) st w) : zW x G ce sl pc lv st w := fun H locs ls hP hD hS hl => lv_iinc C.1 C.2.1 hd hl hj (v := y + c) (by rw [hc]) (by rw [C.2.2.1]; exact hn) (by rw [hl']) (fun ls' h2 => K _ h H locs ls' hP hD hS h2)
theorem z_iadd (C : zC x G own cc nL ret rm) {a b : Int32} (hd : decode cc pc = .ok (.iadd, 1))  (K : zW x G ce sl (pc + 1) lv (.int (a + b) :: st) w) : zW x G ce sl pc lv (.int b :: .int a :: st) w := fun H locs ls hP hD hS hl => lv_iadd C.1 C.2.1 hd (K H locs ls hP hD hS hl)
theorem z_isub (C : zC x G own cc nL ret rm) {a b : Int32} (hd : decode cc pc = .ok (.isub, 1))  (K : zW x G ce sl (pc + 1) lv (.int (a - b) :: st) w) : zW x G ce sl pc lv (.int b :: .int a :: st) w := fun H locs ls hP hD hS hl => lv_isub C.1 C.2.1 hd (K H locs ls hP hD hS hl)
theorem z_imul (C : zC x G own cc nL ret rm) {a b : Int32} (hd : decode cc pc = .ok (.imul, 1))  (K : zW x G ce sl (pc + 1) lv (.int (a * b) :: st) w) : zW x G ce sl pc lv (.int b :: .int a :: st) w := fun H locs ls hP hD hS hl => lv_imul C.1 C.2.1 hd (K H locs ls hP hD hS hl)
theorem z_iand (C : zC x G own cc nL ret rm) {a b : Int32} (hd : decode cc pc = .ok (.iand, 1))  (K : zW x G ce sl (pc + 1) lv (.int (a &&& b) :: st) w) : zW x G ce sl pc lv (.int b :: .int a :: st) w := fun H locs ls hP hD hS hl => lv_iand C.1 C.2.1 hd (K H locs ls hP hD hS hl)
theorem z_ior (C : zC x G own cc nL ret rm) {a b : Int32} (hd : decode cc pc = .ok (.ior, 1))  (K : zW x G ce sl (pc + 1) lv (.int (a ||| b) :: st) w) : zW x G ce sl pc lv (.int b :: .int a :: st) w := fun H locs ls hP hD hS hl => lv_ior C.1 C.2.1 hd (K H locs ls hP hD hS hl)
theorem z_ishl (C : zC x G own cc nL ret rm) {a b : Int32} (hd : decode cc pc = .ok (.ishl, 1))  (K : zW x G ce sl (pc + 1) lv (.int (a <<< (b &&& 31)) :: st) w) : zW x G ce sl pc lv (.int b :: .int a :: st) w := fun H locs ls hP hD hS hl => lv_ishl C.1 C.2.1 hd (K H locs ls hP hD hS hl)
theorem z_ishr (C : zC x G own cc nL ret rm) {a b : Int32} (hd : decode cc pc = .ok (.ishr, 1))  (K : zW x G ce sl (pc + 1) lv (.int (a >>> (b &&& 31)) :: st) w) : zW x G ce sl pc lv (.int b :: .int a :: st) w := fun H locs ls hP hD hS hl => lv_ishr C.1 C.2.1 hd (K H locs ls hP hD hS hl)
theorem z_ladd (C : zC x G own cc nL ret rm) {a b : Int64} (hd : decode cc pc = .ok (.ladd, 1))  (K : zW x G ce sl (pc + 1) lv (.long (a + b) :: st) w) : zW x G ce sl pc lv (.long b :: .long a :: st) w := fun H locs ls hP hD hS hl => lv_ladd C.1 C.2.1 hd (K H locs ls hP hD hS hl)
theorem z_lsub (C : zC x G own cc nL ret rm) {a b : Int64} (hd : decode cc pc = .ok (.lsub, 1))  (K : zW x G ce sl (pc + 1) lv (.long (a - b) :: st) w) : zW x G ce sl pc lv (.long b :: .long a :: st) w := fun H locs ls hP hD hS hl => lv_lsub C.1 C.2.1 hd (K H locs ls hP hD hS hl)
theorem z_lmul (C : zC x G own cc nL ret rm) {a b : Int64} (hd : decode cc pc = .ok (.lmul, 1))  (K : zW x G ce sl (pc + 1) lv (.long (a * b) :: st) w) : zW x G ce sl pc lv (.long b :: .long a :: st) w := fun H locs ls hP hD hS hl => lv_lmul C.1 C.2.1 hd (K H locs ls hP hD hS hl)
theorem z_land (C : zC x G own cc nL ret rm) {a b : Int64} (hd : decode cc pc = .ok (.land, 1))  (K : zW x G ce sl (pc + 1) lv (.long (a &&& b) :: st) w) : zW x G ce sl pc lv (.long b :: .long a :: st) w := fun H locs ls hP hD hS hl => lv_land C.1 C.2.1 hd (K H locs ls hP hD hS hl)
theorem z_lor (C : zC x G own cc nL ret rm) {a b : Int64} (hd : decode cc pc = .ok (.lor, 1))  (K : zW x G ce sl (pc + 1) lv (.long (a ||| b) :: st) w) : zW x G ce sl pc lv (.long b :: .long a :: st) w := fun H locs ls hP hD hS hl => lv_lor C.1 C.2.1 hd (K H locs ls hP hD hS hl)
theorem z_ineg (C : zC x G own cc nL ret rm) {a : Int32} (hd : decode cc pc = .ok (.ineg, 1))  (K : zW x G ce sl (pc + 1) lv (.int (-a) :: st) w) : zW x G ce sl pc lv (.int a :: st) w := fun H locs ls hP hD hS hl => lv_ineg C.1 C.2.1 hd (K H locs ls hP hD hS hl)
theorem z_lneg (C : zC x G own cc nL ret rm) {a : Int64} (hd : decode cc pc = .ok (.lneg, 1))  (K : zW x G ce sl (pc + 1) lv (.long (-a) :: st) w) : zW x G ce sl pc lv (.long a :: st) w := fun H locs ls hP hD hS hl => lv_lneg C.1 C.2.1 hd (K H locs ls hP hD hS hl)
theorem z_idiv (C : zC x G own cc nL ret rm) {a b : Int32} {α : Type} {o : α} {kk : Option α} (hd : decode cc pc = .ok (.idiv, 1)) (h : zg (znz b) kk = some o) (K : kk = some o → zW x G ce sl (pc + 1) lv (.int (a / b) :: st) w) : zW x G ce sl pc lv (.int b :: .int a :: st) w := fun H locs ls hP hD hS hl => lv_idiv C.1 C.2.1 hd (znz_ne (zg_o h).1) (K (zg_o h).2 H locs ls hP hD hS hl)
theorem z_irem (C : zC x G own cc nL ret rm) {a b : Int32} {α : Type} {o : α} {kk : Option α} (hd : decode cc pc = .ok (.irem, 1)) (h : zg (znz b) kk = some o) (K : kk = some o → zW x G ce sl (pc + 1) lv (.int (a - a / b * b) :: st) w) : zW x G ce sl pc lv (.int b :: .int a :: st) w := fun H locs ls hP hD hS hl => lv_irem C.1 C.2.1 hd (znz_ne (zg_o h).1) (K (zg_o h).2 H locs ls hP hD hS hl)
theorem z_ldiv (C : zC x G own cc nL ret rm) {a b : Int64} {α : Type} {o : α} {kk : Option α} (hd : decode cc pc = .ok (.ldiv, 1)) (h : zg (zlz b) kk = some o) (K : kk = some o → zW x G ce sl (pc + 1) lv (.long (a / b) :: st) w) : zW x G ce sl pc lv (.long b :: .long a :: st) w := fun H locs ls hP hD hS hl => lv_ldiv C.1 C.2.1 hd (zlz_ne (zg_o h).1) (K (zg_o h).2 H locs ls hP hD hS hl)
theorem z_lrem (C : zC x G own cc nL ret rm) {a b : Int64} {α : Type} {o : α} {kk : Option α} (hd : decode cc pc = .ok (.lrem, 1)) (h : zg (zlz b) kk = some o) (K : kk = some o → zW x G ce sl (pc + 1) lv (.long (a - a / b * b) :: st) w) : zW x G ce sl pc lv (.long b :: .long a :: st) w := fun H locs ls hP hD hS hl => lv_lrem C.1 C.2.1 hd (zlz_ne (zg_o h).1) (K (zg_o h).2 H locs ls hP hD hS hl)
theorem z_i2l (C : zC x G own cc nL ret rm) {a : Int32} (hd : decode cc pc = .ok (.i2l, 1))  (K : zW x G ce sl (pc + 1) lv (.long a.toInt64 :: st) w) : zW x G ce sl pc lv (.int a :: st) w := fun H locs ls hP hD hS hl => lv_i2l C.1 C.2.1 hd rfl (K H locs ls hP hD hS hl)
theorem z_l2i (C : zC x G own cc nL ret rm) {a : Int64} (hd : decode cc pc = .ok (.l2i, 1))  (K : zW x G ce sl (pc + 1) lv (.int a.toInt32 :: st) w) : zW x G ce sl pc lv (.long a :: st) w := fun H locs ls hP hD hS hl => lv_l2i C.1 C.2.1 hd rfl (K H locs ls hP hD hS hl)
theorem z_i2b (C : zC x G own cc nL ret rm) {a : Int32} (hd : decode cc pc = .ok (.i2b, 1))  (K : zW x G ce sl (pc + 1) lv (.int a.toInt8.toInt32 :: st) w) : zW x G ce sl pc lv (.int a :: st) w := fun H locs ls hP hD hS hl => lv_i2b C.1 C.2.1 hd rfl (K H locs ls hP hD hS hl)
theorem z_i2s (C : zC x G own cc nL ret rm) {a : Int32} (hd : decode cc pc = .ok (.i2s, 1))  (K : zW x G ce sl (pc + 1) lv (.int a.toInt16.toInt32 :: st) w) : zW x G ce sl pc lv (.int a :: st) w := fun H locs ls hP hD hS hl => lv_i2s C.1 C.2.1 hd rfl (K H locs ls hP hD hS hl)
theorem z_i2c (C : zC x G own cc nL ret rm) {a : Int32} (hd : decode cc pc = .ok (.i2c, 1))  (K : zW x G ce sl (pc + 1) lv (.int (a.toUInt32 % 65536).toInt32 :: st) w) : zW x G ce sl pc lv (.int a :: st) w := fun H locs ls hP hD hS hl => lv_i2c C.1 C.2.1 hd rfl (K H locs ls hP hD hS hl)
theorem z_lushr (C : zC x G own cc nL ret rm) {a : Int64} {b : Int32} (hd : decode cc pc = .ok (.lushr, 1))  (K : zW x G ce sl (pc + 1) lv (.long (a.toUInt64 >>> (b.toInt64.toUInt64 &&& Int64.toUInt64 63)).toInt64 :: st) w) : zW x G ce sl pc lv (.int b :: .long a :: st) w := fun H locs ls hP hD hS hl => lv_lushr C.1 C.2.1 hd rfl (K H locs ls hP hD hS hl)
theorem z_lshl (C : zC x G own cc nL ret rm) {a : Int64} {b : Int32} (hd : decode cc pc = .ok (.lshl, 1))  (K : zW x G ce sl (pc + 1) lv (.long (a <<< (b.toInt64 &&& 63)) :: st) w) : zW x G ce sl pc lv (.int b :: .long a :: st) w := fun H locs ls hP hD hS hl => lv_lshl C.1 C.2.1 hd rfl (K H locs ls hP hD hS hl)
theorem z_lshr (C : zC x G own cc nL ret rm) {a : Int64} {b : Int32} (hd : decode cc pc = .ok (.lshr, 1))  (K : zW x G ce sl (pc + 1) lv (.long (a >>> (b.toInt64 &&& 63)) :: st) w) : zW x G ce sl pc lv (.int b :: .long a :: st) w := fun H locs ls hP hD hS hl => lv_lshr C.1 C.2.1 hd rfl (K H locs ls hP hD hS hl)
theorem z_dup (C : zC x G own cc nL ret rm) {v : Value} (hd : decode cc pc = .ok (.dup, 1)) (hc : v.category = 1) (K : zW x G ce sl (pc + 1) lv (v :: v :: st) w) : zW x G ce sl pc lv (v :: st) w := fun H locs ls hP hD hS hl => lv_dup C.1 C.2.1 hd hc (K H locs ls hP hD hS hl)
theorem z_pop (C : zC x G own cc nL ret rm) {v : Value} (hd : decode cc pc = .ok (.pop, 1)) (hc : v.category = 1) (K : zW x G ce sl (pc + 1) lv (st) w) : zW x G ce sl pc lv (v :: st) w := fun H locs ls hP hD hS hl => lv_pop C.1 C.2.1 hd hc (K H locs ls hP hD hS hl)
theorem z_dup2 (C : zC x G own cc nL ret rm) {v u : Value} (hd : decode cc pc = .ok (.dup2, 1)) (hc : v.category = 1) (hc2 : u.category = 1) (K : zW x G ce sl (pc + 1) lv (v :: u :: v :: u :: st) w) : zW x G ce sl pc lv (v :: u :: st) w := fun H locs ls hP hD hS hl => lv_dup2_11 C.1 C.2.1 hd hc hc2 (K H locs ls hP hD hS hl)
theorem z_dup2L (C : zC x G own cc nL ret rm) {v : Int64} (hd : decode cc pc = .ok (.dup2, 1))  (K : zW x G ce sl (pc + 1) lv (.long v :: .long v :: st) w) : zW x G ce sl pc lv (.long v :: st) w := fun H locs ls hP hD hS hl => lv_dup2_2 C.1 C.2.1 hd rfl (K H locs ls hP hD hS hl)
theorem z_if_eq (C : zC x G own cc nL ret rm) {a : Int32} {off : Int} {α : Type} {o : α} {p q : Option α} {dd : Decidable (a = 0)} (hd : decode cc pc = .ok (.ifCond .eq off, 3)) (tgt : Nat) (ht : (pc : Int) + off = (tgt : Int)) (h : @ite _ (a = 0) dd p q = some o) (kt : p = some o → zW x G ce sl tgt lv st w) (kf : q = some o → zW x G ce sl (pc + 3) lv st w) : zW x G ce sl pc lv (.int a :: st) w := fun H locs ls hP hD hS hl => lv_if_eq C.1 C.2.1 hd ht (fun c0 => kt (by rw [if_pos c0] at h; exact h) H locs ls hP hD hS hl) (fun c0 => kf (by rw [if_neg c0] at h; exact h) H locs ls hP hD hS hl)
theorem z_icmp_eq (C : zC x G own cc nL ret rm) {a b : Int32} {off : Int} {α : Type} {o : α} {p q : Option α} {dd : Decidable (a = b)} (hd : decode cc pc = .ok (.if_icmp .eq off, 3)) (tgt : Nat) (ht : (pc : Int) + off = (tgt : Int)) (h : @ite _ (a = b) dd p q = some o) (kt : p = some o → zW x G ce sl tgt lv st w) (kf : q = some o → zW x G ce sl (pc + 3) lv st w) : zW x G ce sl pc lv (.int b :: .int a :: st) w := fun H locs ls hP hD hS hl => lv_icmp_eq C.1 C.2.1 hd ht (fun c0 => kt (by rw [if_pos c0] at h; exact h) H locs ls hP hD hS hl) (fun c0 => kf (by rw [if_neg c0] at h; exact h) H locs ls hP hD hS hl)
theorem z_if_ne (C : zC x G own cc nL ret rm) {a : Int32} {off : Int} {α : Type} {o : α} {p q : Option α} {dd : Decidable (a = 0)} (hd : decode cc pc = .ok (.ifCond .ne off, 3)) (tgt : Nat) (ht : (pc : Int) + off = (tgt : Int)) (h : @ite _ (a = 0) dd p q = some o) (kt : q = some o → zW x G ce sl tgt lv st w) (kf : p = some o → zW x G ce sl (pc + 3) lv st w) : zW x G ce sl pc lv (.int a :: st) w := fun H locs ls hP hD hS hl => lv_if_ne C.1 C.2.1 hd ht (fun c0 => kt (by rw [if_neg c0] at h; exact h) H locs ls hP hD hS hl) (fun c0 => kf (by rw [if_pos c0] at h; exact h) H locs ls hP hD hS hl)
theorem z_icmp_ne (C : zC x G own cc nL ret rm) {a b : Int32} {off : Int} {α : Type} {o : α} {p q : Option α} {dd : Decidable (a = b)} (hd : decode cc pc = .ok (.if_icmp .ne off, 3)) (tgt : Nat) (ht : (pc : Int) + off = (tgt : Int)) (h : @ite _ (a = b) dd p q = some o) (kt : q = some o → zW x G ce sl tgt lv st w) (kf : p = some o → zW x G ce sl (pc + 3) lv st w) : zW x G ce sl pc lv (.int b :: .int a :: st) w := fun H locs ls hP hD hS hl => lv_icmp_ne C.1 C.2.1 hd ht (fun c0 => kt (by rw [if_neg c0] at h; exact h) H locs ls hP hD hS hl) (fun c0 => kf (by rw [if_pos c0] at h; exact h) H locs ls hP hD hS hl)
theorem z_if_lt (C : zC x G own cc nL ret rm) {a : Int32} {off : Int} {α : Type} {o : α} {p q : Option α} {dd : Decidable (a < 0)} (hd : decode cc pc = .ok (.ifCond .lt off, 3)) (tgt : Nat) (ht : (pc : Int) + off = (tgt : Int)) (h : @ite _ (a < 0) dd p q = some o) (kt : p = some o → zW x G ce sl tgt lv st w) (kf : q = some o → zW x G ce sl (pc + 3) lv st w) : zW x G ce sl pc lv (.int a :: st) w := fun H locs ls hP hD hS hl => lv_if_lt C.1 C.2.1 hd ht (fun c0 => kt (by rw [if_pos c0] at h; exact h) H locs ls hP hD hS hl) (fun c0 => kf (by rw [if_neg c0] at h; exact h) H locs ls hP hD hS hl)
theorem z_icmp_lt (C : zC x G own cc nL ret rm) {a b : Int32} {off : Int} {α : Type} {o : α} {p q : Option α} {dd : Decidable (a < b)} (hd : decode cc pc = .ok (.if_icmp .lt off, 3)) (tgt : Nat) (ht : (pc : Int) + off = (tgt : Int)) (h : @ite _ (a < b) dd p q = some o) (kt : p = some o → zW x G ce sl tgt lv st w) (kf : q = some o → zW x G ce sl (pc + 3) lv st w) : zW x G ce sl pc lv (.int b :: .int a :: st) w := fun H locs ls hP hD hS hl => lv_icmp_lt C.1 C.2.1 hd ht (fun c0 => kt (by rw [if_pos c0] at h; exact h) H locs ls hP hD hS hl) (fun c0 => kf (by rw [if_neg c0] at h; exact h) H locs ls hP hD hS hl)
theorem z_if_ge (C : zC x G own cc nL ret rm) {a : Int32} {off : Int} {α : Type} {o : α} {p q : Option α} {dd : Decidable (0 ≤ a)} (hd : decode cc pc = .ok (.ifCond .ge off, 3)) (tgt : Nat) (ht : (pc : Int) + off = (tgt : Int)) (h : @ite _ (0 ≤ a) dd p q = some o) (kt : p = some o → zW x G ce sl tgt lv st w) (kf : q = some o → zW x G ce sl (pc + 3) lv st w) : zW x G ce sl pc lv (.int a :: st) w := fun H locs ls hP hD hS hl => lv_if_ge C.1 C.2.1 hd ht (fun c0 => kt (by rw [if_pos c0] at h; exact h) H locs ls hP hD hS hl) (fun c0 => kf (by rw [if_neg c0] at h; exact h) H locs ls hP hD hS hl)
theorem z_icmp_ge (C : zC x G own cc nL ret rm) {a b : Int32} {off : Int} {α : Type} {o : α} {p q : Option α} {dd : Decidable (b ≤ a)} (hd : decode cc pc = .ok (.if_icmp .ge off, 3)) (tgt : Nat) (ht : (pc : Int) + off = (tgt : Int)) (h : @ite _ (b ≤ a) dd p q = some o) (kt : p = some o → zW x G ce sl tgt lv st w) (kf : q = some o → zW x G ce sl (pc + 3) lv st w) : zW x G ce sl pc lv (.int b :: .int a :: st) w := fun H locs ls hP hD hS hl => lv_icmp_ge C.1 C.2.1 hd ht (fun c0 => kt (by rw [if_pos c0] at h; exact h) H locs ls hP hD hS hl) (fun c0 => kf (by rw [if_neg c0] at h; exact h) H locs ls hP hD hS hl)
theorem z_if_gt (C : zC x G own cc nL ret rm) {a : Int32} {off : Int} {α : Type} {o : α} {p q : Option α} {dd : Decidable (0 < a)} (hd : decode cc pc = .ok (.ifCond .gt off, 3)) (tgt : Nat) (ht : (pc : Int) + off = (tgt : Int)) (h : @ite _ (0 < a) dd p q = some o) (kt : p = some o → zW x G ce sl tgt lv st w) (kf : q = some o → zW x G ce sl (pc + 3) lv st w) : zW x G ce sl pc lv (.int a :: st) w := fun H locs ls hP hD hS hl => lv_if_gt C.1 C.2.1 hd ht (fun c0 => kt (by rw [if_pos c0] at h; exact h) H locs ls hP hD hS hl) (fun c0 => kf (by rw [if_neg c0] at h; exact h) H locs ls hP hD hS hl)
theorem z_icmp_gt (C : zC x G own cc nL ret rm) {a b : Int32} {off : Int} {α : Type} {o : α} {p q : Option α} {dd : Decidable (b < a)} (hd : decode cc pc = .ok (.if_icmp .gt off, 3)) (tgt : Nat) (ht : (pc : Int) + off = (tgt : Int)) (h : @ite _ (b < a) dd p q = some o) (kt : p = some o → zW x G ce sl tgt lv st w) (kf : q = some o → zW x G ce sl (pc + 3) lv st w) : zW x G ce sl pc lv (.int b :: .int a :: st) w := fun H locs ls hP hD hS hl => lv_icmp_gt C.1 C.2.1 hd ht (fun c0 => kt (by rw [if_pos c0] at h; exact h) H locs ls hP hD hS hl) (fun c0 => kf (by rw [if_neg c0] at h; exact h) H locs ls hP hD hS hl)
theorem z_if_le (C : zC x G own cc nL ret rm) {a : Int32} {off : Int} {α : Type} {o : α} {p q : Option α} {dd : Decidable (a ≤ 0)} (hd : decode cc pc = .ok (.ifCond .le off, 3)) (tgt : Nat) (ht : (pc : Int) + off = (tgt : Int)) (h : @ite _ (a ≤ 0) dd p q = some o) (kt : p = some o → zW x G ce sl tgt lv st w) (kf : q = some o → zW x G ce sl (pc + 3) lv st w) : zW x G ce sl pc lv (.int a :: st) w := fun H locs ls hP hD hS hl => lv_if_le C.1 C.2.1 hd ht (fun c0 => kt (by rw [if_pos c0] at h; exact h) H locs ls hP hD hS hl) (fun c0 => kf (by rw [if_neg c0] at h; exact h) H locs ls hP hD hS hl)
theorem z_icmp_le (C : zC x G own cc nL ret rm) {a b : Int32} {off : Int} {α : Type} {o : α} {p q : Option α} {dd : Decidable (a ≤ b)} (hd : decode cc pc = .ok (.if_icmp .le off, 3)) (tgt : Nat) (ht : (pc : Int) + off = (tgt : Int)) (h : @ite _ (a ≤ b) dd p q = some o) (kt : p = some o → zW x G ce sl tgt lv st w) (kf : q = some o → zW x G ce sl (pc + 3) lv st w) : zW x G ce sl pc lv (.int b :: .int a :: st) w := fun H locs ls hP hD hS hl => lv_icmp_le C.1 C.2.1 hd ht (fun c0 => kt (by rw [if_pos c0] at h; exact h) H locs ls hP hD hS hl) (fun c0 => kf (by rw [if_neg c0] at h; exact h) H locs ls hP hD hS hl)
theorem zb0 {b : Bool} (h : zb b = 0) : ¬ b = true := by cases b <;> simp_all [zb]
theorem zb1 {b : Bool} (h : ¬ zb b = 0) : b = true := by cases b <;> simp_all [zb]
theorem z_ifb_eq (C : zC x G own cc nL ret rm) {b : Bool} {off : Int} {α : Type} {o : α} {p q : Option α} {dd : Decidable (b = true)} (hd : decode cc pc = .ok (.ifCond .eq off, 3)) (tgt : Nat) (ht : (pc : Int) + off = (tgt : Int)) (h : @ite _ (b = true) dd p q = some o) (kt : q = some o → zW x G ce sl tgt lv st w) (kf : p = some o → zW x G ce sl (pc + 3) lv st w) : zW x G ce sl pc lv (.int (zb b) :: st) w := fun H locs ls hP hD hS hl => lv_if_eq C.1 C.2.1 hd ht (fun c0 => kt (by rw [if_neg (zb0 c0)] at h; exact h) H locs ls hP hD hS hl) (fun c0 => kf (by rw [if_pos (zb1 c0)] at h; exact h) H locs ls hP hD hS hl)
theorem z_ifb_ne (C : zC x G own cc nL ret rm) {b : Bool} {off : Int} {α : Type} {o : α} {p q : Option α} {dd : Decidable (b = true)} (hd : decode cc pc = .ok (.ifCond .ne off, 3)) (tgt : Nat) (ht : (pc : Int) + off = (tgt : Int)) (h : @ite _ (b = true) dd p q = some o) (kt : p = some o → zW x G ce sl tgt lv st w) (kf : q = some o → zW x G ce sl (pc + 3) lv st w) : zW x G ce sl pc lv (.int (zb b) :: st) w := fun H locs ls hP hD hS hl => lv_if_ne C.1 C.2.1 hd ht (fun c0 => kt (by rw [if_pos (zb1 c0)] at h; exact h) H locs ls hP hD hS hl) (fun c0 => kf (by rw [if_neg (zb0 c0)] at h; exact h) H locs ls hP hD hS hl)
theorem zcmp_eq (a b : Int64) : lg_cmp a b = 0 ↔ a = b := by
  unfold lg_cmp
  by_cases h1 : a > b
  · have h2 : ¬ a = b := by intro h; subst h; exact absurd h1 (by simp)
    simp [h1, h2]
  · by_cases h2 : a = b <;> simp [h1, h2]
theorem zcmp_lt (a b : Int64) : lg_cmp a b < 0 ↔ a < b := by
  have h := lg_cmp_ge a b
  constructor
  · intro h1
    rcases Int64.lt_or_le a b with h2 | h2
    · exact h2
    · exact absurd h1 (Int32.not_lt.mpr (h.mpr h2))
  · intro h1
    rcases Int32.lt_or_le (lg_cmp a b) 0 with h2 | h2
    · exact h2
    · exact absurd h1 (Int64.not_lt.mpr (h.mp h2))
theorem zcmp_gt (a b : Int64) : 0 < lg_cmp a b ↔ b < a := by
  unfold lg_cmp
  by_cases h1 : a > b
  · simp [h1]
  · have h3 : ¬ b < a := h1
    by_cases h2 : a = b <;> simp [h1, h2, h3]
theorem zcmp_le (a b : Int64) : lg_cmp a b ≤ 0 ↔ a ≤ b := by
  have h := zcmp_gt a b
  constructor
  · intro h1
    rcases Int64.lt_or_le b a with h2 | h2
    · exact absurd (h.mpr h2) (Int32.not_lt.mpr h1)
    · exact h2
  · intro h1
    rcases Int32.lt_or_le 0 (lg_cmp a b) with h2 | h2
    · exact absurd (h.mp h2) (Int64.not_lt.mpr h1)
    · exact h2
theorem z_lcmp_eq (C : zC x G own cc nL ret rm) {a b : Int64} {off : Int} {α : Type} {o : α} {p q : Option α} {dd : Decidable (a = b)} (hd0 : decode cc pc = .ok (.lcmp, 1)) (hd : decode cc (pc + 1) = .ok (.ifCond .eq off, 3)) (tgt : Nat) (ht : ((pc + 1 : Nat) : Int) + off = (tgt : Int)) (h : @ite _ (a = b) dd p q = some o) (kt : p = some o → zW x G ce sl tgt lv st w) (kf : q = some o → zW x G ce sl (pc + 1 + 3) lv st w) : zW x G ce sl pc lv (.long b :: .long a :: st) w := fun H locs ls hP hD hS hl => W.lcmp C.1 C.2.1 hd0 (lv_if_eq C.1 C.2.1 hd ht (fun c0 => kt (by rw [if_pos ((zcmp_eq a b).mp c0)] at h; exact h) H locs ls hP hD hS hl) (fun c0 => kf (by rw [if_neg (fun z => c0 ((zcmp_eq a b).mpr z))] at h; exact h) H locs ls hP hD hS hl))
theorem z_lcmp_ne (C : zC x G own cc nL ret rm) {a b : Int64} {off : Int} {α : Type} {o : α} {p q : Option α} {dd : Decidable (a = b)} (hd0 : decode cc pc = .ok (.lcmp, 1)) (hd : decode cc (pc + 1) = .ok (.ifCond .ne off, 3)) (tgt : Nat) (ht : ((pc + 1 : Nat) : Int) + off = (tgt : Int)) (h : @ite _ (a = b) dd p q = some o) (kt : q = some o → zW x G ce sl tgt lv st w) (kf : p = some o → zW x G ce sl (pc + 1 + 3) lv st w) : zW x G ce sl pc lv (.long b :: .long a :: st) w := fun H locs ls hP hD hS hl => W.lcmp C.1 C.2.1 hd0 (lv_if_ne C.1 C.2.1 hd ht (fun c0 => kt (by rw [if_neg (fun z => c0 ((zcmp_eq a b).mpr z))] at h; exact h) H locs ls hP hD hS hl) (fun c0 => kf (by rw [if_pos ((zcmp_eq a b).mp c0)] at h; exact h) H locs ls hP hD hS hl))
theorem z_lcmp_lt (C : zC x G own cc nL ret rm) {a b : Int64} {off : Int} {α : Type} {o : α} {p q : Option α} {dd : Decidable (a < b)} (hd0 : decode cc pc = .ok (.lcmp, 1)) (hd : decode cc (pc + 1) = .ok (.ifCond .lt off, 3)) (tgt : Nat) (ht : ((pc + 1 : Nat) : Int) + off = (tgt : Int)) (h : @ite _ (a < b) dd p q = some o) (kt : p = some o → zW x G ce sl tgt lv st w) (kf : q = some o → zW x G ce sl (pc + 1 + 3) lv st w) : zW x G ce sl pc lv (.long b :: .long a :: st) w := fun H locs ls hP hD hS hl => W.lcmp C.1 C.2.1 hd0 (lv_if_lt C.1 C.2.1 hd ht (fun c0 => kt (by rw [if_pos ((zcmp_lt a b).mp c0)] at h; exact h) H locs ls hP hD hS hl) (fun c0 => kf (by rw [if_neg (fun z => c0 ((zcmp_lt a b).mpr z))] at h; exact h) H locs ls hP hD hS hl))
theorem z_lcmp_ge (C : zC x G own cc nL ret rm) {a b : Int64} {off : Int} {α : Type} {o : α} {p q : Option α} {dd : Decidable (b ≤ a)} (hd0 : decode cc pc = .ok (.lcmp, 1)) (hd : decode cc (pc + 1) = .ok (.ifCond .ge off, 3)) (tgt : Nat) (ht : ((pc + 1 : Nat) : Int) + off = (tgt : Int)) (h : @ite _ (b ≤ a) dd p q = some o) (kt : p = some o → zW x G ce sl tgt lv st w) (kf : q = some o → zW x G ce sl (pc + 1 + 3) lv st w) : zW x G ce sl pc lv (.long b :: .long a :: st) w := fun H locs ls hP hD hS hl => W.lcmp C.1 C.2.1 hd0 (lv_if_ge C.1 C.2.1 hd ht (fun c0 => kt (by rw [if_pos ((lg_cmp_ge a b).mp c0)] at h; exact h) H locs ls hP hD hS hl) (fun c0 => kf (by rw [if_neg (fun z => c0 ((lg_cmp_ge a b).mpr z))] at h; exact h) H locs ls hP hD hS hl))
theorem z_lcmp_gt (C : zC x G own cc nL ret rm) {a b : Int64} {off : Int} {α : Type} {o : α} {p q : Option α} {dd : Decidable (b < a)} (hd0 : decode cc pc = .ok (.lcmp, 1)) (hd : decode cc (pc + 1) = .ok (.ifCond .gt off, 3)) (tgt : Nat) (ht : ((pc + 1 : Nat) : Int) + off = (tgt : Int)) (h : @ite _ (b < a) dd p q = some o) (kt : p = some o → zW x G ce sl tgt lv st w) (kf : q = some o → zW x G ce sl (pc + 1 + 3) lv st w) : zW x G ce sl pc lv (.long b :: .long a :: st) w := fun H locs ls hP hD hS hl => W.lcmp C.1 C.2.1 hd0 (lv_if_gt C.1 C.2.1 hd ht (fun c0 => kt (by rw [if_pos ((zcmp_gt a b).mp c0)] at h; exact h) H locs ls hP hD hS hl) (fun c0 => kf (by rw [if_neg (fun z => c0 ((zcmp_gt a b).mpr z))] at h; exact h) H locs ls hP hD hS hl))
theorem z_lcmp_le (C : zC x G own cc nL ret rm) {a b : Int64} {off : Int} {α : Type} {o : α} {p q : Option α} {dd : Decidable (a ≤ b)} (hd0 : decode cc pc = .ok (.lcmp, 1)) (hd : decode cc (pc + 1) = .ok (.ifCond .le off, 3)) (tgt : Nat) (ht : ((pc + 1 : Nat) : Int) + off = (tgt : Int)) (h : @ite _ (a ≤ b) dd p q = some o) (kt : p = some o → zW x G ce sl tgt lv st w) (kf : q = some o → zW x G ce sl (pc + 1 + 3) lv st w) : zW x G ce sl pc lv (.long b :: .long a :: st) w := fun H locs ls hP hD hS hl => W.lcmp C.1 C.2.1 hd0 (lv_if_le C.1 C.2.1 hd ht (fun c0 => kt (by rw [if_pos ((zcmp_le a b).mp c0)] at h; exact h) H locs ls hP hD hS hl) (fun c0 => kf (by rw [if_neg (fun z => c0 ((zcmp_le a b).mpr z))] at h; exact h) H locs ls hP hD hS hl))
theorem z_goto (C : zC x G own cc nL ret rm) {off : Int} (hd : decode cc pc = .ok (.goto off, 3)) (tgt : Nat) (ht : (pc : Int) + off = (tgt : Int)) (K : zW x G ce sl tgt lv st w) : zW x G ce sl pc lv st w := fun H locs ls hP hD hS hl => lv_goto C.1 C.2.1 hd ht (K H locs ls hP hD hS hl)
theorem z_tcase (C : zC x G own cc nL ret rm) {dflt lo hi : Int} {offs : Array Int} {len : Nat} {y : Int32} {off : Int} (hd : decode cc pc = .ok (.tableswitch dflt lo hi offs, len)) (v : Int32) (hy : y = v) (h1 : ¬ v.toInt < lo) (h2 : ¬ hi < v.toInt) (ho : offs[(v.toInt - lo).toNat]? = some off) (tgt : Nat) (ht : (pc : Int) + off = (tgt : Int)) (K : zW x G ce sl tgt lv st w) : zW x G ce sl pc lv (.int y :: st) w := fun H locs ls hP hD hS hl => by subst hy; exact lv_tableIn C.1 C.2.1 hd h1 h2 ho ht (K H locs ls hP hD hS hl)
theorem z_tout (C : zC x G own cc nL ret rm) {dflt lo hi : Int} {offs : Array Int} {len : Nat} {y : Int32} (hd : decode cc pc = .ok (.tableswitch dflt lo hi offs, len)) (hy : y.toInt < lo ∨ hi < y.toInt) (tgt : Nat) (ht : (pc : Int) + dflt = (tgt : Int)) (K : zW x G ce sl tgt lv st w) : zW x G ce sl pc lv (.int y :: st) w := fun H locs ls hP hD hS hl => lv_tableOut C.1 C.2.1 hd hy ht (K H locs ls hP hD hS hl)
theorem zite_t {α : Type} {P : Prop} {dd : Decidable P} {p q : Option α} {o : α} (h : @ite _ P dd p q = some o) (c : P) : p = some o := by rw [if_pos c] at h; exact h
theorem zite_f {α : Type} {P : Prop} {dd : Decidable P} {p q : Option α} {o : α} (h : @ite _ P dd p q = some o) (c : ¬ P) : q = some o := by rw [if_neg c] at h; exact h
theorem ztout {y : Int32} {lo hi : Int} (h : ∀ v : Int32, lo ≤ v.toInt → v.toInt ≤ hi → ¬ y = v) : y.toInt < lo ∨ hi < y.toInt := by
  rcases Int.lt_or_le y.toInt lo with h1 | h1
  · exact Or.inl h1
  · rcases Int.lt_or_le hi y.toInt with h2 | h2
    · exact Or.inr h2
    · exact absurd rfl (h y h1 h2)
theorem ztoutL {y : Int32} {lo hi : Int} (n : Nat) (hb : -2147483648 ≤ lo ∧ lo + n ≤ 2147483648 ∧ hi + 1 = lo + n) (h : ∀ k : Nat, k < n → ¬ y = Int32.ofInt (lo + k)) : y.toInt < lo ∨ hi < y.toInt := by
  rcases Int.lt_or_le y.toInt lo with h1 | h1
  · exact Or.inl h1
  · rcases Int.lt_or_le hi y.toInt with h2 | h2
    · exact Or.inr h2
    · refine absurd ?_ (h (y.toInt - lo).toNat (by omega))
      rw [show lo + ((y.toInt - lo).toNat : Int) = y.toInt by omega, Int32.ofInt_toInt]
theorem z_iret {v : Int32} {r : Option Value} {w1 : va_W} {mc ms : Nat} (C : zC x G own cc nL (some .int) rm) (O : zO x G r w1 mc ms) (hd : decode cc pc = .ok (.ireturn, 1)) (hr : some (.int v) = r) (hw : w = w1) : zW x G mc ms pc lv [.int v] w := by
  intro H locs ls hP hD hS hl
  obtain ⟨w0, hA, hQ⟩ := O
  subst hr; subst hw
  rw [hQ]
  exact W.iret C.1 C.2.1 C.2.2.2.2.2.1 (fun t ht hW => ⟨rfl, by rw [ht]; exact hP, va_K.moved hW.alike C.2.2.2.2.2.2.2.1, by rw [← hA]; exact hD, by rw [← hA]; exact hS.F ht⟩) hS.2.2 hd C.2.2.2.2.2.2.1
theorem z_lret {v : Int64} {r : Option Value} {w1 : va_W} {mc ms : Nat} (C : zC x G own cc nL (some .long) rm) (O : zO x G r w1 mc ms) (hd : decode cc pc = .ok (.lreturn, 1)) (hr : some (.long v) = r) (hw : w = w1) : zW x G mc ms pc lv [.long v] w := by
  intro H locs ls hP hD hS hl
  obtain ⟨w0, hA, hQ⟩ := O
  subst hr; subst hw
  rw [hQ]
  exact W.lret C.1 C.2.1 C.2.2.2.2.2.1 (fun t ht hW => ⟨rfl, by rw [ht]; exact hP, va_K.moved hW.alike C.2.2.2.2.2.2.2.1, by rw [← hA]; exact hD, by rw [← hA]; exact hS.F ht⟩) hS.2.2 hd C.2.2.2.2.2.2.1
theorem z_zret {v : Int32} {ty : FieldType} {r : Option Value} {w1 : va_W} {mc ms : Nat} (C : zC x G own cc nL (some ty) rm) (O : zO x G r w1 mc ms) (hd : decode cc pc = .ok (.ireturn, 1)) (hn : narrow ty (.int v) = .int v) (hr : some (.int v) = r) (hw : w = w1) : zW x G mc ms pc lv [.int v] w := by
  intro H locs ls hP hD hS hl
  obtain ⟨w0, hA, hQ⟩ := O
  subst hr; subst hw
  rw [hQ]
  exact W.zret C.1 C.2.1 C.2.2.2.2.2.1 hn (fun t ht hW => ⟨rfl, by rw [ht]; exact hP, va_K.moved hW.alike C.2.2.2.2.2.2.2.1, by rw [← hA]; exact hD, by rw [← hA]; exact hS.F ht⟩) hS.2.2 hd C.2.2.2.2.2.2.1
theorem zb_nar (b : Bool) : narrow .boolean (.int (zb b)) = .int (zb b) := by cases b <;> rfl
theorem z_vret {r : Option Value} {w1 : va_W} {mc ms : Nat} (C : zC x G own cc nL none rm) (O : zO x G r w1 mc ms) (hd : decode cc pc = .ok (.return_, 1)) (hr : none = r) (hw : w = w1) : zW x G mc ms pc lv [] w := by
  intro H locs ls hP hD hS hl
  obtain ⟨w0, hA, hQ⟩ := O
  subst hr; subst hw
  rw [hQ]
  exact W.vret C.1 C.2.1 C.2.2.2.2.2.1 (fun t ht hW => ⟨rfl, by rw [ht]; exact hP, va_K.moved hW.alike C.2.2.2.2.2.2.2.1, by rw [← hA]; exact hD, by rw [← hA]; exact hS.F ht⟩) hS.2.2 hd C.2.2.2.2.2.2.1
/-- getfield, of any class of vwCl -/
theorem z_get (C : zC x G own cc nL ret rm) {index ci N k : Nat} {ref Cn : String} {T : u_T} {a : Nat} {v : Value} {fs : List Value} (hin : ∀ v ∈ u_ws Cn T N, v ∈ zU) (hc : vwCl[ci]? = some (Cn, T, N)) (hk : k < N) (hl0 : Cond.fieldLink own index ref (T k).2.1 (T k).2.2.1 ∈ zU) (hsame : ∀ z, (xs x).fieldFound? (T k).1 (T k).2.1 (T k).2.2.1 = some z → (xs x).fieldFound? ref (T k).2.1 (T k).2.2.1 = some z) (q0 : Nat) (he : w[q0]? = some (a, .inr (ci, fs))) (hv : fs[k]? = some v) (hd : decode cc pc = .ok (.getfield index, 3)) (K : zW x G ce sl (pc + 3) lv (v :: st) w) : zW x G ce sl pc lv (.ref a :: st) w := fun H locs ls hP hD hS hl => va_get (D := G.1) (C := Cn) (T := T) (N := N) C.1 C.2.1 C.2.2.2.2.1 hin C.2.2.2.1 C.2.2.2.2.2.2.2.1 hP q0 he hc k hk (C.2.2.2.2.1 _ hl0) hsame hv hd (K H locs ls hP hD hS hl)
/-- putfield of a field that isn't final -/
theorem z_put (C : zC x G own cc nL ret rm) {index ci N k : Nat} {ref Cn : String} {T : u_T} {a : Nat} {v : Value} {fs : List Value} {ty : FieldType} {w' : va_W} (hin : ∀ v ∈ u_ws Cn T N, v ∈ zU) (tyf : Nat → FieldType) (htyf : ∀ k, k < N → parseFieldDescriptor (T k).2.2.1 = some (tyf k)) (hnm : ∀ a, a < N → ∀ b, b < N → a ≠ b → (T a).2.1 ≠ (T b).2.1) (hc : vwCl[ci]? = some (Cn, T, N)) (hk : k < N) (hl0 : Cond.fieldLink own index ref (T k).2.1 (T k).2.2.1 ∈ zU) (hsame : ∀ z, (xs x).fieldFound? (T k).1 (T k).2.1 (T k).2.2.1 = some z → (xs x).fieldFound? ref (T k).2.1 (T k).2.2.1 = some z) (hfin : (T k).2.2.2 = false) (q0 : Nat) (he : w[q0]? = some (a, .inr (ci, fs))) (hdt : parseFieldDescriptor (T k).2.2.1 = some ty) (hn : narrow ty v = v) (hfit : fits ty v = true) (hlf : k < fs.length) (hw : w.set q0 (a, .inr (ci, fs.set k v)) = w') (hd : decode cc pc = .ok (.putfield index, 3)) (K : zW x G ce sl (pc + 3) lv st w') : zW x G ce sl pc lv (v :: .ref a :: st) w := fun H locs ls hP hD hS hl => va_put (D := G.1) (C := Cn) (T := T) (N := N) C.1 C.2.1 C.2.2.2.2.1 hin tyf htyf hnm C.2.2.2.1 C.2.2.2.2.2.2.2.1 hP hD hS q0 he hc k hk (C.2.2.2.2.1 _ hl0) hsame hfin hdt hn hfit hlf hd (fun H1 locs1 hP1 hD1 hS1 => K H1 locs1 ls (hw ▸ hP1) (hw ▸ hD1) hS1 hl)
theorem z_iald (C : zC x G own cc nL ret rm) {a n : Nat} {f : Nat → Int32} {i : Int32} {α : Type} {o : α} {kk : Option α} (q0 : Nat) (he : w[q0]? = some (a, .inl (gI G, n, .inl f))) (hd : decode cc pc = .ok (.iaload, 1)) (h : zg (zix i n) kk = some o) (K : kk = some o → zW x G ce sl (pc + 1) lv (.int (f i.toNatClampNeg) :: st) w) : zW x G ce sl pc lv (.int i :: .ref a :: st) w := fun H locs ls hP hD hS hl => va_iald (D := G.1) C.1 C.2.1 C.2.2.2.2.2.2.2.1 hP q0 1 he rfl (zix_in (zg_o h).1) hd (K (zg_o h).2 H locs ls hP hD hS hl)
theorem z_iast (C : zC x G own cc nL ret rm) {a n : Nat} {f : Nat → Int32} {i : Int32} {v : Int32} {α : Type} {o : α} {kk : Option α} {w' : va_W} (q0 : Nat) (he : w[q0]? = some (a, .inl (gI G, n, .inl f))) (hw : w.set q0 (a, .inl (gI G, n, .inl (upd f i.toNatClampNeg v))) = w') (hd : decode cc pc = .ok (.iastore, 1)) (h : zg (zix i n) kk = some o) (K : kk = some o → zW x G ce sl (pc + 1) lv st w') : zW x G ce sl pc lv (.int v :: .int i :: .ref a :: st) w := fun H locs ls hP hD hS hl => va_iast (D := G.1) C.1 C.2.1 C.2.2.2.2.2.2.2.1 hP hD hS q0 1 he rfl (zix_in (zg_o h).1) hd (fun H1 locs1 hP1 hD1 hS1 => K (zg_o h).2 H1 locs1 ls (hw ▸ hP1) (hw ▸ hD1) hS1 hl)
theorem z_bald (C : zC x G own cc nL ret rm) {a n : Nat} {f : Nat → Int32} {i : Int32} {α : Type} {o : α} {kk : Option α} (q0 : Nat) (he : w[q0]? = some (a, .inl (gB G, n, .inl f))) (hd : decode cc pc = .ok (.baload, 1)) (h : zg (zix i n) kk = some o) (K : kk = some o → zW x G ce sl (pc + 1) lv (.int (f i.toNatClampNeg) :: st) w) : zW x G ce sl pc lv (.int i :: .ref a :: st) w := fun H locs ls hP hD hS hl => va_bald (D := G.1) C.1 C.2.1 C.2.2.2.2.2.2.2.1 hP q0 0 he rfl (zix_in (zg_o h).1) hd (K (zg_o h).2 H locs ls hP hD hS hl)
theorem z_bast (C : zC x G own cc nL ret rm) {a n : Nat} {f : Nat → Int32} {i : Int32} {v : Int32} {α : Type} {o : α} {kk : Option α} {w' : va_W} (q0 : Nat) (he : w[q0]? = some (a, .inl (gB G, n, .inl f))) (hw : w.set q0 (a, .inl (gB G, n, .inl (upd f i.toNatClampNeg (vp_nar .byte v)))) = w') (hd : decode cc pc = .ok (.bastore, 1)) (h : zg (zix i n) kk = some o) (K : kk = some o → zW x G ce sl (pc + 1) lv st w') : zW x G ce sl pc lv (.int v :: .int i :: .ref a :: st) w := fun H locs ls hP hD hS hl => va_bast (D := G.1) C.1 C.2.1 C.2.2.2.2.2.2.2.1 hP hD hS q0 0 he rfl (zix_in (zg_o h).1) hd (fun H1 locs1 hP1 hD1 hS1 => K (zg_o h).2 H1 locs1 ls (hw ▸ hP1) (hw ▸ hD1) hS1 hl)
theorem z_lald (C : zC x G own cc nL ret rm) {a n : Nat} {f : Nat → Int64} {i : Int32} {α : Type} {o : α} {kk : Option α} (q0 : Nat) (he : w[q0]? = some (a, .inl (gJ G, n, .inr (.inl f)))) (hd : decode cc pc = .ok (.laload, 1)) (h : zg (zix i n) kk = some o) (K : kk = some o → zW x G ce sl (pc + 1) lv (.long (f i.toNatClampNeg) :: st) w) : zW x G ce sl pc lv (.int i :: .ref a :: st) w := fun H locs ls hP hD hS hl => va_lald (D := G.1) C.1 C.2.1 C.2.2.2.2.2.2.2.1 hP q0 2 he rfl (zix_in (zg_o h).1) hd (K (zg_o h).2 H locs ls hP hD hS hl)
theorem z_last (C : zC x G own cc nL ret rm) {a n : Nat} {f : Nat → Int64} {i : Int32} {v : Int64} {α : Type} {o : α} {kk : Option α} {w' : va_W} (q0 : Nat) (he : w[q0]? = some (a, .inl (gJ G, n, .inr (.inl f)))) (hw : w.set q0 (a, .inl (gJ G, n, .inr (.inl (vp_updL f i.toNatClampNeg v)))) = w') (hd : decode cc pc = .ok (.lastore, 1)) (h : zg (zix i n) kk = some o) (K : kk = some o → zW x G ce sl (pc + 1) lv st w') : zW x G ce sl pc lv (.long v :: .int i :: .ref a :: st) w := fun H locs ls hP hD hS hl => va_last (D := G.1) C.1 C.2.1 C.2.2.2.2.2.2.2.1 hP hD hS q0 2 he rfl (zix_in (zg_o h).1) hd (fun H1 locs1 hP1 hD1 hS1 => K (zg_o h).2 H1 locs1 ls (hw ▸ hP1) (hw ▸ hD1) hS1 hl)
/-- behind a call: the world is the callee's -/
theorem z_back {H : Heap} {locs : List Loc} {ls : Array Slot} {st0 rest : List Value} {a : Array Value} {w1 : va_W} {r : Option Value} {mc ms : Nat} (hr : va_Run (xp x) (xl x) (xe x) (xR x) (xs x) (xm x) (xa x) (xb x) (xt x) (xc x) H locs ce sl mc ms (F0 (xm x) pc ls st0) rest (zPost G w H.size r w1 a) (va_A w H.size)) (hD : va_D (xA x) w) (hS : va_S (xA x) (xs x).heap H locs) (hA : ∀ q, (xs x).heap.size ≤ q → xA x q) (hl : lv_has ls (xc x).maxLocals lv) (K : zW x G (ce + mc) (sl + ms) (pc + 3) lv (r.toList ++ rest) w1) : W (xp x) (xl x) (xe x) (xR x) (xs x) (xm x) (xa x) (xb x) (xt x) (xc x) H locs ce sl (xQ x) (F0 (xm x) pc ls st0) := by
  intro T hT X
  obtain ⟨v, st₀, t, T', L, h0, X', hL, e1, e2, ⟨hv, hp, hk, hd, hz, hq⟩, go⟩ := hr T hT X
  cases hv
  rw [h0] at hz hq
  have hF : ∀ q, va_A w H.size q → xA x q := fun q h => by
    rcases h with ⟨k, e, h⟩ | h
    · exact hD.2 k (q, e) h
    · exact hA q (Nat.le_trans hS.1 h)
  obtain ⟨t2, a1, b1⟩ := K T'.heap (locs ++ L) ls (by rw [e1]; exact hp) (hd.weaken (fun _ _ _ h => hF _ h)) ⟨Nat.le_trans hS.1 (by rw [e1]; exact hz), fun q h1 h2 => by rw [e1, hq q (Nat.lt_of_lt_of_le h1 hS.1) (fun z => h2 (hF q z))]; exact hS.2.1 q h1 h2, fun q hq' => by
      rcases List.mem_append.mp hq' with h | h
      · exact hS.2.2 q h
      · exact hF _ (hL q h)⟩ hl T' rfl X'
  exact ⟨t2, go t2 a1, b1⟩
/-- the callee's start, out of the caller's state -/
theorem z_pre {H : Heap} {locs : List Loc} {av : List Value} (C : zC x G own cc nL ret rm) (hP : va_P G.1 vwCl w H) (hD : va_D (xA x) w) (hS : va_S (xA x) (xs x).heap H locs) (U : State) (hU : U.heap = H) (hW : (xs x).WarmedH U.vm) : zPre G av w H.size av.toArray U := by
  have hF : ∀ q, va_A w H.size q → xA x q := fun q h => by
    rcases h with ⟨k, e, h⟩ | h
    · exact hD.2 k (q, e) h
    · exact C.2.2.2.2.2.2.2.2.1 q (Nat.le_trans hS.1 h)
  refine ⟨rfl, by rw [hU], by rw [hU]; exact hP, va_K.moved hW.alike C.2.2.2.2.2.2.2.1, hD.weaken (fun _ _ _ _ => trivial), ?_⟩
  rw [hU]
  exact (((C.2.2.2.2.2.2.2.2.2.2.kept hS.2.1).narrow hF).warm hW)
def zRm (rm rm' : Room) (maxL ce sl : Nat) : Prop := (rm'.frames + 1 ≤ rm.frames ∧ 8 + (maxL + 11) + rm'.locals ≤ rm.locals) ∧ ce + rm'.cells ≤ rm.cells ∧ sl + rm'.slots ≤ rm.slots
theorem z_callV (C : zC x G own cc nL ret rm) {y : MethodName} {bytes : ByteArray} {maxL : Nat} {rt : Option FieldType} {rm' : Room} {b : Nat} {As rest : List Value} {r : Option Value} {w1 : va_W} {index ci : Nat} {fs : List Value} {Cn : String} {T : u_T} {N : Nat} (n : Nat)
    (hcode : Cond.code y bytes maxL rt ∈ zU) (hini : Cond.initialized y.cls ∈ zU) (hlink : Cond.methodLink own index y ∈ zU) (hinst : Cond.instanceMethod y ∈ zU) (hsel : Cond.selects Cn y y ∈ zU) (hdn : y.cls ≠ "java/lang/invoke/MethodHandle" ∧ y.cls ≠ "java/lang/invoke/VarHandle" ∧ (parseMethodDescriptor y.desc).map (fun d => d.parameters.length) = some n) (hci : vwCl[ci]? = some (Cn, T, N))
    (hc : Ct (xl x) G y bytes maxL rt rm' (.ref b :: As) w r w1) (hn : As.length = n) (q0 : Nat) (he : w[q0]? = some (b, .inr (ci, fs))) (hd : decode cc pc = .ok (.invokevirtual index, 3)) (hcat : (rest.map fun v => v.category).sum ≤ 8) (hrm : zRm rm rm' maxL ce sl) (K : zW x G (ce + rm'.cells) (sl + rm'.slots) (pc + 3) lv (r.toList ++ rest) w1) : zW x G ce sl pc lv (As.reverse ++ .ref b :: rest) w := by
  intro H locs ls hP hD hS hl
  have hts := C.2.2.2.2.1
  have hr1 : rm'.frames + 1 ≤ (xR x).frames ∧ 8 + (maxL + 11) + rm'.locals ≤ (xR x).locals := by rw [C.2.2.2.2.2.2.2.2.2.1]; exact hrm.1
  have hr2 : ce + rm'.cells ≤ (xR x).cells ∧ sl + rm'.slots ≤ (xR x).slots := by rw [C.2.2.2.2.2.2.2.2.2.1]; exact hrm.2
  refine z_back (w := w) (va_runV (n := n) (index := index) (y := y) (bytes := bytes) (maxL := maxL) (ret := rt) (C := Cn) (b := b) (As := As) (g := F0 (xm x) pc ls (As.reverse ++ .ref b :: rest)) ⟨C.1, C.2.1, C.2.2.1, C.2.2.2.1, hts⟩ (hc H.size) ⟨callB_of n hts (zgood hcode) rfl rfl rfl (hts _ hini) (hts _ hlink) hdn hr1, hts _ hinst, hts _ hsel⟩ ⟨zPre_blind, va_recv (q := (Cn, T, N)) C.2.2.2.2.2.2.2.1 hP hci he, fun U hU hW => z_pre C hP hD hS U hU hW⟩ rfl hn (hl.1.trans C.2.2.1) rfl (lv_room hcat) hd hr2) hD hS C.2.2.2.2.2.2.2.2.1 hl K
theorem z_callS (C : zC x G own cc nL ret rm) {y : MethodName} {bytes : ByteArray} {maxL : Nat} {rt : Option FieldType} {rm' : Room} {As rest : List Value} {r : Option Value} {w1 : va_W} {index : Nat} (n : Nat)
    (hcode : Cond.code y bytes maxL rt ∈ zU) (hini : Cond.initialized y.cls ∈ zU) (hlink : Cond.methodLink own index y ∈ zU) (hstat : Cond.static y ∈ zU) (hdn : y.cls ≠ "java/lang/invoke/MethodHandle" ∧ y.cls ≠ "java/lang/invoke/VarHandle" ∧ (parseMethodDescriptor y.desc).map (fun d => d.parameters.length) = some n)
    (hc : Ct (xl x) G y bytes maxL rt rm' As w r w1) (hn : As.length = n) (hd : decode cc pc = .ok (.invokestatic index, 3)) (hcat : (rest.map fun v => v.category).sum ≤ 8) (hrm : zRm rm rm' maxL ce sl) (K : zW x G (ce + rm'.cells) (sl + rm'.slots) (pc + 3) lv (r.toList ++ rest) w1) : zW x G ce sl pc lv (As.reverse ++ rest) w := by
  intro H locs ls hP hD hS hl
  have hts := C.2.2.2.2.1
  have hr1 : rm'.frames + 1 ≤ (xR x).frames ∧ 8 + (maxL + 11) + rm'.locals ≤ (xR x).locals := by rw [C.2.2.2.2.2.2.2.2.2.1]; exact hrm.1
  have hr2 : ce + rm'.cells ≤ (xR x).cells ∧ sl + rm'.slots ≤ (xR x).slots := by rw [C.2.2.2.2.2.2.2.2.2.1]; exact hrm.2
  refine z_back (w := w) (va_runS (n := n) (index := index) (y := y) (bytes := bytes) (maxL := maxL) (ret := rt) (As := As) (g := F0 (xm x) pc ls (As.reverse ++ rest)) ⟨C.1, C.2.1, C.2.2.1, C.2.2.2.1, hts⟩ (hc H.size) ⟨callB_of n hts (zgood hcode) rfl rfl rfl (hts _ hini) (hts _ hlink) hdn hr1, hts _ hstat⟩ ⟨zPre_blind, fun U hU hW => z_pre C hP hD hS U hU hW⟩ rfl hn (hl.1.trans C.2.2.1) rfl (lv_room hcat) hd hr2) hD hS C.2.2.2.2.2.2.2.2.1 hl K
end ZR
end
section
/-! STATES AND WORLDS of the components. A state: int fields and int arrays by their slot's number, long fields and long arrays by their slot's number. -/
abbrev zSt : Type := (Nat → Int32) × (Nat → Nat → Int32) × (Nat → Int64) × (Nat → Nat → Int64)
def zI (s : zSt) (k : Nat) : Int32 := s.1 k
def zA (s : zSt) (k : Nat) : Nat → Int32 := s.2.1 k
def zJ (s : zSt) (k : Nat) : Int64 := s.2.2.1 k
def zL (s : zSt) (k : Nat) : Nat → Int64 := s.2.2.2 k
def zsI (s : zSt) (k : Nat) (v : Int32) : zSt := (va_up s.1 k v, s.2)
def zsAf (s : zSt) (k : Nat) (f : Nat → Int32) : zSt := (s.1, va_up s.2.1 k f, s.2.2)
def zsJ (s : zSt) (k : Nat) (v : Int64) : zSt := (s.1, s.2.1, va_up s.2.2.1 k v, s.2.2.2)
def zsLf (s : zSt) (k : Nat) (f : Nat → Int64) : zSt := (s.1, s.2.1, s.2.2.1, va_up s.2.2.2 k f)
def zsA (s : zSt) (k i : Nat) (v : Int32) : zSt := zsAf s k (upd (zA s k) i v)
def zsL (s : zSt) (k i : Nat) (v : Int64) : zSt := zsLf s k (vp_updL (zL s k) i v)
def zF : Nat := 1000
def zRmb (rm rm' : Room) (maxL ce sl : Nat) : Bool := (Nat.ble (rm'.frames + 1) rm.frames && Nat.ble (8 + (maxL + 11) + rm'.locals) rm.locals) && (Nat.ble (ce + rm'.cells) rm.cells && Nat.ble (sl + rm'.slots) rm.slots)
theorem zrm {rm rm' : Room} {maxL ce sl : Nat} (h : zRmb rm rm' maxL ce sl = true) : zRm rm rm' maxL ce sl := by
  simp only [zRmb, Bool.and_eq_true, Nat.ble_eq] at h
  exact h
theorem Ct.frame0 {l : Launch} {G : zG} {y : MethodName} {cc : ByteArray} {maxL : Nat} {ret : Option FieldType} {rm : Room} {av : List Value} {r : Option Value} (h : Ct l G y cc maxL ret rm av [] r []) {w : va_W} : Ct l G y cc maxL ret rm av w r w := by
  intro sz p e ha hc hk s m args below hf happ hP _
  obtain ⟨q0, q1, qP, qK, qD, qE⟩ := hP
  have hsub : ∀ q, va_A [] sz q → va_A w sz q := fun q h => h.elim (fun ⟨k, e, h⟩ => by simp at h) (fun h => Or.inr h)
  obtain ⟨n, o, a1, a2, a3, ⟨⟨b1, b2, b3, b4, b5⟩, L, b6, b7⟩⟩ := h sz p e ha hc hk s m args below hf happ ⟨q0, q1, fun k q h => by simp at h, qK, ⟨fun i j p q h => by simp at h, fun k q h => by simp at h⟩, zE.narrow hsub qE⟩ trivial
  refine ⟨n, o, a1, a2, a3, ⟨⟨b1, ?_, b3, qD.self, b5.1, fun q h1 h2 => b5.2 q h1 (fun z => h2 (hsub q z))⟩, L, b6, fun q hq => hsub _ (b7 q hq)⟩⟩
  subst q1
  refine qP.kept (fun k q hq => b5.2 q.1 ((qP k q hq).lt) (fun z => ?_))
  have hlt := (qP k q hq).lt
  rcases z with ⟨k2, e2, h2⟩ | h2
  · simp at h2
  · omega
def wdM (G : zG) (q : Nat → Nat) (s : zSt) : va_W := [(q 0, .inr (11, [.int (zI s 0), .int (zI s 1), .ref (q 3), .ref (q 4), .ref (q 5), .int (zI s 5), .int (zI s 6), .int (zI s 7), .int (zI s 8), .ref (q 10), .ref (q 11), .int (zI s 11), .int (zI s 12), .int (zI s 13), .ref (q 15), .ref (q 16), .ref (q 17), .int (zI s 17), .int (zI s 18), .int (zI s 19), .int (zI s 20), .int (zI s 21), .int (zI s 22), .int (zI s 23), .int (zI s 24), .int (zI s 25), .int (zI s 26), .ref (q 28), .int (zI s 28), .ref (q 30), .ref (q 31), .ref (q 32), .ref (q 33), .ref (q 34), .ref (q 35), .ref (q 36), .ref (q 37), .ref (q 38), .ref (q 39), .ref (q 40), .int (zI s 40), .ref (q 42), .ref (q 43), .ref (q 44), .ref (q 45), .ref (q 46), .ref (q 47), .ref (q 48), .ref (q 49), .long (zJ s 49), .ref (q 51), .ref (q 52), .ref (q 53), .ref (q 54), .int (zI s 54)])), (q 3, .inl (gI G, 8, .inl (zA s 2))), (q 4, .inl (gI G, 8, .inl (zA s 3))), (q 5, .inl (gI G, 320, .inl (zA s 4))), (q 10, .inl (gI G, 32, .inl (zA s 9))), (q 11, .inl (gI G, 180, .inl (zA s 10))), (q 15, .inl (gI G, 32, .inl (zA s 14))), (q 16, .inl (gI G, 180, .inl (zA s 15))), (q 17, .inl (gI G, 500, .inl (zA s 16))), (q 28, .inl (gI G, 5, .inl (zA s 27))), (q 30, .inl (gI G, 10, .inl (zA s 29))), (q 31, .inl (gI G, 10, .inl (zA s 30))), (q 32, .inl (gI G, 10, .inl (zA s 31))), (q 33, .inl (gI G, 10, .inl (zA s 32))), (q 34, .inl (gI G, 10, .inl (zA s 33))), (q 35, .inl (gI G, 10, .inl (zA s 34))), (q 36, .inl (gI G, 10, .inl (zA s 35))), (q 37, .inl (gI G, 10, .inl (zA s 36))), (q 38, .inl (gI G, 10, .inl (zA s 37))), (q 39, .inl (gI G, 30, .inl (zA s 38))), (q 40, .inl (gI G, 3, .inl (zA s 39))), (q 42, .inl (gI G, 90, .inl (zA s 41))), (q 43, .inl (gI G, 90, .inl (zA s 42))), (q 44, .inl (gI G, 90, .inl (zA s 43))), (q 45, .inl (gI G, 90, .inl (zA s 44))), (q 46, .inl (gJ G, 3, .inr (.inl (zL s 45)))), (q 47, .inl (gJ G, 3, .inr (.inl (zL s 46)))), (q 48, .inl (gJ G, 9, .inr (.inl (zL s 47)))), (q 49, .inl (gJ G, 9, .inr (.inl (zL s 48)))), (q 51, .inl (gJ G, 3, .inr (.inl (zL s 50)))), (q 52, .inl (gJ G, 3, .inr (.inl (zL s 51)))), (q 53, .inl (gJ G, 9, .inr (.inl (zL s 52)))), (q 54, .inl (gI G, 16, .inl (zA s 53)))]
def wdR (G : zG) (q : Nat → Nat) (s : zSt) : va_W := [(q 0, .inr (6, [.ref (q 1), .int (zI s 1), .int (zI s 2), .int (zI s 3), .int (zI s 4), .int (zI s 5), .int (zI s 6), .int (zI s 7)])), (q 1, .inl (gB G, 500, .inl (zA s 0)))]
def wdS (G : zG) (q : Nat → Nat) (s : zSt) : va_W := [(q 0, .inr (7, [.int (zI s 0), .int (zI s 1), .int (zI s 2), .ref (q 4), .ref (q 5), .ref (q 6), .ref (q 7), .ref (q 8), .ref (q 9), .ref (q 10), .ref (q 11), .ref (q 12), .ref (q 13)])), (q 4, .inl (gI G, 16, .inl (zA s 3))), (q 5, .inl (gI G, 4, .inl (zA s 4))), (q 6, .inl (gI G, 4, .inl (zA s 5))), (q 7, .inl (gI G, 4, .inl (zA s 6))), (q 8, .inl (gI G, 4, .inl (zA s 7))), (q 9, .inl (gI G, 30, .inl (zA s 8))), (q 10, .inl (gI G, 30, .inl (zA s 9))), (q 11, .inl (gI G, 30, .inl (zA s 10))), (q 12, .inl (gI G, 30, .inl (zA s 11))), (q 13, .inl (gI G, 30, .inl (zA s 12)))]
def wdC (G : zG) (q : Nat → Nat) (r : Nat) (s : zSt) : va_W := [(q 0, .inr (2, [.ref r, .int (zI s 1), .ref (q 3), .ref (q 4), .int (zI s 4), .ref (q 6), .ref (q 7), .ref (q 8), .ref (q 9), .ref (q 10), .ref (q 11), .ref (q 12), .ref (q 13), .int (zI s 13), .ref (q 15), .ref (q 16), .ref (q 17), .ref (q 18)])), (q 3, .inl (gI G, 5, .inl (zA s 2))), (q 4, .inl (gI G, 3, .inl (zA s 3))), (q 6, .inl (gI G, 10, .inl (zA s 5))), (q 7, .inl (gI G, 10, .inl (zA s 6))), (q 8, .inl (gI G, 10, .inl (zA s 7))), (q 9, .inl (gI G, 10, .inl (zA s 8))), (q 10, .inl (gI G, 10, .inl (zA s 9))), (q 11, .inl (gI G, 10, .inl (zA s 10))), (q 12, .inl (gI G, 10, .inl (zA s 11))), (q 13, .inl (gI G, 10, .inl (zA s 12))), (q 15, .inl (gI G, 50, .inl (zA s 14))), (q 16, .inl (gI G, 50, .inl (zA s 15))), (q 17, .inl (gI G, 50, .inl (zA s 16))), (q 18, .inl (gI G, 50, .inl (zA s 17)))]
def wdU (G : zG) (q : Nat → Nat) (s : zSt) : va_W := [(q 0, .inr (8, [.ref (q 1), .ref (q 2), .ref (q 3), .ref (q 4), .ref (q 5), .ref (q 6), .ref (q 7), .long (zJ s 7), .ref (q 9)])), (q 1, .inl (gJ G, 3, .inr (.inl (zL s 0)))), (q 2, .inl (gJ G, 3, .inr (.inl (zL s 1)))), (q 3, .inl (gI G, 3, .inl (zA s 2))), (q 4, .inl (gJ G, 9, .inr (.inl (zL s 3)))), (q 5, .inl (gJ G, 9, .inr (.inl (zL s 4)))), (q 6, .inl (gJ G, 3, .inr (.inl (zL s 5)))), (q 7, .inl (gJ G, 2, .inr (.inl (zL s 6)))), (q 9, .inl (gJ G, 9, .inr (.inl (zL s 8))))]
def wdT (G : zG) (q : Nat → Nat) (s : zSt) : va_W := [(q 0, .inr (9, [.ref (q 1), .int (zI s 1)])), (q 1, .inl (gI G, 16, .inl (zA s 0)))]
def wdX (G : zG) (q : Nat → Nat) (qR qS qP qC qU qD qV qT : Nat → Nat) (s : zSt) : va_W := [(q 0, .inr (10, [.ref (q 1), .ref (q 2), .ref (q 3), .int (zI s 3), .ref (qR 0), .int (zI s 5), .int (zI s 6), .ref (qS 0), .ref (qP 0), .ref (qC 0), .ref (qU 0), .ref (qD 0), .ref (qV 0), .ref (qT 0)])), (q 1, .inl (gI G, 8, .inl (zA s 0))), (q 2, .inl (gI G, 8, .inl (zA s 1))), (q 3, .inl (gI G, 320, .inl (zA s 2)))]
theorem inzX0 : ∀ w ∈ u_ws RX0 TX0 3, w ∈ zU := zin [854, 855, 856] (by decide +kernel) (by decide +kernel)
theorem inzX1 : ∀ w ∈ u_ws RX1 TX1 3, w ∈ zU := zin [827, 828, 829] (by decide +kernel) (by decide +kernel)
theorem inzX2 : ∀ w ∈ u_ws RX2 TX2 18, w ∈ zU := zin [255, 257, 259, 261, 263, 265, 267, 269, 271, 273, 275, 277, 279, 281, 283, 285, 287, 289] (by decide +kernel) (by decide +kernel)
theorem inzX3 : ∀ w ∈ u_ws RX3 TX3 3, w ∈ zU := zin [861, 862, 863] (by decide +kernel) (by decide +kernel)
theorem inzX4 : ∀ w ∈ u_ws RX4 TX4 3, w ∈ zU := zin [817, 819, 821] (by decide +kernel) (by decide +kernel)
theorem inzX5 : ∀ w ∈ u_ws RX5 TX5 3, w ∈ zU := zin [841, 842, 843] (by decide +kernel) (by decide +kernel)
theorem inzX6 : ∀ w ∈ u_ws RX6 TX6 8, w ∈ zU := zin [116, 118, 120, 122, 124, 126, 128, 130] (by decide +kernel) (by decide +kernel)
theorem inzX7 : ∀ w ∈ u_ws RX7 TX7 13, w ∈ zU := zin [175, 177, 179, 181, 183, 185, 187, 189, 191, 193, 195, 197, 199] (by decide +kernel) (by decide +kernel)
theorem inzX8 : ∀ w ∈ u_ws RX8 TX8 9, w ∈ zU := zin [315, 317, 319, 321, 323, 325, 327, 329, 331] (by decide +kernel) (by decide +kernel)
theorem inzX10 : ∀ w ∈ u_ws RX10 TX10 2, w ∈ zU := zin [345, 347] (by decide +kernel) (by decide +kernel)
theorem inzX11 : ∀ w ∈ u_ws RX11 TX11 14, w ∈ zU := zin [367, 369, 371, 373, 375, 377, 379, 381, 383, 385, 387, 389, 391, 393] (by decide +kernel) (by decide +kernel)
theorem inzX12 : ∀ w ∈ u_ws RX12 TX12 55, w ∈ zU := zin [1015, 1017, 1019, 1021, 1023, 1025, 1027, 1029, 1031, 1033, 1035, 1037, 1039, 1041, 1043, 1045, 1047, 1049, 1051, 1053, 1055, 1057, 1059, 1061, 1063, 1065, 1067, 1069, 1071, 1073, 1075, 1077, 1079, 1081, 1083, 1085, 1087, 1089, 1091, 1093, 1095, 1097, 1099, 1101, 1103, 1105, 1107, 1109, 1111, 1113, 1115, 1117, 1119, 1121, 1123] (by decide +kernel) (by decide +kernel)
end
section
theorem rw_u_492 : Cond.fieldLink RJ0 38 "java/lang/String" "COMPACT_STRINGS" "Z" ∈ zU := zm 492 (by decide +kernel) rfl
theorem rw_u_1445 : Cond.fieldLink RJ0 15 "java/lang/String" "coder" "B" ∈ zU := zm 1445 (by decide +kernel) rfl
theorem rw_u_508 : Cond.fieldLink RJ0 1053 "jdk/internal/util/Preconditions" "SIOOBE_FORMATTER" "Ljava/util/function/BiFunction;" ∈ zU := zm 508 (by decide +kernel) rfl
theorem rw_u_512 : Cond.code yJ3_checkIndex_8e157 cJ3_checkIndex_8e157 3 (some .int) ∈ zU := zm 512 (by decide +kernel) rfl
theorem rw_u_82 : Cond.initialized yJ3_checkIndex_8e157.cls ∈ zU := zm 82 (by decide +kernel) rfl
theorem rw_u_510 : Cond.methodLink RJ0 1059 yJ3_checkIndex_8e157 ∈ zU := zm 510 (by decide +kernel) rfl
theorem rw_u_511 : Cond.static yJ3_checkIndex_8e157 ∈ zU := zm 511 (by decide +kernel) rfl
theorem rw_u_507 : Cond.code yJ0_checkIndex_df160 cJ0_checkIndex_df160 2 none ∈ zU := zm 507 (by decide +kernel) rfl
theorem rw_u_80 : Cond.initialized yJ0_checkIndex_df160.cls ∈ zU := zm 80 (by decide +kernel) rfl
theorem rw_u_505 : Cond.methodLink RJ1 9 yJ0_checkIndex_df160 ∈ zU := zm 505 (by decide +kernel) rfl
theorem rw_u_506 : Cond.static yJ0_checkIndex_df160 ∈ zU := zm 506 (by decide +kernel) rfl
theorem rw_u_501 : Cond.code yJ0_isLatin1_aae02 cJ0_isLatin1_aae02 1 (some .boolean) ∈ zU := zm 501 (by decide +kernel) rfl
theorem rw_u_498 : Cond.methodLink RJ0 492 yJ0_isLatin1_aae02 ∈ zU := zm 498 (by decide +kernel) rfl
theorem rw_u_499 : Cond.instanceMethod yJ0_isLatin1_aae02 ∈ zU := zm 499 (by decide +kernel) rfl
theorem rw_u_500 : Cond.selects RJ0 yJ0_isLatin1_aae02 yJ0_isLatin1_aae02 ∈ zU := zm 500 (by decide +kernel) rfl
theorem rw_u_1444 : Cond.fieldLink RJ0 9 "java/lang/String" "value" "[B" ∈ zU := zm 1444 (by decide +kernel) rfl
theorem rw_u_504 : Cond.code yJ1_charAt_3b067 cJ1_charAt_3b067 2 (some .char) ∈ zU := zm 504 (by decide +kernel) rfl
theorem rw_u_81 : Cond.initialized yJ1_charAt_3b067.cls ∈ zU := zm 81 (by decide +kernel) rfl
theorem rw_u_502 : Cond.methodLink RJ0 495 yJ1_charAt_3b067 ∈ zU := zm 502 (by decide +kernel) rfl
theorem rw_u_503 : Cond.static yJ1_charAt_3b067 ∈ zU := zm 503 (by decide +kernel) rfl
theorem rw_u_491 : Cond.code yJ0_coder_7d493 cJ0_coder_7d493 1 (some .byte) ∈ zU := zm 491 (by decide +kernel) rfl
theorem rw_u_488 : Cond.methodLink RJ0 335 yJ0_coder_7d493 ∈ zU := zm 488 (by decide +kernel) rfl
theorem rw_u_489 : Cond.instanceMethod yJ0_coder_7d493 ∈ zU := zm 489 (by decide +kernel) rfl
theorem rw_u_490 : Cond.selects RJ0 yJ0_coder_7d493 yJ0_coder_7d493 ∈ zU := zm 490 (by decide +kernel) rfl
/-! JDK: String constants, Arrays.fill, System.arraycopy -/
def zfill (n : Nat) (v : Int32) (f : Nat → Int32) : Nat → Int32 := fun j => if j < n then v else f j
def zfillL (n : Nat) (v : Int64) (f : Nat → Int64) : Nat → Int64 := fun j => if j < n then v else f j
def zch (i : Nat) (k : Int32) : Int32 := (((zByt.getD i []).getD k.toNatClampNeg 0 &&& 255).toUInt32 % 65536).toInt32
def zcp (sp dp n : Int32) (N : Nat) : Bool := decide (¬ sp < 0 ∧ ¬ dp < 0 ∧ ¬ n < 0 ∧ sp.toNatClampNeg + n.toNatClampNeg ≤ N ∧ dp.toNatClampNeg + n.toNatClampNeg ≤ N)
theorem z_ldcS {x : zX} {G : zG} {ce sl pc : Nat} {lv : List (Nat × Value)} {st : List Value} {w : va_W} {cc : ByteArray} {nL : Nat} {ret : Option FieldType} {rm : Room} (C : zC x G RX6 cc nL ret rm) (i : Nat) (hi : i < 7) (hd : decode cc pc = .ok (.ldc (zIdx.getD i 0), 2)) (K : zW x G ce sl (pc + 2) lv (.ref (gK G i) :: st) w) : zW x G ce sl pc lv st w := fun H locs ls hP hD hS hl => va_ldcS C.1 C.2.1 C.2.2.2.1 (C.2.2.2.2.2.2.2.2.2.2.1.2 i hi) hd (K H locs ls hP hD hS hl)
theorem z_getO {x : zX} {G : zG} {ce sl pc : Nat} {lv : List (Nat × Value)} {st : List Value} {w : va_W} {own : String} {cc : ByteArray} {nL : Nat} {ret : Option FieldType} {rm : Room} (C : zC x G own cc nL ret rm) {ob n d : String} {v : Value} {q i : Nat} (hE : va_OF ob n d v q (xA x) (xs x) (xs x).heap) (hl0 : Cond.fieldLink own i ob n d ∈ zU) (hd : decode cc pc = .ok (.getfield i, 3)) (K : zW x G ce sl (pc + 3) lv (v :: st) w) : zW x G ce sl pc lv (.ref q :: st) w := fun H locs ls hP hD hS hl => vk_getf C.1 C.2.1 hE hS C.2.2.2.1 (C.2.2.2.2.1 _ hl0) (fun _ h => h) hd (K H locs ls hP hD hS hl)
theorem z_gets {x : zX} {G : zG} {ce sl pc : Nat} {lv : List (Nat × Value)} {st : List Value} {w : va_W} {own : String} {cc : ByteArray} {nL : Nat} {ret : Option FieldType} {rm : Room} (C : zC x G own cc nL ret rm) {ob n d : String} {v : Value} {i : Nat} (hE : va_Z ob n d v (xA x) (xs x) (xs x).heap) (hl0 : Cond.fieldLink own i ob n d ∈ zU) (hd : decode cc pc = .ok (.getstatic i, 3)) (K : zW x G ce sl (pc + 3) lv (v :: st) w) : zW x G ce sl pc lv st w := fun H locs ls hP hD hS hl => va_gets C.1 C.2.1 hE hS C.2.2.2.1 (C.2.2.2.2.1 _ hl0) (fun _ h => h) hd (K H locs ls hP hD hS hl)
theorem z_tlen {x : zX} {G : zG} {ce sl pc : Nat} {lv : List (Nat × Value)} {st : List Value} {w : va_W} {own : String} {cc : ByteArray} {nL : Nat} {ret : Option FieldType} {rm : Room} (C : zC x G own cc nL ret rm) {ty : FieldType} {t N : Nat} {f : Nat → Value} (hT : va_T ty t N f (xA x) (xs x) (xs x).heap) (hd : decode cc pc = .ok (.arraylength, 1)) (K : zW x G ce sl (pc + 1) lv (.int (Int32.ofNat N) :: st) w) : zW x G ce sl pc lv (.ref t :: st) w := fun H locs ls hP hD hS hl => va_tlen C.1 C.2.1 hT hS rfl hd (K H locs ls hP hD hS hl)
theorem z_tb {x : zX} {G : zG} {ce sl pc : Nat} {lv : List (Nat × Value)} {st : List Value} {w : va_W} {own : String} {cc : ByteArray} {nL : Nat} {ret : Option FieldType} {rm : Room} (C : zC x G own cc nL ret rm) {t N : Nat} {f : Nat → Value} (hT : va_T .byte t N f (xA x) (xs x) (xs x).heap) {i : Int32} (hin : vp_in i N) (hd : decode cc pc = .ok (.baload, 1)) (K : zW x G ce sl (pc + 1) lv (f i.toNatClampNeg :: st) w) : zW x G ce sl pc lv (.int i :: .ref t :: st) w := fun H locs ls hP hD hS hl => va_tb C.1 C.2.1 hT hS hin rfl hd (K H locs ls hP hD hS hl)
theorem z_alen {x : zX} {G : zG} {ce sl pc : Nat} {lv : List (Nat × Value)} {st : List Value} {w : va_W} {own : String} {cc : ByteArray} {nL : Nat} {ret : Option FieldType} {rm : Room} (C : zC x G own cc nL ret rm) {a n : Nat} {cA : ClassId} {y : vp_A} {ty : FieldType} (q0 t0 : Nat) (he : w[q0]? = some (a, .inl (cA, y))) (ht : (zT G)[t0]? = some (cA, ty)) (hn : y.1 = n) (hd : decode cc pc = .ok (.arraylength, 1)) (K : zW x G ce sl (pc + 1) lv (.int (Int32.ofNat n) :: st) w) : zW x G ce sl pc lv (.ref a :: st) w := fun H locs ls hP hD hS hl => va_alen (D := G.1) C.1 C.2.1 C.2.2.2.2.2.2.2.1 hP q0 t0 he ht (by rw [hn]) hd (K H locs ls hP hD hS hl)
/-- a call of an object's method, its receiver known by other means -/
theorem z_callVr {x : zX} {G : zG} {ce sl pc : Nat} {lv : List (Nat × Value)} {w : va_W} {own : String} {cc : ByteArray} {nL : Nat} {ret : Option FieldType} {rm : Room} (C : zC x G own cc nL ret rm) {y : MethodName} {bytes : ByteArray} {maxL : Nat} {rt : Option FieldType} {rm' : Room} {b : Nat} {As rest : List Value} {r : Option Value} {w1 : va_W} {index : Nat} {Cn : String} (n : Nat)
    (hcode : Cond.code y bytes maxL rt ∈ zU) (hini : Cond.initialized y.cls ∈ zU) (hlink : Cond.methodLink own index y ∈ zU) (hinst : Cond.instanceMethod y ∈ zU) (hsel : Cond.selects Cn y y ∈ zU) (hdn : y.cls ≠ "java/lang/invoke/MethodHandle" ∧ y.cls ≠ "java/lang/invoke/VarHandle" ∧ (parseMethodDescriptor y.desc).map (fun d => d.parameters.length) = some n)
    (hc : Ct (xl x) G y bytes maxL rt rm' (.ref b :: As) w r w1) (hn : As.length = n) (hrv : ∀ (H : Heap) (locs : List Loc), va_S (xA x) (xs x).heap H locs → ∃ cell : Cell, H[b]? = some cell ∧ cell.vm.isStatics = false ∧ (xs x).vm.findClass Cn = some cell.cls) (hd : decode cc pc = .ok (.invokevirtual index, 3)) (hcat : (rest.map fun v => v.category).sum ≤ 8) (hrm : zRm rm rm' maxL ce sl) (K : zW x G (ce + rm'.cells) (sl + rm'.slots) (pc + 3) lv (r.toList ++ rest) w1) : zW x G ce sl pc lv (As.reverse ++ .ref b :: rest) w := by
  intro H locs ls hP hD hS hl
  have hts := C.2.2.2.2.1
  have hr1 : rm'.frames + 1 ≤ (xR x).frames ∧ 8 + (maxL + 11) + rm'.locals ≤ (xR x).locals := by rw [C.2.2.2.2.2.2.2.2.2.1]; exact hrm.1
  have hr2 : ce + rm'.cells ≤ (xR x).cells ∧ sl + rm'.slots ≤ (xR x).slots := by rw [C.2.2.2.2.2.2.2.2.2.1]; exact hrm.2
  refine z_back (w := w) (va_runV (n := n) (index := index) (y := y) (bytes := bytes) (maxL := maxL) (ret := rt) (C := Cn) (b := b) (As := As) (g := F0 (xm x) pc ls (As.reverse ++ .ref b :: rest)) ⟨C.1, C.2.1, C.2.2.1, C.2.2.2.1, hts⟩ (hc H.size) ⟨callB_of n hts (zgood hcode) rfl rfl rfl (hts _ hini) (hts _ hlink) hdn hr1, hts _ hinst, hts _ hsel⟩ ⟨zPre_blind, hrv H locs hS, fun U hU hW => z_pre C hP hD hS U hU hW⟩ rfl hn (hl.1.trans C.2.2.1) rfl (lv_room hcat) hd hr2) hD hS C.2.2.2.2.2.2.2.2.1 hl K
theorem zrecvK {x : zX} {G : zG} {own : String} {cc : ByteArray} {nL : Nat} {ret : Option FieldType} {rm : Room} (C : zC x G own cc nL ret rm) (i : Nat) (hi : i < 7) : ∀ (H : Heap) (locs : List Loc), va_S (xA x) (xs x).heap H locs → ∃ cell : Cell, H[gK G i]? = some cell ∧ cell.vm.isStatics = false ∧ (xs x).vm.findClass "java/lang/String" = some cell.cls := fun _ _ hS => vk_recv C.2.2.2.2.2.2.2.2.2.2.1.1 hi hS
/-- one cell of a world changes -/
theorem Ct.cell {l : Launch} {G : zG} {y : MethodName} {cc : ByteArray} {maxL : Nat} {ret : Option FieldType} {rm : Room} {av : List Value} {a : Nat} {e e' : va_E} {r : Option Value} (h : Ct l G y cc maxL ret rm av [(a, e)] r [(a, e')]) {w w' : va_W} (k : Nat) (hk : w[k]? = some (a, e)) (hw : w.set k (a, e') = w') : Ct l G y cc maxL ret rm av w r w' := by
  intro sz p e0 ha hc hk0 s m args below hf happ hP _
  obtain ⟨q0, q1, qP, qK, qD, qE⟩ := hP
  have hsub : ∀ q, va_A [(a, e)] sz q → va_A w sz q := fun q h => h.elim (fun ⟨j, e2, h⟩ => by
    cases j with
    | zero => cases h; exact Or.inl ⟨k, e, hk⟩
    | succ j => simp at h) (fun h => Or.inr h)
  obtain ⟨n, o, a1, a2, a3, ⟨⟨b1, b2, b3, b4, b5⟩, L, b6, b7⟩⟩ := h sz p e0 ha hc hk0 s m args below hf happ ⟨q0, q1, fun j q h => (by
    cases j with
    | zero => cases h; exact qP k _ hk
    | succ j => simp at h), qK, ⟨fun i j p q h1 h2 _ => (by
      cases i with
      | zero => (cases j with
        | zero => rfl
        | succ j => simp at h2)
      | succ i => simp at h1), fun _ _ _ => trivial⟩, zE.narrow hsub qE⟩ trivial
  subst q1
  subst hw
  refine ⟨n, o, a1, a2, a3, ⟨⟨b1, ?_, b3, (qD.self (sz := s.heap.size)).set hk, b5.1, fun q h1 h2 => b5.2 q h1 (fun z => h2 (hsub q z))⟩, L, b6, fun q hq => hsub _ (b7 q hq)⟩⟩
  have hl := (List.getElem?_eq_some_iff.mp hk).1
  intro j q hj
  by_cases hjk : j = k
  · subst hjk
    rw [List.getElem?_set_self hl] at hj
    cases hj
    exact b2 0 _ rfl
  · rw [List.getElem?_set_ne (Ne.symm hjk)] at hj
    have hlt := (qP j q hj).lt
    refine (qP j q hj).kept (b5.2 q.1 hlt (fun z => ?_))
    rcases z with ⟨i, e2, h2⟩ | h2
    · cases i with
      | zero => simp at h2; exact hjk (qD.1 j k q (a, e) hj hk h2.1.symm)
      | succ i => simp at h2
    · omega
theorem z_copyi {x : zX} {G : zG} {ce sl pc : Nat} {lv : List (Nat × Value)} {st : List Value} {w : va_W} {own : String} {cc : ByteArray} {nL : Nat} {ret : Option FieldType} {rm : Room} (C : zC x G own cc nL ret rm) {a n0 i : Nat} {f : Nat → Int32} {sp dp n : Int32} {α : Type} {o : α} {kk : Option α} {w' : va_W} (q0 : Nat) (he : w[q0]? = some (a, .inl (gI G, n0, .inl f))) (hw : w.set q0 (a, .inl (gI G, n0, .inl (va_cpy f f sp.toNatClampNeg dp.toNatClampNeg n.toNatClampNeg))) = w') (hlink : Cond.methodLink own i arraycopyName ∈ zU) (hnat : Cond.native arraycopyName ∈ zU) (hstat : Cond.static arraycopyName ∈ zU) (hini : Cond.initialized "java/lang/System" ∈ zU) (hfr : 1 ≤ rm.frames) (hlo : (st.map fun v => v.category).sum + (nativeFrameWords "java/lang/System" "arraycopy" 5 + 11) ≤ rm.locals) (hd : decode cc pc = .ok (.invokestatic i, 3)) (h : zg (zcp sp dp n n0) kk = some o) (K : kk = some o → zW x G ce sl (pc + 3) lv st w') : zW x G ce sl pc lv (.int n :: .int dp :: .ref a :: .int sp :: .ref a :: st) w := by
  intro H locs ls hP hD hS hl
  have hts := C.2.2.2.2.1
  obtain ⟨h1, h2, h3, h4, h5⟩ := of_decide_eq_true (zg_o h).1
  have hr1 : 1 ≤ (xR x).frames := by rw [C.2.2.2.2.2.2.2.2.2.1]; exact hfr
  have hr2 : (st.map fun v => v.category).sum + (nativeFrameWords "java/lang/System" "arraycopy" 5 + 11) ≤ (xR x).locals := by rw [C.2.2.2.2.2.2.2.2.2.1]; exact hlo
  exact va_copyi (D := G.1) C.1 C.2.1 hl.1.symm C.2.2.2.1 (hts _ hlink) (hts _ hnat) (hts _ hstat) (hts _ hini) C.2.2.2.2.2.2.2.1 hP hD hS q0 q0 1 1 he he rfl rfl rfl h1 h2 h3 h4 h5 (fun _ _ => rfl) hr1 hr2 hd (fun H1 locs1 hP1 hD1 hS1 => K (zg_o h).2 H1 locs1 ls (hw ▸ hP1) (hw ▸ hD1) hS1 hl)
abbrev rmJ0_coder_7d493 : Room := { frames := 0, cells := 0, slots := 0, locals := 0 }
set_option maxHeartbeats 4000000 in
set_option maxRecDepth 100000 in
theorem cJ_coder {l : Launch} {G : zG} {i : Nat} (hi : i < 7) : Ct l G yJ0_coder_7d493 cJ0_coder_7d493 1 (some .byte) rmJ0_coder_7d493 [.ref (gK G i)] [] (some (.int 0)) [] := by
  refine zMet (own := RJ0) rfl (by decide) (Nat.le_of_ble_eq_true rfl) (fun x hl C O => ?_)
  show zW x G 0 0 0 [(0, .ref (gK G i))] [] _
  refine z_gets C C.2.2.2.2.2.2.2.2.2.2.2.1.1 rw_u_492 dJ0_coder_7d493_0 ?_
  refine z_if_eq C dJ0_coder_7d493_3 13 (by decide) (p := none) (q := some ()) (o := ()) rfl (fun h => by cases h) (fun _ => ?_)
  refine z_aload_n C dJ0_coder_7d493_6 0 rfl ?_
  refine z_getO C (C.2.2.2.2.2.2.2.2.2.2.1.1.1 i hi).2.1 rw_u_1445 dJ0_coder_7d493_7 ?_
  refine z_goto C dJ0_coder_7d493_10 14 (by decide) ?_
  exact z_zret C O dJ0_coder_7d493_14 rfl rfl rfl
abbrev rmJ0_isLatin1_aae02 : Room := { frames := 0, cells := 0, slots := 0, locals := 0 }
set_option maxHeartbeats 4000000 in
set_option maxRecDepth 100000 in
theorem cJ_lat {l : Launch} {G : zG} {i : Nat} (hi : i < 7) : Ct l G yJ0_isLatin1_aae02 cJ0_isLatin1_aae02 1 (some .boolean) rmJ0_isLatin1_aae02 [.ref (gK G i)] [] (some (.int 1)) [] := by
  refine zMet (own := RJ0) rfl (by decide) (Nat.le_of_ble_eq_true rfl) (fun x hl C O => ?_)
  show zW x G 0 0 0 [(0, .ref (gK G i))] [] _
  refine z_gets C C.2.2.2.2.2.2.2.2.2.2.2.1.1 rw_u_492 dJ0_isLatin1_aae02_0 ?_
  refine z_if_eq C dJ0_isLatin1_aae02_3 17 (by decide) (p := none) (q := some ()) (o := ()) rfl (fun h => by cases h) (fun _ => ?_)
  refine z_aload_n C dJ0_isLatin1_aae02_6 0 rfl ?_
  refine z_getO C (C.2.2.2.2.2.2.2.2.2.2.1.1.1 i hi).2.1 rw_u_1445 dJ0_isLatin1_aae02_7 ?_
  refine z_if_ne C dJ0_isLatin1_aae02_10 17 (by decide) (p := some ()) (q := none) (o := ()) rfl (fun h => by cases h) (fun _ => ?_)
  refine z_iconst C 1 dJ0_isLatin1_aae02_13 (by decide) ?_
  refine z_goto C dJ0_isLatin1_aae02_14 18 (by decide) ?_
  exact z_zret C O dJ0_isLatin1_aae02_18 rfl rfl rfl
abbrev rmJ3_checkIndex_8e157 : Room := { frames := 0, cells := 0, slots := 0, locals := 0 }
set_option maxHeartbeats 4000000 in
set_option maxRecDepth 100000 in
theorem cJ_pre {l : Launch} {G : zG} {a n : Int32} {v : Value} (hv : v = .null ∨ ∃ t, v = .ref t) (h0 : ¬ a < 0) (h1 : a < n) : Ct l G yJ3_checkIndex_8e157 cJ3_checkIndex_8e157 3 (some .int) rmJ3_checkIndex_8e157 [.int a, .int n, v] [] (some (.int a)) [] := by
  refine zMet (own := RJ3) rfl (by decide) (by rcases hv with rfl | ⟨t, rfl⟩ <;> exact Nat.le_of_ble_eq_true rfl) (fun x hl C O => ?_)
  refine z_perm (lv' := [(0, .int a), (1, .int n)]) [0, 1] (by rcases hv with rfl | ⟨t, rfl⟩ <;> rfl) ?_
  refine z_iload_n C dJ3_checkIndex_8e157_0 0 rfl ?_
  refine z_if_lt C dJ3_checkIndex_8e157_1 9 (by decide) (p := none) (q := some ()) (o := ()) (dd := inferInstance) (if_neg h0) (fun h => by cases h) (fun _ => ?_)
  refine z_iload_n C dJ3_checkIndex_8e157_4 0 rfl ?_
  refine z_iload_n C dJ3_checkIndex_8e157_5 1 rfl ?_
  refine z_icmp_lt C dJ3_checkIndex_8e157_6 16 (by decide) (p := some ()) (q := none) (o := ()) (dd := inferInstance) (if_pos h1) (fun _ => ?_) (fun h => by cases h)
  refine z_iload_n C dJ3_checkIndex_8e157_16 0 rfl ?_
  exact z_iret C O dJ3_checkIndex_8e157_17 rfl rfl
abbrev rmJ0_checkIndex_df160 : Room := { frames := 1, cells := 0, slots := 0, locals := 22 }
set_option maxHeartbeats 4000000 in
set_option maxRecDepth 100000 in
theorem cJ_chk {l : Launch} {G : zG} {a n : Int32} (h0 : ¬ a < 0) (h1 : a < n) : Ct l G yJ0_checkIndex_df160 cJ0_checkIndex_df160 2 none rmJ0_checkIndex_df160 [.int a, .int n] [] none [] := by
  refine zMet (own := RJ0) rfl (by decide) (Nat.le_of_ble_eq_true rfl) (fun x hl C O => ?_)
  show zW x G 0 0 0 [(0, .int a), (1, .int n)] [] _
  refine z_iload_n C dJ0_checkIndex_df160_0 0 rfl ?_
  refine z_iload_n C dJ0_checkIndex_df160_1 1 rfl ?_
  rcases C.2.2.2.2.2.2.2.2.2.2.2.1.2 with hZ | ⟨t, hZ⟩
  · refine z_gets C hZ rw_u_508 dJ0_checkIndex_df160_2 ?_
    refine z_callS C 3 (As := [.int a, .int n, .null]) (rest := []) rw_u_512 rw_u_82 rw_u_510 rw_u_511 ⟨by decide, by decide, by decide +kernel⟩ (cJ_pre (Or.inl rfl) h0 h1) rfl dJ0_checkIndex_df160_5 (Nat.le_of_ble_eq_true rfl) (zrm rfl) ?_
    refine z_pop C dJ0_checkIndex_df160_8 rfl ?_
    exact z_vret C O dJ0_checkIndex_df160_9 rfl rfl
  · refine z_gets C hZ rw_u_508 dJ0_checkIndex_df160_2 ?_
    refine z_callS C 3 (As := [.int a, .int n, .ref t]) (rest := []) rw_u_512 rw_u_82 rw_u_510 rw_u_511 ⟨by decide, by decide, by decide +kernel⟩ (cJ_pre (Or.inr ⟨t, rfl⟩) h0 h1) rfl dJ0_checkIndex_df160_5 (Nat.le_of_ble_eq_true rfl) (zrm rfl) ?_
    refine z_pop C dJ0_checkIndex_df160_8 rfl ?_
    exact z_vret C O dJ0_checkIndex_df160_9 rfl rfl
abbrev rmJ1_charAt_3b067 : Room := { frames := 2, cells := 0, slots := 0, locals := 43 }
set_option maxHeartbeats 4000000 in
set_option maxRecDepth 100000 in
theorem cJ_l1 {l : Launch} {G : zG} {i : Nat} {k : Int32} (hi : i < 7) (hk : zix k (zLen.getD i 0) = true) : Ct l G yJ1_charAt_3b067 cJ1_charAt_3b067 2 (some .char) rmJ1_charAt_3b067 [.ref (gV G i), .int k] [] (some (.int (zch i k))) [] := by
  refine zMet (own := RJ1) rfl (by decide) (Nat.le_of_ble_eq_true rfl) (fun x hl C O => ?_)
  show zW x G 0 0 0 [(0, .ref (gV G i)), (1, .int k)] [] _
  have hin := zix_in hk
  have hT := (C.2.2.2.2.2.2.2.2.2.2.1.1.1 i hi).2.2.2
  have hN : zLen.getD i 0 < 2 ^ 31 := by
    have : ∀ j, j < 7 → zLen.getD j 0 < 2 ^ 31 := by decide +kernel
    exact this i hi
  have h0 : ¬ k < 0 := fun z => hin (Or.inl z)
  have h1 : k < Int32.ofNat (zLen.getD i 0) := by
    obtain ⟨j, hj, rfl⟩ := vp_in_of hin hN
    exact nI_lt hj hN
  refine z_iload_n C dJ1_charAt_3b067_0 1 rfl ?_
  refine z_aload_n C dJ1_charAt_3b067_1 0 rfl ?_
  refine z_tlen C hT dJ1_charAt_3b067_2 ?_
  refine z_callS C 2 (As := [.int k, .int (Int32.ofNat (zLen.getD i 0))]) (rest := []) rw_u_507 rw_u_80 rw_u_505 rw_u_506 ⟨by decide, by decide, by decide +kernel⟩ (cJ_chk h0 h1) rfl dJ1_charAt_3b067_3 (Nat.le_of_ble_eq_true rfl) (zrm rfl) ?_
  refine z_aload_n C dJ1_charAt_3b067_6 0 rfl ?_
  refine z_iload_n C dJ1_charAt_3b067_7 1 rfl ?_
  refine z_tb C hT hin dJ1_charAt_3b067_8 ?_
  refine z_sipush C 255 dJ1_charAt_3b067_9 (by decide) ?_
  refine z_iand C dJ1_charAt_3b067_12 ?_
  refine z_i2c C dJ1_charAt_3b067_13 ?_
  exact z_zret C O dJ1_charAt_3b067_14 (pk_nc _) rfl rfl
abbrev rmJ0_charAt_5068e : Room := { frames := 3, cells := 0, slots := 0, locals := 64 }
set_option maxHeartbeats 4000000 in
set_option maxRecDepth 100000 in
theorem cJ_charAt {l : Launch} {G : zG} {i : Nat} {k : Int32} (hi : i < 7) (hk : zix k (zLen.getD i 0) = true) : Ct l G yJ0_charAt_5068e cJ0_charAt_5068e 2 (some .char) rmJ0_charAt_5068e [.ref (gK G i), .int k] [] (some (.int (zch i k))) [] := by
  refine zMet (own := RJ0) rfl (by decide) (Nat.le_of_ble_eq_true rfl) (fun x hl C O => ?_)
  show zW x G 0 0 0 [(0, .ref (gK G i)), (1, .int k)] [] _
  refine z_aload_n C dJ0_charAt_5068e_0 0 rfl ?_
  refine z_callVr C 0 (As := []) (rest := []) (Cn := RJ0) rw_u_501 rw_u_80 rw_u_498 rw_u_499 rw_u_500 ⟨by decide, by decide, by decide +kernel⟩ (cJ_lat hi) rfl (zrecvK C i hi) dJ0_charAt_5068e_1 (Nat.le_of_ble_eq_true rfl) (zrm rfl) ?_
  refine z_if_eq C dJ0_charAt_5068e_4 16 (by decide) (p := none) (q := some ()) (o := ()) rfl (fun h => by cases h) (fun _ => ?_)
  refine z_aload_n C dJ0_charAt_5068e_7 0 rfl ?_
  refine z_getO C (C.2.2.2.2.2.2.2.2.2.2.1.1.1 i hi).2.2.1 rw_u_1444 dJ0_charAt_5068e_8 ?_
  refine z_iload_n C dJ0_charAt_5068e_11 1 rfl ?_
  refine z_callS C 2 (As := [.ref (gV G i), .int k]) (rest := []) rw_u_504 rw_u_81 rw_u_502 rw_u_503 ⟨by decide, by decide, by decide +kernel⟩ (cJ_l1 hi hk) rfl dJ0_charAt_5068e_12 (Nat.le_of_ble_eq_true rfl) (zrm rfl) ?_
  exact z_zret C O dJ0_charAt_5068e_15 (pk_nc _) rfl rfl
abbrev rmJ0_length_8abf5 : Room := { frames := 1, cells := 0, slots := 0, locals := 20 }
set_option maxHeartbeats 4000000 in
set_option maxRecDepth 100000 in
theorem cJ_length {l : Launch} {G : zG} {i : Nat} (hi : i < 7) : Ct l G yJ0_length_8abf5 cJ0_length_8abf5 1 (some .int) rmJ0_length_8abf5 [.ref (gK G i)] [] (some (.int (nI (zLen.getD i 0)))) [] := by
  refine zMet (own := RJ0) rfl (by decide) (Nat.le_of_ble_eq_true rfl) (fun x hl C O => ?_)
  show zW x G 0 0 0 [(0, .ref (gK G i))] [] _
  refine z_aload_n C dJ0_length_8abf5_0 0 rfl ?_
  refine z_getO C (C.2.2.2.2.2.2.2.2.2.2.1.1.1 i hi).2.2.1 rw_u_1444 dJ0_length_8abf5_1 ?_
  refine z_tlen C (C.2.2.2.2.2.2.2.2.2.2.1.1.1 i hi).2.2.2 dJ0_length_8abf5_4 ?_
  refine z_aload_n C dJ0_length_8abf5_5 0 rfl ?_
  refine z_callVr C 0 (As := []) (rest := [.int (Int32.ofNat (zLen.getD i 0))]) (Cn := RJ0) rw_u_491 rw_u_80 rw_u_488 rw_u_489 rw_u_490 ⟨by decide, by decide, by decide +kernel⟩ (cJ_coder hi) rfl (zrecvK C i hi) dJ0_length_8abf5_6 (Nat.le_of_ble_eq_true rfl) (zrm rfl) ?_
  refine z_ishr C dJ0_length_8abf5_9 ?_
  refine z_st (st' := [.int (nI (zLen.getD i 0))]) (by rw [sb_shr0]; rfl) ?_
  exact z_iret C O dJ0_length_8abf5_10 rfl rfl
abbrev rmJ7_fill_53178 : Room := { frames := 0, cells := 0, slots := 0, locals := 0 }
set_option maxHeartbeats 4000000 in
set_option maxRecDepth 100000 in
theorem kJ_fillI {x : zX} {G : zG} {a n : Nat} {v : Int32} {f : Nat → Int32} (hn : n < 2 ^ 31) (C : zC x G RJ7 cJ7_fill_53178 4 none rmJ7_fill_53178) (O : zO x G none [(a, .inl (gI G, n, .inl (zfill n v f)))] 0 0) : ∀ (d i : Nat) (g : Nat → Int32), i + d = n → g = zfill i v f → zW x G 0 0 5 [(2, .int (nI i)), (3, .int (nI n)), (0, .ref a), (1, .int v)] [] [(a, .inl (gI G, n, .inl g))] := by
  intro d
  induction d with
  | zero =>
    intro i g hi hg
    refine z_iload_n C dJ7_fill_53178_5 0 rfl ?_
    refine z_iload_n C dJ7_fill_53178_6 1 rfl ?_
    refine z_icmp_ge C dJ7_fill_53178_7 20 (by decide) (p := some ()) (q := none) (o := ()) (dd := inferInstance) (if_pos (nI_le (by omega) (by omega))) (fun _ => ?_) (fun h => by cases h)
    exact z_vret C O dJ7_fill_53178_20 rfl (by rw [hg]; rw [show i = n by omega])
  | succ d ih =>
    intro i g hi hg
    refine z_iload_n C dJ7_fill_53178_5 0 rfl ?_
    refine z_iload_n C dJ7_fill_53178_6 1 rfl ?_
    refine z_icmp_ge C dJ7_fill_53178_7 20 (by decide) (p := none) (q := some ()) (o := ()) (dd := inferInstance) (if_neg (nI_ge (by omega) (by omega))) (fun h => by cases h) (fun _ => ?_)
    refine z_aload_n C dJ7_fill_53178_10 2 rfl ?_
    refine z_iload_n C dJ7_fill_53178_11 0 rfl ?_
    refine z_iload_n C dJ7_fill_53178_12 3 rfl ?_
    have hin : zix (nI i) n = true := decide_eq_true (vp_in_nI (by omega) hn)
    refine z_iast C 0 rfl (w' := [(a, .inl (gI G, n, .inl (upd g (nI i).toNatClampNeg v)))]) rfl dJ7_fill_53178_13 (kk := some ()) (o := ()) (by unfold zg; rw [if_pos hin]) (fun _ => ?_)
    refine z_iinc C dJ7_fill_53178_14 0 rfl 1 (by decide) (by decide) (lvr := [(3, .int (nI n)), (0, .ref a), (1, .int v)]) rfl (kk := fun y => if y = nI (i + 1) then some () else none) (o := ()) (by unfold zn; exact if_pos (nI_1 i)) (fun y hy => ?_)
    have hy2 : y = nI (i + 1) := by
      by_cases hz : y = nI (i + 1)
      · exact hz
      · rw [if_neg hz] at hy; cases hy
    subst hy2
    refine z_goto C dJ7_fill_53178_17 5 (by decide) ?_
    refine ih (i + 1) _ (by omega) ?_
    rw [nI_clamp (by omega), hg]
    funext j
    simp only [upd, zfill]
    by_cases h1 : j = i
    · subst h1; rw [if_pos rfl, if_pos (by omega)]
    · rw [if_neg h1]
      by_cases h2 : j < i
      · rw [if_pos h2, if_pos (by omega)]
      · rw [if_neg h2, if_neg (by omega)]
set_option maxHeartbeats 4000000 in
set_option maxRecDepth 100000 in
theorem cJ_fillI {l : Launch} {G : zG} {a n : Nat} {v : Int32} {f : Nat → Int32} (hn : n < 2 ^ 31) : Ct l G yJ7_fill_53178 cJ7_fill_53178 4 none rmJ7_fill_53178 [.ref a, .int v] [(a, .inl (gI G, n, .inl f))] none [(a, .inl (gI G, n, .inl (zfill n v f)))] := by
  refine zMet (own := RJ7) rfl (by decide) (Nat.le_of_ble_eq_true rfl) (fun x hl C O => ?_)
  show zW x G 0 0 0 [(0, .ref a), (1, .int v)] [] _
  refine z_iconst C 0 dJ7_fill_53178_0 (by decide) ?_
  refine z_istore_n C dJ7_fill_53178_1 (by decide) (lvr := [(0, .ref a), (1, .int v)]) rfl ?_
  refine z_aload_n C dJ7_fill_53178_2 1 rfl ?_
  refine z_alen C (n := n) 0 1 rfl rfl rfl dJ7_fill_53178_3 ?_
  refine z_istore_n C dJ7_fill_53178_4 (by decide) (lvr := [(2, .int 0), (0, .ref a), (1, .int v)]) rfl ?_
  refine z_perm [1, 0, 2, 3] (lv' := [(2, .int (nI 0)), (3, .int (nI n)), (0, .ref a), (1, .int v)]) rfl ?_
  exact kJ_fillI hn C O n 0 f (by omega) (by funext j; simp [zfill])
abbrev rmJ7_fill_d0a16 : Room := { frames := 0, cells := 0, slots := 0, locals := 0 }
set_option maxHeartbeats 4000000 in
set_option maxRecDepth 100000 in
theorem kJ_fillJ {x : zX} {G : zG} {a n : Nat} {v : Int64} {f : Nat → Int64} (hn : n < 2 ^ 31) (C : zC x G RJ7 cJ7_fill_d0a16 5 none rmJ7_fill_d0a16) (O : zO x G none [(a, .inl (gJ G, n, .inr (.inl (zfillL n v f))))] 0 0) : ∀ (d i : Nat) (g : Nat → Int64), i + d = n → g = zfillL i v f → zW x G 0 0 6 [(3, .int (nI i)), (4, .int (nI n)), (0, .ref a), (1, .long v)] [] [(a, .inl (gJ G, n, .inr (.inl g)))] := by
  intro d
  induction d with
  | zero =>
    intro i g hi hg
    refine z_iload_n C dJ7_fill_d0a16_6 0 rfl ?_
    refine z_iload C dJ7_fill_d0a16_7 1 rfl ?_
    refine z_icmp_ge C dJ7_fill_d0a16_9 22 (by decide) (p := some ()) (q := none) (o := ()) (dd := inferInstance) (if_pos (nI_le (by omega) (by omega))) (fun _ => ?_) (fun h => by cases h)
    exact z_vret C O dJ7_fill_d0a16_22 rfl (by rw [hg]; rw [show i = n by omega])
  | succ d ih =>
    intro i g hi hg
    refine z_iload_n C dJ7_fill_d0a16_6 0 rfl ?_
    refine z_iload C dJ7_fill_d0a16_7 1 rfl ?_
    refine z_icmp_ge C dJ7_fill_d0a16_9 22 (by decide) (p := none) (q := some ()) (o := ()) (dd := inferInstance) (if_neg (nI_ge (by omega) (by omega))) (fun h => by cases h) (fun _ => ?_)
    refine z_aload_n C dJ7_fill_d0a16_12 2 rfl ?_
    refine z_iload_n C dJ7_fill_d0a16_13 0 rfl ?_
    refine z_lload_n C dJ7_fill_d0a16_14 3 rfl ?_
    have hin : zix (nI i) n = true := decide_eq_true (vp_in_nI (by omega) hn)
    refine z_last C 0 rfl (w' := [(a, .inl (gJ G, n, .inr (.inl (vp_updL g (nI i).toNatClampNeg v))))]) rfl dJ7_fill_d0a16_15 (kk := some ()) (o := ()) (by unfold zg; rw [if_pos hin]) (fun _ => ?_)
    refine z_iinc C dJ7_fill_d0a16_16 0 rfl 1 (by decide) (by decide) (lvr := [(4, .int (nI n)), (0, .ref a), (1, .long v)]) rfl (kk := fun y => if y = nI (i + 1) then some () else none) (o := ()) (by unfold zn; exact if_pos (nI_1 i)) (fun y hy => ?_)
    have hy2 : y = nI (i + 1) := by
      by_cases hz : y = nI (i + 1)
      · exact hz
      · rw [if_neg hz] at hy; cases hy
    subst hy2
    refine z_goto C dJ7_fill_d0a16_19 6 (by decide) ?_
    refine ih (i + 1) _ (by omega) ?_
    rw [nI_clamp (by omega), hg]
    funext j
    simp only [vp_updL, zfillL]
    by_cases h1 : j = i
    · subst h1; rw [if_pos rfl, if_pos (by omega)]
    · rw [if_neg h1]
      by_cases h2 : j < i
      · rw [if_pos h2, if_pos (by omega)]
      · rw [if_neg h2, if_neg (by omega)]
set_option maxHeartbeats 4000000 in
set_option maxRecDepth 100000 in
theorem cJ_fillJ {l : Launch} {G : zG} {a n : Nat} {v : Int64} {f : Nat → Int64} (hn : n < 2 ^ 31) : Ct l G yJ7_fill_d0a16 cJ7_fill_d0a16 5 none rmJ7_fill_d0a16 [.ref a, .long v] [(a, .inl (gJ G, n, .inr (.inl f)))] none [(a, .inl (gJ G, n, .inr (.inl (zfillL n v f))))] := by
  refine zMet (own := RJ7) rfl (by decide) (Nat.le_of_ble_eq_true rfl) (fun x hl C O => ?_)
  show zW x G 0 0 0 [(0, .ref a), (1, .long v)] [] _
  refine z_iconst C 0 dJ7_fill_d0a16_0 (by decide) ?_
  refine z_istore_n C dJ7_fill_d0a16_1 (by decide) (lvr := [(0, .ref a), (1, .long v)]) rfl ?_
  refine z_aload_n C dJ7_fill_d0a16_2 1 rfl ?_
  refine z_alen C (n := n) 0 2 rfl rfl rfl dJ7_fill_d0a16_3 ?_
  refine z_istore C dJ7_fill_d0a16_4 (by decide) (lvr := [(3, .int 0), (0, .ref a), (1, .long v)]) rfl ?_
  refine z_perm [1, 0, 2, 3] (lv' := [(3, .int (nI 0)), (4, .int (nI n)), (0, .ref a), (1, .long v)]) rfl ?_
  exact kJ_fillJ hn C O n 0 f (by omega) (by funext j; simp [zfillL])
end

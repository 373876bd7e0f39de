theorem rw_u_1133 : Cond.constantLong RX12 116 7 ∈ zU := zm 1133 (by decide +kernel) rfl
theorem rw_u_1136 : Cond.code yX12_in cX12_in 6 (some .boolean) ∈ zU := zm 1136 (by decide +kernel) rfl
theorem rw_u_78 : Cond.initialized yX12_in.cls ∈ zU := zm 78 (by decide +kernel) rfl
theorem rw_u_1134 : Cond.methodLink RX12 118 yX12_in ∈ zU := zm 1134 (by decide +kernel) rfl
theorem rw_u_1135 : Cond.static yX12_in ∈ zU := zm 1135 (by decide +kernel) rfl
theorem rw_u_961 : Cond.fieldLink RX12 111 "WhatWasHersModel" "status" "I" ∈ zU := zm 961 (by decide +kernel) rfl
theorem rw_u_1143 : Cond.constantLong RX12 114 (-9000000000000000010) ∈ zU := zm 1143 (by decide +kernel) rfl
theorem rw_u_960 : Cond.fieldLink RX12 107 "WhatWasHersModel" "thrown" "I" ∈ zU := zm 960 (by decide +kernel) rfl
theorem rw_u_1132 : Cond.code yX12_isRow cX12_isRow 1 (some .boolean) ∈ zU := zm 1132 (by decide +kernel) rfl
theorem rw_u_1130 : Cond.methodLink RX12 122 yX12_isRow ∈ zU := zm 1130 (by decide +kernel) rfl
theorem rw_u_1131 : Cond.static yX12_isRow ∈ zU := zm 1131 (by decide +kernel) rfl
theorem rw_u_1138 : Cond.constantLong RX12 128 (-9000000000000000001) ∈ zU := zm 1138 (by decide +kernel) rfl
theorem rw_u_1137 : Cond.constantLong RX12 126 2 ∈ zU := zm 1137 (by decide +kernel) rfl
theorem rw_u_962 : Cond.fieldLink RX12 9 "WhatWasHersModel" "lane" "[I" ∈ zU := zm 962 (by decide +kernel) rfl
theorem rw_u_963 : Cond.fieldLink RX12 13 "WhatWasHersModel" "many" "[I" ∈ zU := zm 963 (by decide +kernel) rfl
theorem rw_u_964 : Cond.fieldLink RX12 16 "WhatWasHersModel" "item" "[I" ∈ zU := zm 964 (by decide +kernel) rfl
theorem rw_u_1142 : Cond.code yX12_finding cX12_finding 2 (some .long) ∈ zU := zm 1142 (by decide +kernel) rfl
theorem rw_u_1139 : Cond.methodLink RX12 130 yX12_finding ∈ zU := zm 1139 (by decide +kernel) rfl
theorem rw_u_1141 : Cond.instanceMethod yX12_finding ∈ zU := zm 1141 (by decide +kernel) rfl
theorem rw_u_33 : Cond.selects RX12 yX12_finding yX12_finding ∈ zU := zm 33 (by decide +kernel) rfl
/-! WhatWasHersModel.in(JJJ)Z -/
abbrev rmX12_in : Room := { frames := 0, cells := 0, slots := 0, locals := 0 }
def fM_in  (a0 : Int64) (a1 : Int64) (a2 : Int64) : Option (Bool) :=
  if a0 < a1 then (some (false)) else (if a2 < a0 then (some (false)) else (some (true)))
/-! WhatWasHersModel.isRow(I)Z -/
abbrev rmX12_isRow : Room := { frames := 1, cells := 0, slots := 0, locals := 25 }
def fM_isRow  (a0 : Int32) : Option (Bool) :=
  Option.bind (fM_in (a0.toInt64) 0 7) fun y1 => some (y1)
/-! WhatWasHersModel.finding(I)J -/
abbrev rmX12_finding : Room := { frames := 0, cells := 0, slots := 0, locals := 0 }
def fM_finding (sM : zSt) (a0 : Int32) : Option (Int64 × zSt) :=
  zn (zsI sM 1 a0) fun sM1 => some (((-9000000000000000010) - (a0.toInt64)), sM1)
/-! WhatWasHersModel.row(III)J -/
abbrev rmX12_row : Room := { frames := 2, cells := 0, slots := 0, locals := 45 }
def fM_row_l66b (K66 : zSt → Int32 → Int32 → Int32 → Option (Int64 × zSt)) (sM : zSt) (x1 : Int32) (x3 : Int32) (x4 : Int32) : Option (Int64 × zSt) :=
  if 40 ≤ x4 then (some ((x3.toInt64), sM)) else (zg (zix ((40 * x1) + x4) 320) <| zn (zsA sM 4 ((40 * x1) + x4).toNatClampNeg 0) fun sM7 => zn (x4 + 1 : Int32) fun x4_8 => K66 sM7 x1 x3 x4_8)
def fM_row_l66  : Nat → zSt → Int32 → Int32 → Int32 → Option (Int64 × zSt)
  | 0, _, _, _, _ => none
  | n + 1, v0, v1, v2, v3 => fM_row_l66b  (fun v0 v1 v2 v3 => fM_row_l66  n v0 v1 v2 v3) v0 v1 v2 v3
def fM_row (sM : zSt) (a0 : Int32) (a1 : Int32) (a2 : Int32) : Option (Int64 × zSt) :=
  zn (zsI sM 0 0) fun sM1 => Option.bind (fM_isRow a0) fun y2 => if y2 = true then (Option.bind (fM_in (a1.toInt64) 0 2) fun y3 => if y3 = true then (if a2 ≤ 40 then (zn (zsI sM1 1 0) fun sM4 => if 0 ≤ a2 then (zg (zix a0 8) <| zn (zsA sM4 2 a0.toNatClampNeg a1) fun sM5 => zg (zix a0 8) <| zn (zsA sM5 3 a0.toNatClampNeg a2) fun sM6 => fM_row_l66  zF sM6 a0 a2 0) else (Option.bind (fM_finding sM4 4) fun y9 => some (y9.1, y9.2))) else (some ((-9000000000000000001), sM1))) else (some ((-9000000000000000001), sM1))) else (some ((-9000000000000000001), sM1))
theorem rw_c_X12_118 {x : zX} {G : zG} {ce sl pc : Nat} {lv : List (Nat × Value)} {cc : ByteArray} {nL : Nat} {ret : Option FieldType} {rm : Room} {w w1 : va_W} {rest : List Value} {r : Option Value} {a0 : Int64} {a1 : Int64} {a2 : Int64} (C : zC x G RX12 cc nL ret rm) (hc : Ct (xl x) G yX12_in cX12_in 6 (some .boolean) rmX12_in [.long a0, .long a1, .long a2] w r w1) (hd : decode cc pc = .ok (.invokestatic 118, 3)) (hcat : (rest.map fun v => v.category).sum ≤ 8) (hrm : zRm rm rmX12_in 6 ce sl) (K : zW x G (ce + rmX12_in.cells) (sl + rmX12_in.slots) (pc + 3) lv (r.toList ++ rest) w1) : zW x G ce sl pc lv (.long a2 :: .long a1 :: .long a0 :: rest) w := z_callS C 3 rw_u_1136 rw_u_78 rw_u_1134 rw_u_1135 ⟨by decide, by decide, by decide +kernel⟩ hc rfl hd hcat hrm K
theorem rw_p_X12_111_M_M {x : zX} {G : zG} {ce sl pc : Nat} {lv : List (Nat × Value)} {st : List Value} {cc : ByteArray} {nL : Nat} {ret : Option FieldType} {rm : Room} {qM : Nat → Nat} {sM : zSt} {v : Int32} {α : Type} {o : α} {kk : zSt → Option α} (C : zC x G RX12 cc nL ret rm) (hd : decode cc pc = .ok (.putfield 111, 3)) (h : zn (zsI sM 1 v) kk = some o) (K : ∀ s' : zSt, kk s' = some o → zW x G ce sl (pc + 3) lv st (wdM G qM s')) : zW x G ce sl pc lv (.int v :: .ref (qM 0) :: st) (wdM G qM sM) := z_put C (Cn := RX12) (T := TX12) (N := 55) (ci := 11) (k := 1) (ty := .int) (w' := wdM G qM (zsI sM 1 v)) inzX12 tyX12 tyX12_ok nmX12 rfl (by decide) rw_u_961 (fun _ h => h) rfl 0 rfl (by decide +kernel) rfl rfl (Nat.le_of_ble_eq_true rfl) rfl hd (K _ h)
theorem rw_p_X12_107_M_M {x : zX} {G : zG} {ce sl pc : Nat} {lv : List (Nat × Value)} {st : List Value} {cc : ByteArray} {nL : Nat} {ret : Option FieldType} {rm : Room} {qM : Nat → Nat} {sM : zSt} {v : Int32} {α : Type} {o : α} {kk : zSt → Option α} (C : zC x G RX12 cc nL ret rm) (hd : decode cc pc = .ok (.putfield 107, 3)) (h : zn (zsI sM 0 v) kk = some o) (K : ∀ s' : zSt, kk s' = some o → zW x G ce sl (pc + 3) lv st (wdM G qM s')) : zW x G ce sl pc lv (.int v :: .ref (qM 0) :: st) (wdM G qM sM) := z_put C (Cn := RX12) (T := TX12) (N := 55) (ci := 11) (k := 0) (ty := .int) (w' := wdM G qM (zsI sM 0 v)) inzX12 tyX12 tyX12_ok nmX12 rfl (by decide) rw_u_960 (fun _ h => h) rfl 0 rfl (by decide +kernel) rfl rfl (Nat.le_of_ble_eq_true rfl) rfl hd (K _ h)
theorem rw_c_X12_122 {x : zX} {G : zG} {ce sl pc : Nat} {lv : List (Nat × Value)} {cc : ByteArray} {nL : Nat} {ret : Option FieldType} {rm : Room} {w w1 : va_W} {rest : List Value} {r : Option Value} {a0 : Int32} (C : zC x G RX12 cc nL ret rm) (hc : Ct (xl x) G yX12_isRow cX12_isRow 1 (some .boolean) rmX12_isRow [.int a0] w r w1) (hd : decode cc pc = .ok (.invokestatic 122, 3)) (hcat : (rest.map fun v => v.category).sum ≤ 8) (hrm : zRm rm rmX12_isRow 1 ce sl) (K : zW x G (ce + rmX12_isRow.cells) (sl + rmX12_isRow.slots) (pc + 3) lv (r.toList ++ rest) w1) : zW x G ce sl pc lv (.int a0 :: rest) w := z_callS C 1 rw_u_1132 rw_u_78 rw_u_1130 rw_u_1131 ⟨by decide, by decide, by decide +kernel⟩ hc rfl hd hcat hrm K
theorem rw_g_X12_9_M_M {x : zX} {G : zG} {ce sl pc : Nat} {lv : List (Nat × Value)} {st : List Value} {cc : ByteArray} {nL : Nat} {ret : Option FieldType} {rm : Room} {qM : Nat → Nat} {sM : zSt} (C : zC x G RX12 cc nL ret rm) (hd : decode cc pc = .ok (.getfield 9, 3)) (K : zW x G ce sl (pc + 3) lv (.ref (qM 3) :: st) (wdM G qM sM)) : zW x G ce sl pc lv (.ref (qM 0) :: st) (wdM G qM sM) := z_get C (Cn := RX12) (T := TX12) (N := 55) (ci := 11) (k := 2) inzX12 rfl (by decide) rw_u_962 (fun _ h => h) 0 rfl rfl hd K
theorem rw_s_M_M_2 {x : zX} {G : zG} {ce sl pc : Nat} {lv : List (Nat × Value)} {st : List Value} {cc : ByteArray} {nL : Nat} {ret : Option FieldType} {rm : Room} {own : String} {qM : Nat → Nat} {sM : zSt} {i : Int32} {v : Int32} {α : Type} {o : α} {kk : zSt → Option α} (C : zC x G own cc nL ret rm) (hd : decode cc pc = .ok (.iastore, 1)) (h : zg (zix i 8) (zn (zsA sM 2 i.toNatClampNeg v) kk) = some o) (K : ∀ s' : zSt, kk s' = some o → zW x G ce sl (pc + 1) lv st (wdM G qM s')) : zW x G ce sl pc lv (.int v :: .int i :: .ref (qM 3) :: st) (wdM G qM sM) := z_iast C (w' := wdM G qM (zsA sM 2 i.toNatClampNeg v)) 1 rfl rfl hd h (fun h => K _ h)
theorem rw_g_X12_13_M_M {x : zX} {G : zG} {ce sl pc : Nat} {lv : List (Nat × Value)} {st : List Value} {cc : ByteArray} {nL : Nat} {ret : Option FieldType} {rm : Room} {qM : Nat → Nat} {sM : zSt} (C : zC x G RX12 cc nL ret rm) (hd : decode cc pc = .ok (.getfield 13, 3)) (K : zW x G ce sl (pc + 3) lv (.ref (qM 4) :: st) (wdM G qM sM)) : zW x G ce sl pc lv (.ref (qM 0) :: st) (wdM G qM sM) := z_get C (Cn := RX12) (T := TX12) (N := 55) (ci := 11) (k := 3) inzX12 rfl (by decide) rw_u_963 (fun _ h => h) 0 rfl rfl hd K
theorem rw_s_M_M_3 {x : zX} {G : zG} {ce sl pc : Nat} {lv : List (Nat × Value)} {st : List Value} {cc : ByteArray} {nL : Nat} {ret : Option FieldType} {rm : Room} {own : String} {qM : Nat → Nat} {sM : zSt} {i : Int32} {v : Int32} {α : Type} {o : α} {kk : zSt → Option α} (C : zC x G own cc nL ret rm) (hd : decode cc pc = .ok (.iastore, 1)) (h : zg (zix i 8) (zn (zsA sM 3 i.toNatClampNeg v) kk) = some o) (K : ∀ s' : zSt, kk s' = some o → zW x G ce sl (pc + 1) lv st (wdM G qM s')) : zW x G ce sl pc lv (.int v :: .int i :: .ref (qM 4) :: st) (wdM G qM sM) := z_iast C (w' := wdM G qM (zsA sM 3 i.toNatClampNeg v)) 2 rfl rfl hd h (fun h => K _ h)
theorem rw_g_X12_16_M_M {x : zX} {G : zG} {ce sl pc : Nat} {lv : List (Nat × Value)} {st : List Value} {cc : ByteArray} {nL : Nat} {ret : Option FieldType} {rm : Room} {qM : Nat → Nat} {sM : zSt} (C : zC x G RX12 cc nL ret rm) (hd : decode cc pc = .ok (.getfield 16, 3)) (K : zW x G ce sl (pc + 3) lv (.ref (qM 5) :: st) (wdM G qM sM)) : zW x G ce sl pc lv (.ref (qM 0) :: st) (wdM G qM sM) := z_get C (Cn := RX12) (T := TX12) (N := 55) (ci := 11) (k := 4) inzX12 rfl (by decide) rw_u_964 (fun _ h => h) 0 rfl rfl hd K
theorem rw_s_M_M_4 {x : zX} {G : zG} {ce sl pc : Nat} {lv : List (Nat × Value)} {st : List Value} {cc : ByteArray} {nL : Nat} {ret : Option FieldType} {rm : Room} {own : String} {qM : Nat → Nat} {sM : zSt} {i : Int32} {v : Int32} {α : Type} {o : α} {kk : zSt → Option α} (C : zC x G own cc nL ret rm) (hd : decode cc pc = .ok (.iastore, 1)) (h : zg (zix i 320) (zn (zsA sM 4 i.toNatClampNeg v) kk) = some o) (K : ∀ s' : zSt, kk s' = some o → zW x G ce sl (pc + 1) lv st (wdM G qM s')) : zW x G ce sl pc lv (.int v :: .int i :: .ref (qM 5) :: st) (wdM G qM sM) := z_iast C (w' := wdM G qM (zsA sM 4 i.toNatClampNeg v)) 3 rfl rfl hd h (fun h => K _ h)
theorem rw_c_X12_130 {x : zX} {G : zG} {ce sl pc : Nat} {lv : List (Nat × Value)} {cc : ByteArray} {nL : Nat} {ret : Option FieldType} {rm : Room} {w w1 : va_W} {rest : List Value} {r : Option Value} {a0 : Int32} {b : Nat} {fs : List Value} (C : zC x G RX12 cc nL ret rm) (hc : Ct (xl x) G yX12_finding cX12_finding 2 (some .long) rmX12_finding [.ref b, .int a0] w r w1) (q0 : Nat) (he : w[q0]? = some (b, .inr (11, fs))) (hd : decode cc pc = .ok (.invokevirtual 130, 3)) (hcat : (rest.map fun v => v.category).sum ≤ 8) (hrm : zRm rm rmX12_finding 2 ce sl) (K : zW x G (ce + rmX12_finding.cells) (sl + rmX12_finding.slots) (pc + 3) lv (r.toList ++ rest) w1) : zW x G ce sl pc lv (.int a0 :: .ref b :: rest) w := z_callV C 1 rw_u_1142 rw_u_78 rw_u_1139 rw_u_1141 rw_u_33 ⟨by decide, by decide, by decide +kernel⟩ (T := TX12) (N := 55) rfl hc rfl q0 he hd hcat hrm K
set_option maxHeartbeats 4000000 in
set_option maxRecDepth 100000 in
theorem cM_in {l : Launch} {G : zG}   {a0 : Int64} {a1 : Int64} {a2 : Int64} {out : Bool} (h : fM_in  a0 a1 a2 = some out) : Ct l G yX12_in cX12_in 6 (some .boolean) rmX12_in [.long a0, .long a1, .long a2] ([]) (some (.int (zb out))) ([]) := by
  refine zMet (own := RX12) rfl (by decide) (Nat.le_of_ble_eq_true rfl) (fun x hl C O => ?_)
  show zW x G 0 0 0 [(0, .long a0), (2, .long a1), (4, .long a2)] [] _
  unfold fM_in at h
  refine z_lload_n C dX12_in_0 0 rfl ?_
  refine z_lload_n C dX12_in_1 1 rfl ?_
  refine z_lcmp_lt C dX12_in_2 dX12_in_3 17 (by decide) h (fun h => ?_) (fun h => ?_)
  · refine z_iconst C 0 dX12_in_17 (by decide) ?_
    replace h := Option.some.inj h
    subst h
    exact z_zret C O dX12_in_18 (zb_nar false) rfl rfl
  · refine z_lload_n C dX12_in_6 0 rfl ?_
    refine z_lload C dX12_in_7 2 rfl ?_
    refine z_lcmp_gt C dX12_in_9 dX12_in_10 17 (by decide) h (fun h => ?_) (fun h => ?_)
    · refine z_iconst C 0 dX12_in_17 (by decide) ?_
      replace h := Option.some.inj h
      subst h
      exact z_zret C O dX12_in_18 (zb_nar false) rfl rfl
    · refine z_iconst C 1 dX12_in_13 (by decide) ?_
      refine z_goto C dX12_in_14 18 (by decide) ?_
      replace h := Option.some.inj h
      subst h
      exact z_zret C O dX12_in_18 (zb_nar true) rfl rfl
set_option maxHeartbeats 4000000 in
set_option maxRecDepth 100000 in
theorem cM_isRow {l : Launch} {G : zG}   {a0 : Int32} {out : Bool} (h : fM_isRow  a0 = some out) : Ct l G yX12_isRow cX12_isRow 1 (some .boolean) rmX12_isRow [.int a0] ([]) (some (.int (zb out))) ([]) := by
  refine zMet (own := RX12) rfl (by decide) (Nat.le_of_ble_eq_true rfl) (fun x hl C O => ?_)
  show zW x G 0 0 0 [(0, .int a0)] [] _
  unfold fM_isRow at h
  refine z_iload_n C dX12_isRow_0 0 rfl ?_
  refine z_i2l C dX12_isRow_1 ?_
  refine z_lconst C 0 dX12_isRow_2 (by decide) ?_
  refine z_ldc2 C rw_u_1133 dX12_isRow_3 ?_
  obtain ⟨y1, hy1, h⟩ := bind_o h
  refine rw_c_X12_118 C (cM_in hy1) dX12_isRow_6 (Nat.le_of_ble_eq_true rfl) (zrm rfl) ?_
  replace h := Option.some.inj h
  subst h
  exact z_zret C O dX12_isRow_9 (zb_nar y1) rfl rfl
set_option maxHeartbeats 4000000 in
set_option maxRecDepth 100000 in
theorem cM_finding {l : Launch} {G : zG} {qM : Nat → Nat} {sM : zSt} {a0 : Int32} {out : Int64 × zSt} (h : fM_finding sM a0 = some out) : Ct l G yX12_finding cX12_finding 2 (some .long) rmX12_finding [.ref (qM 0), .int a0] (wdM G qM sM) (some (.long out.1)) (wdM G qM out.2) := by
  refine zMet (own := RX12) rfl (by decide) (Nat.le_of_ble_eq_true rfl) (fun x hl C O => ?_)
  show zW x G 0 0 0 [(0, .ref (qM 0)), (1, .int a0)] [] _
  unfold fM_finding at h
  refine z_aload_n C dX12_finding_0 0 rfl ?_
  refine z_iload_n C dX12_finding_1 1 rfl ?_
  refine rw_p_X12_111_M_M C dX12_finding_2 h (fun sM1 h => ?_)
  refine z_ldc2 C rw_u_1143 dX12_finding_5 ?_
  refine z_iload_n C dX12_finding_8 1 rfl ?_
  refine z_i2l C dX12_finding_9 ?_
  refine z_lsub C dX12_finding_10 ?_
  replace h := Option.some.inj h
  subst h
  exact z_lret C O dX12_finding_11 rfl rfl
set_option maxHeartbeats 4000000 in
set_option maxRecDepth 100000 in
theorem kM_row_l66b {x : zX} {G : zG} {qM : Nat → Nat} {out : Int64 × zSt} (C : zC x G RX12 cX12_row 5 (some .long) rmX12_row) (O : zO x G (some (.long out.1)) (wdM G qM out.2) 0 0) {K66 : zSt → Int32 → Int32 → Int32 → Option (Int64 × zSt)} (hK66 : ∀ (sM : zSt) (x1 : Int32) (x3 : Int32) (x4 : Int32), K66 sM x1 x3 x4 = some out → zW x G 0 0 66 [(0, .ref (qM 0)), (1, .int x1), (3, .int x3), (4, .int x4)] [] (wdM G qM sM)) {sM : zSt} {x1 : Int32} {x3 : Int32} {x4 : Int32} (h : fM_row_l66b K66 sM x1 x3 x4 = some out) : zW x G 0 0 66 [(0, .ref (qM 0)), (1, .int x1), (3, .int x3), (4, .int x4)] [] (wdM G qM sM) := by
  unfold fM_row_l66b at h
  refine z_iload C dX12_row_66 3 rfl ?_
  refine z_bipush C 40 dX12_row_68 (by decide) ?_
  refine z_icmp_ge C dX12_row_70 92 (by decide) h (fun h => ?_) (fun h => ?_)
  · refine z_iload_n C dX12_row_92 2 rfl ?_
    refine z_i2l C dX12_row_93 ?_
    replace h := Option.some.inj h
    subst h
    exact z_lret C O dX12_row_94 rfl rfl
  · refine z_aload_n C dX12_row_73 0 rfl ?_
    refine rw_g_X12_16_M_M C dX12_row_74 ?_
    refine z_bipush C 40 dX12_row_77 (by decide) ?_
    refine z_iload_n C dX12_row_79 1 rfl ?_
    refine z_imul C dX12_row_80 ?_
    refine z_iload C dX12_row_81 3 rfl ?_
    refine z_iadd C dX12_row_83 ?_
    refine z_iconst C 0 dX12_row_84 (by decide) ?_
    refine rw_s_M_M_4 C dX12_row_85 h (fun sM7 h => ?_)
    refine z_iinc C dX12_row_86 3 rfl 1 (by decide) (by decide) (lvr := [(0, .ref (qM 0)), (1, .int x1), (3, .int x3)]) rfl h (fun x4_8 h => ?_)
    refine z_goto C dX12_row_89 66 (by decide) ?_
    refine z_perm [1, 2, 3, 0] (lv' := [(0, .ref (qM 0)), (1, .int x1), (3, .int x3), (4, .int x4_8)]) rfl ?_
    exact hK66 _ _ _ _ h
set_option maxHeartbeats 4000000 in
set_option maxRecDepth 100000 in
theorem kM_row_l66 {x : zX} {G : zG} {qM : Nat → Nat} {out : Int64 × zSt} (C : zC x G RX12 cX12_row 5 (some .long) rmX12_row) (O : zO x G (some (.long out.1)) (wdM G qM out.2) 0 0)  : ∀ (n : Nat) {sM : zSt} {x1 : Int32} {x3 : Int32} {x4 : Int32}, fM_row_l66  n sM x1 x3 x4 = some out → zW x G 0 0 66 [(0, .ref (qM 0)), (1, .int x1), (3, .int x3), (4, .int x4)] [] (wdM G qM sM) := by
  intro n
  induction n with
  | zero =>
    intro sM x1 x3 x4 h
    have h : (none : Option (Int64 × zSt)) = some out := h
    cases h
  | succ n ih =>
    intro sM x1 x3 x4 h
    exact kM_row_l66b C O (K66 := fun v0 v1 v2 v3 => fM_row_l66  n v0 v1 v2 v3) (fun sM x1 x3 x4 h => ih h) h
set_option maxHeartbeats 4000000 in
set_option maxRecDepth 100000 in
theorem cM_row {l : Launch} {G : zG} {qM : Nat → Nat} {sM : zSt} {a0 : Int32} {a1 : Int32} {a2 : Int32} {out : Int64 × zSt} (h : fM_row sM a0 a1 a2 = some out) : Ct l G yX12_row cX12_row 5 (some .long) rmX12_row [.ref (qM 0), .int a0, .int a1, .int a2] (wdM G qM sM) (some (.long out.1)) (wdM G qM out.2) := by
  refine zMet (own := RX12) rfl (by decide) (Nat.le_of_ble_eq_true rfl) (fun x hl C O => ?_)
  show zW x G 0 0 0 [(0, .ref (qM 0)), (1, .int a0), (2, .int a1), (3, .int a2)] [] _
  unfold fM_row at h
  refine z_aload_n C dX12_row_0 0 rfl ?_
  refine z_iconst C 0 dX12_row_1 (by decide) ?_
  refine rw_p_X12_107_M_M C dX12_row_2 h (fun sM1 h => ?_)
  refine z_iload_n C dX12_row_5 1 rfl ?_
  obtain ⟨y2, hy2, h⟩ := bind_o h
  refine rw_c_X12_122 C (Ct.frame0 (cM_isRow hy2)) dX12_row_6 (Nat.le_of_ble_eq_true rfl) (zrm rfl) ?_
  refine z_ifb_eq C dX12_row_9 30 (by decide) h (fun h => ?_) (fun h => ?_)
  · refine z_ldc2 C rw_u_1138 dX12_row_30 ?_
    replace h := Option.some.inj h
    subst h
    exact z_lret C O dX12_row_33 rfl rfl
  · refine z_iload_n C dX12_row_12 2 rfl ?_
    refine z_i2l C dX12_row_13 ?_
    refine z_lconst C 0 dX12_row_14 (by decide) ?_
    refine z_ldc2 C rw_u_1137 dX12_row_15 ?_
    obtain ⟨y3, hy3, h⟩ := bind_o h
    refine rw_c_X12_118 C (Ct.frame0 (cM_in hy3)) dX12_row_18 (Nat.le_of_ble_eq_true rfl) (zrm rfl) ?_
    refine z_ifb_eq C dX12_row_21 30 (by decide) h (fun h => ?_) (fun h => ?_)
    · refine z_ldc2 C rw_u_1138 dX12_row_30 ?_
      replace h := Option.some.inj h
      subst h
      exact z_lret C O dX12_row_33 rfl rfl
    · refine z_iload_n C dX12_row_24 3 rfl ?_
      refine z_bipush C 40 dX12_row_25 (by decide) ?_
      refine z_icmp_le C dX12_row_27 34 (by decide) h (fun h => ?_) (fun h => ?_)
      · refine z_aload_n C dX12_row_34 0 rfl ?_
        refine z_iconst C 0 dX12_row_35 (by decide) ?_
        refine rw_p_X12_111_M_M C dX12_row_36 h (fun sM4 h => ?_)
        refine z_iload_n C dX12_row_39 3 rfl ?_
        refine z_if_ge C dX12_row_40 49 (by decide) h (fun h => ?_) (fun h => ?_)
        · refine z_aload_n C dX12_row_49 0 rfl ?_
          refine rw_g_X12_9_M_M C dX12_row_50 ?_
          refine z_iload_n C dX12_row_53 1 rfl ?_
          refine z_iload_n C dX12_row_54 2 rfl ?_
          refine rw_s_M_M_2 C dX12_row_55 h (fun sM5 h => ?_)
          refine z_aload_n C dX12_row_56 0 rfl ?_
          refine rw_g_X12_13_M_M C dX12_row_57 ?_
          refine z_iload_n C dX12_row_60 1 rfl ?_
          refine z_iload_n C dX12_row_61 3 rfl ?_
          refine rw_s_M_M_3 C dX12_row_62 h (fun sM6 h => ?_)
          refine z_iconst C 0 dX12_row_63 (by decide) ?_
          refine z_istore C dX12_row_64 (by decide) (lvr := [(0, .ref (qM 0)), (1, .int a0), (2, .int a1), (3, .int a2)]) rfl ?_
          refine z_perm [1, 2, 4, 0] (lv' := [(0, .ref (qM 0)), (1, .int a0), (3, .int a2), (4, .int 0)]) rfl ?_
          exact kM_row_l66 C O  zF h
        · refine z_aload_n C dX12_row_43 0 rfl ?_
          refine z_iconst C 4 dX12_row_44 (by decide) ?_
          obtain ⟨y9, hy9, h⟩ := bind_o h
          refine rw_c_X12_130 C (cM_finding hy9) 0 rfl dX12_row_45 (Nat.le_of_ble_eq_true rfl) (zrm rfl) ?_
          replace h := Option.some.inj h
          subst h
          exact z_lret C O dX12_row_48 rfl rfl
      · refine z_ldc2 C rw_u_1138 dX12_row_30 ?_
        replace h := Option.some.inj h
        subst h
        exact z_lret C O dX12_row_33 rfl rfl

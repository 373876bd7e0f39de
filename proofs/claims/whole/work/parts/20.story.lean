theorem rw_u_141 : Cond.fieldLink RX7 42 "WhatWasHers$Story" "laws" "I" ∈ zU := zm 141 (by decide +kernel) rfl
theorem rw_u_144 : Cond.fieldLink RX7 46 "WhatWasHers$Story" "events" "I" ∈ zU := zm 144 (by decide +kernel) rfl
theorem rw_u_147 : Cond.fieldLink RX7 49 "WhatWasHers$Story" "things" "I" ∈ zU := zm 147 (by decide +kernel) rfl
theorem rw_u_164 : Cond.fieldLink RX7 30 "WhatWasHers$Story" "day" "[I" ∈ zU := zm 164 (by decide +kernel) rfl
theorem rw_u_161 : Cond.fieldLink RX7 27 "WhatWasHers$Story" "what" "[I" ∈ zU := zm 161 (by decide +kernel) rfl
theorem rw_u_156 : Cond.fieldLink RX7 21 "WhatWasHers$Story" "move" "[I" ∈ zU := zm 156 (by decide +kernel) rfl
theorem rw_u_166 : Cond.fieldLink RX7 33 "WhatWasHers$Story" "first" "[I" ∈ zU := zm 166 (by decide +kernel) rfl
theorem rw_u_149 : Cond.fieldLink RX7 11 "WhatWasHers$Story" "places" "[I" ∈ zU := zm 149 (by decide +kernel) rfl
theorem rw_u_169 : Cond.fieldLink RX7 36 "WhatWasHers$Story" "second" "[I" ∈ zU := zm 169 (by decide +kernel) rfl
theorem rw_u_172 : Cond.fieldLink RX7 39 "WhatWasHers$Story" "third" "[I" ∈ zU := zm 172 (by decide +kernel) rfl
theorem rw_u_601 : Cond.methodLink RX7 52 Lib.Math.max.name ∈ zU := zm 601 (by decide +kernel) rfl
theorem rw_u_602 : Cond.static Lib.Math.max.name ∈ zU := zm 602 (by decide +kernel) rfl
theorem rw_u_84 : Cond.initialized "java/lang/Math" ∈ zU := zm 84 (by decide +kernel) rfl
theorem rw_u_603 : Cond.code Lib.Math.max.name Lib.Math.max.code 2 (some .int) ∈ zU := zm 603 (by decide +kernel) rfl
theorem rw_u_151 : Cond.fieldLink RX7 15 "WhatWasHers$Story" "mix" "[I" ∈ zU := zm 151 (by decide +kernel) rfl
theorem rw_u_343 : Cond.fieldLink RX10 13 "WhatWasHers$Trace" "length" "I" ∈ zU := zm 343 (by decide +kernel) rfl
theorem rw_u_341 : Cond.fieldLink RX10 9 "WhatWasHers$Trace" "numbers" "[I" ∈ zU := zm 341 (by decide +kernel) rfl
/-! WhatWasHers$Story.clear()V -/
abbrev rmX7_clear : Room := { frames := 0, cells := 0, slots := 0, locals := 0 }
def fS_clear (sS : zSt)  : Option (zSt) :=
  zn (zsI sS 0 0) fun sS1 => zn (zsI sS1 1 0) fun sS2 => zn (zsI sS2 2 0) fun sS3 => some (sS3)
/-! WhatWasHers$Story.firstEventFrom(I)I -/
abbrev rmX7_firstEventFrom : Room := { frames := 0, cells := 0, slots := 0, locals := 0 }
def fS_firstEventFrom_l2b (K2 : zSt → Int32 → Int32 → Option (Int32)) (sS : zSt) (x1 : Int32) (x2 : Int32) : Option (Int32) :=
  if (zI sS 1) ≤ x2 then (some (x2)) else (zg (zix x2 30) <| if x1 ≤ (zA sS 9 x2.toNatClampNeg) then (some (x2)) else (zn (x2 + 1 : Int32) fun x2_1 => K2 sS x1 x2_1))
def fS_firstEventFrom_l2  : Nat → zSt → Int32 → Int32 → Option (Int32)
  | 0, _, _, _ => none
  | n + 1, v0, v1, v2 => fS_firstEventFrom_l2b  (fun v0 v1 v2 => fS_firstEventFrom_l2  n v0 v1 v2) v0 v1 v2
def fS_firstEventFrom (sS : zSt) (a0 : Int32) : Option (Int32) :=
  fS_firstEventFrom_l2  zF sS a0 0
/-! WhatWasHers$Story.canBeLeftOut(I)Z -/
abbrev rmX7_canBeLeftOut : Room := { frames := 0, cells := 0, slots := 0, locals := 0 }
def fS_canBeLeftOut (sS : zSt) (a0 : Int32) : Option (Bool) :=
  zg (zix a0 30) <| zn ((zA sS 8 a0.toNatClampNeg) : Int32) fun x2_1 => if x2_1 = 2 then (some (true)) else (if x2_1 = 3 then (some (true)) else (if x2_1 = 4 then (some (true)) else (if x2_1 = 6 then (some (true)) else (some (false)))))
/-! WhatWasHers$Story.movesAll(I)Z -/
abbrev rmX7_movesAll : Room := { frames := 0, cells := 0, slots := 0, locals := 0 }
def fS_movesAll (sS : zSt) (a0 : Int32) : Option (Bool) :=
  zg (zix a0 4) <| if (zA sS 6 a0.toNatClampNeg) = 1 then (some (true)) else (some (false))
/-! WhatWasHers$Story.way(I)I -/
abbrev rmX7_way : Room := { frames := 0, cells := 0, slots := 0, locals := 0 }
def fS_way (sS : zSt) (a0 : Int32) : Option (Int32) :=
  zg (zix a0 30) <| if (zA sS 8 a0.toNatClampNeg) = 0 then (zg (zix a0 30) <| some ((zA sS 10 a0.toNatClampNeg))) else (some (4))
/-! WhatWasHers$Story.purseOfComer(II)I -/
abbrev rmX7_purseOfComer : Room := { frames := 0, cells := 0, slots := 0, locals := 0 }
def fS_purseOfComer_b23  (sS : zSt) (x2 : Int32) (t0 : Int32) : Option (Int32) :=
  if t0 = 0 then (some (2)) else (zg (zix x2 30) <| some ((zA sS 11 x2.toNatClampNeg)))
def fS_purseOfComer (sS : zSt) (a0 : Int32) (a1 : Int32) : Option (Int32) :=
  zg (zix a1 30) <| zg (zix ((a0 * 4) + (zA sS 10 a1.toNatClampNeg)) 16) <| if (zA sS 3 ((a0 * 4) + (zA sS 10 a1.toNatClampNeg)).toNatClampNeg) = 0 then (fS_purseOfComer_b23  sS a1 1) else (fS_purseOfComer_b23  sS a1 0)
/-! WhatWasHers$Story.purseOfPayers(II)I -/
abbrev rmX7_purseOfPayers : Room := { frames := 1, cells := 0, slots := 0, locals := 21 }
def fS_purseOfPayers_b88  (sS : zSt) (x6 : Int32) (t0 : Int32) : Option (Int32) :=
  if t0 = 0 then (some (2)) else (some (x6))
def fS_purseOfPayers_b50  (sS : zSt) (x1 : Int32) (x3 : Int32) (x4 : Int32) (x5 : Int32) (x6 : Int32) : Option (Int32) :=
  zg (zix x1 4) <| if (zA sS 4 x1.toNatClampNeg) = 0 then (some (x6)) else (if (if (if x3 < x4 then x4 else x3) < x5 then x5 else (if x3 < x4 then x4 else x3)) = ((x3 + x4) + x5) then (fS_purseOfPayers_b88  sS x6 1) else (fS_purseOfPayers_b88  sS x6 0))
def fS_purseOfPayers_b34  (sS : zSt) (x1 : Int32) (x3 : Int32) (x4 : Int32) (x5 : Int32) (t0 : Int32) : Option (Int32) :=
  if x5 ≤ (if x3 < x4 then x4 else x3) then (fS_purseOfPayers_b50  sS x1 x3 x4 x5 t0) else (fS_purseOfPayers_b50  sS x1 x3 x4 x5 2)
def fS_purseOfPayers (sS : zSt) (a0 : Int32) (a1 : Int32) : Option (Int32) :=
  zg (zix a1 30) <| zn ((zA sS 10 a1.toNatClampNeg) : Int32) fun x3_1 => zg (zix a1 30) <| zn ((zA sS 11 a1.toNatClampNeg) : Int32) fun x4_2 => zg (zix a1 30) <| zn ((zA sS 12 a1.toNatClampNeg) : Int32) fun x5_3 => if x3_1 < x4_2 then (fS_purseOfPayers_b34  sS a0 x3_1 x4_2 x5_3 1) else (fS_purseOfPayers_b34  sS a0 x3_1 x4_2 x5_3 0)
/-! WhatWasHers$Trace.clear()V -/
abbrev rmX10_clear : Room := { frames := 0, cells := 0, slots := 0, locals := 0 }
def fT_clear (sT : zSt)  : Option (zSt) :=
  zn (zsI sT 1 0) fun sT1 => some (sT1)
/-! WhatWasHers$Trace.leave(I)V -/
abbrev rmX10_leave : Room := { frames := 0, cells := 0, slots := 0, locals := 0 }
def fT_leave (sT : zSt) (a0 : Int32) : Option (zSt) :=
  if 16 ≤ (zI sT 1) then (some (sT)) else (zg (zix (zI sT 1) 16) <| zn (zsA sT 0 (zI sT 1).toNatClampNeg a0) fun sT1 => zn (zsI sT1 1 ((zI sT1 1) + 1)) fun sT2 => some (sT2))
theorem rw_p_X7_42_S_S {x : zX} {G : zG} {ce sl pc : Nat} {lv : List (Nat × Value)} {st : List Value} {cc : ByteArray} {nL : Nat} {ret : Option FieldType} {rm : Room} {qS : Nat → Nat} {sS : zSt} {v : Int32} {α : Type} {o : α} {kk : zSt → Option α} (C : zC x G RX7 cc nL ret rm) (hd : decode cc pc = .ok (.putfield 42, 3)) (h : zn (zsI sS 0 v) kk = some o) (K : ∀ s' : zSt, kk s' = some o → zW x G ce sl (pc + 3) lv st (wdS G qS s')) : zW x G ce sl pc lv (.int v :: .ref (qS 0) :: st) (wdS G qS sS) := z_put C (Cn := RX7) (T := TX7) (N := 13) (ci := 7) (k := 0) (ty := .int) (w' := wdS G qS (zsI sS 0 v)) inzX7 tyX7 tyX7_ok nmX7 rfl (by decide) rw_u_141 (fun _ h => h) rfl 0 rfl (by decide +kernel) rfl rfl (Nat.le_of_ble_eq_true rfl) rfl hd (K _ h)
theorem rw_p_X7_46_S_S {x : zX} {G : zG} {ce sl pc : Nat} {lv : List (Nat × Value)} {st : List Value} {cc : ByteArray} {nL : Nat} {ret : Option FieldType} {rm : Room} {qS : Nat → Nat} {sS : zSt} {v : Int32} {α : Type} {o : α} {kk : zSt → Option α} (C : zC x G RX7 cc nL ret rm) (hd : decode cc pc = .ok (.putfield 46, 3)) (h : zn (zsI sS 1 v) kk = some o) (K : ∀ s' : zSt, kk s' = some o → zW x G ce sl (pc + 3) lv st (wdS G qS s')) : zW x G ce sl pc lv (.int v :: .ref (qS 0) :: st) (wdS G qS sS) := z_put C (Cn := RX7) (T := TX7) (N := 13) (ci := 7) (k := 1) (ty := .int) (w' := wdS G qS (zsI sS 1 v)) inzX7 tyX7 tyX7_ok nmX7 rfl (by decide) rw_u_144 (fun _ h => h) rfl 0 rfl (by decide +kernel) rfl rfl (Nat.le_of_ble_eq_true rfl) rfl hd (K _ h)
theorem rw_p_X7_49_S_S {x : zX} {G : zG} {ce sl pc : Nat} {lv : List (Nat × Value)} {st : List Value} {cc : ByteArray} {nL : Nat} {ret : Option FieldType} {rm : Room} {qS : Nat → Nat} {sS : zSt} {v : Int32} {α : Type} {o : α} {kk : zSt → Option α} (C : zC x G RX7 cc nL ret rm) (hd : decode cc pc = .ok (.putfield 49, 3)) (h : zn (zsI sS 2 v) kk = some o) (K : ∀ s' : zSt, kk s' = some o → zW x G ce sl (pc + 3) lv st (wdS G qS s')) : zW x G ce sl pc lv (.int v :: .ref (qS 0) :: st) (wdS G qS sS) := z_put C (Cn := RX7) (T := TX7) (N := 13) (ci := 7) (k := 2) (ty := .int) (w' := wdS G qS (zsI sS 2 v)) inzX7 tyX7 tyX7_ok nmX7 rfl (by decide) rw_u_147 (fun _ h => h) rfl 0 rfl (by decide +kernel) rfl rfl (Nat.le_of_ble_eq_true rfl) rfl hd (K _ h)
theorem rw_g_X7_46_S_S {x : zX} {G : zG} {ce sl pc : Nat} {lv : List (Nat × Value)} {st : List Value} {cc : ByteArray} {nL : Nat} {ret : Option FieldType} {rm : Room} {qS : Nat → Nat} {sS : zSt} (C : zC x G RX7 cc nL ret rm) (hd : decode cc pc = .ok (.getfield 46, 3)) (K : zW x G ce sl (pc + 3) lv (.int (zI sS 1) :: st) (wdS G qS sS)) : zW x G ce sl pc lv (.ref (qS 0) :: st) (wdS G qS sS) := z_get C (Cn := RX7) (T := TX7) (N := 13) (ci := 7) (k := 1) inzX7 rfl (by decide) rw_u_144 (fun _ h => h) 0 rfl rfl hd K
theorem rw_g_X7_30_S_S {x : zX} {G : zG} {ce sl pc : Nat} {lv : List (Nat × Value)} {st : List Value} {cc : ByteArray} {nL : Nat} {ret : Option FieldType} {rm : Room} {qS : Nat → Nat} {sS : zSt} (C : zC x G RX7 cc nL ret rm) (hd : decode cc pc = .ok (.getfield 30, 3)) (K : zW x G ce sl (pc + 3) lv (.ref (qS 10) :: st) (wdS G qS sS)) : zW x G ce sl pc lv (.ref (qS 0) :: st) (wdS G qS sS) := z_get C (Cn := RX7) (T := TX7) (N := 13) (ci := 7) (k := 9) inzX7 rfl (by decide) rw_u_164 (fun _ h => h) 0 rfl rfl hd K
theorem rw_l_S_S_9 {x : zX} {G : zG} {ce sl pc : Nat} {lv : List (Nat × Value)} {st : List Value} {cc : ByteArray} {nL : Nat} {ret : Option FieldType} {rm : Room} {own : String} {qS : Nat → Nat} {sS : zSt} {i : Int32} {α : Type} {o : α} {kk : Option α} (C : zC x G own cc nL ret rm) (hd : decode cc pc = .ok (.iaload, 1)) (h : zg (zix i 30) kk = some o) (K : kk = some o → zW x G ce sl (pc + 1) lv (.int (zA sS 9 i.toNatClampNeg) :: st) (wdS G qS sS)) : zW x G ce sl pc lv (.int i :: .ref (qS 10) :: st) (wdS G qS sS) := z_iald C 7 rfl hd h K
theorem rw_g_X7_27_S_S {x : zX} {G : zG} {ce sl pc : Nat} {lv : List (Nat × Value)} {st : List Value} {cc : ByteArray} {nL : Nat} {ret : Option FieldType} {rm : Room} {qS : Nat → Nat} {sS : zSt} (C : zC x G RX7 cc nL ret rm) (hd : decode cc pc = .ok (.getfield 27, 3)) (K : zW x G ce sl (pc + 3) lv (.ref (qS 9) :: st) (wdS G qS sS)) : zW x G ce sl pc lv (.ref (qS 0) :: st) (wdS G qS sS) := z_get C (Cn := RX7) (T := TX7) (N := 13) (ci := 7) (k := 8) inzX7 rfl (by decide) rw_u_161 (fun _ h => h) 0 rfl rfl hd K
theorem rw_l_S_S_8 {x : zX} {G : zG} {ce sl pc : Nat} {lv : List (Nat × Value)} {st : List Value} {cc : ByteArray} {nL : Nat} {ret : Option FieldType} {rm : Room} {own : String} {qS : Nat → Nat} {sS : zSt} {i : Int32} {α : Type} {o : α} {kk : Option α} (C : zC x G own cc nL ret rm) (hd : decode cc pc = .ok (.iaload, 1)) (h : zg (zix i 30) kk = some o) (K : kk = some o → zW x G ce sl (pc + 1) lv (.int (zA sS 8 i.toNatClampNeg) :: st) (wdS G qS sS)) : zW x G ce sl pc lv (.int i :: .ref (qS 9) :: st) (wdS G qS sS) := z_iald C 6 rfl hd h K
theorem rw_g_X7_21_S_S {x : zX} {G : zG} {ce sl pc : Nat} {lv : List (Nat × Value)} {st : List Value} {cc : ByteArray} {nL : Nat} {ret : Option FieldType} {rm : Room} {qS : Nat → Nat} {sS : zSt} (C : zC x G RX7 cc nL ret rm) (hd : decode cc pc = .ok (.getfield 21, 3)) (K : zW x G ce sl (pc + 3) lv (.ref (qS 7) :: st) (wdS G qS sS)) : zW x G ce sl pc lv (.ref (qS 0) :: st) (wdS G qS sS) := z_get C (Cn := RX7) (T := TX7) (N := 13) (ci := 7) (k := 6) inzX7 rfl (by decide) rw_u_156 (fun _ h => h) 0 rfl rfl hd K
theorem rw_l_S_S_6 {x : zX} {G : zG} {ce sl pc : Nat} {lv : List (Nat × Value)} {st : List Value} {cc : ByteArray} {nL : Nat} {ret : Option FieldType} {rm : Room} {own : String} {qS : Nat → Nat} {sS : zSt} {i : Int32} {α : Type} {o : α} {kk : Option α} (C : zC x G own cc nL ret rm) (hd : decode cc pc = .ok (.iaload, 1)) (h : zg (zix i 4) kk = some o) (K : kk = some o → zW x G ce sl (pc + 1) lv (.int (zA sS 6 i.toNatClampNeg) :: st) (wdS G qS sS)) : zW x G ce sl pc lv (.int i :: .ref (qS 7) :: st) (wdS G qS sS) := z_iald C 4 rfl hd h K
theorem rw_g_X7_33_S_S {x : zX} {G : zG} {ce sl pc : Nat} {lv : List (Nat × Value)} {st : List Value} {cc : ByteArray} {nL : Nat} {ret : Option FieldType} {rm : Room} {qS : Nat → Nat} {sS : zSt} (C : zC x G RX7 cc nL ret rm) (hd : decode cc pc = .ok (.getfield 33, 3)) (K : zW x G ce sl (pc + 3) lv (.ref (qS 11) :: st) (wdS G qS sS)) : zW x G ce sl pc lv (.ref (qS 0) :: st) (wdS G qS sS) := z_get C (Cn := RX7) (T := TX7) (N := 13) (ci := 7) (k := 10) inzX7 rfl (by decide) rw_u_166 (fun _ h => h) 0 rfl rfl hd K
theorem rw_l_S_S_10 {x : zX} {G : zG} {ce sl pc : Nat} {lv : List (Nat × Value)} {st : List Value} {cc : ByteArray} {nL : Nat} {ret : Option FieldType} {rm : Room} {own : String} {qS : Nat → Nat} {sS : zSt} {i : Int32} {α : Type} {o : α} {kk : Option α} (C : zC x G own cc nL ret rm) (hd : decode cc pc = .ok (.iaload, 1)) (h : zg (zix i 30) kk = some o) (K : kk = some o → zW x G ce sl (pc + 1) lv (.int (zA sS 10 i.toNatClampNeg) :: st) (wdS G qS sS)) : zW x G ce sl pc lv (.int i :: .ref (qS 11) :: st) (wdS G qS sS) := z_iald C 8 rfl hd h K
theorem rw_g_X7_11_S_S {x : zX} {G : zG} {ce sl pc : Nat} {lv : List (Nat × Value)} {st : List Value} {cc : ByteArray} {nL : Nat} {ret : Option FieldType} {rm : Room} {qS : Nat → Nat} {sS : zSt} (C : zC x G RX7 cc nL ret rm) (hd : decode cc pc = .ok (.getfield 11, 3)) (K : zW x G ce sl (pc + 3) lv (.ref (qS 4) :: st) (wdS G qS sS)) : zW x G ce sl pc lv (.ref (qS 0) :: st) (wdS G qS sS) := z_get C (Cn := RX7) (T := TX7) (N := 13) (ci := 7) (k := 3) inzX7 rfl (by decide) rw_u_149 (fun _ h => h) 0 rfl rfl hd K
theorem rw_l_S_S_3 {x : zX} {G : zG} {ce sl pc : Nat} {lv : List (Nat × Value)} {st : List Value} {cc : ByteArray} {nL : Nat} {ret : Option FieldType} {rm : Room} {own : String} {qS : Nat → Nat} {sS : zSt} {i : Int32} {α : Type} {o : α} {kk : Option α} (C : zC x G own cc nL ret rm) (hd : decode cc pc = .ok (.iaload, 1)) (h : zg (zix i 16) kk = some o) (K : kk = some o → zW x G ce sl (pc + 1) lv (.int (zA sS 3 i.toNatClampNeg) :: st) (wdS G qS sS)) : zW x G ce sl pc lv (.int i :: .ref (qS 4) :: st) (wdS G qS sS) := z_iald C 1 rfl hd h K
theorem rw_g_X7_36_S_S {x : zX} {G : zG} {ce sl pc : Nat} {lv : List (Nat × Value)} {st : List Value} {cc : ByteArray} {nL : Nat} {ret : Option FieldType} {rm : Room} {qS : Nat → Nat} {sS : zSt} (C : zC x G RX7 cc nL ret rm) (hd : decode cc pc = .ok (.getfield 36, 3)) (K : zW x G ce sl (pc + 3) lv (.ref (qS 12) :: st) (wdS G qS sS)) : zW x G ce sl pc lv (.ref (qS 0) :: st) (wdS G qS sS) := z_get C (Cn := RX7) (T := TX7) (N := 13) (ci := 7) (k := 11) inzX7 rfl (by decide) rw_u_169 (fun _ h => h) 0 rfl rfl hd K
theorem rw_l_S_S_11 {x : zX} {G : zG} {ce sl pc : Nat} {lv : List (Nat × Value)} {st : List Value} {cc : ByteArray} {nL : Nat} {ret : Option FieldType} {rm : Room} {own : String} {qS : Nat → Nat} {sS : zSt} {i : Int32} {α : Type} {o : α} {kk : Option α} (C : zC x G own cc nL ret rm) (hd : decode cc pc = .ok (.iaload, 1)) (h : zg (zix i 30) kk = some o) (K : kk = some o → zW x G ce sl (pc + 1) lv (.int (zA sS 11 i.toNatClampNeg) :: st) (wdS G qS sS)) : zW x G ce sl pc lv (.int i :: .ref (qS 12) :: st) (wdS G qS sS) := z_iald C 9 rfl hd h K
theorem rw_g_X7_39_S_S {x : zX} {G : zG} {ce sl pc : Nat} {lv : List (Nat × Value)} {st : List Value} {cc : ByteArray} {nL : Nat} {ret : Option FieldType} {rm : Room} {qS : Nat → Nat} {sS : zSt} (C : zC x G RX7 cc nL ret rm) (hd : decode cc pc = .ok (.getfield 39, 3)) (K : zW x G ce sl (pc + 3) lv (.ref (qS 13) :: st) (wdS G qS sS)) : zW x G ce sl pc lv (.ref (qS 0) :: st) (wdS G qS sS) := z_get C (Cn := RX7) (T := TX7) (N := 13) (ci := 7) (k := 12) inzX7 rfl (by decide) rw_u_172 (fun _ h => h) 0 rfl rfl hd K
theorem rw_l_S_S_12 {x : zX} {G : zG} {ce sl pc : Nat} {lv : List (Nat × Value)} {st : List Value} {cc : ByteArray} {nL : Nat} {ret : Option FieldType} {rm : Room} {own : String} {qS : Nat → Nat} {sS : zSt} {i : Int32} {α : Type} {o : α} {kk : Option α} (C : zC x G own cc nL ret rm) (hd : decode cc pc = .ok (.iaload, 1)) (h : zg (zix i 30) kk = some o) (K : kk = some o → zW x G ce sl (pc + 1) lv (.int (zA sS 12 i.toNatClampNeg) :: st) (wdS G qS sS)) : zW x G ce sl pc lv (.int i :: .ref (qS 13) :: st) (wdS G qS sS) := z_iald C 10 rfl hd h K
theorem rw_math_X7_52 {x : zX} {G : zG} {ce sl pc : Nat} {lv : List (Nat × Value)} {st : List Value} {cc : ByteArray} {nL : Nat} {ret : Option FieldType} {rm : Room} {w : va_W} {a b : Int32} (C : zC x G RX7 cc nL ret rm) (hd : decode cc pc = .ok (.invokestatic 52, 3)) (hfr : 1 ≤ rm.frames) (hlo : (st.map fun v => v.category).sum + 13 ≤ rm.locals) (hc : ce ≤ rm.cells) (hs : sl ≤ rm.slots) (K : zW x G ce sl (pc + 3) lv (.int (if a < b then b else a) :: st) w) : zW x G ce sl pc lv (.int b :: .int a :: st) w := fun H locs ls hP hD hS hl => va_mmax C.1 C.2.1 hl.1.symm C.2.2.2.1 (C.2.2.2.2.1 _ rw_u_601) (C.2.2.2.2.1 _ rw_u_602) (C.2.2.2.2.1 _ rw_u_84) (C.2.2.2.2.1 _ rw_u_603) (by rw [C.2.2.2.2.2.2.2.2.2.1]; exact hfr) (by rw [C.2.2.2.2.2.2.2.2.2.1]; exact hlo) (by rw [C.2.2.2.2.2.2.2.2.2.1]; exact hc) (by rw [C.2.2.2.2.2.2.2.2.2.1]; exact hs) hd (K H locs ls hP hD hS hl)
theorem rw_g_X7_15_S_S {x : zX} {G : zG} {ce sl pc : Nat} {lv : List (Nat × Value)} {st : List Value} {cc : ByteArray} {nL : Nat} {ret : Option FieldType} {rm : Room} {qS : Nat → Nat} {sS : zSt} (C : zC x G RX7 cc nL ret rm) (hd : decode cc pc = .ok (.getfield 15, 3)) (K : zW x G ce sl (pc + 3) lv (.ref (qS 5) :: st) (wdS G qS sS)) : zW x G ce sl pc lv (.ref (qS 0) :: st) (wdS G qS sS) := z_get C (Cn := RX7) (T := TX7) (N := 13) (ci := 7) (k := 4) inzX7 rfl (by decide) rw_u_151 (fun _ h => h) 0 rfl rfl hd K
theorem rw_l_S_S_4 {x : zX} {G : zG} {ce sl pc : Nat} {lv : List (Nat × Value)} {st : List Value} {cc : ByteArray} {nL : Nat} {ret : Option FieldType} {rm : Room} {own : String} {qS : Nat → Nat} {sS : zSt} {i : Int32} {α : Type} {o : α} {kk : Option α} (C : zC x G own cc nL ret rm) (hd : decode cc pc = .ok (.iaload, 1)) (h : zg (zix i 4) kk = some o) (K : kk = some o → zW x G ce sl (pc + 1) lv (.int (zA sS 4 i.toNatClampNeg) :: st) (wdS G qS sS)) : zW x G ce sl pc lv (.int i :: .ref (qS 5) :: st) (wdS G qS sS) := z_iald C 2 rfl hd h K
theorem rw_p_X10_13_T_T {x : zX} {G : zG} {ce sl pc : Nat} {lv : List (Nat × Value)} {st : List Value} {cc : ByteArray} {nL : Nat} {ret : Option FieldType} {rm : Room} {qT : Nat → Nat} {sT : zSt} {v : Int32} {α : Type} {o : α} {kk : zSt → Option α} (C : zC x G RX10 cc nL ret rm) (hd : decode cc pc = .ok (.putfield 13, 3)) (h : zn (zsI sT 1 v) kk = some o) (K : ∀ s' : zSt, kk s' = some o → zW x G ce sl (pc + 3) lv st (wdT G qT s')) : zW x G ce sl pc lv (.int v :: .ref (qT 0) :: st) (wdT G qT sT) := z_put C (Cn := RX10) (T := TX10) (N := 2) (ci := 9) (k := 1) (ty := .int) (w' := wdT G qT (zsI sT 1 v)) inzX10 tyX10 tyX10_ok nmX10 rfl (by decide) rw_u_343 (fun _ h => h) rfl 0 rfl (by decide +kernel) rfl rfl (Nat.le_of_ble_eq_true rfl) rfl hd (K _ h)
theorem rw_g_X10_13_T_T {x : zX} {G : zG} {ce sl pc : Nat} {lv : List (Nat × Value)} {st : List Value} {cc : ByteArray} {nL : Nat} {ret : Option FieldType} {rm : Room} {qT : Nat → Nat} {sT : zSt} (C : zC x G RX10 cc nL ret rm) (hd : decode cc pc = .ok (.getfield 13, 3)) (K : zW x G ce sl (pc + 3) lv (.int (zI sT 1) :: st) (wdT G qT sT)) : zW x G ce sl pc lv (.ref (qT 0) :: st) (wdT G qT sT) := z_get C (Cn := RX10) (T := TX10) (N := 2) (ci := 9) (k := 1) inzX10 rfl (by decide) rw_u_343 (fun _ h => h) 0 rfl rfl hd K
theorem rw_g_X10_9_T_T {x : zX} {G : zG} {ce sl pc : Nat} {lv : List (Nat × Value)} {st : List Value} {cc : ByteArray} {nL : Nat} {ret : Option FieldType} {rm : Room} {qT : Nat → Nat} {sT : zSt} (C : zC x G RX10 cc nL ret rm) (hd : decode cc pc = .ok (.getfield 9, 3)) (K : zW x G ce sl (pc + 3) lv (.ref (qT 1) :: st) (wdT G qT sT)) : zW x G ce sl pc lv (.ref (qT 0) :: st) (wdT G qT sT) := z_get C (Cn := RX10) (T := TX10) (N := 2) (ci := 9) (k := 0) inzX10 rfl (by decide) rw_u_341 (fun _ h => h) 0 rfl rfl hd K
theorem rw_s_T_T_0 {x : zX} {G : zG} {ce sl pc : Nat} {lv : List (Nat × Value)} {st : List Value} {cc : ByteArray} {nL : Nat} {ret : Option FieldType} {rm : Room} {own : String} {qT : Nat → Nat} {sT : zSt} {i : Int32} {v : Int32} {α : Type} {o : α} {kk : zSt → Option α} (C : zC x G own cc nL ret rm) (hd : decode cc pc = .ok (.iastore, 1)) (h : zg (zix i 16) (zn (zsA sT 0 i.toNatClampNeg v) kk) = some o) (K : ∀ s' : zSt, kk s' = some o → zW x G ce sl (pc + 1) lv st (wdT G qT s')) : zW x G ce sl pc lv (.int v :: .int i :: .ref (qT 1) :: st) (wdT G qT sT) := z_iast C (w' := wdT G qT (zsA sT 0 i.toNatClampNeg v)) 1 rfl rfl hd h (fun h => K _ h)
set_option maxHeartbeats 4000000 in
set_option maxRecDepth 100000 in
theorem cS_clear {l : Launch} {G : zG} {qS : Nat → Nat} {sS : zSt}  {out : zSt} (h : fS_clear sS  = some out) : Ct l G yX7_clear cX7_clear 1 none rmX7_clear [.ref (qS 0)] (wdS G qS sS) none (wdS G qS out) := by
  refine zMet (own := RX7) rfl (by decide) (Nat.le_of_ble_eq_true rfl) (fun x hl C O => ?_)
  show zW x G 0 0 0 [(0, .ref (qS 0))] [] _
  unfold fS_clear at h
  refine z_aload_n C dX7_clear_0 0 rfl ?_
  refine z_iconst C 0 dX7_clear_1 (by decide) ?_
  refine rw_p_X7_42_S_S C dX7_clear_2 h (fun sS1 h => ?_)
  refine z_aload_n C dX7_clear_5 0 rfl ?_
  refine z_iconst C 0 dX7_clear_6 (by decide) ?_
  refine rw_p_X7_46_S_S C dX7_clear_7 h (fun sS2 h => ?_)
  refine z_aload_n C dX7_clear_10 0 rfl ?_
  refine z_iconst C 0 dX7_clear_11 (by decide) ?_
  refine rw_p_X7_49_S_S C dX7_clear_12 h (fun sS3 h => ?_)
  replace h := Option.some.inj h
  subst h
  exact z_vret C O dX7_clear_15 rfl rfl
set_option maxHeartbeats 4000000 in
set_option maxRecDepth 100000 in
theorem kS_firstEventFrom_l2b {x : zX} {G : zG} {qS : Nat → Nat} {sS : zSt} {out : Int32} (C : zC x G RX7 cX7_firstEventFrom 3 (some .int) rmX7_firstEventFrom) (O : zO x G (some (.int out)) (wdS G qS sS) 0 0) {K2 : zSt → Int32 → Int32 → Option (Int32)} (hK2 : ∀  (x1 : Int32) (x2 : Int32), K2 sS x1 x2 = some out → zW x G 0 0 2 [(0, .ref (qS 0)), (1, .int x1), (2, .int x2)] [] (wdS G qS sS))  {x1 : Int32} {x2 : Int32} (h : fS_firstEventFrom_l2b K2 sS x1 x2 = some out) : zW x G 0 0 2 [(0, .ref (qS 0)), (1, .int x1), (2, .int x2)] [] (wdS G qS sS) := by
  unfold fS_firstEventFrom_l2b at h
  refine z_iload_n C dX7_firstEventFrom_2 2 rfl ?_
  refine z_aload_n C dX7_firstEventFrom_3 0 rfl ?_
  refine rw_g_X7_46_S_S C dX7_firstEventFrom_4 ?_
  refine z_icmp_ge C dX7_firstEventFrom_7 26 (by decide) h (fun h => ?_) (fun h => ?_)
  · refine z_iload_n C dX7_firstEventFrom_26 2 rfl ?_
    replace h := Option.some.inj h
    subst h
    exact z_iret C O dX7_firstEventFrom_27 rfl rfl
  · refine z_aload_n C dX7_firstEventFrom_10 0 rfl ?_
    refine rw_g_X7_30_S_S C dX7_firstEventFrom_11 ?_
    refine z_iload_n C dX7_firstEventFrom_14 2 rfl ?_
    refine rw_l_S_S_9 C dX7_firstEventFrom_15 h (fun h => ?_)
    refine z_iload_n C dX7_firstEventFrom_16 1 rfl ?_
    refine z_icmp_ge C dX7_firstEventFrom_17 26 (by decide) h (fun h => ?_) (fun h => ?_)
    · refine z_iload_n C dX7_firstEventFrom_26 2 rfl ?_
      replace h := Option.some.inj h
      subst h
      exact z_iret C O dX7_firstEventFrom_27 rfl rfl
    · refine z_iinc C dX7_firstEventFrom_20 2 rfl 1 (by decide) (by decide) (lvr := [(0, .ref (qS 0)), (1, .int x1)]) rfl h (fun x2_1 h => ?_)
      refine z_goto C dX7_firstEventFrom_23 2 (by decide) ?_
      refine z_perm [1, 2, 0] (lv' := [(0, .ref (qS 0)), (1, .int x1), (2, .int x2_1)]) rfl ?_
      exact hK2   _ _ h
set_option maxHeartbeats 4000000 in
set_option maxRecDepth 100000 in
theorem kS_firstEventFrom_l2 {x : zX} {G : zG} {qS : Nat → Nat} {sS : zSt} {out : Int32} (C : zC x G RX7 cX7_firstEventFrom 3 (some .int) rmX7_firstEventFrom) (O : zO x G (some (.int out)) (wdS G qS sS) 0 0)  : ∀ (n : Nat)  {x1 : Int32} {x2 : Int32}, fS_firstEventFrom_l2  n sS x1 x2 = some out → zW x G 0 0 2 [(0, .ref (qS 0)), (1, .int x1), (2, .int x2)] [] (wdS G qS sS) := by
  intro n
  induction n with
  | zero =>
    intro  x1 x2 h
    have h : (none : Option (Int32)) = some out := h
    cases h
  | succ n ih =>
    intro  x1 x2 h
    exact kS_firstEventFrom_l2b C O (K2 := fun v0 v1 v2 => fS_firstEventFrom_l2  n v0 v1 v2) (fun  x1 x2 h => ih h) h
set_option maxHeartbeats 4000000 in
set_option maxRecDepth 100000 in
theorem cS_firstEventFrom {l : Launch} {G : zG} {qS : Nat → Nat} {sS : zSt} {a0 : Int32} {out : Int32} (h : fS_firstEventFrom sS a0 = some out) : Ct l G yX7_firstEventFrom cX7_firstEventFrom 3 (some .int) rmX7_firstEventFrom [.ref (qS 0), .int a0] (wdS G qS sS) (some (.int out)) (wdS G qS sS) := by
  refine zMet (own := RX7) rfl (by decide) (Nat.le_of_ble_eq_true rfl) (fun x hl C O => ?_)
  show zW x G 0 0 0 [(0, .ref (qS 0)), (1, .int a0)] [] _
  unfold fS_firstEventFrom at h
  refine z_iconst C 0 dX7_firstEventFrom_0 (by decide) ?_
  refine z_istore_n C dX7_firstEventFrom_1 (by decide) (lvr := [(0, .ref (qS 0)), (1, .int a0)]) rfl ?_
  refine z_perm [1, 2, 0] (lv' := [(0, .ref (qS 0)), (1, .int a0), (2, .int 0)]) rfl ?_
  exact kS_firstEventFrom_l2 C O  zF h
set_option maxHeartbeats 4000000 in
set_option maxRecDepth 100000 in
theorem cS_canBeLeftOut {l : Launch} {G : zG} {qS : Nat → Nat} {sS : zSt} {a0 : Int32} {out : Bool} (h : fS_canBeLeftOut sS a0 = some out) : Ct l G yX7_canBeLeftOut cX7_canBeLeftOut 3 (some .boolean) rmX7_canBeLeftOut [.ref (qS 0), .int a0] (wdS G qS sS) (some (.int (zb out))) (wdS G qS sS) := by
  refine zMet (own := RX7) rfl (by decide) (Nat.le_of_ble_eq_true rfl) (fun x hl C O => ?_)
  show zW x G 0 0 0 [(0, .ref (qS 0)), (1, .int a0)] [] _
  unfold fS_canBeLeftOut at h
  refine z_aload_n C dX7_canBeLeftOut_0 0 rfl ?_
  refine rw_g_X7_27_S_S C dX7_canBeLeftOut_1 ?_
  refine z_iload_n C dX7_canBeLeftOut_4 1 rfl ?_
  refine rw_l_S_S_8 C dX7_canBeLeftOut_5 h (fun h => ?_)
  refine z_istore_nN C dX7_canBeLeftOut_6 (by decide) (lvr := [(0, .ref (qS 0)), (1, .int a0)]) rfl h (fun x2_1 h => ?_)
  refine z_iload_n C dX7_canBeLeftOut_7 0 rfl ?_
  refine z_iconst C 2 dX7_canBeLeftOut_8 (by decide) ?_
  refine z_icmp_eq C dX7_canBeLeftOut_9 28 (by decide) h (fun h => ?_) (fun h => ?_)
  · refine z_iconst C 1 dX7_canBeLeftOut_28 (by decide) ?_
    refine z_goto C dX7_canBeLeftOut_29 33 (by decide) ?_
    replace h := Option.some.inj h
    subst h
    exact z_zret C O dX7_canBeLeftOut_33 (zb_nar true) rfl rfl
  · refine z_iload_n C dX7_canBeLeftOut_12 0 rfl ?_
    refine z_iconst C 3 dX7_canBeLeftOut_13 (by decide) ?_
    refine z_icmp_eq C dX7_canBeLeftOut_14 28 (by decide) h (fun h => ?_) (fun h => ?_)
    · refine z_iconst C 1 dX7_canBeLeftOut_28 (by decide) ?_
      refine z_goto C dX7_canBeLeftOut_29 33 (by decide) ?_
      replace h := Option.some.inj h
      subst h
      exact z_zret C O dX7_canBeLeftOut_33 (zb_nar true) rfl rfl
    · refine z_iload_n C dX7_canBeLeftOut_17 0 rfl ?_
      refine z_iconst C 4 dX7_canBeLeftOut_18 (by decide) ?_
      refine z_icmp_eq C dX7_canBeLeftOut_19 28 (by decide) h (fun h => ?_) (fun h => ?_)
      · refine z_iconst C 1 dX7_canBeLeftOut_28 (by decide) ?_
        refine z_goto C dX7_canBeLeftOut_29 33 (by decide) ?_
        replace h := Option.some.inj h
        subst h
        exact z_zret C O dX7_canBeLeftOut_33 (zb_nar true) rfl rfl
      · refine z_iload_n C dX7_canBeLeftOut_22 0 rfl ?_
        refine z_bipush C 6 dX7_canBeLeftOut_23 (by decide) ?_
        refine z_icmp_ne C dX7_canBeLeftOut_25 32 (by decide) h (fun h => ?_) (fun h => ?_)
        · refine z_iconst C 0 dX7_canBeLeftOut_32 (by decide) ?_
          replace h := Option.some.inj h
          subst h
          exact z_zret C O dX7_canBeLeftOut_33 (zb_nar false) rfl rfl
        · refine z_iconst C 1 dX7_canBeLeftOut_28 (by decide) ?_
          refine z_goto C dX7_canBeLeftOut_29 33 (by decide) ?_
          replace h := Option.some.inj h
          subst h
          exact z_zret C O dX7_canBeLeftOut_33 (zb_nar true) rfl rfl
set_option maxHeartbeats 4000000 in
set_option maxRecDepth 100000 in
theorem cS_movesAll {l : Launch} {G : zG} {qS : Nat → Nat} {sS : zSt} {a0 : Int32} {out : Bool} (h : fS_movesAll sS a0 = some out) : Ct l G yX7_movesAll cX7_movesAll 2 (some .boolean) rmX7_movesAll [.ref (qS 0), .int a0] (wdS G qS sS) (some (.int (zb out))) (wdS G qS sS) := by
  refine zMet (own := RX7) rfl (by decide) (Nat.le_of_ble_eq_true rfl) (fun x hl C O => ?_)
  show zW x G 0 0 0 [(0, .ref (qS 0)), (1, .int a0)] [] _
  unfold fS_movesAll at h
  refine z_aload_n C dX7_movesAll_0 0 rfl ?_
  refine rw_g_X7_21_S_S C dX7_movesAll_1 ?_
  refine z_iload_n C dX7_movesAll_4 1 rfl ?_
  refine rw_l_S_S_6 C dX7_movesAll_5 h (fun h => ?_)
  refine z_iconst C 1 dX7_movesAll_6 (by decide) ?_
  refine z_icmp_ne C dX7_movesAll_7 14 (by decide) h (fun h => ?_) (fun h => ?_)
  · refine z_iconst C 0 dX7_movesAll_14 (by decide) ?_
    replace h := Option.some.inj h
    subst h
    exact z_zret C O dX7_movesAll_15 (zb_nar false) rfl rfl
  · refine z_iconst C 1 dX7_movesAll_10 (by decide) ?_
    refine z_goto C dX7_movesAll_11 15 (by decide) ?_
    replace h := Option.some.inj h
    subst h
    exact z_zret C O dX7_movesAll_15 (zb_nar true) rfl rfl
set_option maxHeartbeats 4000000 in
set_option maxRecDepth 100000 in
theorem cS_way {l : Launch} {G : zG} {qS : Nat → Nat} {sS : zSt} {a0 : Int32} {out : Int32} (h : fS_way sS a0 = some out) : Ct l G yX7_way cX7_way 2 (some .int) rmX7_way [.ref (qS 0), .int a0] (wdS G qS sS) (some (.int out)) (wdS G qS sS) := by
  refine zMet (own := RX7) rfl (by decide) (Nat.le_of_ble_eq_true rfl) (fun x hl C O => ?_)
  show zW x G 0 0 0 [(0, .ref (qS 0)), (1, .int a0)] [] _
  unfold fS_way at h
  refine z_aload_n C dX7_way_0 0 rfl ?_
  refine rw_g_X7_27_S_S C dX7_way_1 ?_
  refine z_iload_n C dX7_way_4 1 rfl ?_
  refine rw_l_S_S_8 C dX7_way_5 h (fun h => ?_)
  refine z_if_ne C dX7_way_6 18 (by decide) h (fun h => ?_) (fun h => ?_)
  · refine z_iconst C 4 dX7_way_18 (by decide) ?_
    replace h := Option.some.inj h
    subst h
    exact z_iret C O dX7_way_19 rfl rfl
  · refine z_aload_n C dX7_way_9 0 rfl ?_
    refine rw_g_X7_33_S_S C dX7_way_10 ?_
    refine z_iload_n C dX7_way_13 1 rfl ?_
    refine rw_l_S_S_10 C dX7_way_14 h (fun h => ?_)
    refine z_goto C dX7_way_15 19 (by decide) ?_
    replace h := Option.some.inj h
    subst h
    exact z_iret C O dX7_way_19 rfl rfl
set_option maxHeartbeats 4000000 in
set_option maxRecDepth 100000 in
theorem kS_purseOfComer_b23 {x : zX} {G : zG} {qS : Nat → Nat} {sS : zSt} {out : Int32} (C : zC x G RX7 cX7_purseOfComer 4 (some .int) rmX7_purseOfComer) (O : zO x G (some (.int out)) (wdS G qS sS) 0 0)   {x2 : Int32} {t0 : Int32} (h : fS_purseOfComer_b23  sS x2 t0 = some out) : zW x G 0 0 23 [(0, .ref (qS 0)), (2, .int x2)] [.int t0] (wdS G qS sS) := by
  unfold fS_purseOfComer_b23 at h
  refine z_istore_n C dX7_purseOfComer_23 (by decide) (lvr := [(0, .ref (qS 0)), (2, .int x2)]) rfl ?_
  refine z_iload_n C dX7_purseOfComer_24 0 rfl ?_
  refine z_if_eq C dX7_purseOfComer_25 37 (by decide) h (fun h => ?_) (fun h => ?_)
  · refine z_iconst C 2 dX7_purseOfComer_37 (by decide) ?_
    replace h := Option.some.inj h
    subst h
    exact z_iret C O dX7_purseOfComer_38 rfl rfl
  · refine z_aload_n C dX7_purseOfComer_28 1 rfl ?_
    refine rw_g_X7_36_S_S C dX7_purseOfComer_29 ?_
    refine z_iload_n C dX7_purseOfComer_32 2 rfl ?_
    refine rw_l_S_S_11 C dX7_purseOfComer_33 h (fun h => ?_)
    refine z_goto C dX7_purseOfComer_34 38 (by decide) ?_
    replace h := Option.some.inj h
    subst h
    exact z_iret C O dX7_purseOfComer_38 rfl rfl
set_option maxHeartbeats 4000000 in
set_option maxRecDepth 100000 in
theorem cS_purseOfComer {l : Launch} {G : zG} {qS : Nat → Nat} {sS : zSt} {a0 : Int32} {a1 : Int32} {out : Int32} (h : fS_purseOfComer sS a0 a1 = some out) : Ct l G yX7_purseOfComer cX7_purseOfComer 4 (some .int) rmX7_purseOfComer [.ref (qS 0), .int a0, .int a1] (wdS G qS sS) (some (.int out)) (wdS G qS sS) := by
  refine zMet (own := RX7) rfl (by decide) (Nat.le_of_ble_eq_true rfl) (fun x hl C O => ?_)
  show zW x G 0 0 0 [(0, .ref (qS 0)), (1, .int a0), (2, .int a1)] [] _
  unfold fS_purseOfComer at h
  refine z_aload_n C dX7_purseOfComer_0 0 rfl ?_
  refine rw_g_X7_11_S_S C dX7_purseOfComer_1 ?_
  refine z_iload_n C dX7_purseOfComer_4 1 rfl ?_
  refine z_iconst C 4 dX7_purseOfComer_5 (by decide) ?_
  refine z_imul C dX7_purseOfComer_6 ?_
  refine z_aload_n C dX7_purseOfComer_7 0 rfl ?_
  refine rw_g_X7_33_S_S C dX7_purseOfComer_8 ?_
  refine z_iload_n C dX7_purseOfComer_11 2 rfl ?_
  refine rw_l_S_S_10 C dX7_purseOfComer_12 h (fun h => ?_)
  refine z_iadd C dX7_purseOfComer_13 ?_
  refine rw_l_S_S_3 C dX7_purseOfComer_14 h (fun h => ?_)
  refine z_if_ne C dX7_purseOfComer_15 22 (by decide) h (fun h => ?_) (fun h => ?_)
  · refine z_iconst C 0 dX7_purseOfComer_22 (by decide) ?_
    refine z_perm [0, 2] (lv' := [(0, .ref (qS 0)), (2, .int a1)]) rfl ?_
    exact kS_purseOfComer_b23 C O  h
  · refine z_iconst C 1 dX7_purseOfComer_18 (by decide) ?_
    refine z_goto C dX7_purseOfComer_19 23 (by decide) ?_
    refine z_perm [0, 2] (lv' := [(0, .ref (qS 0)), (2, .int a1)]) rfl ?_
    exact kS_purseOfComer_b23 C O  h
set_option maxHeartbeats 4000000 in
set_option maxRecDepth 100000 in
theorem kS_purseOfPayers_b88 {x : zX} {G : zG} {qS : Nat → Nat} {sS : zSt} {out : Int32} (C : zC x G RX7 cX7_purseOfPayers 8 (some .int) rmX7_purseOfPayers) (O : zO x G (some (.int out)) (wdS G qS sS) 0 0)   {x6 : Int32} {t0 : Int32} (h : fS_purseOfPayers_b88  sS x6 t0 = some out) : zW x G 0 0 88 [(6, .int x6)] [.int t0] (wdS G qS sS) := by
  unfold fS_purseOfPayers_b88 at h
  refine z_istore C dX7_purseOfPayers_88 (by decide) (lvr := [(6, .int x6)]) rfl ?_
  refine z_iload C dX7_purseOfPayers_90 0 rfl ?_
  refine z_if_eq C dX7_purseOfPayers_92 100 (by decide) h (fun h => ?_) (fun h => ?_)
  · refine z_iconst C 2 dX7_purseOfPayers_100 (by decide) ?_
    replace h := Option.some.inj h
    subst h
    exact z_iret C O dX7_purseOfPayers_101 rfl rfl
  · refine z_iload C dX7_purseOfPayers_95 1 rfl ?_
    refine z_goto C dX7_purseOfPayers_97 101 (by decide) ?_
    replace h := Option.some.inj h
    subst h
    exact z_iret C O dX7_purseOfPayers_101 rfl rfl
set_option maxHeartbeats 4000000 in
set_option maxRecDepth 100000 in
theorem kS_purseOfPayers_b50 {x : zX} {G : zG} {qS : Nat → Nat} {sS : zSt} {out : Int32} (C : zC x G RX7 cX7_purseOfPayers 8 (some .int) rmX7_purseOfPayers) (O : zO x G (some (.int out)) (wdS G qS sS) 0 0)   {x1 : Int32} {x3 : Int32} {x4 : Int32} {x5 : Int32} {x6 : Int32} (h : fS_purseOfPayers_b50  sS x1 x3 x4 x5 x6 = some out) : zW x G 0 0 50 [(0, .ref (qS 0)), (1, .int x1), (3, .int x3), (4, .int x4), (5, .int x5), (6, .int x6)] [] (wdS G qS sS) := by
  unfold fS_purseOfPayers_b50 at h
  refine z_aload_n C dX7_purseOfPayers_50 0 rfl ?_
  refine rw_g_X7_15_S_S C dX7_purseOfPayers_51 ?_
  refine z_iload_n C dX7_purseOfPayers_54 1 rfl ?_
  refine rw_l_S_S_4 C dX7_purseOfPayers_55 h (fun h => ?_)
  refine z_if_ne C dX7_purseOfPayers_56 62 (by decide) h (fun h => ?_) (fun h => ?_)
  · refine z_iload_n C dX7_purseOfPayers_62 2 rfl ?_
    refine z_iload C dX7_purseOfPayers_63 3 rfl ?_
    refine rw_math_X7_52 C dX7_purseOfPayers_65 (Nat.le_of_ble_eq_true rfl) (Nat.le_of_ble_eq_true rfl) (Nat.zero_le _) (Nat.zero_le _) ?_
    refine z_iload C dX7_purseOfPayers_68 4 rfl ?_
    refine rw_math_X7_52 C dX7_purseOfPayers_70 (Nat.le_of_ble_eq_true rfl) (Nat.le_of_ble_eq_true rfl) (Nat.zero_le _) (Nat.zero_le _) ?_
    refine z_iload_n C dX7_purseOfPayers_73 2 rfl ?_
    refine z_iload C dX7_purseOfPayers_74 3 rfl ?_
    refine z_iadd C dX7_purseOfPayers_76 ?_
    refine z_iload C dX7_purseOfPayers_77 4 rfl ?_
    refine z_iadd C dX7_purseOfPayers_79 ?_
    refine z_icmp_ne C dX7_purseOfPayers_80 87 (by decide) h (fun h => ?_) (fun h => ?_)
    · refine z_iconst C 0 dX7_purseOfPayers_87 (by decide) ?_
      refine z_perm [5] (lv' := [(6, .int x6)]) rfl ?_
      exact kS_purseOfPayers_b88 C O  h
    · refine z_iconst C 1 dX7_purseOfPayers_83 (by decide) ?_
      refine z_goto C dX7_purseOfPayers_84 88 (by decide) ?_
      refine z_perm [5] (lv' := [(6, .int x6)]) rfl ?_
      exact kS_purseOfPayers_b88 C O  h
  · refine z_iload C dX7_purseOfPayers_59 5 rfl ?_
    replace h := Option.some.inj h
    subst h
    exact z_iret C O dX7_purseOfPayers_61 rfl rfl
set_option maxHeartbeats 4000000 in
set_option maxRecDepth 100000 in
theorem kS_purseOfPayers_b34 {x : zX} {G : zG} {qS : Nat → Nat} {sS : zSt} {out : Int32} (C : zC x G RX7 cX7_purseOfPayers 8 (some .int) rmX7_purseOfPayers) (O : zO x G (some (.int out)) (wdS G qS sS) 0 0)   {x1 : Int32} {x3 : Int32} {x4 : Int32} {x5 : Int32} {t0 : Int32} (h : fS_purseOfPayers_b34  sS x1 x3 x4 x5 t0 = some out) : zW x G 0 0 34 [(0, .ref (qS 0)), (1, .int x1), (3, .int x3), (4, .int x4), (5, .int x5)] [.int t0] (wdS G qS sS) := by
  unfold fS_purseOfPayers_b34 at h
  refine z_istore C dX7_purseOfPayers_34 (by decide) (lvr := [(0, .ref (qS 0)), (1, .int x1), (3, .int x3), (4, .int x4), (5, .int x5)]) rfl ?_
  refine z_iload C dX7_purseOfPayers_36 5 rfl ?_
  refine z_iload_n C dX7_purseOfPayers_38 3 rfl ?_
  refine z_iload C dX7_purseOfPayers_39 4 rfl ?_
  refine rw_math_X7_52 C dX7_purseOfPayers_41 (Nat.le_of_ble_eq_true rfl) (Nat.le_of_ble_eq_true rfl) (Nat.zero_le _) (Nat.zero_le _) ?_
  refine z_icmp_le C dX7_purseOfPayers_44 50 (by decide) h (fun h => ?_) (fun h => ?_)
  · refine z_perm [1, 2, 3, 4, 5, 0] (lv' := [(0, .ref (qS 0)), (1, .int x1), (3, .int x3), (4, .int x4), (5, .int x5), (6, .int t0)]) rfl ?_
    exact kS_purseOfPayers_b50 C O  h
  · refine z_iconst C 2 dX7_purseOfPayers_47 (by decide) ?_
    refine z_istore C dX7_purseOfPayers_48 (by decide) (lvr := [(0, .ref (qS 0)), (1, .int x1), (3, .int x3), (4, .int x4), (5, .int x5)]) rfl ?_
    refine z_perm [1, 2, 3, 4, 5, 0] (lv' := [(0, .ref (qS 0)), (1, .int x1), (3, .int x3), (4, .int x4), (5, .int x5), (6, .int 2)]) rfl ?_
    exact kS_purseOfPayers_b50 C O  h
set_option maxHeartbeats 4000000 in
set_option maxRecDepth 100000 in
theorem cS_purseOfPayers {l : Launch} {G : zG} {qS : Nat → Nat} {sS : zSt} {a0 : Int32} {a1 : Int32} {out : Int32} (h : fS_purseOfPayers sS a0 a1 = some out) : Ct l G yX7_purseOfPayers cX7_purseOfPayers 8 (some .int) rmX7_purseOfPayers [.ref (qS 0), .int a0, .int a1] (wdS G qS sS) (some (.int out)) (wdS G qS sS) := by
  refine zMet (own := RX7) rfl (by decide) (Nat.le_of_ble_eq_true rfl) (fun x hl C O => ?_)
  show zW x G 0 0 0 [(0, .ref (qS 0)), (1, .int a0), (2, .int a1)] [] _
  unfold fS_purseOfPayers at h
  refine z_aload_n C dX7_purseOfPayers_0 0 rfl ?_
  refine rw_g_X7_33_S_S C dX7_purseOfPayers_1 ?_
  refine z_iload_n C dX7_purseOfPayers_4 2 rfl ?_
  refine rw_l_S_S_10 C dX7_purseOfPayers_5 h (fun h => ?_)
  refine z_istore_nN C dX7_purseOfPayers_6 (by decide) (lvr := [(0, .ref (qS 0)), (1, .int a0), (2, .int a1)]) rfl h (fun x3_1 h => ?_)
  refine z_aload_n C dX7_purseOfPayers_7 1 rfl ?_
  refine rw_g_X7_36_S_S C dX7_purseOfPayers_8 ?_
  refine z_iload_n C dX7_purseOfPayers_11 3 rfl ?_
  refine rw_l_S_S_11 C dX7_purseOfPayers_12 h (fun h => ?_)
  refine z_istoreN C dX7_purseOfPayers_13 (by decide) (lvr := [(3, .int x3_1), (0, .ref (qS 0)), (1, .int a0), (2, .int a1)]) rfl h (fun x4_2 h => ?_)
  refine z_aload_n C dX7_purseOfPayers_15 2 rfl ?_
  refine rw_g_X7_39_S_S C dX7_purseOfPayers_16 ?_
  refine z_iload_n C dX7_purseOfPayers_19 4 rfl ?_
  refine rw_l_S_S_12 C dX7_purseOfPayers_20 h (fun h => ?_)
  refine z_istoreN C dX7_purseOfPayers_21 (by decide) (lvr := [(4, .int x4_2), (3, .int x3_1), (0, .ref (qS 0)), (1, .int a0), (2, .int a1)]) rfl h (fun x5_3 h => ?_)
  refine z_iload_n C dX7_purseOfPayers_23 2 rfl ?_
  refine z_iload C dX7_purseOfPayers_24 1 rfl ?_
  refine z_icmp_lt C dX7_purseOfPayers_26 33 (by decide) h (fun h => ?_) (fun h => ?_)
  · refine z_iconst C 1 dX7_purseOfPayers_33 (by decide) ?_
    refine z_perm [3, 4, 2, 1, 0] (lv' := [(0, .ref (qS 0)), (1, .int a0), (3, .int x3_1), (4, .int x4_2), (5, .int x5_3)]) rfl ?_
    exact kS_purseOfPayers_b34 C O  h
  · refine z_iconst C 0 dX7_purseOfPayers_29 (by decide) ?_
    refine z_goto C dX7_purseOfPayers_30 34 (by decide) ?_
    refine z_perm [3, 4, 2, 1, 0] (lv' := [(0, .ref (qS 0)), (1, .int a0), (3, .int x3_1), (4, .int x4_2), (5, .int x5_3)]) rfl ?_
    exact kS_purseOfPayers_b34 C O  h
set_option maxHeartbeats 4000000 in
set_option maxRecDepth 100000 in
theorem cT_clear {l : Launch} {G : zG} {qT : Nat → Nat} {sT : zSt}  {out : zSt} (h : fT_clear sT  = some out) : Ct l G yX10_clear cX10_clear 1 none rmX10_clear [.ref (qT 0)] (wdT G qT sT) none (wdT G qT out) := by
  refine zMet (own := RX10) rfl (by decide) (Nat.le_of_ble_eq_true rfl) (fun x hl C O => ?_)
  show zW x G 0 0 0 [(0, .ref (qT 0))] [] _
  unfold fT_clear at h
  refine z_aload_n C dX10_clear_0 0 rfl ?_
  refine z_iconst C 0 dX10_clear_1 (by decide) ?_
  refine rw_p_X10_13_T_T C dX10_clear_2 h (fun sT1 h => ?_)
  replace h := Option.some.inj h
  subst h
  exact z_vret C O dX10_clear_5 rfl rfl
set_option maxHeartbeats 4000000 in
set_option maxRecDepth 100000 in
theorem cT_leave {l : Launch} {G : zG} {qT : Nat → Nat} {sT : zSt} {a0 : Int32} {out : zSt} (h : fT_leave sT a0 = some out) : Ct l G yX10_leave cX10_leave 2 none rmX10_leave [.ref (qT 0), .int a0] (wdT G qT sT) none (wdT G qT out) := by
  refine zMet (own := RX10) rfl (by decide) (Nat.le_of_ble_eq_true rfl) (fun x hl C O => ?_)
  show zW x G 0 0 0 [(0, .ref (qT 0)), (1, .int a0)] [] _
  unfold fT_leave at h
  refine z_aload_n C dX10_leave_0 0 rfl ?_
  refine rw_g_X10_13_T_T C dX10_leave_1 ?_
  refine z_bipush C 16 dX10_leave_4 (by decide) ?_
  refine z_icmp_ge C dX10_leave_6 29 (by decide) h (fun h => ?_) (fun h => ?_)
  · replace h := Option.some.inj h
    subst h
    exact z_vret C O dX10_leave_29 rfl rfl
  · refine z_aload_n C dX10_leave_9 0 rfl ?_
    refine rw_g_X10_9_T_T C dX10_leave_10 ?_
    refine z_aload_n C dX10_leave_13 0 rfl ?_
    refine rw_g_X10_13_T_T C dX10_leave_14 ?_
    refine z_iload_n C dX10_leave_17 1 rfl ?_
    refine rw_s_T_T_0 C dX10_leave_18 h (fun sT1 h => ?_)
    refine z_aload_n C dX10_leave_19 0 rfl ?_
    refine z_dup C dX10_leave_20 rfl ?_
    refine rw_g_X10_13_T_T C dX10_leave_21 ?_
    refine z_iconst C 1 dX10_leave_24 (by decide) ?_
    refine z_iadd C dX10_leave_25 ?_
    refine rw_p_X10_13_T_T C dX10_leave_26 h (fun sT2 h => ?_)
    replace h := Option.some.inj h
    subst h
    exact z_vret C O dX10_leave_29 rfl rfl

def tv_size (ci : Nat) (sC sT : zSt) (n : Int32) : Option (Int64 × zSt) := if ci = 5 then tX5_size_X5 sC sT n else if ci = 3 then tX3_size_X3 sC sT n else if ci = 0 then tX0_size_X0 sC sT n else if ci = 1 then tX1_size_X1 sC sT n else if ci = 4 then tX1_size_X4 sC sT n else none
def tv_mark (ci : Nat) (sC sT : zSt) (n : Int32) : Option (Int64 × zSt) := if ci = 5 then tX5_mark_X5 sC sT n else if ci = 3 then tX5_mark_X3 sC sT n else if ci = 0 then tX0_mark_X0 sC sT n else if ci = 1 then tX9_mark_X1 sC sT n else if ci = 4 then tX4_mark_X4 sC sT n else none
theorem rw_u_834 : Cond.code yX2_isFedByAnother cX2_isFedByAnother 3 (some .boolean) ∈ zU := zm 834 (by decide +kernel) rfl
theorem rw_u_831 : Cond.methodLink RX11 312 yX2_isFedByAnother ∈ zU := zm 831 (by decide +kernel) rfl
theorem rw_u_832 : Cond.instanceMethod yX2_isFedByAnother ∈ zU := zm 832 (by decide +kernel) rfl
theorem rw_u_833 : Cond.selects RX2 yX2_isFedByAnother yX2_isFedByAnother ∈ zU := zm 833 (by decide +kernel) rfl
theorem rw_u_228 : Cond.fieldLink RX11 318 "WhatWasHers$Course" "firstPurse" "[I" ∈ zU := zm 228 (by decide +kernel) rfl
theorem rw_u_859 : Cond.instantiable RX3 3 ∈ zU := zm 859 (by decide +kernel) rfl
theorem rw_u_860 : Cond.methodLink RX11 326 yX3_init ∈ zU := zm 860 (by decide +kernel) rfl
theorem rw_u_846 : Cond.instantiable RX0 3 ∈ zU := zm 846 (by decide +kernel) rfl
theorem rw_u_849 : Cond.code yX0_init cX0_init 4 none ∈ zU := zm 849 (by decide +kernel) rfl
theorem rw_u_847 : Cond.methodLink RX11 323 yX0_init ∈ zU := zm 847 (by decide +kernel) rfl
theorem rw_u_848 : Cond.instanceMethod yX0_init ∈ zU := zm 848 (by decide +kernel) rfl
theorem rw_u_836 : Cond.instantiable RX5 3 ∈ zU := zm 836 (by decide +kernel) rfl
theorem rw_u_837 : Cond.methodLink RX11 317 yX5_init ∈ zU := zm 837 (by decide +kernel) rfl
theorem rw_u_825 : Cond.instantiable RX1 3 ∈ zU := zm 825 (by decide +kernel) rfl
theorem rw_u_826 : Cond.methodLink RX11 311 yX1_init ∈ zU := zm 826 (by decide +kernel) rfl
theorem rw_u_785 : Cond.instantiable RX4 3 ∈ zU := zm 785 (by decide +kernel) rfl
theorem rw_u_87 : Cond.initialized RX4 ∈ zU := zm 87 (by decide +kernel) rfl
theorem rw_u_788 : Cond.code yX4_init cX4_init 4 none ∈ zU := zm 788 (by decide +kernel) rfl
theorem rw_u_786 : Cond.methodLink RX11 306 yX4_init ∈ zU := zm 786 (by decide +kernel) rfl
theorem rw_u_787 : Cond.instanceMethod yX4_init ∈ zU := zm 787 (by decide +kernel) rfl
theorem rw_u_783 : Cond.code yX11_toldThing cX11_toldThing 4 (some (.object "WhatWasHers$Thing")) ∈ zU := zm 783 (by decide +kernel) rfl
theorem rw_u_780 : Cond.methodLink RX11 271 yX11_toldThing ∈ zU := zm 780 (by decide +kernel) rfl
theorem rw_u_782 : Cond.instanceMethod yX11_toldThing ∈ zU := zm 782 (by decide +kernel) rfl
theorem rw_u_31 : Cond.selects RX11 yX11_toldThing yX11_toldThing ∈ zU := zm 31 (by decide +kernel) rfl
theorem rw_u_867 : Cond.code yX11_isOfKind cX11_isOfKind 2 (some .boolean) ∈ zU := zm 867 (by decide +kernel) rfl
theorem rw_u_865 : Cond.methodLink RX11 275 yX11_isOfKind ∈ zU := zm 865 (by decide +kernel) rfl
theorem rw_u_866 : Cond.static yX11_isOfKind ∈ zU := zm 866 (by decide +kernel) rfl
theorem rw_u_879 : Cond.code yX10_clear cX10_clear 1 none ∈ zU := zm 879 (by decide +kernel) rfl
theorem rw_u_876 : Cond.methodLink RX11 279 yX10_clear ∈ zU := zm 876 (by decide +kernel) rfl
theorem rw_u_877 : Cond.instanceMethod yX10_clear ∈ zU := zm 877 (by decide +kernel) rfl
theorem rw_u_878 : Cond.selects RX10 yX10_clear yX10_clear ∈ zU := zm 878 (by decide +kernel) rfl
theorem rw_u_1439 : Cond.selects RX5 ⟨"WhatWasHers$Thing", "mark", "()J"⟩ yX5_mark ∈ zU := zm 1439 (by decide +kernel) rfl
theorem rw_u_927 : Cond.methodLink RX11 287 ⟨"WhatWasHers$Thing", "mark", "()J"⟩ ∈ zU := zm 927 (by decide +kernel) rfl
theorem rw_u_1437 : Cond.selects RX3 ⟨"WhatWasHers$Thing", "mark", "()J"⟩ yX5_mark ∈ zU := zm 1437 (by decide +kernel) rfl
theorem rw_u_1435 : Cond.selects RX0 ⟨"WhatWasHers$Thing", "mark", "()J"⟩ yX0_mark ∈ zU := zm 1435 (by decide +kernel) rfl
theorem rw_u_1436 : Cond.selects RX1 ⟨"WhatWasHers$Thing", "mark", "()J"⟩ yX9_mark ∈ zU := zm 1436 (by decide +kernel) rfl
theorem rw_u_1438 : Cond.selects RX4 ⟨"WhatWasHers$Thing", "mark", "()J"⟩ yX4_mark ∈ zU := zm 1438 (by decide +kernel) rfl
theorem rw_u_929 : Cond.code yX4_mark cX4_mark 1 (some .long) ∈ zU := zm 929 (by decide +kernel) rfl
theorem rw_u_928 : Cond.instanceMethod yX4_mark ∈ zU := zm 928 (by decide +kernel) rfl
theorem rw_u_925 : Cond.selects RX5 ⟨"WhatWasHers$Thing", "size", "()J"⟩ yX5_size ∈ zU := zm 925 (by decide +kernel) rfl
theorem rw_u_880 : Cond.methodLink RX11 282 ⟨"WhatWasHers$Thing", "size", "()J"⟩ ∈ zU := zm 880 (by decide +kernel) rfl
theorem rw_u_923 : Cond.selects RX3 ⟨"WhatWasHers$Thing", "size", "()J"⟩ yX3_size ∈ zU := zm 923 (by decide +kernel) rfl
theorem rw_u_883 : Cond.selects RX0 ⟨"WhatWasHers$Thing", "size", "()J"⟩ yX0_size ∈ zU := zm 883 (by decide +kernel) rfl
theorem rw_u_885 : Cond.code yX0_size cX0_size 1 (some .long) ∈ zU := zm 885 (by decide +kernel) rfl
theorem rw_u_884 : Cond.instanceMethod yX0_size ∈ zU := zm 884 (by decide +kernel) rfl
theorem rw_u_917 : Cond.selects RX1 ⟨"WhatWasHers$Thing", "size", "()J"⟩ yX1_size ∈ zU := zm 917 (by decide +kernel) rfl
theorem rw_u_924 : Cond.selects RX4 ⟨"WhatWasHers$Thing", "size", "()J"⟩ yX1_size ∈ zU := zm 924 (by decide +kernel) rfl
/-! WhatWasHers.toldThing(I)LWhatWasHers$Thing; -/
abbrev rmX11_toldThing : Room := { frames := 5, cells := 1, slots := 3, locals := 104 }
def fX_toldThing_b127  (sX : zSt) (sS : zSt) (sC : zSt) (sT : zSt) (t0 : Int32) : Option (Nat) :=
  if t0 = 0 then (some 3) else (some 0)
def fX_toldThing_b40  (sX : zSt) (sS : zSt) (sC : zSt) (sT : zSt) (t0 : Int32) : Option (Nat) :=
  if t0 = 0 then (some 1) else (some 4)
def fX_toldThing (sX : zSt) (sS : zSt) (sC : zSt) (sT : zSt) (a0 : Int32) : Option (Nat) :=
  zg (zix a0 10) <| zn ((zA sC 8 a0.toNatClampNeg) : Int32) fun x2_1 => if x2_1 = 2 then (zg (zix a0 10) <| Option.bind (fS_way sS (zA sC 5 a0.toNatClampNeg)) fun y6 => if y6 = 4 then (fX_toldThing_b40  sX sS sC sT 1) else (fX_toldThing_b40  sX sS sC sT 0)) else (Option.bind (fC_isFedByAnother sC a0) fun y2 => if y2 = true then (zg (zix a0 10) <| if (zA sC 7 a0.toNatClampNeg) = x2_1 then (fX_toldThing_b127  sX sS sC sT 0) else (fX_toldThing_b127  sX sS sC sT 1)) else (some 5))
/-! WhatWasHers.kind(I)J -/
abbrev rmX11_kind : Room := { frames := 6, cells := 1, slots := 3, locals := 127 }
def fX_kind_l20b (K20 : zSt → zSt → zSt → zSt → Int32 → Nat → Option (Int64)) (sX : zSt) (sS : zSt) (sC : zSt) (sT : zSt) (x3 : Int32) (ty : Nat) : Option (Int64) :=
  if x3 ≤ 0 then (some (0)) else (zg (zth ty) <| if (fX_isOfKind ty x3) = true then (some ((x3.toInt64))) else (zn (x3 + (-1) : Int32) fun x3_4 => K20 sX sS sC sT x3_4 ty))
def fX_kind_l20  : Nat → zSt → zSt → zSt → zSt → Int32 → Nat → Option (Int64)
  | 0, _, _, _, _, _, _ => none
  | n + 1, v0, v1, v2, v3, v4, v5 => fX_kind_l20b  (fun v0 v1 v2 v3 v4 v5 => fX_kind_l20  n v0 v1 v2 v3 v4 v5) v0 v1 v2 v3 v4 v5
def fX_kind (sX : zSt) (sS : zSt) (sC : zSt) (sT : zSt) (a0 : Int32) : Option (Int64) :=
  Option.bind (fX_isNoThing sX sC a0) fun y1 => if y1 = true then (some ((-9000000000000000001))) else (Option.bind (fX_toldThing sX sS sC sT a0) fun y2 => fX_kind_l20  zF sX sS sC sT 5 y2)
/-! WhatWasHers.as(II)J -/
abbrev rmX11_as : Room := { frames := 6, cells := 1, slots := 3, locals := 127 }
def fX_as (sX : zSt) (sS : zSt) (sC : zSt) (sT : zSt) (a0 : Int32) (a1 : Int32) : Option (Int64 × zSt) :=
  Option.bind (fX_isNoThing sX sC a0) fun y1 => if y1 = true then (some ((-9000000000000000001), sX)) else (if a1 < 0 then (some ((-9000000000000000001), sX)) else (if a1 < 6 then (Option.bind (fX_toldThing sX sS sC sT a0) fun y2 => zg (zth y2) <| if (fX_isOfKind y2 a1) = true then (Option.bind (fX_fine sX (a0.toInt64)) fun y5 => some (y5.1, y5.2)) else (Option.bind (fX_found sX 3) fun y4 => some (y4.1, y4.2))) else (some ((-9000000000000000001), sX))))
/-! WhatWasHers.ask(II)J -/
abbrev rmX11_ask : Room := { frames := 7, cells := 1, slots := 3, locals := 141 }
def fX_ask (sX : zSt) (sS : zSt) (sC : zSt) (sT : zSt) (a0 : Int32) (a1 : Int32) : Option (Int64 × zSt) :=
  Option.bind (fX_isNoThing sX sC a0) fun y1 => if y1 = true then (some ((-9000000000000000001), sT)) else (if a1 < 0 then (some ((-9000000000000000001), sT)) else (if a1 ≤ 1 then (Option.bind (fT_clear sT) fun y2 => Option.bind (fX_toldThing sX sS sC y2 a0) fun y3 => if a1 = 0 then (Option.bind (tv_size y3 sC y2 a0) fun y6 => some (y6.1, y6.2)) else (Option.bind (tv_mark y3 sC y2 a0) fun y5 => some (y5.1, y5.2))) else (some ((-9000000000000000001), sT))))
theorem rw_g_X11_39_XSCT_X {x : zX} {G : zG} {ce sl pc : Nat} {lv : List (Nat × Value)} {st : List Value} {cc : ByteArray} {nL : Nat} {ret : Option FieldType} {rm : Room} {qX qS qC qT kR kS kP kC kU kD kV kT : Nat → Nat} {rC : Nat} {sX sS sC sT : zSt} (C : zC x G RX11 cc nL ret rm) (hd : decode cc pc = .ok (.getfield 39, 3)) (K : zW x G ce sl (pc + 3) lv (.ref (kC 0) :: st) (wdX G qX kR kS kP kC kU kD kV kT sX ++ (wdS G qS sS ++ (wdC G qC rC sC ++ (wdT G qT sT))))) : zW x G ce sl pc lv (.ref (qX 0) :: st) (wdX G qX kR kS kP kC kU kD kV kT sX ++ (wdS G qS sS ++ (wdC G qC rC sC ++ (wdT G qT sT)))) := z_get C (Cn := RX11) (T := TX11) (N := 14) (ci := 10) (k := 9) inzX11 rfl (by decide) rw_u_362 (fun _ h => h) 0 rfl rfl hd K
theorem rw_g_X11_161_XSCT_C {x : zX} {G : zG} {ce sl pc : Nat} {lv : List (Nat × Value)} {st : List Value} {cc : ByteArray} {nL : Nat} {ret : Option FieldType} {rm : Room} {qX qS qC qT kR kS kP kC kU kD kV kT : Nat → Nat} {rC : Nat} {sX sS sC sT : zSt} (C : zC x G RX11 cc nL ret rm) (hd : decode cc pc = .ok (.getfield 161, 3)) (K : zW x G ce sl (pc + 3) lv (.ref (qC 9) :: st) (wdX G qX kR kS kP kC kU kD kV kT sX ++ (wdS G qS sS ++ (wdC G qC rC sC ++ (wdT G qT sT))))) : zW x G ce sl pc lv (.ref (qC 0) :: st) (wdX G qX kR kS kP kC kU kD kV kT sX ++ (wdS G qS sS ++ (wdC G qC rC sC ++ (wdT G qT sT)))) := z_get C (Cn := RX2) (T := TX2) (N := 18) (ci := 2) (k := 8) inzX2 rfl (by decide) rw_u_232 (fun _ h => h) 15 rfl rfl hd K
theorem rw_l_XSCT_C_8 {x : zX} {G : zG} {ce sl pc : Nat} {lv : List (Nat × Value)} {st : List Value} {cc : ByteArray} {nL : Nat} {ret : Option FieldType} {rm : Room} {own : String} {qX qS qC qT kR kS kP kC kU kD kV kT : Nat → Nat} {rC : Nat} {sX sS sC sT : zSt} {i : Int32} {α : Type} {o : α} {kk : Option α} (C : zC x G own cc nL ret rm) (hd : decode cc pc = .ok (.iaload, 1)) (h : zg (zix i 10) kk = some o) (K : kk = some o → zW x G ce sl (pc + 1) lv (.int (zA sC 8 i.toNatClampNeg) :: st) (wdX G qX kR kS kP kC kU kD kV kT sX ++ (wdS G qS sS ++ (wdC G qC rC sC ++ (wdT G qT sT))))) : zW x G ce sl pc lv (.int i :: .ref (qC 9) :: st) (wdX G qX kR kS kP kC kU kD kV kT sX ++ (wdS G qS sS ++ (wdC G qC rC sC ++ (wdT G qT sT)))) := z_iald C 21 rfl hd h K
theorem rw_c_X11_312 {x : zX} {G : zG} {ce sl pc : Nat} {lv : List (Nat × Value)} {cc : ByteArray} {nL : Nat} {ret : Option FieldType} {rm : Room} {w w1 : va_W} {rest : List Value} {r : Option Value} {a0 : Int32} {b : Nat} {fs : List Value} (C : zC x G RX11 cc nL ret rm) (hc : Ct (xl x) G yX2_isFedByAnother cX2_isFedByAnother 3 (some .boolean) rmX2_isFedByAnother [.ref b, .int a0] w r w1) (q0 : Nat) (he : w[q0]? = some (b, .inr (2, fs))) (hd : decode cc pc = .ok (.invokevirtual 312, 3)) (hcat : (rest.map fun v => v.category).sum ≤ 8) (hrm : zRm rm rmX2_isFedByAnother 3 ce sl) (K : zW x G (ce + rmX2_isFedByAnother.cells) (sl + rmX2_isFedByAnother.slots) (pc + 3) lv (r.toList ++ rest) w1) : zW x G ce sl pc lv (.int a0 :: .ref b :: rest) w := z_callV C 1 rw_u_834 rw_u_74 rw_u_831 rw_u_832 rw_u_833 ⟨by decide, by decide, by decide +kernel⟩ (T := TX2) (N := 18) rfl hc rfl q0 he hd hcat hrm K
theorem rw_g_X11_318_XSCT_C {x : zX} {G : zG} {ce sl pc : Nat} {lv : List (Nat × Value)} {st : List Value} {cc : ByteArray} {nL : Nat} {ret : Option FieldType} {rm : Room} {qX qS qC qT kR kS kP kC kU kD kV kT : Nat → Nat} {rC : Nat} {sX sS sC sT : zSt} (C : zC x G RX11 cc nL ret rm) (hd : decode cc pc = .ok (.getfield 318, 3)) (K : zW x G ce sl (pc + 3) lv (.ref (qC 8) :: st) (wdX G qX kR kS kP kC kU kD kV kT sX ++ (wdS G qS sS ++ (wdC G qC rC sC ++ (wdT G qT sT))))) : zW x G ce sl pc lv (.ref (qC 0) :: st) (wdX G qX kR kS kP kC kU kD kV kT sX ++ (wdS G qS sS ++ (wdC G qC rC sC ++ (wdT G qT sT)))) := z_get C (Cn := RX2) (T := TX2) (N := 18) (ci := 2) (k := 7) inzX2 rfl (by decide) rw_u_228 (fun _ h => h) 15 rfl rfl hd K
theorem rw_l_XSCT_C_7 {x : zX} {G : zG} {ce sl pc : Nat} {lv : List (Nat × Value)} {st : List Value} {cc : ByteArray} {nL : Nat} {ret : Option FieldType} {rm : Room} {own : String} {qX qS qC qT kR kS kP kC kU kD kV kT : Nat → Nat} {rC : Nat} {sX sS sC sT : zSt} {i : Int32} {α : Type} {o : α} {kk : Option α} (C : zC x G own cc nL ret rm) (hd : decode cc pc = .ok (.iaload, 1)) (h : zg (zix i 10) kk = some o) (K : kk = some o → zW x G ce sl (pc + 1) lv (.int (zA sC 7 i.toNatClampNeg) :: st) (wdX G qX kR kS kP kC kU kD kV kT sX ++ (wdS G qS sS ++ (wdC G qC rC sC ++ (wdT G qT sT))))) : zW x G ce sl pc lv (.int i :: .ref (qC 8) :: st) (wdX G qX kR kS kP kC kU kD kV kT sX ++ (wdS G qS sS ++ (wdC G qC rC sC ++ (wdT G qT sT)))) := z_iald C 20 rfl hd h K
theorem rw_g_X11_29_XSCT_X {x : zX} {G : zG} {ce sl pc : Nat} {lv : List (Nat × Value)} {st : List Value} {cc : ByteArray} {nL : Nat} {ret : Option FieldType} {rm : Room} {qX qS qC qT kR kS kP kC kU kD kV kT : Nat → Nat} {rC : Nat} {sX sS sC sT : zSt} (C : zC x G RX11 cc nL ret rm) (hd : decode cc pc = .ok (.getfield 29, 3)) (K : zW x G ce sl (pc + 3) lv (.ref (kS 0) :: st) (wdX G qX kR kS kP kC kU kD kV kT sX ++ (wdS G qS sS ++ (wdC G qC rC sC ++ (wdT G qT sT))))) : zW x G ce sl pc lv (.ref (qX 0) :: st) (wdX G qX kR kS kP kC kU kD kV kT sX ++ (wdS G qS sS ++ (wdC G qC rC sC ++ (wdT G qT sT)))) := z_get C (Cn := RX11) (T := TX11) (N := 14) (ci := 10) (k := 7) inzX11 rfl (by decide) rw_u_360 (fun _ h => h) 0 rfl rfl hd K
theorem rw_g_X11_169_XSCT_C {x : zX} {G : zG} {ce sl pc : Nat} {lv : List (Nat × Value)} {st : List Value} {cc : ByteArray} {nL : Nat} {ret : Option FieldType} {rm : Room} {qX qS qC qT kR kS kP kC kU kD kV kT : Nat → Nat} {rC : Nat} {sX sS sC sT : zSt} (C : zC x G RX11 cc nL ret rm) (hd : decode cc pc = .ok (.getfield 169, 3)) (K : zW x G ce sl (pc + 3) lv (.ref (qC 6) :: st) (wdX G qX kR kS kP kC kU kD kV kT sX ++ (wdS G qS sS ++ (wdC G qC rC sC ++ (wdT G qT sT))))) : zW x G ce sl pc lv (.ref (qC 0) :: st) (wdX G qX kR kS kP kC kU kD kV kT sX ++ (wdS G qS sS ++ (wdC G qC rC sC ++ (wdT G qT sT)))) := z_get C (Cn := RX2) (T := TX2) (N := 18) (ci := 2) (k := 5) inzX2 rfl (by decide) rw_u_224 (fun _ h => h) 15 rfl rfl hd K
theorem rw_l_XSCT_C_5 {x : zX} {G : zG} {ce sl pc : Nat} {lv : List (Nat × Value)} {st : List Value} {cc : ByteArray} {nL : Nat} {ret : Option FieldType} {rm : Room} {own : String} {qX qS qC qT kR kS kP kC kU kD kV kT : Nat → Nat} {rC : Nat} {sX sS sC sT : zSt} {i : Int32} {α : Type} {o : α} {kk : Option α} (C : zC x G own cc nL ret rm) (hd : decode cc pc = .ok (.iaload, 1)) (h : zg (zix i 10) kk = some o) (K : kk = some o → zW x G ce sl (pc + 1) lv (.int (zA sC 5 i.toNatClampNeg) :: st) (wdX G qX kR kS kP kC kU kD kV kT sX ++ (wdS G qS sS ++ (wdC G qC rC sC ++ (wdT G qT sT))))) : zW x G ce sl pc lv (.int i :: .ref (qC 6) :: st) (wdX G qX kR kS kP kC kU kD kV kT sX ++ (wdS G qS sS ++ (wdC G qC rC sC ++ (wdT G qT sT)))) := z_iald C 18 rfl hd h K
theorem rw_c_X11_271 {x : zX} {G : zG} {ce sl pc : Nat} {lv : List (Nat × Value)} {cc : ByteArray} {nL : Nat} {ret : Option FieldType} {rm : Room} {w : va_W} {w1 : Nat → va_W} {rest : List Value} {a0 : Int32} {b : Nat} {fs : List Value} (C : zC x G RX11 cc nL ret rm) (hc : Ctr (xl x) G yX11_toldThing cX11_toldThing 4 (some (.object "WhatWasHers$Thing")) rmX11_toldThing [.ref b, .int a0] w (fun z : Nat => some (.ref z)) w1) (q0 : Nat) (he : w[q0]? = some (b, .inr (10, fs))) (hd : decode cc pc = .ok (.invokevirtual 271, 3)) (hcat : (rest.map fun v => v.category).sum ≤ 8) (hrm : zRm rm rmX11_toldThing 4 ce sl) (K : ∀ z : Nat, zW x G (ce + rmX11_toldThing.cells) (sl + rmX11_toldThing.slots) (pc + 3) lv (.ref z :: rest) (w1 z)) : zW x G ce sl pc lv (.int a0 :: .ref b :: rest) w := z_callV1 C 1 rw_u_783 rw_u_71 rw_u_780 rw_u_782 rw_u_31 ⟨by decide, by decide, by decide +kernel⟩ (T := TX11) (N := 14) rfl hc rfl q0 he hd hcat hrm K
theorem rw_c_X11_275 {x : zX} {G : zG} {ce sl pc : Nat} {lv : List (Nat × Value)} {cc : ByteArray} {nL : Nat} {ret : Option FieldType} {rm : Room} {w w1 : va_W} {rest : List Value} {r : Option Value} {a0 : Nat} {a1 : Int32} (C : zC x G RX11 cc nL ret rm) (hc : Ct (xl x) G yX11_isOfKind cX11_isOfKind 2 (some .boolean) rmX11_isOfKind [.ref a0, .int a1] w r w1) (hd : decode cc pc = .ok (.invokestatic 275, 3)) (hcat : (rest.map fun v => v.category).sum ≤ 8) (hrm : zRm rm rmX11_isOfKind 2 ce sl) (K : zW x G (ce + rmX11_isOfKind.cells) (sl + rmX11_isOfKind.slots) (pc + 3) lv (r.toList ++ rest) w1) : zW x G ce sl pc lv (.int a1 :: .ref a0 :: rest) w := z_callS C 2 rw_u_867 rw_u_71 rw_u_865 rw_u_866 ⟨by decide, by decide, by decide +kernel⟩ hc rfl hd hcat hrm K
theorem rw_g_X11_59_XSCT_X {x : zX} {G : zG} {ce sl pc : Nat} {lv : List (Nat × Value)} {st : List Value} {cc : ByteArray} {nL : Nat} {ret : Option FieldType} {rm : Room} {qX qS qC qT kR kS kP kC kU kD kV kT : Nat → Nat} {rC : Nat} {sX sS sC sT : zSt} (C : zC x G RX11 cc nL ret rm) (hd : decode cc pc = .ok (.getfield 59, 3)) (K : zW x G ce sl (pc + 3) lv (.ref (kT 0) :: st) (wdX G qX kR kS kP kC kU kD kV kT sX ++ (wdS G qS sS ++ (wdC G qC rC sC ++ (wdT G qT sT))))) : zW x G ce sl pc lv (.ref (qX 0) :: st) (wdX G qX kR kS kP kC kU kD kV kT sX ++ (wdS G qS sS ++ (wdC G qC rC sC ++ (wdT G qT sT)))) := z_get C (Cn := RX11) (T := TX11) (N := 14) (ci := 10) (k := 13) inzX11 rfl (by decide) rw_u_366 (fun _ h => h) 0 rfl rfl hd K
theorem rw_c_X11_279 {x : zX} {G : zG} {ce sl pc : Nat} {lv : List (Nat × Value)} {cc : ByteArray} {nL : Nat} {ret : Option FieldType} {rm : Room} {w w1 : va_W} {rest : List Value} {r : Option Value}  {b : Nat} {fs : List Value} (C : zC x G RX11 cc nL ret rm) (hc : Ct (xl x) G yX10_clear cX10_clear 1 none rmX10_clear [.ref b] w r w1) (q0 : Nat) (he : w[q0]? = some (b, .inr (9, fs))) (hd : decode cc pc = .ok (.invokevirtual 279, 3)) (hcat : (rest.map fun v => v.category).sum ≤ 8) (hrm : zRm rm rmX10_clear 1 ce sl) (K : zW x G (ce + rmX10_clear.cells) (sl + rmX10_clear.slots) (pc + 3) lv (r.toList ++ rest) w1) : zW x G ce sl pc lv (.ref b :: rest) w := z_callV C 0 rw_u_879 rw_u_76 rw_u_876 rw_u_877 rw_u_878 ⟨by decide, by decide, by decide +kernel⟩ (T := TX10) (N := 2) rfl hc rfl q0 he hd hcat hrm K
set_option maxHeartbeats 4000000 in
set_option maxRecDepth 100000 in
theorem rw_vc_mark {x : zX} {G : zG} {pc : Nat} {lv : List (Nat × Value)} {qX qR qS qP qC qU qD qV qT : Nat → Nat} {rC o ci : Nat} {sX sS sC sT : zSt} {n : Int32} {y : Int64 × zSt} (C : zC x G RX11 cX11_ask 4 (some .long) rmX11_ask) (h : tv_mark ci sC sT n = some y) (hd : decode cX11_ask pc = .ok (.invokevirtual 287, 3)) (K : zW x G 1 3 (pc + 3) lv [.long y.1] ((wdX G qX qR qS qP qC qU qD qV qT sX ++ (wdS G qS sS ++ (wdC G qC rC sC ++ (wdT G qT y.2)))) ++ [(o, .inr (ci, [.int n, .ref (qC 0), .ref (qT 0)]))])) : zW x G 1 3 pc lv [.ref o] ((wdX G qX qR qS qP qC qU qD qV qT sX ++ (wdS G qS sS ++ (wdC G qC rC sC ++ (wdT G qT sT)))) ++ [(o, .inr (ci, [.int n, .ref (qC 0), .ref (qT 0)]))]) := by
  unfold tv_mark at h
  by_cases h0 : ci = 5
  · subst h0
    have h : tX5_mark_X5 sC sT n = some y := h
    refine z_callU C 0 (As := []) (rest := []) (x0 := ⟨"WhatWasHers$Thing", "mark", "()J"⟩) (owner := "WhatWasHers$Thing") rw_u_911 rw_u_88 rw_u_927 rw_u_1434 rw_u_913 rw_u_914 rw_u_900 rw_u_1439 ⟨by decide, by decide, by decide +kernel⟩ (T := TX5) (N := 3) rfl (Ct.frame (ctX5_mark_X5 h) (w := (wdX G qX qR qS qP qC qU qD qV qT sX ++ (wdS G qS sS ++ (wdC G qC rC sC ++ (wdT G qT sT)))) ++ [(o, .inr (5, [.int n, .ref (qC 0), .ref (qT 0)]))]) (w' := (wdX G qX qR qS qP qC qU qD qV qT sX ++ (wdS G qS sS ++ (wdC G qC rC sC ++ (wdT G qT y.2)))) ++ [(o, .inr (5, [.int n, .ref (qC 0), .ref (qT 0)]))]) (wr := wdX G qX qR qS qP qC qU qD qV qT sX ++ (wdS G qS sS)) [32, 15, 16, 17, 18, 19, 20, 21, 22, 23, 24, 25, 26, 27, 28, 29, 30, 31] [0, 1, 2, 3, 4, 5, 6, 7, 8, 9, 10, 11, 12, 13, 14] [0, 1, 2, 3, 4, 5, 6, 7, 8, 9, 10, 11, 12, 13, 14, 16, 17, 18, 19, 20, 21, 22, 23, 24, 25, 26, 27, 28, 29, 30, 31, 32, 15] rfl rfl rfl rfl (by decide) rfl rfl) rfl 32 rfl hd (Nat.le_of_ble_eq_true rfl) (zrm rfl) ?_
    exact K
  rw [if_neg h0] at h
  by_cases h1 : ci = 3
  · subst h1
    have h : tX5_mark_X3 sC sT n = some y := h
    refine z_callU C 0 (As := []) (rest := []) (x0 := ⟨"WhatWasHers$Thing", "mark", "()J"⟩) (owner := "WhatWasHers$Thing") rw_u_911 rw_u_88 rw_u_927 rw_u_1434 rw_u_913 rw_u_914 rw_u_900 rw_u_1437 ⟨by decide, by decide, by decide +kernel⟩ (T := TX3) (N := 3) rfl (Ct.frame (ctX5_mark_X3 h) (w := (wdX G qX qR qS qP qC qU qD qV qT sX ++ (wdS G qS sS ++ (wdC G qC rC sC ++ (wdT G qT sT)))) ++ [(o, .inr (3, [.int n, .ref (qC 0), .ref (qT 0)]))]) (w' := (wdX G qX qR qS qP qC qU qD qV qT sX ++ (wdS G qS sS ++ (wdC G qC rC sC ++ (wdT G qT y.2)))) ++ [(o, .inr (3, [.int n, .ref (qC 0), .ref (qT 0)]))]) (wr := wdX G qX qR qS qP qC qU qD qV qT sX ++ (wdS G qS sS)) [32, 15, 16, 17, 18, 19, 20, 21, 22, 23, 24, 25, 26, 27, 28, 29, 30, 31] [0, 1, 2, 3, 4, 5, 6, 7, 8, 9, 10, 11, 12, 13, 14] [0, 1, 2, 3, 4, 5, 6, 7, 8, 9, 10, 11, 12, 13, 14, 16, 17, 18, 19, 20, 21, 22, 23, 24, 25, 26, 27, 28, 29, 30, 31, 32, 15] rfl rfl rfl rfl (by decide) rfl rfl) rfl 32 rfl hd (Nat.le_of_ble_eq_true rfl) (zrm rfl) ?_
    exact K
  rw [if_neg h1] at h
  by_cases h2 : ci = 0
  · subst h2
    have h : tX0_mark_X0 sC sT n = some y := h
    refine z_callU C 0 (As := []) (rest := []) (x0 := ⟨"WhatWasHers$Thing", "mark", "()J"⟩) (owner := "WhatWasHers$Thing") rw_u_905 rw_u_90 rw_u_927 rw_u_1434 rw_u_913 rw_u_914 rw_u_904 rw_u_1435 ⟨by decide, by decide, by decide +kernel⟩ (T := TX0) (N := 3) rfl (Ct.frame (ctX0_mark_X0 h) (w := (wdX G qX qR qS qP qC qU qD qV qT sX ++ (wdS G qS sS ++ (wdC G qC rC sC ++ (wdT G qT sT)))) ++ [(o, .inr (0, [.int n, .ref (qC 0), .ref (qT 0)]))]) (w' := (wdX G qX qR qS qP qC qU qD qV qT sX ++ (wdS G qS sS ++ (wdC G qC rC sC ++ (wdT G qT y.2)))) ++ [(o, .inr (0, [.int n, .ref (qC 0), .ref (qT 0)]))]) (wr := wdX G qX qR qS qP qC qU qD qV qT sX ++ (wdS G qS sS)) [32, 15, 16, 17, 18, 19, 20, 21, 22, 23, 24, 25, 26, 27, 28, 29, 30, 31] [0, 1, 2, 3, 4, 5, 6, 7, 8, 9, 10, 11, 12, 13, 14] [0, 1, 2, 3, 4, 5, 6, 7, 8, 9, 10, 11, 12, 13, 14, 16, 17, 18, 19, 20, 21, 22, 23, 24, 25, 26, 27, 28, 29, 30, 31, 32, 15] rfl rfl rfl rfl (by decide) rfl rfl) rfl 32 rfl hd (Nat.le_of_ble_eq_true rfl) (zrm rfl) ?_
    exact K
  rw [if_neg h2] at h
  by_cases h3 : ci = 1
  · subst h3
    have h : tX9_mark_X1 sC sT n = some y := h
    refine z_callU C 0 (As := []) (rest := []) (x0 := ⟨"WhatWasHers$Thing", "mark", "()J"⟩) (owner := "WhatWasHers$Thing") rw_u_914 rw_u_85 rw_u_927 rw_u_1434 rw_u_913 rw_u_914 rw_u_913 rw_u_1436 ⟨by decide, by decide, by decide +kernel⟩ (T := TX1) (N := 3) rfl (Ct.frame (ctX9_mark_X1 h) (w := (wdX G qX qR qS qP qC qU qD qV qT sX ++ (wdS G qS sS ++ (wdC G qC rC sC ++ (wdT G qT sT)))) ++ [(o, .inr (1, [.int n, .ref (qC 0), .ref (qT 0)]))]) (w' := (wdX G qX qR qS qP qC qU qD qV qT sX ++ (wdS G qS sS ++ (wdC G qC rC sC ++ (wdT G qT y.2)))) ++ [(o, .inr (1, [.int n, .ref (qC 0), .ref (qT 0)]))]) (wr := wdX G qX qR qS qP qC qU qD qV qT sX ++ (wdS G qS sS)) [32, 15, 16, 17, 18, 19, 20, 21, 22, 23, 24, 25, 26, 27, 28, 29, 30, 31] [0, 1, 2, 3, 4, 5, 6, 7, 8, 9, 10, 11, 12, 13, 14] [0, 1, 2, 3, 4, 5, 6, 7, 8, 9, 10, 11, 12, 13, 14, 16, 17, 18, 19, 20, 21, 22, 23, 24, 25, 26, 27, 28, 29, 30, 31, 32, 15] rfl rfl rfl rfl (by decide) rfl rfl) rfl 32 rfl hd (Nat.le_of_ble_eq_true rfl) (zrm rfl) ?_
    exact K
  rw [if_neg h3] at h
  by_cases h4 : ci = 4
  · subst h4
    have h : tX4_mark_X4 sC sT n = some y := h
    refine z_callU C 0 (As := []) (rest := []) (x0 := ⟨"WhatWasHers$Thing", "mark", "()J"⟩) (owner := "WhatWasHers$Thing") rw_u_929 rw_u_87 rw_u_927 rw_u_1434 rw_u_913 rw_u_914 rw_u_928 rw_u_1438 ⟨by decide, by decide, by decide +kernel⟩ (T := TX4) (N := 3) rfl (Ct.frame (ctX4_mark_X4 h) (w := (wdX G qX qR qS qP qC qU qD qV qT sX ++ (wdS G qS sS ++ (wdC G qC rC sC ++ (wdT G qT sT)))) ++ [(o, .inr (4, [.int n, .ref (qC 0), .ref (qT 0)]))]) (w' := (wdX G qX qR qS qP qC qU qD qV qT sX ++ (wdS G qS sS ++ (wdC G qC rC sC ++ (wdT G qT y.2)))) ++ [(o, .inr (4, [.int n, .ref (qC 0), .ref (qT 0)]))]) (wr := wdX G qX qR qS qP qC qU qD qV qT sX ++ (wdS G qS sS)) [32, 15, 16, 17, 18, 19, 20, 21, 22, 23, 24, 25, 26, 27, 28, 29, 30, 31] [0, 1, 2, 3, 4, 5, 6, 7, 8, 9, 10, 11, 12, 13, 14] [0, 1, 2, 3, 4, 5, 6, 7, 8, 9, 10, 11, 12, 13, 14, 16, 17, 18, 19, 20, 21, 22, 23, 24, 25, 26, 27, 28, 29, 30, 31, 32, 15] rfl rfl rfl rfl (by decide) rfl rfl) rfl 32 rfl hd (Nat.le_of_ble_eq_true rfl) (zrm rfl) ?_
    exact K
  rw [if_neg h4] at h
  cases h
set_option maxHeartbeats 4000000 in
set_option maxRecDepth 100000 in
theorem rw_vc_size {x : zX} {G : zG} {pc : Nat} {lv : List (Nat × Value)} {qX qR qS qP qC qU qD qV qT : Nat → Nat} {rC o ci : Nat} {sX sS sC sT : zSt} {n : Int32} {y : Int64 × zSt} (C : zC x G RX11 cX11_ask 4 (some .long) rmX11_ask) (h : tv_size ci sC sT n = some y) (hd : decode cX11_ask pc = .ok (.invokevirtual 282, 3)) (K : zW x G 1 3 (pc + 3) lv [.long y.1] ((wdX G qX qR qS qP qC qU qD qV qT sX ++ (wdS G qS sS ++ (wdC G qC rC sC ++ (wdT G qT y.2)))) ++ [(o, .inr (ci, [.int n, .ref (qC 0), .ref (qT 0)]))])) : zW x G 1 3 pc lv [.ref o] ((wdX G qX qR qS qP qC qU qD qV qT sX ++ (wdS G qS sS ++ (wdC G qC rC sC ++ (wdT G qT sT)))) ++ [(o, .inr (ci, [.int n, .ref (qC 0), .ref (qT 0)]))]) := by
  unfold tv_size at h
  by_cases h0 : ci = 5
  · subst h0
    have h : tX5_size_X5 sC sT n = some y := h
    refine z_callU C 0 (As := []) (rest := []) (x0 := ⟨"WhatWasHers$Thing", "size", "()J"⟩) (owner := "WhatWasHers$Thing") rw_u_896 rw_u_88 rw_u_880 rw_u_882 rw_u_881 rw_u_926 rw_u_895 rw_u_925 ⟨by decide, by decide, by decide +kernel⟩ (T := TX5) (N := 3) rfl (Ct.frame (ctX5_size_X5 h) (w := (wdX G qX qR qS qP qC qU qD qV qT sX ++ (wdS G qS sS ++ (wdC G qC rC sC ++ (wdT G qT sT)))) ++ [(o, .inr (5, [.int n, .ref (qC 0), .ref (qT 0)]))]) (w' := (wdX G qX qR qS qP qC qU qD qV qT sX ++ (wdS G qS sS ++ (wdC G qC rC sC ++ (wdT G qT y.2)))) ++ [(o, .inr (5, [.int n, .ref (qC 0), .ref (qT 0)]))]) (wr := wdX G qX qR qS qP qC qU qD qV qT sX ++ (wdS G qS sS)) [32, 15, 16, 17, 18, 19, 20, 21, 22, 23, 24, 25, 26, 27, 28, 29, 30, 31] [0, 1, 2, 3, 4, 5, 6, 7, 8, 9, 10, 11, 12, 13, 14] [0, 1, 2, 3, 4, 5, 6, 7, 8, 9, 10, 11, 12, 13, 14, 16, 17, 18, 19, 20, 21, 22, 23, 24, 25, 26, 27, 28, 29, 30, 31, 32, 15] rfl rfl rfl rfl (by decide) rfl rfl) rfl 32 rfl hd (Nat.le_of_ble_eq_true rfl) (zrm rfl) ?_
    exact K
  rw [if_neg h0] at h
  by_cases h1 : ci = 3
  · subst h1
    have h : tX3_size_X3 sC sT n = some y := h
    refine z_callU C 0 (As := []) (rest := []) (x0 := ⟨"WhatWasHers$Thing", "size", "()J"⟩) (owner := "WhatWasHers$Thing") rw_u_892 rw_u_89 rw_u_880 rw_u_882 rw_u_881 rw_u_926 rw_u_891 rw_u_923 ⟨by decide, by decide, by decide +kernel⟩ (T := TX3) (N := 3) rfl (Ct.frame (ctX3_size_X3 h) (w := (wdX G qX qR qS qP qC qU qD qV qT sX ++ (wdS G qS sS ++ (wdC G qC rC sC ++ (wdT G qT sT)))) ++ [(o, .inr (3, [.int n, .ref (qC 0), .ref (qT 0)]))]) (w' := (wdX G qX qR qS qP qC qU qD qV qT sX ++ (wdS G qS sS ++ (wdC G qC rC sC ++ (wdT G qT y.2)))) ++ [(o, .inr (3, [.int n, .ref (qC 0), .ref (qT 0)]))]) (wr := wdX G qX qR qS qP qC qU qD qV qT sX ++ (wdS G qS sS)) [32, 15, 16, 17, 18, 19, 20, 21, 22, 23, 24, 25, 26, 27, 28, 29, 30, 31] [0, 1, 2, 3, 4, 5, 6, 7, 8, 9, 10, 11, 12, 13, 14] [0, 1, 2, 3, 4, 5, 6, 7, 8, 9, 10, 11, 12, 13, 14, 16, 17, 18, 19, 20, 21, 22, 23, 24, 25, 26, 27, 28, 29, 30, 31, 32, 15] rfl rfl rfl rfl (by decide) rfl rfl) rfl 32 rfl hd (Nat.le_of_ble_eq_true rfl) (zrm rfl) ?_
    exact K
  rw [if_neg h1] at h
  by_cases h2 : ci = 0
  · subst h2
    have h : tX0_size_X0 sC sT n = some y := h
    refine z_callU C 0 (As := []) (rest := []) (x0 := ⟨"WhatWasHers$Thing", "size", "()J"⟩) (owner := "WhatWasHers$Thing") rw_u_885 rw_u_90 rw_u_880 rw_u_882 rw_u_881 rw_u_926 rw_u_884 rw_u_883 ⟨by decide, by decide, by decide +kernel⟩ (T := TX0) (N := 3) rfl (Ct.frame (ctX0_size_X0 h) (w := (wdX G qX qR qS qP qC qU qD qV qT sX ++ (wdS G qS sS ++ (wdC G qC rC sC ++ (wdT G qT sT)))) ++ [(o, .inr (0, [.int n, .ref (qC 0), .ref (qT 0)]))]) (w' := (wdX G qX qR qS qP qC qU qD qV qT sX ++ (wdS G qS sS ++ (wdC G qC rC sC ++ (wdT G qT y.2)))) ++ [(o, .inr (0, [.int n, .ref (qC 0), .ref (qT 0)]))]) (wr := wdX G qX qR qS qP qC qU qD qV qT sX ++ (wdS G qS sS)) [32, 15, 16, 17, 18, 19, 20, 21, 22, 23, 24, 25, 26, 27, 28, 29, 30, 31] [0, 1, 2, 3, 4, 5, 6, 7, 8, 9, 10, 11, 12, 13, 14] [0, 1, 2, 3, 4, 5, 6, 7, 8, 9, 10, 11, 12, 13, 14, 16, 17, 18, 19, 20, 21, 22, 23, 24, 25, 26, 27, 28, 29, 30, 31, 32, 15] rfl rfl rfl rfl (by decide) rfl rfl) rfl 32 rfl hd (Nat.le_of_ble_eq_true rfl) (zrm rfl) ?_
    exact K
  rw [if_neg h2] at h
  by_cases h3 : ci = 1
  · subst h3
    have h : tX1_size_X1 sC sT n = some y := h
    refine z_callU C 0 (As := []) (rest := []) (x0 := ⟨"WhatWasHers$Thing", "size", "()J"⟩) (owner := "WhatWasHers$Thing") rw_u_919 rw_u_86 rw_u_880 rw_u_882 rw_u_881 rw_u_926 rw_u_918 rw_u_917 ⟨by decide, by decide, by decide +kernel⟩ (T := TX1) (N := 3) rfl (Ct.frame (ctX1_size_X1 h) (w := (wdX G qX qR qS qP qC qU qD qV qT sX ++ (wdS G qS sS ++ (wdC G qC rC sC ++ (wdT G qT sT)))) ++ [(o, .inr (1, [.int n, .ref (qC 0), .ref (qT 0)]))]) (w' := (wdX G qX qR qS qP qC qU qD qV qT sX ++ (wdS G qS sS ++ (wdC G qC rC sC ++ (wdT G qT y.2)))) ++ [(o, .inr (1, [.int n, .ref (qC 0), .ref (qT 0)]))]) (wr := wdX G qX qR qS qP qC qU qD qV qT sX ++ (wdS G qS sS)) [32, 15, 16, 17, 18, 19, 20, 21, 22, 23, 24, 25, 26, 27, 28, 29, 30, 31] [0, 1, 2, 3, 4, 5, 6, 7, 8, 9, 10, 11, 12, 13, 14] [0, 1, 2, 3, 4, 5, 6, 7, 8, 9, 10, 11, 12, 13, 14, 16, 17, 18, 19, 20, 21, 22, 23, 24, 25, 26, 27, 28, 29, 30, 31, 32, 15] rfl rfl rfl rfl (by decide) rfl rfl) rfl 32 rfl hd (Nat.le_of_ble_eq_true rfl) (zrm rfl) ?_
    exact K
  rw [if_neg h3] at h
  by_cases h4 : ci = 4
  · subst h4
    have h : tX1_size_X4 sC sT n = some y := h
    refine z_callU C 0 (As := []) (rest := []) (x0 := ⟨"WhatWasHers$Thing", "size", "()J"⟩) (owner := "WhatWasHers$Thing") rw_u_919 rw_u_86 rw_u_880 rw_u_882 rw_u_881 rw_u_926 rw_u_918 rw_u_924 ⟨by decide, by decide, by decide +kernel⟩ (T := TX4) (N := 3) rfl (Ct.frame (ctX1_size_X4 h) (w := (wdX G qX qR qS qP qC qU qD qV qT sX ++ (wdS G qS sS ++ (wdC G qC rC sC ++ (wdT G qT sT)))) ++ [(o, .inr (4, [.int n, .ref (qC 0), .ref (qT 0)]))]) (w' := (wdX G qX qR qS qP qC qU qD qV qT sX ++ (wdS G qS sS ++ (wdC G qC rC sC ++ (wdT G qT y.2)))) ++ [(o, .inr (4, [.int n, .ref (qC 0), .ref (qT 0)]))]) (wr := wdX G qX qR qS qP qC qU qD qV qT sX ++ (wdS G qS sS)) [32, 15, 16, 17, 18, 19, 20, 21, 22, 23, 24, 25, 26, 27, 28, 29, 30, 31] [0, 1, 2, 3, 4, 5, 6, 7, 8, 9, 10, 11, 12, 13, 14] [0, 1, 2, 3, 4, 5, 6, 7, 8, 9, 10, 11, 12, 13, 14, 16, 17, 18, 19, 20, 21, 22, 23, 24, 25, 26, 27, 28, 29, 30, 31, 32, 15] rfl rfl rfl rfl (by decide) rfl rfl) rfl 32 rfl hd (Nat.le_of_ble_eq_true rfl) (zrm rfl) ?_
    exact K
  rw [if_neg h4] at h
  cases h
set_option maxHeartbeats 4000000 in
set_option maxRecDepth 100000 in
theorem kX_toldThing_b127 {x : zX} {G : zG} {qX qR qS qP qC qU qD qV qT : Nat → Nat} {rC : Nat} {a0 : Int32} {sX : zSt} {sS : zSt} {sC : zSt} {sT : zSt} {out : Nat} (C : zC x G RX11 cX11_toldThing 4 (some (.object "WhatWasHers$Thing")) rmX11_toldThing) (O : zOr x G (fun z : Nat => some (.ref z)) (fun z : Nat => (wdX G qX qR qS qP qC qU qD qV qT sX ++ (wdS G qS sS ++ (wdC G qC rC sC ++ (wdT G qT sT)))) ++ [(z, .inr (out, [.int a0, .ref (qC 0), .ref (qT 0)]))]) 1 3)   {t0 : Int32} (h : fX_toldThing_b127  sX sS sC sT t0 = some out) : zW x G 0 0 127 [(0, .ref (qX 0)), (1, .int a0)] [.int t0] (wdX G qX qR qS qP qC qU qD qV qT sX ++ (wdS G qS sS ++ (wdC G qC rC sC ++ (wdT G qT sT)))) := by
  unfold fX_toldThing_b127 at h
  refine z_istore_n C dX11_toldThing_127 (by decide) (lvr := [(0, .ref (qX 0)), (1, .int a0)]) rfl ?_
  refine z_iload_n C dX11_toldThing_128 0 rfl ?_
  refine z_if_eq C dX11_toldThing_129 151 (by decide) h (fun h => ?_) (fun h => ?_)
  · refine z_new C (ci := 3) inzX3 tyX3 tyX3_ok rw_u_858 rw_u_859 rw_u_89 rfl [.int 0, .null, .null] (by intro j hj; match j, hj with | 0, _ => rfl | 1, _ => rfl | 2, _ => rfl | j + 3, hj => exact absurd hj (by omega)) (Nat.le_of_ble_eq_true rfl) (Nat.le_of_ble_eq_true rfl) dX11_toldThing_151 (fun b3 => ?_)
    refine z_dup C dX11_toldThing_154 rfl ?_
    refine z_iload_n C dX11_toldThing_155 2 rfl ?_
    refine z_aload_n C dX11_toldThing_156 1 rfl ?_
    refine z_get C (Cn := RX11) (T := TX11) (N := 14) (ci := 10) (k := 9) inzX11 rfl (by decide) rw_u_362 (fun _ h => h) 0 rfl rfl dX11_toldThing_157 ?_
    refine z_aload_n C dX11_toldThing_160 1 rfl ?_
    refine z_get C (Cn := RX11) (T := TX11) (N := 14) (ci := 10) (k := 13) inzX11 rfl (by decide) rw_u_366 (fun _ h => h) 0 rfl rfl dX11_toldThing_161 ?_
    refine z_callI C 3 (As := [.int a0, .ref (qC 0), .ref (qT 0)]) (rest := [.ref b3]) rw_u_852 rw_u_89 rw_u_860 rw_u_851 rfl ⟨by decide, by decide, by decide +kernel⟩ (Ctr.app ctX3_init_X3 (wdX G qX qR qS qP qC qU qD qV qT sX ++ (wdS G qS sS ++ (wdC G qC rC sC ++ (wdT G qT sT))))) rfl dX11_toldThing_164 (Nat.le_of_ble_eq_true rfl) (zrm rfl) (fun _ => ?_)
    replace h := Option.some.inj h
    subst h
    exact z_aret1 C O (Or.inl ⟨_, rfl⟩) dX11_toldThing_167 b3 rfl rfl
  · refine z_new C (ci := 0) inzX0 tyX0 tyX0_ok rw_u_845 rw_u_846 rw_u_90 rfl [.int 0, .null, .null] (by intro j hj; match j, hj with | 0, _ => rfl | 1, _ => rfl | 2, _ => rfl | j + 3, hj => exact absurd hj (by omega)) (Nat.le_of_ble_eq_true rfl) (Nat.le_of_ble_eq_true rfl) dX11_toldThing_132 (fun b4 => ?_)
    refine z_dup C dX11_toldThing_135 rfl ?_
    refine z_iload_n C dX11_toldThing_136 2 rfl ?_
    refine z_aload_n C dX11_toldThing_137 1 rfl ?_
    refine z_get C (Cn := RX11) (T := TX11) (N := 14) (ci := 10) (k := 9) inzX11 rfl (by decide) rw_u_362 (fun _ h => h) 0 rfl rfl dX11_toldThing_138 ?_
    refine z_aload_n C dX11_toldThing_141 1 rfl ?_
    refine z_get C (Cn := RX11) (T := TX11) (N := 14) (ci := 10) (k := 13) inzX11 rfl (by decide) rw_u_366 (fun _ h => h) 0 rfl rfl dX11_toldThing_142 ?_
    refine z_callI C 3 (As := [.int a0, .ref (qC 0), .ref (qT 0)]) (rest := [.ref b4]) rw_u_849 rw_u_90 rw_u_847 rw_u_848 rfl ⟨by decide, by decide, by decide +kernel⟩ (Ctr.app ctX0_init_X0 (wdX G qX qR qS qP qC qU qD qV qT sX ++ (wdS G qS sS ++ (wdC G qC rC sC ++ (wdT G qT sT))))) rfl dX11_toldThing_145 (Nat.le_of_ble_eq_true rfl) (zrm rfl) (fun _ => ?_)
    refine z_goto C dX11_toldThing_148 167 (by decide) ?_
    replace h := Option.some.inj h
    subst h
    exact z_aret1 C O (Or.inl ⟨_, rfl⟩) dX11_toldThing_167 b4 rfl rfl
set_option maxHeartbeats 4000000 in
set_option maxRecDepth 100000 in
theorem kX_toldThing_b40 {x : zX} {G : zG} {qX qR qS qP qC qU qD qV qT : Nat → Nat} {rC : Nat} {a0 : Int32} {sX : zSt} {sS : zSt} {sC : zSt} {sT : zSt} {out : Nat} (C : zC x G RX11 cX11_toldThing 4 (some (.object "WhatWasHers$Thing")) rmX11_toldThing) (O : zOr x G (fun z : Nat => some (.ref z)) (fun z : Nat => (wdX G qX qR qS qP qC qU qD qV qT sX ++ (wdS G qS sS ++ (wdC G qC rC sC ++ (wdT G qT sT)))) ++ [(z, .inr (out, [.int a0, .ref (qC 0), .ref (qT 0)]))]) 1 3)   {t0 : Int32} (h : fX_toldThing_b40  sX sS sC sT t0 = some out) : zW x G 0 0 40 [(0, .ref (qX 0)), (1, .int a0)] [.int t0] (wdX G qX qR qS qP qC qU qD qV qT sX ++ (wdS G qS sS ++ (wdC G qC rC sC ++ (wdT G qT sT)))) := by
  unfold fX_toldThing_b40 at h
  refine z_istore_n C dX11_toldThing_40 (by decide) (lvr := [(0, .ref (qX 0)), (1, .int a0)]) rfl ?_
  refine z_iload_n C dX11_toldThing_41 0 rfl ?_
  refine z_if_eq C dX11_toldThing_42 64 (by decide) h (fun h => ?_) (fun h => ?_)
  · refine z_new C (ci := 1) inzX1 tyX1 tyX1_ok rw_u_824 rw_u_825 rw_u_86 rfl [.int 0, .null, .null] (by intro j hj; match j, hj with | 0, _ => rfl | 1, _ => rfl | 2, _ => rfl | j + 3, hj => exact absurd hj (by omega)) (Nat.le_of_ble_eq_true rfl) (Nat.le_of_ble_eq_true rfl) dX11_toldThing_64 (fun b7 => ?_)
    refine z_dup C dX11_toldThing_67 rfl ?_
    refine z_iload_n C dX11_toldThing_68 2 rfl ?_
    refine z_aload_n C dX11_toldThing_69 1 rfl ?_
    refine z_get C (Cn := RX11) (T := TX11) (N := 14) (ci := 10) (k := 9) inzX11 rfl (by decide) rw_u_362 (fun _ h => h) 0 rfl rfl dX11_toldThing_70 ?_
    refine z_aload_n C dX11_toldThing_73 1 rfl ?_
    refine z_get C (Cn := RX11) (T := TX11) (N := 14) (ci := 10) (k := 13) inzX11 rfl (by decide) rw_u_366 (fun _ h => h) 0 rfl rfl dX11_toldThing_74 ?_
    refine z_callI C 3 (As := [.int a0, .ref (qC 0), .ref (qT 0)]) (rest := [.ref b7]) rw_u_791 rw_u_86 rw_u_826 rw_u_790 rfl ⟨by decide, by decide, by decide +kernel⟩ (Ctr.app ctX1_init_X1 (wdX G qX qR qS qP qC qU qD qV qT sX ++ (wdS G qS sS ++ (wdC G qC rC sC ++ (wdT G qT sT))))) rfl dX11_toldThing_77 (Nat.le_of_ble_eq_true rfl) (zrm rfl) (fun _ => ?_)
    replace h := Option.some.inj h
    subst h
    exact z_aret1 C O (Or.inl ⟨_, rfl⟩) dX11_toldThing_80 b7 rfl rfl
  · refine z_new C (ci := 4) inzX4 tyX4 tyX4_ok rw_u_784 rw_u_785 rw_u_87 rfl [.int 0, .null, .null] (by intro j hj; match j, hj with | 0, _ => rfl | 1, _ => rfl | 2, _ => rfl | j + 3, hj => exact absurd hj (by omega)) (Nat.le_of_ble_eq_true rfl) (Nat.le_of_ble_eq_true rfl) dX11_toldThing_45 (fun b8 => ?_)
    refine z_dup C dX11_toldThing_48 rfl ?_
    refine z_iload_n C dX11_toldThing_49 2 rfl ?_
    refine z_aload_n C dX11_toldThing_50 1 rfl ?_
    refine z_get C (Cn := RX11) (T := TX11) (N := 14) (ci := 10) (k := 9) inzX11 rfl (by decide) rw_u_362 (fun _ h => h) 0 rfl rfl dX11_toldThing_51 ?_
    refine z_aload_n C dX11_toldThing_54 1 rfl ?_
    refine z_get C (Cn := RX11) (T := TX11) (N := 14) (ci := 10) (k := 13) inzX11 rfl (by decide) rw_u_366 (fun _ h => h) 0 rfl rfl dX11_toldThing_55 ?_
    refine z_callI C 3 (As := [.int a0, .ref (qC 0), .ref (qT 0)]) (rest := [.ref b8]) rw_u_788 rw_u_87 rw_u_786 rw_u_787 rfl ⟨by decide, by decide, by decide +kernel⟩ (Ctr.app ctX4_init_X4 (wdX G qX qR qS qP qC qU qD qV qT sX ++ (wdS G qS sS ++ (wdC G qC rC sC ++ (wdT G qT sT))))) rfl dX11_toldThing_58 (Nat.le_of_ble_eq_true rfl) (zrm rfl) (fun _ => ?_)
    refine z_goto C dX11_toldThing_61 80 (by decide) ?_
    replace h := Option.some.inj h
    subst h
    exact z_aret1 C O (Or.inl ⟨_, rfl⟩) dX11_toldThing_80 b8 rfl rfl
set_option maxHeartbeats 4000000 in
set_option maxRecDepth 100000 in
theorem cX_toldThing {l : Launch} {G : zG} {qX qR qS qP qC qU qD qV qT : Nat → Nat} {rC : Nat} {sX : zSt} {sS : zSt} {sC : zSt} {sT : zSt} {a0 : Int32} {out : Nat} (h : fX_toldThing sX sS sC sT a0 = some out) : Ctr l G yX11_toldThing cX11_toldThing 4 (some (.object "WhatWasHers$Thing")) rmX11_toldThing [.ref (qX 0), .int a0] (wdX G qX qR qS qP qC qU qD qV qT sX ++ (wdS G qS sS ++ (wdC G qC rC sC ++ (wdT G qT sT)))) (fun z : Nat => some (.ref z)) (fun z : Nat => (wdX G qX qR qS qP qC qU qD qV qT sX ++ (wdS G qS sS ++ (wdC G qC rC sC ++ (wdT G qT sT)))) ++ [(z, .inr (out, [.int a0, .ref (qC 0), .ref (qT 0)]))]) := by
  refine zMetr (own := RX11) rfl (by decide) (Nat.le_of_ble_eq_true rfl) (fun x hl C hnm O => ?_)
  show zW x G 0 0 0 [(0, .ref (qX 0)), (1, .int a0)] [] _
  unfold fX_toldThing at h
  refine z_aload_n C dX11_toldThing_0 0 rfl ?_
  refine rw_g_X11_39_XSCT_X C dX11_toldThing_1 ?_
  refine rw_g_X11_161_XSCT_C C dX11_toldThing_4 ?_
  refine z_iload_n C dX11_toldThing_7 1 rfl ?_
  refine rw_l_XSCT_C_8 C dX11_toldThing_8 h (fun h => ?_)
  refine z_istore_nN C dX11_toldThing_9 (by decide) (lvr := [(0, .ref (qX 0)), (1, .int a0)]) rfl h (fun x2_1 h => ?_)
  refine z_iload_n C dX11_toldThing_10 0 rfl ?_
  refine z_iconst C 2 dX11_toldThing_11 (by decide) ?_
  refine z_icmp_ne C dX11_toldThing_12 81 (by decide) h (fun h => ?_) (fun h => ?_)
  · refine z_aload_n C dX11_toldThing_81 1 rfl ?_
    refine rw_g_X11_39_XSCT_X C dX11_toldThing_82 ?_
    refine z_iload_n C dX11_toldThing_85 2 rfl ?_
    obtain ⟨y2, hy2, h⟩ := bind_o h
    refine rw_c_X11_312 C (Ct.frame (cC_isFedByAnother hy2) (w := wdX G qX qR qS qP qC qU qD qV qT sX ++ (wdS G qS sS ++ (wdC G qC rC sC ++ (wdT G qT sT)))) (w' := wdX G qX qR qS qP qC qU qD qV qT sX ++ (wdS G qS sS ++ (wdC G qC rC sC ++ (wdT G qT sT)))) (wr := wdX G qX qR qS qP qC qU qD qV qT sX ++ (wdS G qS sS ++ (wdT G qT sT))) [15, 16, 17, 18, 19, 20, 21, 22, 23, 24, 25, 26, 27, 28, 29] [0, 1, 2, 3, 4, 5, 6, 7, 8, 9, 10, 11, 12, 13, 14, 30, 31] [0, 1, 2, 3, 4, 5, 6, 7, 8, 9, 10, 11, 12, 13, 14, 17, 18, 19, 20, 21, 22, 23, 24, 25, 26, 27, 28, 29, 30, 31, 15, 16] rfl rfl rfl rfl (by decide) rfl rfl) 15 rfl dX11_toldThing_86 (Nat.le_of_ble_eq_true rfl) (zrm rfl) ?_
    refine z_ifb_ne C dX11_toldThing_89 109 (by decide) h (fun h => ?_) (fun h => ?_)
    · refine z_aload_n C dX11_toldThing_109 1 rfl ?_
      refine rw_g_X11_39_XSCT_X C dX11_toldThing_110 ?_
      refine rw_g_X11_318_XSCT_C C dX11_toldThing_113 ?_
      refine z_iload_n C dX11_toldThing_116 2 rfl ?_
      refine rw_l_XSCT_C_7 C dX11_toldThing_117 h (fun h => ?_)
      refine z_iload_n C dX11_toldThing_118 0 rfl ?_
      refine z_icmp_eq C dX11_toldThing_119 126 (by decide) h (fun h => ?_) (fun h => ?_)
      · refine z_iconst C 0 dX11_toldThing_126 (by decide) ?_
        refine z_perm [1, 2] (lv' := [(0, .ref (qX 0)), (1, .int a0)]) rfl ?_
        exact kX_toldThing_b127 C O  h
      · refine z_iconst C 1 dX11_toldThing_122 (by decide) ?_
        refine z_goto C dX11_toldThing_123 127 (by decide) ?_
        refine z_perm [1, 2] (lv' := [(0, .ref (qX 0)), (1, .int a0)]) rfl ?_
        exact kX_toldThing_b127 C O  h
    · refine z_new C (ci := 5) inzX5 tyX5 tyX5_ok rw_u_835 rw_u_836 rw_u_88 rfl [.int 0, .null, .null] (by intro j hj; match j, hj with | 0, _ => rfl | 1, _ => rfl | 2, _ => rfl | j + 3, hj => exact absurd hj (by omega)) (Nat.le_of_ble_eq_true rfl) (Nat.le_of_ble_eq_true rfl) dX11_toldThing_92 (fun b5 => ?_)
      refine z_dup C dX11_toldThing_95 rfl ?_
      refine z_iload_n C dX11_toldThing_96 2 rfl ?_
      refine z_aload_n C dX11_toldThing_97 1 rfl ?_
      refine z_get C (Cn := RX11) (T := TX11) (N := 14) (ci := 10) (k := 9) inzX11 rfl (by decide) rw_u_362 (fun _ h => h) 0 rfl rfl dX11_toldThing_98 ?_
      refine z_aload_n C dX11_toldThing_101 1 rfl ?_
      refine z_get C (Cn := RX11) (T := TX11) (N := 14) (ci := 10) (k := 13) inzX11 rfl (by decide) rw_u_366 (fun _ h => h) 0 rfl rfl dX11_toldThing_102 ?_
      refine z_callI C 3 (As := [.int a0, .ref (qC 0), .ref (qT 0)]) (rest := [.ref b5]) rw_u_839 rw_u_88 rw_u_837 rw_u_838 rfl ⟨by decide, by decide, by decide +kernel⟩ (Ctr.app ctX5_init_X5 (wdX G qX qR qS qP qC qU qD qV qT sX ++ (wdS G qS sS ++ (wdC G qC rC sC ++ (wdT G qT sT))))) rfl dX11_toldThing_105 (Nat.le_of_ble_eq_true rfl) (zrm rfl) (fun _ => ?_)
      replace h := Option.some.inj h
      subst h
      exact z_aret1 C O (Or.inl ⟨_, rfl⟩) dX11_toldThing_108 b5 rfl rfl
  · refine z_aload_n C dX11_toldThing_15 1 rfl ?_
    refine rw_g_X11_29_XSCT_X C dX11_toldThing_16 ?_
    refine z_aload_n C dX11_toldThing_19 1 rfl ?_
    refine rw_g_X11_39_XSCT_X C dX11_toldThing_20 ?_
    refine rw_g_X11_169_XSCT_C C dX11_toldThing_23 ?_
    refine z_iload_n C dX11_toldThing_26 2 rfl ?_
    refine rw_l_XSCT_C_5 C dX11_toldThing_27 h (fun h => ?_)
    obtain ⟨y6, hy6, h⟩ := bind_o h
    refine rw_c_X11_181 C (Ct.frame (cS_way hy6) (w := wdX G qX qR qS qP qC qU qD qV qT sX ++ (wdS G qS sS ++ (wdC G qC rC sC ++ (wdT G qT sT)))) (w' := wdX G qX qR qS qP qC qU qD qV qT sX ++ (wdS G qS sS ++ (wdC G qC rC sC ++ (wdT G qT sT)))) (wr := wdX G qX qR qS qP qC qU qD qV qT sX ++ (wdC G qC rC sC ++ (wdT G qT sT))) [4, 5, 6, 7, 8, 9, 10, 11, 12, 13, 14] [0, 1, 2, 3, 15, 16, 17, 18, 19, 20, 21, 22, 23, 24, 25, 26, 27, 28, 29, 30, 31] [0, 1, 2, 3, 21, 22, 23, 24, 25, 26, 27, 28, 29, 30, 31, 4, 5, 6, 7, 8, 9, 10, 11, 12, 13, 14, 15, 16, 17, 18, 19, 20] rfl rfl rfl rfl (by decide) rfl rfl) 4 rfl dX11_toldThing_28 (Nat.le_of_ble_eq_true rfl) (zrm rfl) ?_
    refine z_iconst C 4 dX11_toldThing_31 (by decide) ?_
    refine z_icmp_ne C dX11_toldThing_32 39 (by decide) h (fun h => ?_) (fun h => ?_)
    · refine z_iconst C 0 dX11_toldThing_39 (by decide) ?_
      refine z_perm [1, 2] (lv' := [(0, .ref (qX 0)), (1, .int a0)]) rfl ?_
      exact kX_toldThing_b40 C O  h
    · refine z_iconst C 1 dX11_toldThing_35 (by decide) ?_
      refine z_goto C dX11_toldThing_36 40 (by decide) ?_
      refine z_perm [1, 2] (lv' := [(0, .ref (qX 0)), (1, .int a0)]) rfl ?_
      exact kX_toldThing_b40 C O  h
set_option maxHeartbeats 4000000 in
set_option maxRecDepth 100000 in
theorem kX_kind_l20b {x : zX} {G : zG} {qX qR qS qP qC qU qD qV qT : Nat → Nat} {rC : Nat} {sX : zSt} {sS : zSt} {sC : zSt} {sT : zSt} {out : Int64} (C : zC x G RX11 cX11_kind 4 (some .long) rmX11_kind) (O : zO x G (some (.long out)) (wdX G qX qR qS qP qC qU qD qV qT sX ++ (wdS G qS sS ++ (wdC G qC rC sC ++ (wdT G qT sT)))) 1 3) {K20 : zSt → zSt → zSt → zSt → Int32 → Nat → Option (Int64)} (hK20 : ∀ (tz : Nat) (tn : Int32) (x3 : Int32) (ty : Nat), K20 sX sS sC sT x3 ty = some out → zW x G 1 3 20 [(2, .ref tz), (3, .int x3)] [] ((wdX G qX qR qS qP qC qU qD qV qT sX ++ (wdS G qS sS ++ (wdC G qC rC sC ++ (wdT G qT sT)))) ++ [(tz, .inr (ty, [.int tn, .ref (qC 0), .ref (qT 0)]))])) {tz : Nat} {tn : Int32} {x3 : Int32} {ty : Nat} (h : fX_kind_l20b K20 sX sS sC sT x3 ty = some out) : zW x G 1 3 20 [(2, .ref tz), (3, .int x3)] [] ((wdX G qX qR qS qP qC qU qD qV qT sX ++ (wdS G qS sS ++ (wdC G qC rC sC ++ (wdT G qT sT)))) ++ [(tz, .inr (ty, [.int tn, .ref (qC 0), .ref (qT 0)]))]) := by
  unfold fX_kind_l20b at h
  refine z_iload_n C dX11_kind_20 1 rfl ?_
  refine z_if_le C dX11_kind_21 41 (by decide) h (fun h => ?_) (fun h => ?_)
  · refine z_lconst C 0 dX11_kind_41 (by decide) ?_
    refine z_world (w' := wdX G qX qR qS qP qC qU qD qV qT sX ++ (wdS G qS sS ++ (wdC G qC rC sC ++ (wdT G qT sT)))) [0, 1, 2, 3, 4, 5, 6, 7, 8, 9, 10, 11, 12, 13, 14, 15, 16, 17, 18, 19, 20, 21, 22, 23, 24, 25, 26, 27, 28, 29, 30, 31] rfl rfl ?_
    replace h := Option.some.inj h
    subst h
    exact z_lret C O dX11_kind_42 rfl rfl
  · refine z_aload_n C dX11_kind_24 0 rfl ?_
    refine z_iload_n C dX11_kind_25 1 rfl ?_
    have hth := (zg_o h).1
    replace h := (zg_o h).2
    refine rw_c_X11_275 C (Ct.frame (cX_isOfKind hth) (w := (wdX G qX qR qS qP qC qU qD qV qT sX ++ (wdS G qS sS ++ (wdC G qC rC sC ++ (wdT G qT sT)))) ++ [(tz, .inr (ty, [.int tn, .ref (qC 0), .ref (qT 0)]))]) (w' := (wdX G qX qR qS qP qC qU qD qV qT sX ++ (wdS G qS sS ++ (wdC G qC rC sC ++ (wdT G qT sT)))) ++ [(tz, .inr (ty, [.int tn, .ref (qC 0), .ref (qT 0)]))]) (wr := wdX G qX qR qS qP qC qU qD qV qT sX ++ (wdS G qS sS ++ (wdC G qC rC sC ++ (wdT G qT sT)))) [32] [0, 1, 2, 3, 4, 5, 6, 7, 8, 9, 10, 11, 12, 13, 14, 15, 16, 17, 18, 19, 20, 21, 22, 23, 24, 25, 26, 27, 28, 29, 30, 31] [0, 1, 2, 3, 4, 5, 6, 7, 8, 9, 10, 11, 12, 13, 14, 15, 16, 17, 18, 19, 20, 21, 22, 23, 24, 25, 26, 27, 28, 29, 30, 31, 32] rfl rfl rfl rfl (by decide) rfl rfl) dX11_kind_26 (Nat.le_of_ble_eq_true rfl) (zrm rfl) ?_
    refine z_ifb_eq C dX11_kind_29 35 (by decide) h (fun h => ?_) (fun h => ?_)
    · refine z_iinc C dX11_kind_35 1 rfl (-1) (by decide) (by decide) (lvr := [(2, .ref tz)]) rfl h (fun x3_4 h => ?_)
      refine z_goto C dX11_kind_38 20 (by decide) ?_
      refine z_perm [1, 0] (lv' := [(2, .ref tz), (3, .int x3_4)]) rfl ?_
      exact hK20   _ _ _ _ h
    · refine z_iload_n C dX11_kind_32 1 rfl ?_
      refine z_i2l C dX11_kind_33 ?_
      refine z_world (w' := wdX G qX qR qS qP qC qU qD qV qT sX ++ (wdS G qS sS ++ (wdC G qC rC sC ++ (wdT G qT sT)))) [0, 1, 2, 3, 4, 5, 6, 7, 8, 9, 10, 11, 12, 13, 14, 15, 16, 17, 18, 19, 20, 21, 22, 23, 24, 25, 26, 27, 28, 29, 30, 31] rfl rfl ?_
      replace h := Option.some.inj h
      subst h
      exact z_lret C O dX11_kind_34 rfl rfl
set_option maxHeartbeats 4000000 in
set_option maxRecDepth 100000 in
theorem kX_kind_l20 {x : zX} {G : zG} {qX qR qS qP qC qU qD qV qT : Nat → Nat} {rC : Nat} {sX : zSt} {sS : zSt} {sC : zSt} {sT : zSt} {out : Int64} (C : zC x G RX11 cX11_kind 4 (some .long) rmX11_kind) (O : zO x G (some (.long out)) (wdX G qX qR qS qP qC qU qD qV qT sX ++ (wdS G qS sS ++ (wdC G qC rC sC ++ (wdT G qT sT)))) 1 3)  : ∀ (n : Nat) {tz : Nat} {tn : Int32} {x3 : Int32} {ty : Nat}, fX_kind_l20  n sX sS sC sT x3 ty = some out → zW x G 1 3 20 [(2, .ref tz), (3, .int x3)] [] ((wdX G qX qR qS qP qC qU qD qV qT sX ++ (wdS G qS sS ++ (wdC G qC rC sC ++ (wdT G qT sT)))) ++ [(tz, .inr (ty, [.int tn, .ref (qC 0), .ref (qT 0)]))]) := by
  intro n
  induction n with
  | zero =>
    intro tz tn x3 ty h
    have h : (none : Option (Int64)) = some out := h
    cases h
  | succ n ih =>
    intro tz tn x3 ty h
    exact kX_kind_l20b C O (K20 := fun v0 v1 v2 v3 v4 v5 => fX_kind_l20  n v0 v1 v2 v3 v4 v5) (fun tz tn x3 ty h => ih h) h
set_option maxHeartbeats 4000000 in
set_option maxRecDepth 100000 in
theorem cX_kind {l : Launch} {G : zG} {qX qR qS qP qC qU qD qV qT : Nat → Nat} {rC : Nat} {sX : zSt} {sS : zSt} {sC : zSt} {sT : zSt} {a0 : Int32} {out : Int64} (h : fX_kind sX sS sC sT a0 = some out) : Ct l G yX11_kind cX11_kind 4 (some .long) rmX11_kind [.ref (qX 0), .int a0] (wdX G qX qR qS qP qC qU qD qV qT sX ++ (wdS G qS sS ++ (wdC G qC rC sC ++ (wdT G qT sT)))) (some (.long out)) (wdX G qX qR qS qP qC qU qD qV qT sX ++ (wdS G qS sS ++ (wdC G qC rC sC ++ (wdT G qT sT)))) := by
  refine zMet (own := RX11) rfl (by decide) (Nat.le_of_ble_eq_true rfl) (fun x hl C O => ?_)
  show zW x G 0 0 0 [(0, .ref (qX 0)), (1, .int a0)] [] _
  unfold fX_kind at h
  refine z_aload_n C dX11_kind_0 0 rfl ?_
  refine z_iload_n C dX11_kind_1 1 rfl ?_
  obtain ⟨y1, hy1, h⟩ := bind_o h
  refine rw_c_X11_148 C (Ct.frame (cX_isNoThing hy1) (w := wdX G qX qR qS qP qC qU qD qV qT sX ++ (wdS G qS sS ++ (wdC G qC rC sC ++ (wdT G qT sT)))) (w' := wdX G qX qR qS qP qC qU qD qV qT sX ++ (wdS G qS sS ++ (wdC G qC rC sC ++ (wdT G qT sT)))) (wr := wdS G qS sS ++ (wdT G qT sT)) [0, 1, 2, 3, 15, 16, 17, 18, 19, 20, 21, 22, 23, 24, 25, 26, 27, 28, 29] [4, 5, 6, 7, 8, 9, 10, 11, 12, 13, 14, 30, 31] [13, 14, 15, 16, 0, 1, 2, 3, 4, 5, 6, 7, 8, 9, 10, 17, 18, 19, 20, 21, 22, 23, 24, 25, 26, 27, 28, 29, 30, 31, 11, 12] rfl rfl rfl rfl (by decide) rfl rfl) 0 rfl dX11_kind_2 (Nat.le_of_ble_eq_true rfl) (zrm rfl) ?_
  refine z_ifb_eq C dX11_kind_5 12 (by decide) h (fun h => ?_) (fun h => ?_)
  · refine z_aload_n C dX11_kind_12 0 rfl ?_
    refine z_iload_n C dX11_kind_13 1 rfl ?_
    obtain ⟨y2, hy2, h⟩ := bind_o h
    refine rw_c_X11_271 C (cX_toldThing hy2) 0 rfl dX11_kind_14 (Nat.le_of_ble_eq_true rfl) (zrm rfl) (fun z3 => ?_)
    refine z_astore_n C dX11_kind_17 (by decide) (lvr := [(0, .ref (qX 0)), (1, .int a0)]) rfl ?_
    refine z_iconst C 5 dX11_kind_18 (by decide) ?_
    refine z_istore_n C dX11_kind_19 (by decide) (lvr := [(2, .ref z3), (0, .ref (qX 0)), (1, .int a0)]) rfl ?_
    refine z_perm [1, 0] (lv' := [(2, .ref z3), (3, .int 5)]) rfl ?_
    exact kX_kind_l20 C O  zF h
  · refine z_ldc2 C rw_u_403 dX11_kind_8 ?_
    refine z_wide (ce' := 1) (sl' := 3) (by decide) (by decide) ?_
    replace h := Option.some.inj h
    subst h
    exact z_lret C O dX11_kind_11 rfl rfl
set_option maxHeartbeats 4000000 in
set_option maxRecDepth 100000 in
theorem cX_as {l : Launch} {G : zG} {qX qR qS qP qC qU qD qV qT : Nat → Nat} {rC : Nat} {sX : zSt} {sS : zSt} {sC : zSt} {sT : zSt} {a0 : Int32} {a1 : Int32} {out : Int64 × zSt} (h : fX_as sX sS sC sT a0 a1 = some out) : Ct l G yX11_as cX11_as 3 (some .long) rmX11_as [.ref (qX 0), .int a0, .int a1] (wdX G qX qR qS qP qC qU qD qV qT sX ++ (wdS G qS sS ++ (wdC G qC rC sC ++ (wdT G qT sT)))) (some (.long out.1)) (wdX G qX qR qS qP qC qU qD qV qT out.2 ++ (wdS G qS sS ++ (wdC G qC rC sC ++ (wdT G qT sT)))) := by
  refine zMet (own := RX11) rfl (by decide) (Nat.le_of_ble_eq_true rfl) (fun x hl C O => ?_)
  show zW x G 0 0 0 [(0, .ref (qX 0)), (1, .int a0), (2, .int a1)] [] _
  unfold fX_as at h
  refine z_aload_n C dX11_as_0 0 rfl ?_
  refine z_iload_n C dX11_as_1 1 rfl ?_
  obtain ⟨y1, hy1, h⟩ := bind_o h
  refine rw_c_X11_148 C (Ct.frame (cX_isNoThing hy1) (w := wdX G qX qR qS qP qC qU qD qV qT sX ++ (wdS G qS sS ++ (wdC G qC rC sC ++ (wdT G qT sT)))) (w' := wdX G qX qR qS qP qC qU qD qV qT sX ++ (wdS G qS sS ++ (wdC G qC rC sC ++ (wdT G qT sT)))) (wr := wdS G qS sS ++ (wdT G qT sT)) [0, 1, 2, 3, 15, 16, 17, 18, 19, 20, 21, 22, 23, 24, 25, 26, 27, 28, 29] [4, 5, 6, 7, 8, 9, 10, 11, 12, 13, 14, 30, 31] [13, 14, 15, 16, 0, 1, 2, 3, 4, 5, 6, 7, 8, 9, 10, 17, 18, 19, 20, 21, 22, 23, 24, 25, 26, 27, 28, 29, 30, 31, 11, 12] rfl rfl rfl rfl (by decide) rfl rfl) 0 rfl dX11_as_2 (Nat.le_of_ble_eq_true rfl) (zrm rfl) ?_
  refine z_ifb_ne C dX11_as_5 18 (by decide) h (fun h => ?_) (fun h => ?_)
  · refine z_ldc2 C rw_u_403 dX11_as_18 ?_
    refine z_wide (ce' := 1) (sl' := 3) (by decide) (by decide) ?_
    replace h := Option.some.inj h
    subst h
    exact z_lret C O dX11_as_21 rfl rfl
  · refine z_iload_n C dX11_as_8 2 rfl ?_
    refine z_if_lt C dX11_as_9 18 (by decide) h (fun h => ?_) (fun h => ?_)
    · refine z_ldc2 C rw_u_403 dX11_as_18 ?_
      refine z_wide (ce' := 1) (sl' := 3) (by decide) (by decide) ?_
      replace h := Option.some.inj h
      subst h
      exact z_lret C O dX11_as_21 rfl rfl
    · refine z_iload_n C dX11_as_12 2 rfl ?_
      refine z_bipush C 6 dX11_as_13 (by decide) ?_
      refine z_icmp_lt C dX11_as_15 22 (by decide) h (fun h => ?_) (fun h => ?_)
      · refine z_aload_n C dX11_as_22 0 rfl ?_
        refine z_iload_n C dX11_as_23 1 rfl ?_
        obtain ⟨y2, hy2, h⟩ := bind_o h
        refine rw_c_X11_271 C (cX_toldThing hy2) 0 rfl dX11_as_24 (Nat.le_of_ble_eq_true rfl) (zrm rfl) (fun z3 => ?_)
        refine z_iload_n C dX11_as_27 2 rfl ?_
        have hth := (zg_o h).1
        replace h := (zg_o h).2
        refine rw_c_X11_275 C (Ct.frame (cX_isOfKind hth) (w := (wdX G qX qR qS qP qC qU qD qV qT sX ++ (wdS G qS sS ++ (wdC G qC rC sC ++ (wdT G qT sT)))) ++ [(z3, .inr (y2, [.int a0, .ref (qC 0), .ref (qT 0)]))]) (w' := (wdX G qX qR qS qP qC qU qD qV qT sX ++ (wdS G qS sS ++ (wdC G qC rC sC ++ (wdT G qT sT)))) ++ [(z3, .inr (y2, [.int a0, .ref (qC 0), .ref (qT 0)]))]) (wr := wdX G qX qR qS qP qC qU qD qV qT sX ++ (wdS G qS sS ++ (wdC G qC rC sC ++ (wdT G qT sT)))) [32] [0, 1, 2, 3, 4, 5, 6, 7, 8, 9, 10, 11, 12, 13, 14, 15, 16, 17, 18, 19, 20, 21, 22, 23, 24, 25, 26, 27, 28, 29, 30, 31] [0, 1, 2, 3, 4, 5, 6, 7, 8, 9, 10, 11, 12, 13, 14, 15, 16, 17, 18, 19, 20, 21, 22, 23, 24, 25, 26, 27, 28, 29, 30, 31, 32] rfl rfl rfl rfl (by decide) rfl rfl) dX11_as_28 (Nat.le_of_ble_eq_true rfl) (zrm rfl) ?_
        refine z_ifb_eq C dX11_as_31 43 (by decide) h (fun h => ?_) (fun h => ?_)
        · refine z_aload_n C dX11_as_43 0 rfl ?_
          refine z_iconst C 3 dX11_as_44 (by decide) ?_
          obtain ⟨y4, hy4, h⟩ := bind_o h
          refine rw_c_X11_75 C (Ct.frame (cX_found hy4) (w := (wdX G qX qR qS qP qC qU qD qV qT sX ++ (wdS G qS sS ++ (wdC G qC rC sC ++ (wdT G qT sT)))) ++ [(z3, .inr (y2, [.int a0, .ref (qC 0), .ref (qT 0)]))]) (w' := (wdX G qX qR qS qP qC qU qD qV qT y4.2 ++ (wdS G qS sS ++ (wdC G qC rC sC ++ (wdT G qT sT)))) ++ [(z3, .inr (y2, [.int a0, .ref (qC 0), .ref (qT 0)]))]) (wr := (wdS G qS sS ++ (wdC G qC rC sC ++ (wdT G qT sT))) ++ [(z3, .inr (y2, [.int a0, .ref (qC 0), .ref (qT 0)]))]) [0, 1, 2, 3] [4, 5, 6, 7, 8, 9, 10, 11, 12, 13, 14, 15, 16, 17, 18, 19, 20, 21, 22, 23, 24, 25, 26, 27, 28, 29, 30, 31, 32] [29, 30, 31, 32, 0, 1, 2, 3, 4, 5, 6, 7, 8, 9, 10, 11, 12, 13, 14, 15, 16, 17, 18, 19, 20, 21, 22, 23, 24, 25, 26, 27, 28] rfl rfl rfl rfl (by decide) rfl rfl) 0 rfl dX11_as_45 (Nat.le_of_ble_eq_true rfl) (zrm rfl) ?_
          refine z_world (w' := wdX G qX qR qS qP qC qU qD qV qT y4.2 ++ (wdS G qS sS ++ (wdC G qC rC sC ++ (wdT G qT sT)))) [0, 1, 2, 3, 4, 5, 6, 7, 8, 9, 10, 11, 12, 13, 14, 15, 16, 17, 18, 19, 20, 21, 22, 23, 24, 25, 26, 27, 28, 29, 30, 31] rfl rfl ?_
          replace h := Option.some.inj h
          subst h
          exact z_lret C O dX11_as_48 rfl rfl
        · refine z_aload_n C dX11_as_34 0 rfl ?_
          refine z_iload_n C dX11_as_35 1 rfl ?_
          refine z_i2l C dX11_as_36 ?_
          obtain ⟨y5, hy5, h⟩ := bind_o h
          refine rw_c_X11_79 C (Ct.frame (cX_fine hy5) (w := (wdX G qX qR qS qP qC qU qD qV qT sX ++ (wdS G qS sS ++ (wdC G qC rC sC ++ (wdT G qT sT)))) ++ [(z3, .inr (y2, [.int a0, .ref (qC 0), .ref (qT 0)]))]) (w' := (wdX G qX qR qS qP qC qU qD qV qT y5.2 ++ (wdS G qS sS ++ (wdC G qC rC sC ++ (wdT G qT sT)))) ++ [(z3, .inr (y2, [.int a0, .ref (qC 0), .ref (qT 0)]))]) (wr := (wdS G qS sS ++ (wdC G qC rC sC ++ (wdT G qT sT))) ++ [(z3, .inr (y2, [.int a0, .ref (qC 0), .ref (qT 0)]))]) [0, 1, 2, 3] [4, 5, 6, 7, 8, 9, 10, 11, 12, 13, 14, 15, 16, 17, 18, 19, 20, 21, 22, 23, 24, 25, 26, 27, 28, 29, 30, 31, 32] [29, 30, 31, 32, 0, 1, 2, 3, 4, 5, 6, 7, 8, 9, 10, 11, 12, 13, 14, 15, 16, 17, 18, 19, 20, 21, 22, 23, 24, 25, 26, 27, 28] rfl rfl rfl rfl (by decide) rfl rfl) 0 rfl dX11_as_37 (Nat.le_of_ble_eq_true rfl) (zrm rfl) ?_
          refine z_goto C dX11_as_40 48 (by decide) ?_
          refine z_world (w' := wdX G qX qR qS qP qC qU qD qV qT y5.2 ++ (wdS G qS sS ++ (wdC G qC rC sC ++ (wdT G qT sT)))) [0, 1, 2, 3, 4, 5, 6, 7, 8, 9, 10, 11, 12, 13, 14, 15, 16, 17, 18, 19, 20, 21, 22, 23, 24, 25, 26, 27, 28, 29, 30, 31] rfl rfl ?_
          replace h := Option.some.inj h
          subst h
          exact z_lret C O dX11_as_48 rfl rfl
      · refine z_ldc2 C rw_u_403 dX11_as_18 ?_
        refine z_wide (ce' := 1) (sl' := 3) (by decide) (by decide) ?_
        replace h := Option.some.inj h
        subst h
        exact z_lret C O dX11_as_21 rfl rfl
set_option maxHeartbeats 4000000 in
set_option maxRecDepth 100000 in
theorem cX_ask {l : Launch} {G : zG} {qX qR qS qP qC qU qD qV qT : Nat → Nat} {rC : Nat} {sX : zSt} {sS : zSt} {sC : zSt} {sT : zSt} {a0 : Int32} {a1 : Int32} {out : Int64 × zSt} (h : fX_ask sX sS sC sT a0 a1 = some out) : Ct l G yX11_ask cX11_ask 4 (some .long) rmX11_ask [.ref (qX 0), .int a0, .int a1] (wdX G qX qR qS qP qC qU qD qV qT sX ++ (wdS G qS sS ++ (wdC G qC rC sC ++ (wdT G qT sT)))) (some (.long out.1)) (wdX G qX qR qS qP qC qU qD qV qT sX ++ (wdS G qS sS ++ (wdC G qC rC sC ++ (wdT G qT out.2)))) := by
  refine zMet (own := RX11) rfl (by decide) (Nat.le_of_ble_eq_true rfl) (fun x hl C O => ?_)
  show zW x G 0 0 0 [(0, .ref (qX 0)), (1, .int a0), (2, .int a1)] [] _
  unfold fX_ask at h
  refine z_aload_n C dX11_ask_0 0 rfl ?_
  refine z_iload_n C dX11_ask_1 1 rfl ?_
  obtain ⟨y1, hy1, h⟩ := bind_o h
  refine rw_c_X11_148 C (Ct.frame (cX_isNoThing hy1) (w := wdX G qX qR qS qP qC qU qD qV qT sX ++ (wdS G qS sS ++ (wdC G qC rC sC ++ (wdT G qT sT)))) (w' := wdX G qX qR qS qP qC qU qD qV qT sX ++ (wdS G qS sS ++ (wdC G qC rC sC ++ (wdT G qT sT)))) (wr := wdS G qS sS ++ (wdT G qT sT)) [0, 1, 2, 3, 15, 16, 17, 18, 19, 20, 21, 22, 23, 24, 25, 26, 27, 28, 29] [4, 5, 6, 7, 8, 9, 10, 11, 12, 13, 14, 30, 31] [13, 14, 15, 16, 0, 1, 2, 3, 4, 5, 6, 7, 8, 9, 10, 17, 18, 19, 20, 21, 22, 23, 24, 25, 26, 27, 28, 29, 30, 31, 11, 12] rfl rfl rfl rfl (by decide) rfl rfl) 0 rfl dX11_ask_2 (Nat.le_of_ble_eq_true rfl) (zrm rfl) ?_
  refine z_ifb_ne C dX11_ask_5 17 (by decide) h (fun h => ?_) (fun h => ?_)
  · refine z_ldc2 C rw_u_403 dX11_ask_17 ?_
    refine z_wide (ce' := 1) (sl' := 3) (by decide) (by decide) ?_
    replace h := Option.some.inj h
    subst h
    exact z_lret C O dX11_ask_20 rfl rfl
  · refine z_iload_n C dX11_ask_8 2 rfl ?_
    refine z_if_lt C dX11_ask_9 17 (by decide) h (fun h => ?_) (fun h => ?_)
    · refine z_ldc2 C rw_u_403 dX11_ask_17 ?_
      refine z_wide (ce' := 1) (sl' := 3) (by decide) (by decide) ?_
      replace h := Option.some.inj h
      subst h
      exact z_lret C O dX11_ask_20 rfl rfl
    · refine z_iload_n C dX11_ask_12 2 rfl ?_
      refine z_iconst C 1 dX11_ask_13 (by decide) ?_
      refine z_icmp_le C dX11_ask_14 21 (by decide) h (fun h => ?_) (fun h => ?_)
      · refine z_aload_n C dX11_ask_21 0 rfl ?_
        refine rw_g_X11_59_XSCT_X C dX11_ask_22 ?_
        obtain ⟨y2, hy2, h⟩ := bind_o h
        refine rw_c_X11_279 C (Ct.frame (cT_clear hy2) (w := wdX G qX qR qS qP qC qU qD qV qT sX ++ (wdS G qS sS ++ (wdC G qC rC sC ++ (wdT G qT sT)))) (w' := wdX G qX qR qS qP qC qU qD qV qT sX ++ (wdS G qS sS ++ (wdC G qC rC sC ++ (wdT G qT y2)))) (wr := wdX G qX qR qS qP qC qU qD qV qT sX ++ (wdS G qS sS ++ (wdC G qC rC sC))) [30, 31] [0, 1, 2, 3, 4, 5, 6, 7, 8, 9, 10, 11, 12, 13, 14, 15, 16, 17, 18, 19, 20, 21, 22, 23, 24, 25, 26, 27, 28, 29] [0, 1, 2, 3, 4, 5, 6, 7, 8, 9, 10, 11, 12, 13, 14, 15, 16, 17, 18, 19, 20, 21, 22, 23, 24, 25, 26, 27, 28, 29, 30, 31] rfl rfl rfl rfl (by decide) rfl rfl) 30 rfl dX11_ask_25 (Nat.le_of_ble_eq_true rfl) (zrm rfl) ?_
        refine z_aload_n C dX11_ask_28 0 rfl ?_
        refine z_iload_n C dX11_ask_29 1 rfl ?_
        obtain ⟨y3, hy3, h⟩ := bind_o h
        refine rw_c_X11_271 C (cX_toldThing hy3) 0 rfl dX11_ask_30 (Nat.le_of_ble_eq_true rfl) (zrm rfl) (fun z4 => ?_)
        refine z_astore_n C dX11_ask_33 (by decide) (lvr := [(0, .ref (qX 0)), (1, .int a0), (2, .int a1)]) rfl ?_
        refine z_iload_n C dX11_ask_34 3 rfl ?_
        refine z_if_ne C dX11_ask_35 45 (by decide) h (fun h => ?_) (fun h => ?_)
        · refine z_aload_n C dX11_ask_45 0 rfl ?_
          obtain ⟨y5, hy5, h⟩ := bind_o h
          refine rw_vc_mark C hy5 dX11_ask_46 ?_
          refine z_world (w' := wdX G qX qR qS qP qC qU qD qV qT sX ++ (wdS G qS sS ++ (wdC G qC rC sC ++ (wdT G qT y5.2)))) [0, 1, 2, 3, 4, 5, 6, 7, 8, 9, 10, 11, 12, 13, 14, 15, 16, 17, 18, 19, 20, 21, 22, 23, 24, 25, 26, 27, 28, 29, 30, 31] rfl rfl ?_
          replace h := Option.some.inj h
          subst h
          exact z_lret C O dX11_ask_49 rfl rfl
        · refine z_aload_n C dX11_ask_38 0 rfl ?_
          obtain ⟨y6, hy6, h⟩ := bind_o h
          refine rw_vc_size C hy6 dX11_ask_39 ?_
          refine z_goto C dX11_ask_42 49 (by decide) ?_
          refine z_world (w' := wdX G qX qR qS qP qC qU qD qV qT sX ++ (wdS G qS sS ++ (wdC G qC rC sC ++ (wdT G qT y6.2)))) [0, 1, 2, 3, 4, 5, 6, 7, 8, 9, 10, 11, 12, 13, 14, 15, 16, 17, 18, 19, 20, 21, 22, 23, 24, 25, 26, 27, 28, 29, 30, 31] rfl rfl ?_
          replace h := Option.some.inj h
          subst h
          exact z_lret C O dX11_ask_49 rfl rfl
      · refine z_ldc2 C rw_u_403 dX11_ask_17 ?_
        refine z_wide (ce' := 1) (sl' := 3) (by decide) (by decide) ?_
        replace h := Option.some.inj h
        subst h
        exact z_lret C O dX11_ask_20 rfl rfl

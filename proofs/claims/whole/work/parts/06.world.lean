/-! STATES AND WORLDS of the components. A state: int fields and int arrays by their slot's number, long fields and long arrays by their slot's number. -/
abbrev zSt : Type := (Nat → Int32) × (Nat → Nat → Int32) × (Nat → Int64) × (Nat → Nat → Int64)
def zI (s : zSt) (k : Nat) : Int32 := s.1 k
def zA (s : zSt) (k : Nat) : Nat → Int32 := s.2.1 k
def zJ (s : zSt) (k : Nat) : Int64 := s.2.2.1 k
def zL (s : zSt) (k : Nat) : Nat → Int64 := s.2.2.2 k
def zsI (s : zSt) (k : Nat) (v : Int32) : zSt := (va_up s.1 k v, s.2)
def zsAf (s : zSt) (k : Nat) (f : Nat → Int32) : zSt := (s.1, va_up s.2.1 k f, s.2.2)
def zsJ (s : zSt) (k : Nat) (v : Int64) : zSt := (s.1, s.2.1, va_up s.2.2.1 k v, s.2.2.2)
def zsLf (s : zSt) (k : Nat) (f : Nat → Int64) : zSt := (s.1, s.2.1, s.2.2.1, va_up s.2.2.2 k f)
def zsA (s : zSt) (k i : Nat) (v : Int32) : zSt := zsAf s k (upd (zA s k) i v)
def zsL (s : zSt) (k i : Nat) (v : Int64) : zSt := zsLf s k (vp_updL (zL s k) i v)
def zF : Nat := 1000
def zRmb (rm rm' : Room) (maxL ce sl : Nat) : Bool := (Nat.ble (rm'.frames + 1) rm.frames && Nat.ble (8 + (maxL + 11) + rm'.locals) rm.locals) && (Nat.ble (ce + rm'.cells) rm.cells && Nat.ble (sl + rm'.slots) rm.slots)
theorem zrm {rm rm' : Room} {maxL ce sl : Nat} (h : zRmb rm rm' maxL ce sl = true) : zRm rm rm' maxL ce sl := by
  simp only [zRmb, Bool.and_eq_true, Nat.ble_eq] at h
  exact h
theorem Ct.frame0 {l : Launch} {G : zG} {y : MethodName} {cc : ByteArray} {maxL : Nat} {ret : Option FieldType} {rm : Room} {av : List Value} {r : Option Value} (h : Ct l G y cc maxL ret rm av [] r []) {w : va_W} : Ct l G y cc maxL ret rm av w r w := by
  intro sz p e ha hc hk s m args below hf happ hP _
  obtain ⟨q0, q1, qP, qK, qD, qE⟩ := hP
  have hsub : ∀ q, va_A [] sz q → va_A w sz q := fun q h => h.elim (fun ⟨k, e, h⟩ => by simp at h) (fun h => Or.inr h)
  obtain ⟨n, o, a1, a2, a3, ⟨⟨b1, b2, b3, b4, b5⟩, L, b6, b7⟩⟩ := h sz p e ha hc hk s m args below hf happ ⟨q0, q1, fun k q h => by simp at h, qK, ⟨fun i j p q h => by simp at h, fun k q h => by simp at h⟩, zE.narrow hsub qE⟩ trivial
  refine ⟨n, o, a1, a2, a3, ⟨⟨b1, ?_, b3, qD.self, b5.1, fun q h1 h2 => b5.2 q h1 (fun z => h2 (hsub q z))⟩, L, b6, fun q hq => hsub _ (b7 q hq)⟩⟩
  subst q1
  refine qP.kept (fun k q hq => b5.2 q.1 ((qP k q hq).lt) (fun z => ?_))
  have hlt := (qP k q hq).lt
  rcases z with ⟨k2, e2, h2⟩ | h2
  · simp at h2
  · omega
def wdM (G : zG) (q : Nat → Nat) (s : zSt) : va_W := [(q 0, .inr (11, [.int (zI s 0), .int (zI s 1), .ref (q 3), .ref (q 4), .ref (q 5), .int (zI s 5), .int (zI s 6), .int (zI s 7), .int (zI s 8), .ref (q 10), .ref (q 11), .int (zI s 11), .int (zI s 12), .int (zI s 13), .ref (q 15), .ref (q 16), .ref (q 17), .int (zI s 17), .int (zI s 18), .int (zI s 19), .int (zI s 20), .int (zI s 21), .int (zI s 22), .int (zI s 23), .int (zI s 24), .int (zI s 25), .int (zI s 26), .ref (q 28), .int (zI s 28), .ref (q 30), .ref (q 31), .ref (q 32), .ref (q 33), .ref (q 34), .ref (q 35), .ref (q 36), .ref (q 37), .ref (q 38), .ref (q 39), .ref (q 40), .int (zI s 40), .ref (q 42), .ref (q 43), .ref (q 44), .ref (q 45), .ref (q 46), .ref (q 47), .ref (q 48), .ref (q 49), .long (zJ s 49), .ref (q 51), .ref (q 52), .ref (q 53), .ref (q 54), .int (zI s 54)])), (q 3, .inl (gI G, 8, .inl (zA s 2))), (q 4, .inl (gI G, 8, .inl (zA s 3))), (q 5, .inl (gI G, 320, .inl (zA s 4))), (q 10, .inl (gI G, 32, .inl (zA s 9))), (q 11, .inl (gI G, 180, .inl (zA s 10))), (q 15, .inl (gI G, 32, .inl (zA s 14))), (q 16, .inl (gI G, 180, .inl (zA s 15))), (q 17, .inl (gI G, 500, .inl (zA s 16))), (q 28, .inl (gI G, 5, .inl (zA s 27))), (q 30, .inl (gI G, 10, .inl (zA s 29))), (q 31, .inl (gI G, 10, .inl (zA s 30))), (q 32, .inl (gI G, 10, .inl (zA s 31))), (q 33, .inl (gI G, 10, .inl (zA s 32))), (q 34, .inl (gI G, 10, .inl (zA s 33))), (q 35, .inl (gI G, 10, .inl (zA s 34))), (q 36, .inl (gI G, 10, .inl (zA s 35))), (q 37, .inl (gI G, 10, .inl (zA s 36))), (q 38, .inl (gI G, 10, .inl (zA s 37))), (q 39, .inl (gI G, 30, .inl (zA s 38))), (q 40, .inl (gI G, 3, .inl (zA s 39))), (q 42, .inl (gI G, 90, .inl (zA s 41))), (q 43, .inl (gI G, 90, .inl (zA s 42))), (q 44, .inl (gI G, 90, .inl (zA s 43))), (q 45, .inl (gI G, 90, .inl (zA s 44))), (q 46, .inl (gJ G, 3, .inr (.inl (zL s 45)))), (q 47, .inl (gJ G, 3, .inr (.inl (zL s 46)))), (q 48, .inl (gJ G, 9, .inr (.inl (zL s 47)))), (q 49, .inl (gJ G, 9, .inr (.inl (zL s 48)))), (q 51, .inl (gJ G, 3, .inr (.inl (zL s 50)))), (q 52, .inl (gJ G, 3, .inr (.inl (zL s 51)))), (q 53, .inl (gJ G, 9, .inr (.inl (zL s 52)))), (q 54, .inl (gI G, 16, .inl (zA s 53)))]
def wdR (G : zG) (q : Nat → Nat) (s : zSt) : va_W := [(q 0, .inr (6, [.ref (q 1), .int (zI s 1), .int (zI s 2), .int (zI s 3), .int (zI s 4), .int (zI s 5), .int (zI s 6), .int (zI s 7)])), (q 1, .inl (gB G, 500, .inl (zA s 0)))]
def wdS (G : zG) (q : Nat → Nat) (s : zSt) : va_W := [(q 0, .inr (7, [.int (zI s 0), .int (zI s 1), .int (zI s 2), .ref (q 4), .ref (q 5), .ref (q 6), .ref (q 7), .ref (q 8), .ref (q 9), .ref (q 10), .ref (q 11), .ref (q 12), .ref (q 13)])), (q 4, .inl (gI G, 16, .inl (zA s 3))), (q 5, .inl (gI G, 4, .inl (zA s 4))), (q 6, .inl (gI G, 4, .inl (zA s 5))), (q 7, .inl (gI G, 4, .inl (zA s 6))), (q 8, .inl (gI G, 4, .inl (zA s 7))), (q 9, .inl (gI G, 30, .inl (zA s 8))), (q 10, .inl (gI G, 30, .inl (zA s 9))), (q 11, .inl (gI G, 30, .inl (zA s 10))), (q 12, .inl (gI G, 30, .inl (zA s 11))), (q 13, .inl (gI G, 30, .inl (zA s 12)))]
def wdC (G : zG) (q : Nat → Nat) (r : Nat) (s : zSt) : va_W := [(q 0, .inr (2, [.ref r, .int (zI s 1), .ref (q 3), .ref (q 4), .int (zI s 4), .ref (q 6), .ref (q 7), .ref (q 8), .ref (q 9), .ref (q 10), .ref (q 11), .ref (q 12), .ref (q 13), .int (zI s 13), .ref (q 15), .ref (q 16), .ref (q 17), .ref (q 18)])), (q 3, .inl (gI G, 5, .inl (zA s 2))), (q 4, .inl (gI G, 3, .inl (zA s 3))), (q 6, .inl (gI G, 10, .inl (zA s 5))), (q 7, .inl (gI G, 10, .inl (zA s 6))), (q 8, .inl (gI G, 10, .inl (zA s 7))), (q 9, .inl (gI G, 10, .inl (zA s 8))), (q 10, .inl (gI G, 10, .inl (zA s 9))), (q 11, .inl (gI G, 10, .inl (zA s 10))), (q 12, .inl (gI G, 10, .inl (zA s 11))), (q 13, .inl (gI G, 10, .inl (zA s 12))), (q 15, .inl (gI G, 50, .inl (zA s 14))), (q 16, .inl (gI G, 50, .inl (zA s 15))), (q 17, .inl (gI G, 50, .inl (zA s 16))), (q 18, .inl (gI G, 50, .inl (zA s 17)))]
def wdU (G : zG) (q : Nat → Nat) (s : zSt) : va_W := [(q 0, .inr (8, [.ref (q 1), .ref (q 2), .ref (q 3), .ref (q 4), .ref (q 5), .ref (q 6), .ref (q 7), .long (zJ s 7), .ref (q 9)])), (q 1, .inl (gJ G, 3, .inr (.inl (zL s 0)))), (q 2, .inl (gJ G, 3, .inr (.inl (zL s 1)))), (q 3, .inl (gI G, 3, .inl (zA s 2))), (q 4, .inl (gJ G, 9, .inr (.inl (zL s 3)))), (q 5, .inl (gJ G, 9, .inr (.inl (zL s 4)))), (q 6, .inl (gJ G, 3, .inr (.inl (zL s 5)))), (q 7, .inl (gJ G, 2, .inr (.inl (zL s 6)))), (q 9, .inl (gJ G, 9, .inr (.inl (zL s 8))))]
def wdT (G : zG) (q : Nat → Nat) (s : zSt) : va_W := [(q 0, .inr (9, [.ref (q 1), .int (zI s 1)])), (q 1, .inl (gI G, 16, .inl (zA s 0)))]
def wdX (G : zG) (q : Nat → Nat) (qR qS qP qC qU qD qV qT : Nat → Nat) (s : zSt) : va_W := [(q 0, .inr (10, [.ref (q 1), .ref (q 2), .ref (q 3), .int (zI s 3), .ref (qR 0), .int (zI s 5), .int (zI s 6), .ref (qS 0), .ref (qP 0), .ref (qC 0), .ref (qU 0), .ref (qD 0), .ref (qV 0), .ref (qT 0)])), (q 1, .inl (gI G, 8, .inl (zA s 0))), (q 2, .inl (gI G, 8, .inl (zA s 1))), (q 3, .inl (gI G, 320, .inl (zA s 2)))]
theorem inzX0 : ∀ w ∈ u_ws RX0 TX0 3, w ∈ zU := zin [854, 855, 856] (by decide +kernel) (by decide +kernel)
theorem inzX1 : ∀ w ∈ u_ws RX1 TX1 3, w ∈ zU := zin [827, 828, 829] (by decide +kernel) (by decide +kernel)
theorem inzX2 : ∀ w ∈ u_ws RX2 TX2 18, w ∈ zU := zin [255, 257, 259, 261, 263, 265, 267, 269, 271, 273, 275, 277, 279, 281, 283, 285, 287, 289] (by decide +kernel) (by decide +kernel)
theorem inzX3 : ∀ w ∈ u_ws RX3 TX3 3, w ∈ zU := zin [861, 862, 863] (by decide +kernel) (by decide +kernel)
theorem inzX4 : ∀ w ∈ u_ws RX4 TX4 3, w ∈ zU := zin [817, 819, 821] (by decide +kernel) (by decide +kernel)
theorem inzX5 : ∀ w ∈ u_ws RX5 TX5 3, w ∈ zU := zin [841, 842, 843] (by decide +kernel) (by decide +kernel)
theorem inzX6 : ∀ w ∈ u_ws RX6 TX6 8, w ∈ zU := zin [116, 118, 120, 122, 124, 126, 128, 130] (by decide +kernel) (by decide +kernel)
theorem inzX7 : ∀ w ∈ u_ws RX7 TX7 13, w ∈ zU := zin [175, 177, 179, 181, 183, 185, 187, 189, 191, 193, 195, 197, 199] (by decide +kernel) (by decide +kernel)
theorem inzX8 : ∀ w ∈ u_ws RX8 TX8 9, w ∈ zU := zin [315, 317, 319, 321, 323, 325, 327, 329, 331] (by decide +kernel) (by decide +kernel)
theorem inzX10 : ∀ w ∈ u_ws RX10 TX10 2, w ∈ zU := zin [345, 347] (by decide +kernel) (by decide +kernel)
theorem inzX11 : ∀ w ∈ u_ws RX11 TX11 14, w ∈ zU := zin [367, 369, 371, 373, 375, 377, 379, 381, 383, 385, 387, 389, 391, 393] (by decide +kernel) (by decide +kernel)
theorem inzX12 : ∀ w ∈ u_ws RX12 TX12 55, w ∈ zU := zin [1015, 1017, 1019, 1021, 1023, 1025, 1027, 1029, 1031, 1033, 1035, 1037, 1039, 1041, 1043, 1045, 1047, 1049, 1051, 1053, 1055, 1057, 1059, 1061, 1063, 1065, 1067, 1069, 1071, 1073, 1075, 1077, 1079, 1081, 1083, 1085, 1087, 1089, 1091, 1093, 1095, 1097, 1099, 1101, 1103, 1105, 1107, 1109, 1111, 1113, 1115, 1117, 1119, 1121, 1123] (by decide +kernel) (by decide +kernel)

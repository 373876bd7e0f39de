theorem rw_u_492 : Cond.fieldLink RJ0 38 "java/lang/String" "COMPACT_STRINGS" "Z" ∈ zU := zm 492 (by decide +kernel) rfl
theorem rw_u_1445 : Cond.fieldLink RJ0 15 "java/lang/String" "coder" "B" ∈ zU := zm 1445 (by decide +kernel) rfl
theorem rw_u_508 : Cond.fieldLink RJ0 1053 "jdk/internal/util/Preconditions" "SIOOBE_FORMATTER" "Ljava/util/function/BiFunction;" ∈ zU := zm 508 (by decide +kernel) rfl
theorem rw_u_512 : Cond.code yJ3_checkIndex_8e157 cJ3_checkIndex_8e157 3 (some .int) ∈ zU := zm 512 (by decide +kernel) rfl
theorem rw_u_82 : Cond.initialized yJ3_checkIndex_8e157.cls ∈ zU := zm 82 (by decide +kernel) rfl
theorem rw_u_510 : Cond.methodLink RJ0 1059 yJ3_checkIndex_8e157 ∈ zU := zm 510 (by decide +kernel) rfl
theorem rw_u_511 : Cond.static yJ3_checkIndex_8e157 ∈ zU := zm 511 (by decide +kernel) rfl
theorem rw_u_507 : Cond.code yJ0_checkIndex_df160 cJ0_checkIndex_df160 2 none ∈ zU := zm 507 (by decide +kernel) rfl
theorem rw_u_80 : Cond.initialized yJ0_checkIndex_df160.cls ∈ zU := zm 80 (by decide +kernel) rfl
theorem rw_u_505 : Cond.methodLink RJ1 9 yJ0_checkIndex_df160 ∈ zU := zm 505 (by decide +kernel) rfl
theorem rw_u_506 : Cond.static yJ0_checkIndex_df160 ∈ zU := zm 506 (by decide +kernel) rfl
theorem rw_u_501 : Cond.code yJ0_isLatin1_aae02 cJ0_isLatin1_aae02 1 (some .boolean) ∈ zU := zm 501 (by decide +kernel) rfl
theorem rw_u_498 : Cond.methodLink RJ0 492 yJ0_isLatin1_aae02 ∈ zU := zm 498 (by decide +kernel) rfl
theorem rw_u_499 : Cond.instanceMethod yJ0_isLatin1_aae02 ∈ zU := zm 499 (by decide +kernel) rfl
theorem rw_u_500 : Cond.selects RJ0 yJ0_isLatin1_aae02 yJ0_isLatin1_aae02 ∈ zU := zm 500 (by decide +kernel) rfl
theorem rw_u_1444 : Cond.fieldLink RJ0 9 "java/lang/String" "value" "[B" ∈ zU := zm 1444 (by decide +kernel) rfl
theorem rw_u_504 : Cond.code yJ1_charAt_3b067 cJ1_charAt_3b067 2 (some .char) ∈ zU := zm 504 (by decide +kernel) rfl
theorem rw_u_81 : Cond.initialized yJ1_charAt_3b067.cls ∈ zU := zm 81 (by decide +kernel) rfl
theorem rw_u_502 : Cond.methodLink RJ0 495 yJ1_charAt_3b067 ∈ zU := zm 502 (by decide +kernel) rfl
theorem rw_u_503 : Cond.static yJ1_charAt_3b067 ∈ zU := zm 503 (by decide +kernel) rfl
theorem rw_u_491 : Cond.code yJ0_coder_7d493 cJ0_coder_7d493 1 (some .byte) ∈ zU := zm 491 (by decide +kernel) rfl
theorem rw_u_488 : Cond.methodLink RJ0 335 yJ0_coder_7d493 ∈ zU := zm 488 (by decide +kernel) rfl
theorem rw_u_489 : Cond.instanceMethod yJ0_coder_7d493 ∈ zU := zm 489 (by decide +kernel) rfl
theorem rw_u_490 : Cond.selects RJ0 yJ0_coder_7d493 yJ0_coder_7d493 ∈ zU := zm 490 (by decide +kernel) rfl
/-! JDK: String constants, Arrays.fill, System.arraycopy -/
def zfill (n : Nat) (v : Int32) (f : Nat → Int32) : Nat → Int32 := fun j => if j < n then v else f j
def zfillL (n : Nat) (v : Int64) (f : Nat → Int64) : Nat → Int64 := fun j => if j < n then v else f j
def zch (i : Nat) (k : Int32) : Int32 := (((zByt.getD i []).getD k.toNatClampNeg 0 &&& 255).toUInt32 % 65536).toInt32
def zs7 (i : Nat) : Bool := decide (i < 7)
def zcp (sp dp n : Int32) (N : Nat) : Bool := decide (¬ sp < 0 ∧ ¬ dp < 0 ∧ ¬ n < 0 ∧ sp.toNatClampNeg + n.toNatClampNeg ≤ N ∧ dp.toNatClampNeg + n.toNatClampNeg ≤ N)
theorem z_ldcS {x : zX} {G : zG} {ce sl pc : Nat} {lv : List (Nat × Value)} {st : List Value} {w : va_W} {cc : ByteArray} {nL : Nat} {ret : Option FieldType} {rm : Room} (C : zC x G RX6 cc nL ret rm) (i : Nat) (hi : i < 7) (hd : decode cc pc = .ok (.ldc (zIdx.getD i 0), 2)) (K : zW x G ce sl (pc + 2) lv (.ref (gK G i) :: st) w) : zW x G ce sl pc lv st w := fun H locs ls hP hD hS hl => va_ldcS C.1 C.2.1 C.2.2.2.1 (C.2.2.2.2.2.2.2.2.2.2.1.2 i hi) hd (K H locs ls hP hD hS hl)
theorem z_getO {x : zX} {G : zG} {ce sl pc : Nat} {lv : List (Nat × Value)} {st : List Value} {w : va_W} {own : String} {cc : ByteArray} {nL : Nat} {ret : Option FieldType} {rm : Room} (C : zC x G own cc nL ret rm) {ob n d : String} {v : Value} {q i : Nat} (hE : va_OF ob n d v q (xA x) (xs x) (xs x).heap) (hl0 : Cond.fieldLink own i ob n d ∈ zU) (hd : decode cc pc = .ok (.getfield i, 3)) (K : zW x G ce sl (pc + 3) lv (v :: st) w) : zW x G ce sl pc lv (.ref q :: st) w := fun H locs ls hP hD hS hl => vk_getf C.1 C.2.1 hE hS C.2.2.2.1 (C.2.2.2.2.1 _ hl0) (fun _ h => h) hd (K H locs ls hP hD hS hl)
theorem z_gets {x : zX} {G : zG} {ce sl pc : Nat} {lv : List (Nat × Value)} {st : List Value} {w : va_W} {own : String} {cc : ByteArray} {nL : Nat} {ret : Option FieldType} {rm : Room} (C : zC x G own cc nL ret rm) {ob n d : String} {v : Value} {i : Nat} (hE : va_Z ob n d v (xA x) (xs x) (xs x).heap) (hl0 : Cond.fieldLink own i ob n d ∈ zU) (hd : decode cc pc = .ok (.getstatic i, 3)) (K : zW x G ce sl (pc + 3) lv (v :: st) w) : zW x G ce sl pc lv st w := fun H locs ls hP hD hS hl => va_gets C.1 C.2.1 hE hS C.2.2.2.1 (C.2.2.2.2.1 _ hl0) (fun _ h => h) hd (K H locs ls hP hD hS hl)
theorem z_tlen {x : zX} {G : zG} {ce sl pc : Nat} {lv : List (Nat × Value)} {st : List Value} {w : va_W} {own : String} {cc : ByteArray} {nL : Nat} {ret : Option FieldType} {rm : Room} (C : zC x G own cc nL ret rm) {ty : FieldType} {t N : Nat} {f : Nat → Value} (hT : va_T ty t N f (xA x) (xs x) (xs x).heap) (hd : decode cc pc = .ok (.arraylength, 1)) (K : zW x G ce sl (pc + 1) lv (.int (Int32.ofNat N) :: st) w) : zW x G ce sl pc lv (.ref t :: st) w := fun H locs ls hP hD hS hl => va_tlen C.1 C.2.1 hT hS rfl hd (K H locs ls hP hD hS hl)
theorem z_tb {x : zX} {G : zG} {ce sl pc : Nat} {lv : List (Nat × Value)} {st : List Value} {w : va_W} {own : String} {cc : ByteArray} {nL : Nat} {ret : Option FieldType} {rm : Room} (C : zC x G own cc nL ret rm) {t N : Nat} {f : Nat → Value} (hT : va_T .byte t N f (xA x) (xs x) (xs x).heap) {i : Int32} (hin : vp_in i N) (hd : decode cc pc = .ok (.baload, 1)) (K : zW x G ce sl (pc + 1) lv (f i.toNatClampNeg :: st) w) : zW x G ce sl pc lv (.int i :: .ref t :: st) w := fun H locs ls hP hD hS hl => va_tb C.1 C.2.1 hT hS hin rfl hd (K H locs ls hP hD hS hl)
theorem z_alen {x : zX} {G : zG} {ce sl pc : Nat} {lv : List (Nat × Value)} {st : List Value} {w : va_W} {own : String} {cc : ByteArray} {nL : Nat} {ret : Option FieldType} {rm : Room} (C : zC x G own cc nL ret rm) {a n : Nat} {cA : ClassId} {y : vp_A} {ty : FieldType} (q0 t0 : Nat) (he : w[q0]? = some (a, .inl (cA, y))) (ht : (zT G)[t0]? = some (cA, ty)) (hn : y.1 = n) (hd : decode cc pc = .ok (.arraylength, 1)) (K : zW x G ce sl (pc + 1) lv (.int (Int32.ofNat n) :: st) w) : zW x G ce sl pc lv (.ref a :: st) w := fun H locs ls hP hD hS hl => va_alen (D := G.1) C.1 C.2.1 C.2.2.2.2.2.2.2.1 hP q0 t0 he ht (by rw [hn]) hd (K H locs ls hP hD hS hl)
/-- a call of an object's method, its receiver known by other means -/
theorem z_callVr {x : zX} {G : zG} {ce sl pc : Nat} {lv : List (Nat × Value)} {w : va_W} {own : String} {cc : ByteArray} {nL : Nat} {ret : Option FieldType} {rm : Room} (C : zC x G own cc nL ret rm) {y : MethodName} {bytes : ByteArray} {maxL : Nat} {rt : Option FieldType} {rm' : Room} {b : Nat} {As rest : List Value} {r : Option Value} {w1 : va_W} {index : Nat} {Cn : String} (n : Nat)
    (hcode : Cond.code y bytes maxL rt ∈ zU) (hini : Cond.initialized y.cls ∈ zU) (hlink : Cond.methodLink own index y ∈ zU) (hinst : Cond.instanceMethod y ∈ zU) (hsel : Cond.selects Cn y y ∈ zU) (hdn : y.cls ≠ "java/lang/invoke/MethodHandle" ∧ y.cls ≠ "java/lang/invoke/VarHandle" ∧ (parseMethodDescriptor y.desc).map (fun d => d.parameters.length) = some n)
    (hc : Ct (xl x) G y bytes maxL rt rm' (.ref b :: As) w r w1) (hn : As.length = n) (hrv : ∀ (H : Heap) (locs : List Loc), va_S (xA x) (xs x).heap H locs → ∃ cell : Cell, H[b]? = some cell ∧ cell.vm.isStatics = false ∧ (xs x).vm.findClass Cn = some cell.cls) (hd : decode cc pc = .ok (.invokevirtual index, 3)) (hcat : (rest.map fun v => v.category).sum ≤ 8) (hrm : zRm rm rm' maxL ce sl) (K : zW x G (ce + rm'.cells) (sl + rm'.slots) (pc + 3) lv (r.toList ++ rest) w1) : zW x G ce sl pc lv (As.reverse ++ .ref b :: rest) w := by
  intro H locs ls hP hD hS hl
  have hts := C.2.2.2.2.1
  have hr1 : rm'.frames + 1 ≤ (xR x).frames ∧ 8 + (maxL + 11) + rm'.locals ≤ (xR x).locals := by rw [C.2.2.2.2.2.2.2.2.2.1]; exact hrm.1
  have hr2 : ce + rm'.cells ≤ (xR x).cells ∧ sl + rm'.slots ≤ (xR x).slots := by rw [C.2.2.2.2.2.2.2.2.2.1]; exact hrm.2
  refine z_back (w := w) (va_runV (n := n) (index := index) (y := y) (bytes := bytes) (maxL := maxL) (ret := rt) (C := Cn) (b := b) (As := As) (g := F0 (xm x) pc ls (As.reverse ++ .ref b :: rest)) ⟨C.1, C.2.1, C.2.2.1, C.2.2.2.1, hts⟩ (hc H.size) ⟨callB_of n hts (zgood hcode) rfl rfl rfl (hts _ hini) (hts _ hlink) hdn hr1, hts _ hinst, hts _ hsel⟩ ⟨zPre_blind, hrv H locs hS, fun U hU hW => z_pre C hP hD hS U hU hW⟩ rfl hn (hl.1.trans C.2.2.1) rfl (lv_room hcat) hd hr2) hD hS C.2.2.2.2.2.2.2.2.1 hl K
theorem zrecvK {x : zX} {G : zG} {own : String} {cc : ByteArray} {nL : Nat} {ret : Option FieldType} {rm : Room} (C : zC x G own cc nL ret rm) (i : Nat) (hi : i < 7) : ∀ (H : Heap) (locs : List Loc), va_S (xA x) (xs x).heap H locs → ∃ cell : Cell, H[gK G i]? = some cell ∧ cell.vm.isStatics = false ∧ (xs x).vm.findClass "java/lang/String" = some cell.cls := fun _ _ hS => vk_recv C.2.2.2.2.2.2.2.2.2.2.1.1 hi hS
/-- one cell of a world changes -/
theorem Ct.cell {l : Launch} {G : zG} {y : MethodName} {cc : ByteArray} {maxL : Nat} {ret : Option FieldType} {rm : Room} {av : List Value} {a : Nat} {e e' : va_E} {r : Option Value} (h : Ct l G y cc maxL ret rm av [(a, e)] r [(a, e')]) {w w' : va_W} (k : Nat) (hk : w[k]? = some (a, e)) (hw : w.set k (a, e') = w') : Ct l G y cc maxL ret rm av w r w' := by
  intro sz p e0 ha hc hk0 s m args below hf happ hP _
  obtain ⟨q0, q1, qP, qK, qD, qE⟩ := hP
  have hsub : ∀ q, va_A [(a, e)] sz q → va_A w sz q := fun q h => h.elim (fun ⟨j, e2, h⟩ => by
    cases j with
    | zero => cases h; exact Or.inl ⟨k, e, hk⟩
    | succ j => simp at h) (fun h => Or.inr h)
  obtain ⟨n, o, a1, a2, a3, ⟨⟨b1, b2, b3, b4, b5⟩, L, b6, b7⟩⟩ := h sz p e0 ha hc hk0 s m args below hf happ ⟨q0, q1, fun j q h => (by
    cases j with
    | zero => cases h; exact qP k _ hk
    | succ j => simp at h), qK, ⟨fun i j p q h1 h2 _ => (by
      cases i with
      | zero => (cases j with
        | zero => rfl
        | succ j => simp at h2)
      | succ i => simp at h1), fun _ _ _ => trivial⟩, zE.narrow hsub qE⟩ trivial
  subst q1
  subst hw
  refine ⟨n, o, a1, a2, a3, ⟨⟨b1, ?_, b3, (qD.self (sz := s.heap.size)).set hk, b5.1, fun q h1 h2 => b5.2 q h1 (fun z => h2 (hsub q z))⟩, L, b6, fun q hq => hsub _ (b7 q hq)⟩⟩
  have hl := (List.getElem?_eq_some_iff.mp hk).1
  intro j q hj
  by_cases hjk : j = k
  · subst hjk
    rw [List.getElem?_set_self hl] at hj
    cases hj
    exact b2 0 _ rfl
  · rw [List.getElem?_set_ne (Ne.symm hjk)] at hj
    have hlt := (qP j q hj).lt
    refine (qP j q hj).kept (b5.2 q.1 hlt (fun z => ?_))
    rcases z with ⟨i, e2, h2⟩ | h2
    · cases i with
      | zero => simp at h2; exact hjk (qD.1 j k q (a, e) hj hk h2.1.symm)
      | succ i => simp at h2
    · omega
theorem z_copyi {x : zX} {G : zG} {ce sl pc : Nat} {lv : List (Nat × Value)} {st : List Value} {w : va_W} {own : String} {cc : ByteArray} {nL : Nat} {ret : Option FieldType} {rm : Room} (C : zC x G own cc nL ret rm) {a n0 i : Nat} {f : Nat → Int32} {sp dp n : Int32} {α : Type} {o : α} {kk : Option α} {w' : va_W} (q0 : Nat) (he : w[q0]? = some (a, .inl (gI G, n0, .inl f))) (hw : w.set q0 (a, .inl (gI G, n0, .inl (va_cpy f f sp.toNatClampNeg dp.toNatClampNeg n.toNatClampNeg))) = w') (hlink : Cond.methodLink own i arraycopyName ∈ zU) (hnat : Cond.native arraycopyName ∈ zU) (hstat : Cond.static arraycopyName ∈ zU) (hini : Cond.initialized "java/lang/System" ∈ zU) (hfr : 1 ≤ rm.frames) (hlo : (st.map fun v => v.category).sum + (nativeFrameWords "java/lang/System" "arraycopy" 5 + 11) ≤ rm.locals) (hd : decode cc pc = .ok (.invokestatic i, 3)) (h : zg (zcp sp dp n n0) kk = some o) (K : kk = some o → zW x G ce sl (pc + 3) lv st w') : zW x G ce sl pc lv (.int n :: .int dp :: .ref a :: .int sp :: .ref a :: st) w := by
  intro H locs ls hP hD hS hl
  have hts := C.2.2.2.2.1
  obtain ⟨h1, h2, h3, h4, h5⟩ := of_decide_eq_true (zg_o h).1
  have hr1 : 1 ≤ (xR x).frames := by rw [C.2.2.2.2.2.2.2.2.2.1]; exact hfr
  have hr2 : (st.map fun v => v.category).sum + (nativeFrameWords "java/lang/System" "arraycopy" 5 + 11) ≤ (xR x).locals := by rw [C.2.2.2.2.2.2.2.2.2.1]; exact hlo
  exact va_copyi (D := G.1) C.1 C.2.1 hl.1.symm C.2.2.2.1 (hts _ hlink) (hts _ hnat) (hts _ hstat) (hts _ hini) C.2.2.2.2.2.2.2.1 hP hD hS q0 q0 1 1 he he rfl rfl rfl h1 h2 h3 h4 h5 (fun _ _ => rfl) hr1 hr2 hd (fun H1 locs1 hP1 hD1 hS1 => K (zg_o h).2 H1 locs1 ls (hw ▸ hP1) (hw ▸ hD1) hS1 hl)
abbrev rmJ0_coder_7d493 : Room := { frames := 0, cells := 0, slots := 0, locals := 0 }
set_option maxHeartbeats 4000000 in
set_option maxRecDepth 100000 in
theorem cJ_coder {l : Launch} {G : zG} {i : Nat} (hi : i < 7) : Ct l G yJ0_coder_7d493 cJ0_coder_7d493 1 (some .byte) rmJ0_coder_7d493 [.ref (gK G i)] [] (some (.int 0)) [] := by
  refine zMet (own := RJ0) rfl (by decide) (Nat.le_of_ble_eq_true rfl) (fun x hl C O => ?_)
  show zW x G 0 0 0 [(0, .ref (gK G i))] [] _
  refine z_gets C C.2.2.2.2.2.2.2.2.2.2.2.1.1 rw_u_492 dJ0_coder_7d493_0 ?_
  refine z_if_eq C dJ0_coder_7d493_3 13 (by decide) (p := none) (q := some ()) (o := ()) rfl (fun h => by cases h) (fun _ => ?_)
  refine z_aload_n C dJ0_coder_7d493_6 0 rfl ?_
  refine z_getO C (C.2.2.2.2.2.2.2.2.2.2.1.1.1 i hi).2.1 rw_u_1445 dJ0_coder_7d493_7 ?_
  refine z_goto C dJ0_coder_7d493_10 14 (by decide) ?_
  exact z_zret C O dJ0_coder_7d493_14 rfl rfl rfl
abbrev rmJ0_isLatin1_aae02 : Room := { frames := 0, cells := 0, slots := 0, locals := 0 }
set_option maxHeartbeats 4000000 in
set_option maxRecDepth 100000 in
theorem cJ_lat {l : Launch} {G : zG} {i : Nat} (hi : i < 7) : Ct l G yJ0_isLatin1_aae02 cJ0_isLatin1_aae02 1 (some .boolean) rmJ0_isLatin1_aae02 [.ref (gK G i)] [] (some (.int 1)) [] := by
  refine zMet (own := RJ0) rfl (by decide) (Nat.le_of_ble_eq_true rfl) (fun x hl C O => ?_)
  show zW x G 0 0 0 [(0, .ref (gK G i))] [] _
  refine z_gets C C.2.2.2.2.2.2.2.2.2.2.2.1.1 rw_u_492 dJ0_isLatin1_aae02_0 ?_
  refine z_if_eq C dJ0_isLatin1_aae02_3 17 (by decide) (p := none) (q := some ()) (o := ()) rfl (fun h => by cases h) (fun _ => ?_)
  refine z_aload_n C dJ0_isLatin1_aae02_6 0 rfl ?_
  refine z_getO C (C.2.2.2.2.2.2.2.2.2.2.1.1.1 i hi).2.1 rw_u_1445 dJ0_isLatin1_aae02_7 ?_
  refine z_if_ne C dJ0_isLatin1_aae02_10 17 (by decide) (p := some ()) (q := none) (o := ()) rfl (fun h => by cases h) (fun _ => ?_)
  refine z_iconst C 1 dJ0_isLatin1_aae02_13 (by decide) ?_
  refine z_goto C dJ0_isLatin1_aae02_14 18 (by decide) ?_
  exact z_zret C O dJ0_isLatin1_aae02_18 rfl rfl rfl
abbrev rmJ3_checkIndex_8e157 : Room := { frames := 0, cells := 0, slots := 0, locals := 0 }
set_option maxHeartbeats 4000000 in
set_option maxRecDepth 100000 in
theorem cJ_pre {l : Launch} {G : zG} {a n : Int32} {v : Value} (hv : v = .null ∨ ∃ t, v = .ref t) (h0 : ¬ a < 0) (h1 : a < n) : Ct l G yJ3_checkIndex_8e157 cJ3_checkIndex_8e157 3 (some .int) rmJ3_checkIndex_8e157 [.int a, .int n, v] [] (some (.int a)) [] := by
  refine zMet (own := RJ3) rfl (by decide) (by rcases hv with rfl | ⟨t, rfl⟩ <;> exact Nat.le_of_ble_eq_true rfl) (fun x hl C O => ?_)
  refine z_perm (lv' := [(0, .int a), (1, .int n)]) [0, 1] (by rcases hv with rfl | ⟨t, rfl⟩ <;> rfl) ?_
  refine z_iload_n C dJ3_checkIndex_8e157_0 0 rfl ?_
  refine z_if_lt C dJ3_checkIndex_8e157_1 9 (by decide) (p := none) (q := some ()) (o := ()) (dd := inferInstance) (if_neg h0) (fun h => by cases h) (fun _ => ?_)
  refine z_iload_n C dJ3_checkIndex_8e157_4 0 rfl ?_
  refine z_iload_n C dJ3_checkIndex_8e157_5 1 rfl ?_
  refine z_icmp_lt C dJ3_checkIndex_8e157_6 16 (by decide) (p := some ()) (q := none) (o := ()) (dd := inferInstance) (if_pos h1) (fun _ => ?_) (fun h => by cases h)
  refine z_iload_n C dJ3_checkIndex_8e157_16 0 rfl ?_
  exact z_iret C O dJ3_checkIndex_8e157_17 rfl rfl
abbrev rmJ0_checkIndex_df160 : Room := { frames := 1, cells := 0, slots := 0, locals := 22 }
set_option maxHeartbeats 4000000 in
set_option maxRecDepth 100000 in
theorem cJ_chk {l : Launch} {G : zG} {a n : Int32} (h0 : ¬ a < 0) (h1 : a < n) : Ct l G yJ0_checkIndex_df160 cJ0_checkIndex_df160 2 none rmJ0_checkIndex_df160 [.int a, .int n] [] none [] := by
  refine zMet (own := RJ0) rfl (by decide) (Nat.le_of_ble_eq_true rfl) (fun x hl C O => ?_)
  show zW x G 0 0 0 [(0, .int a), (1, .int n)] [] _
  refine z_iload_n C dJ0_checkIndex_df160_0 0 rfl ?_
  refine z_iload_n C dJ0_checkIndex_df160_1 1 rfl ?_
  rcases C.2.2.2.2.2.2.2.2.2.2.2.1.2 with hZ | ⟨t, hZ⟩
  · refine z_gets C hZ rw_u_508 dJ0_checkIndex_df160_2 ?_
    refine z_callS C 3 (As := [.int a, .int n, .null]) (rest := []) rw_u_512 rw_u_82 rw_u_510 rw_u_511 ⟨by decide, by decide, by decide +kernel⟩ (cJ_pre (Or.inl rfl) h0 h1) rfl dJ0_checkIndex_df160_5 (Nat.le_of_ble_eq_true rfl) (zrm rfl) ?_
    refine z_pop C dJ0_checkIndex_df160_8 rfl ?_
    exact z_vret C O dJ0_checkIndex_df160_9 rfl rfl
  · refine z_gets C hZ rw_u_508 dJ0_checkIndex_df160_2 ?_
    refine z_callS C 3 (As := [.int a, .int n, .ref t]) (rest := []) rw_u_512 rw_u_82 rw_u_510 rw_u_511 ⟨by decide, by decide, by decide +kernel⟩ (cJ_pre (Or.inr ⟨t, rfl⟩) h0 h1) rfl dJ0_checkIndex_df160_5 (Nat.le_of_ble_eq_true rfl) (zrm rfl) ?_
    refine z_pop C dJ0_checkIndex_df160_8 rfl ?_
    exact z_vret C O dJ0_checkIndex_df160_9 rfl rfl
abbrev rmJ1_charAt_3b067 : Room := { frames := 2, cells := 0, slots := 0, locals := 43 }
set_option maxHeartbeats 4000000 in
set_option maxRecDepth 100000 in
theorem cJ_l1 {l : Launch} {G : zG} {i : Nat} {k : Int32} (hi : i < 7) (hk : zix k (zLen.getD i 0) = true) : Ct l G yJ1_charAt_3b067 cJ1_charAt_3b067 2 (some .char) rmJ1_charAt_3b067 [.ref (gV G i), .int k] [] (some (.int (zch i k))) [] := by
  refine zMet (own := RJ1) rfl (by decide) (Nat.le_of_ble_eq_true rfl) (fun x hl C O => ?_)
  show zW x G 0 0 0 [(0, .ref (gV G i)), (1, .int k)] [] _
  have hin := zix_in hk
  have hT := (C.2.2.2.2.2.2.2.2.2.2.1.1.1 i hi).2.2.2
  have hN : zLen.getD i 0 < 2 ^ 31 := by
    have : ∀ j, j < 7 → zLen.getD j 0 < 2 ^ 31 := by decide +kernel
    exact this i hi
  have h0 : ¬ k < 0 := fun z => hin (Or.inl z)
  have h1 : k < Int32.ofNat (zLen.getD i 0) := by
    obtain ⟨j, hj, rfl⟩ := vp_in_of hin hN
    exact nI_lt hj hN
  refine z_iload_n C dJ1_charAt_3b067_0 1 rfl ?_
  refine z_aload_n C dJ1_charAt_3b067_1 0 rfl ?_
  refine z_tlen C hT dJ1_charAt_3b067_2 ?_
  refine z_callS C 2 (As := [.int k, .int (Int32.ofNat (zLen.getD i 0))]) (rest := []) rw_u_507 rw_u_80 rw_u_505 rw_u_506 ⟨by decide, by decide, by decide +kernel⟩ (cJ_chk h0 h1) rfl dJ1_charAt_3b067_3 (Nat.le_of_ble_eq_true rfl) (zrm rfl) ?_
  refine z_aload_n C dJ1_charAt_3b067_6 0 rfl ?_
  refine z_iload_n C dJ1_charAt_3b067_7 1 rfl ?_
  refine z_tb C hT hin dJ1_charAt_3b067_8 ?_
  refine z_sipush C 255 dJ1_charAt_3b067_9 (by decide) ?_
  refine z_iand C dJ1_charAt_3b067_12 ?_
  refine z_i2c C dJ1_charAt_3b067_13 ?_
  exact z_zret C O dJ1_charAt_3b067_14 (pk_nc _) rfl rfl
abbrev rmJ0_charAt_5068e : Room := { frames := 3, cells := 0, slots := 0, locals := 64 }
set_option maxHeartbeats 4000000 in
set_option maxRecDepth 100000 in
theorem cJ_charAt {l : Launch} {G : zG} {i : Nat} {k : Int32} (hi : i < 7) (hk : zix k (zLen.getD i 0) = true) : Ct l G yJ0_charAt_5068e cJ0_charAt_5068e 2 (some .char) rmJ0_charAt_5068e [.ref (gK G i), .int k] [] (some (.int (zch i k))) [] := by
  refine zMet (own := RJ0) rfl (by decide) (Nat.le_of_ble_eq_true rfl) (fun x hl C O => ?_)
  show zW x G 0 0 0 [(0, .ref (gK G i)), (1, .int k)] [] _
  refine z_aload_n C dJ0_charAt_5068e_0 0 rfl ?_
  refine z_callVr C 0 (As := []) (rest := []) (Cn := RJ0) rw_u_501 rw_u_80 rw_u_498 rw_u_499 rw_u_500 ⟨by decide, by decide, by decide +kernel⟩ (cJ_lat hi) rfl (zrecvK C i hi) dJ0_charAt_5068e_1 (Nat.le_of_ble_eq_true rfl) (zrm rfl) ?_
  refine z_if_eq C dJ0_charAt_5068e_4 16 (by decide) (p := none) (q := some ()) (o := ()) rfl (fun h => by cases h) (fun _ => ?_)
  refine z_aload_n C dJ0_charAt_5068e_7 0 rfl ?_
  refine z_getO C (C.2.2.2.2.2.2.2.2.2.2.1.1.1 i hi).2.2.1 rw_u_1444 dJ0_charAt_5068e_8 ?_
  refine z_iload_n C dJ0_charAt_5068e_11 1 rfl ?_
  refine z_callS C 2 (As := [.ref (gV G i), .int k]) (rest := []) rw_u_504 rw_u_81 rw_u_502 rw_u_503 ⟨by decide, by decide, by decide +kernel⟩ (cJ_l1 hi hk) rfl dJ0_charAt_5068e_12 (Nat.le_of_ble_eq_true rfl) (zrm rfl) ?_
  exact z_zret C O dJ0_charAt_5068e_15 (pk_nc _) rfl rfl
abbrev rmJ0_length_8abf5 : Room := { frames := 1, cells := 0, slots := 0, locals := 20 }
set_option maxHeartbeats 4000000 in
set_option maxRecDepth 100000 in
theorem cJ_length {l : Launch} {G : zG} {i : Nat} (hi : i < 7) : Ct l G yJ0_length_8abf5 cJ0_length_8abf5 1 (some .int) rmJ0_length_8abf5 [.ref (gK G i)] [] (some (.int (nI (zLen.getD i 0)))) [] := by
  refine zMet (own := RJ0) rfl (by decide) (Nat.le_of_ble_eq_true rfl) (fun x hl C O => ?_)
  show zW x G 0 0 0 [(0, .ref (gK G i))] [] _
  refine z_aload_n C dJ0_length_8abf5_0 0 rfl ?_
  refine z_getO C (C.2.2.2.2.2.2.2.2.2.2.1.1.1 i hi).2.2.1 rw_u_1444 dJ0_length_8abf5_1 ?_
  refine z_tlen C (C.2.2.2.2.2.2.2.2.2.2.1.1.1 i hi).2.2.2 dJ0_length_8abf5_4 ?_
  refine z_aload_n C dJ0_length_8abf5_5 0 rfl ?_
  refine z_callVr C 0 (As := []) (rest := [.int (Int32.ofNat (zLen.getD i 0))]) (Cn := RJ0) rw_u_491 rw_u_80 rw_u_488 rw_u_489 rw_u_490 ⟨by decide, by decide, by decide +kernel⟩ (cJ_coder hi) rfl (zrecvK C i hi) dJ0_length_8abf5_6 (Nat.le_of_ble_eq_true rfl) (zrm rfl) ?_
  refine z_ishr C dJ0_length_8abf5_9 ?_
  refine z_st (st' := [.int (nI (zLen.getD i 0))]) (by rw [sb_shr0]; rfl) ?_
  exact z_iret C O dJ0_length_8abf5_10 rfl rfl
abbrev rmJ7_fill_53178 : Room := { frames := 0, cells := 0, slots := 0, locals := 0 }
set_option maxHeartbeats 4000000 in
set_option maxRecDepth 100000 in
theorem kJ_fillI {x : zX} {G : zG} {a n : Nat} {v : Int32} {f : Nat → Int32} (hn : n < 2 ^ 31) (C : zC x G RJ7 cJ7_fill_53178 4 none rmJ7_fill_53178) (O : zO x G none [(a, .inl (gI G, n, .inl (zfill n v f)))] 0 0) : ∀ (d i : Nat) (g : Nat → Int32), i + d = n → g = zfill i v f → zW x G 0 0 5 [(2, .int (nI i)), (3, .int (nI n)), (0, .ref a), (1, .int v)] [] [(a, .inl (gI G, n, .inl g))] := by
  intro d
  induction d with
  | zero =>
    intro i g hi hg
    refine z_iload_n C dJ7_fill_53178_5 0 rfl ?_
    refine z_iload_n C dJ7_fill_53178_6 1 rfl ?_
    refine z_icmp_ge C dJ7_fill_53178_7 20 (by decide) (p := some ()) (q := none) (o := ()) (dd := inferInstance) (if_pos (nI_le (by omega) (by omega))) (fun _ => ?_) (fun h => by cases h)
    exact z_vret C O dJ7_fill_53178_20 rfl (by rw [hg]; rw [show i = n by omega])
  | succ d ih =>
    intro i g hi hg
    refine z_iload_n C dJ7_fill_53178_5 0 rfl ?_
    refine z_iload_n C dJ7_fill_53178_6 1 rfl ?_
    refine z_icmp_ge C dJ7_fill_53178_7 20 (by decide) (p := none) (q := some ()) (o := ()) (dd := inferInstance) (if_neg (nI_ge (by omega) (by omega))) (fun h => by cases h) (fun _ => ?_)
    refine z_aload_n C dJ7_fill_53178_10 2 rfl ?_
    refine z_iload_n C dJ7_fill_53178_11 0 rfl ?_
    refine z_iload_n C dJ7_fill_53178_12 3 rfl ?_
    have hin : zix (nI i) n = true := decide_eq_true (vp_in_nI (by omega) hn)
    refine z_iast C 0 rfl (w' := [(a, .inl (gI G, n, .inl (upd g (nI i).toNatClampNeg v)))]) rfl dJ7_fill_53178_13 (kk := some ()) (o := ()) (by unfold zg; rw [if_pos hin]) (fun _ => ?_)
    refine z_iinc C dJ7_fill_53178_14 0 rfl 1 (by decide) (by decide) (lvr := [(3, .int (nI n)), (0, .ref a), (1, .int v)]) rfl (kk := fun y => if y = nI (i + 1) then some () else none) (o := ()) (by unfold zn; exact if_pos (nI_1 i)) (fun y hy => ?_)
    have hy2 : y = nI (i + 1) := by
      by_cases hz : y = nI (i + 1)
      · exact hz
      · rw [if_neg hz] at hy; cases hy
    subst hy2
    refine z_goto C dJ7_fill_53178_17 5 (by decide) ?_
    refine ih (i + 1) _ (by omega) ?_
    rw [nI_clamp (by omega), hg]
    funext j
    simp only [upd, zfill]
    by_cases h1 : j = i
    · subst h1; rw [if_pos rfl, if_pos (by omega)]
    · rw [if_neg h1]
      by_cases h2 : j < i
      · rw [if_pos h2, if_pos (by omega)]
      · rw [if_neg h2, if_neg (by omega)]
set_option maxHeartbeats 4000000 in
set_option maxRecDepth 100000 in
theorem cJ_fillI {l : Launch} {G : zG} {a n : Nat} {v : Int32} {f : Nat → Int32} (hn : n < 2 ^ 31) : Ct l G yJ7_fill_53178 cJ7_fill_53178 4 none rmJ7_fill_53178 [.ref a, .int v] [(a, .inl (gI G, n, .inl f))] none [(a, .inl (gI G, n, .inl (zfill n v f)))] := by
  refine zMet (own := RJ7) rfl (by decide) (Nat.le_of_ble_eq_true rfl) (fun x hl C O => ?_)
  show zW x G 0 0 0 [(0, .ref a), (1, .int v)] [] _
  refine z_iconst C 0 dJ7_fill_53178_0 (by decide) ?_
  refine z_istore_n C dJ7_fill_53178_1 (by decide) (lvr := [(0, .ref a), (1, .int v)]) rfl ?_
  refine z_aload_n C dJ7_fill_53178_2 1 rfl ?_
  refine z_alen C (n := n) 0 1 rfl rfl rfl dJ7_fill_53178_3 ?_
  refine z_istore_n C dJ7_fill_53178_4 (by decide) (lvr := [(2, .int 0), (0, .ref a), (1, .int v)]) rfl ?_
  refine z_perm [1, 0, 2, 3] (lv' := [(2, .int (nI 0)), (3, .int (nI n)), (0, .ref a), (1, .int v)]) rfl ?_
  exact kJ_fillI hn C O n 0 f (by omega) (by funext j; simp [zfill])
abbrev rmJ7_fill_d0a16 : Room := { frames := 0, cells := 0, slots := 0, locals := 0 }
set_option maxHeartbeats 4000000 in
set_option maxRecDepth 100000 in
theorem kJ_fillJ {x : zX} {G : zG} {a n : Nat} {v : Int64} {f : Nat → Int64} (hn : n < 2 ^ 31) (C : zC x G RJ7 cJ7_fill_d0a16 5 none rmJ7_fill_d0a16) (O : zO x G none [(a, .inl (gJ G, n, .inr (.inl (zfillL n v f))))] 0 0) : ∀ (d i : Nat) (g : Nat → Int64), i + d = n → g = zfillL i v f → zW x G 0 0 6 [(3, .int (nI i)), (4, .int (nI n)), (0, .ref a), (1, .long v)] [] [(a, .inl (gJ G, n, .inr (.inl g)))] := by
  intro d
  induction d with
  | zero =>
    intro i g hi hg
    refine z_iload_n C dJ7_fill_d0a16_6 0 rfl ?_
    refine z_iload C dJ7_fill_d0a16_7 1 rfl ?_
    refine z_icmp_ge C dJ7_fill_d0a16_9 22 (by decide) (p := some ()) (q := none) (o := ()) (dd := inferInstance) (if_pos (nI_le (by omega) (by omega))) (fun _ => ?_) (fun h => by cases h)
    exact z_vret C O dJ7_fill_d0a16_22 rfl (by rw [hg]; rw [show i = n by omega])
  | succ d ih =>
    intro i g hi hg
    refine z_iload_n C dJ7_fill_d0a16_6 0 rfl ?_
    refine z_iload C dJ7_fill_d0a16_7 1 rfl ?_
    refine z_icmp_ge C dJ7_fill_d0a16_9 22 (by decide) (p := none) (q := some ()) (o := ()) (dd := inferInstance) (if_neg (nI_ge (by omega) (by omega))) (fun h => by cases h) (fun _ => ?_)
    refine z_aload_n C dJ7_fill_d0a16_12 2 rfl ?_
    refine z_iload_n C dJ7_fill_d0a16_13 0 rfl ?_
    refine z_lload_n C dJ7_fill_d0a16_14 3 rfl ?_
    have hin : zix (nI i) n = true := decide_eq_true (vp_in_nI (by omega) hn)
    refine z_last C 0 rfl (w' := [(a, .inl (gJ G, n, .inr (.inl (vp_updL g (nI i).toNatClampNeg v))))]) rfl dJ7_fill_d0a16_15 (kk := some ()) (o := ()) (by unfold zg; rw [if_pos hin]) (fun _ => ?_)
    refine z_iinc C dJ7_fill_d0a16_16 0 rfl 1 (by decide) (by decide) (lvr := [(4, .int (nI n)), (0, .ref a), (1, .long v)]) rfl (kk := fun y => if y = nI (i + 1) then some () else none) (o := ()) (by unfold zn; exact if_pos (nI_1 i)) (fun y hy => ?_)
    have hy2 : y = nI (i + 1) := by
      by_cases hz : y = nI (i + 1)
      · exact hz
      · rw [if_neg hz] at hy; cases hy
    subst hy2
    refine z_goto C dJ7_fill_d0a16_19 6 (by decide) ?_
    refine ih (i + 1) _ (by omega) ?_
    rw [nI_clamp (by omega), hg]
    funext j
    simp only [vp_updL, zfillL]
    by_cases h1 : j = i
    · subst h1; rw [if_pos rfl, if_pos (by omega)]
    · rw [if_neg h1]
      by_cases h2 : j < i
      · rw [if_pos h2, if_pos (by omega)]
      · rw [if_neg h2, if_neg (by omega)]
set_option maxHeartbeats 4000000 in
set_option maxRecDepth 100000 in
theorem cJ_fillJ {l : Launch} {G : zG} {a n : Nat} {v : Int64} {f : Nat → Int64} (hn : n < 2 ^ 31) : Ct l G yJ7_fill_d0a16 cJ7_fill_d0a16 5 none rmJ7_fill_d0a16 [.ref a, .long v] [(a, .inl (gJ G, n, .inr (.inl f)))] none [(a, .inl (gJ G, n, .inr (.inl (zfillL n v f))))] := by
  refine zMet (own := RJ7) rfl (by decide) (Nat.le_of_ble_eq_true rfl) (fun x hl C O => ?_)
  show zW x G 0 0 0 [(0, .ref a), (1, .long v)] [] _
  refine z_iconst C 0 dJ7_fill_d0a16_0 (by decide) ?_
  refine z_istore_n C dJ7_fill_d0a16_1 (by decide) (lvr := [(0, .ref a), (1, .long v)]) rfl ?_
  refine z_aload_n C dJ7_fill_d0a16_2 1 rfl ?_
  refine z_alen C (n := n) 0 2 rfl rfl rfl dJ7_fill_d0a16_3 ?_
  refine z_istore C dJ7_fill_d0a16_4 (by decide) (lvr := [(3, .int 0), (0, .ref a), (1, .long v)]) rfl ?_
  refine z_perm [1, 0, 2, 3] (lv' := [(3, .int (nI 0)), (4, .int (nI n)), (0, .ref a), (1, .long v)]) rfl ?_
  exact kJ_fillJ hn C O n 0 f (by omega) (by funext j; simp [zfillL])

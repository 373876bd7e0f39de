/-! THE CLAIM OUT OF ONE WALK OF THE LAW'S BODY. Your part is whole_start (and what it stands on); all else here is the same for every law, but numbers. -/
def R_law : String := "WhatWasHersLaw"
def lw_P (b : Addr) (xs : List Int32) (args : Array Value) (s : State) : Prop := args = #[.ref b] ∧ s.IntsAt b xs ∧ xs.length ≤ 3072 ∧ (Jvm.Cond.and given_1 narrow_1).before args s = true
def lw_Q (_ : Array Value) (s : State) (o : Outcome) (t : State) : Prop := o = .returned (some (.int 1)) ∧ Framed s o t [] 600000 7302250
def lw_Z (below : List Frame) (a : Array Value) (s : State) : State → Prop := fun t => ∃ o, t.status = .running ∧ Ended t below o ∧ lw_Q a s o t
/-- the law's own end, with 1 on the stack, nothing written that was there before, its room as the claim has it -/
theorem lw_ret {p : Program} {l : Launch} {e : Env} {s : State} {m : MethodId} {below : List Frame} {meth : Method} {c : Code} {b : Nat} (hx : p.tables.exec = Jvm.exec) (hb : c.code = code) (hr : meth.sig.returnType = ret) (hlocks : meth.locks = false) {pc : Nat} {H : Heap} {ls : Array Slot} (hdg : decode code pc = .ok (.ireturn, 1)) : W p l e room_1 s m #[Value.ref b] below meth c H [] 600000 7302250 (lw_Z below #[Value.ref b] s) (F0 m pc ls [.int 1]) := by
  intro T hT X
  obtain ⟨fs, hret, hrun, hended, hW, hframe⟩ := X.leave (v := some (.int 1)) (hlocks := hlocks) (fun h => by rw [hr] at h; cases h)
  have hmeth' : T.vm.method? m = some meth := X.method'
  refine ⟨T.setFrames fs, ?_, .returned (some (.int 1)), hrun, hended, rfl, ⟨_, rfl⟩, hW, hframe⟩
  jvm_step X.here [X.here.top, hx, hb, hdg, hmeth', hr, ret, narrow_b1]
  (try refine ⟨rfl, ?_⟩); (try refine ⟨rfl, ?_⟩)
  first | (intro acts; rw [hret _ acts rfl rfl rfl]) | rw [hret _ _ rfl rfl rfl]
  exact Steps.refl _
/-- what holds at the law's entry: the machine, the code, the tables' words (any of lw_tbl by 'hts w (by decide +kernel)'), the script of L ints xs at the cell b, what the Statement gives of the start (any of its parts by flat_of_before) -/
def lw_At (p : Program) (s : State) (m : MethodId) (meth : Method) (c : Code) (b L : Nat) (xs : Nat → Int32) : Prop :=
  p.tables.exec = Jvm.exec ∧ c.code = code ∧ meth.sig.returnType = ret ∧ c.maxLocals = 4 ∧ s.vm.findClass R_law = some m.cls ∧ (∀ w ∈ lw_tbl, w.before #[Value.ref b] s = true) ∧ va_X b L xs s s.heap ∧ b < s.heap.size ∧ meth.locks = false ∧ (Jvm.Cond.and given_1 narrow_1).before #[Value.ref b] s = true

def lu0 : zLS := (zsAf zs0 1 (zfill 8 (-1) (zA zs0 1)), zs0, zs0, zs0, zs0, zsJ zs0 7 1, zs0, zsJ zs0 7 1, zs0, zsA (zsA (zsA (zsA (zsA (zsA (zsA (zsA zs0 2 0 (-1)) 2 1 (-1)) 2 2 (-1)) 2 3 (-1)) 2 4 (-1)) 2 5 (-1)) 2 6 (-1)) 2 7 (-1))
/-- the String constants of the Statement -/
def ztm (i : Nat) : Term := .string RX6 (zIdx.getD i 0)
abbrev zfl : List Cond := flatC (Jvm.Cond.and given_1 narrow_1)
theorem zs_ex : ∀ i, i < 7 → Cond.exactly (ztm i) "java/lang/String" ∈ zfl := by decide +kernel
theorem zs_co : ∀ i, i < 7 → Cond.eq (.field (ztm i) "java/lang/String" "coder" "B") (.int 0) ∈ zfl := by decide +kernel
theorem zs_ar : ∀ i, i < 7 → Cond.arrayOf (.field (ztm i) "java/lang/String" "value" "[B") .byte ∈ zfl := by decide +kernel
theorem zs_le : ∀ i, i < 7 → Cond.eq (.length (.field (ztm i) "java/lang/String" "value" "[B")) (.int (Int32.ofNat (zLen.getD i 0))) ∈ zfl := by decide +kernel
theorem zs_el : ∀ i, i < 7 → ∀ j, j < zLen.getD i 0 → Cond.eq (.elem (.field (ztm i) "java/lang/String" "value" "[B") (.int (Int32.ofNat j))) (.int ((zByt.getD i []).getD j 0)) ∈ zfl := by decide +kernel
theorem zs_ne : ∀ i, i < 7 → ∀ j, j < 7 → i ≠ j → (Cond.not (Cond.eq (ztm i) (ztm j)) ∈ zfl ∨ Cond.not (Cond.eq (ztm j) (ztm i)) ∈ zfl) := by decide +kernel
theorem zs_len : ∀ i, i < 7 → zLen.getD i 0 < 2 ^ 31 := by decide +kernel
theorem zs_no : ∀ q ∈ zNo, Cond.not (.castable q.1 q.2) ∈ zfl := by decide +kernel
theorem zs_ref : ∀ i, i < 7 → Cond.stringRef RX6 (zIdx.getD i 0) (zTxt.getD i "") ∈ lw_tbl := by decide +kernel
theorem zs_cast : ∀ q ∈ zCast, Cond.castable q.1 q.2 ∈ lw_tbl := by decide +kernel
theorem zs_nest : ∀ q ∈ zNest, Cond.methodLinkNest q.1 q.2.1 q.2.2 RX11 ∈ lw_tbl := by decide +kernel
set_option maxHeartbeats 4000000 in
set_option maxRecDepth 100000 in
theorem whole_open {p : Program} {e : Env} {s : State} {m : MethodId} {below : List Frame} {meth : Method} {c : Code} (l : Launch) {b L : Nat} {sc : Nat → Int32} (hL : L ≤ 3072) (C0 : lw_At p s m meth c b L sc) (hrun : lrun sc L 1000 0 lu0 = some ()) : W p l e room_1 s m #[Value.ref b] below meth c s.heap [] 0 0 (lw_Z below #[Value.ref b] s) (entryFrame m ([Value.ref b] : List Value).toArray 4) := by
  obtain ⟨hx, hb, hr, hml, hown, hts, hX, hbl, hlocks, hgv⟩ := id C0
  have hs := flat_of_before _ hgv
  have htsU : ∀ w ∈ zU, w.before #[Value.ref b] s = true := fun w h => hts w (List.mem_filter.mp h).1
  have hA : ∀ q : Nat, s.heap.size ≤ q → (fun q : Nat => s.heap.size ≤ q) q := fun _ h => h
  have hA' : ∀ a : Nat, a < s.heap.size → ¬ (fun q : Nat => s.heap.size ≤ q) a := fun a h => Nat.not_le.mpr h
  have hbA : ¬ (fun q : Nat => s.heap.size ≤ q) b := Nat.not_le.mpr hbl
  obtain ⟨c0, iS0, hKn0⟩ := u_known (C := RX0) (T := TX0) (N := 3) (n := 3) htsU inzX0 (hts (.instantiable RX0 3) (by decide +kernel))
  obtain ⟨c1, iS1, hKn1⟩ := u_known (C := RX1) (T := TX1) (N := 3) (n := 3) htsU inzX1 (hts (.instantiable RX1 3) (by decide +kernel))
  obtain ⟨c2, iS2, hKn2⟩ := u_known (C := RX2) (T := TX2) (N := 18) (n := 18) htsU inzX2 (hts (.instantiable RX2 18) (by decide +kernel))
  obtain ⟨c3, iS3, hKn3⟩ := u_known (C := RX3) (T := TX3) (N := 3) (n := 3) htsU inzX3 (hts (.instantiable RX3 3) (by decide +kernel))
  obtain ⟨c4, iS4, hKn4⟩ := u_known (C := RX4) (T := TX4) (N := 3) (n := 3) htsU inzX4 (hts (.instantiable RX4 3) (by decide +kernel))
  obtain ⟨c5, iS5, hKn5⟩ := u_known (C := RX5) (T := TX5) (N := 3) (n := 3) htsU inzX5 (hts (.instantiable RX5 3) (by decide +kernel))
  obtain ⟨c6, iS6, hKn6⟩ := u_known (C := RX6) (T := TX6) (N := 8) (n := 8) htsU inzX6 (hts (.instantiable RX6 8) (by decide +kernel))
  obtain ⟨c7, iS7, hKn7⟩ := u_known (C := RX7) (T := TX7) (N := 13) (n := 13) htsU inzX7 (hts (.instantiable RX7 13) (by decide +kernel))
  obtain ⟨c8, iS8, hKn8⟩ := u_known (C := RX8) (T := TX8) (N := 9) (n := 9) htsU inzX8 (hts (.instantiable RX8 9) (by decide +kernel))
  obtain ⟨c9, iS9, hKn9⟩ := u_known (C := RX10) (T := TX10) (N := 2) (n := 2) htsU inzX10 (hts (.instantiable RX10 2) (by decide +kernel))
  obtain ⟨c10, iS10, hKn10⟩ := u_known (C := RX11) (T := TX11) (N := 14) (n := 14) htsU inzX11 (hts (.instantiable RX11 14) (by decide +kernel))
  obtain ⟨c11, iS11, hKn11⟩ := u_known (C := RX12) (T := TX12) (N := 55) (n := 55) htsU inzX12 (hts (.instantiable RX12 55) (by decide +kernel))
  obtain ⟨dC, dI, hKc⟩ : ∃ (dC : Nat → ClassId) (dI : Nat → Nat → Nat), ∀ (k : Nat) (q : vw_C), vwCl[k]? = some q → u_Kn s q.1 q.2.1 q.2.2 (dC k) (dI k) := by
    refine ⟨fun k => if k = 0 then c0 else if k = 1 then c1 else if k = 2 then c2 else if k = 3 then c3 else if k = 4 then c4 else if k = 5 then c5 else if k = 6 then c6 else if k = 7 then c7 else if k = 8 then c8 else if k = 9 then c9 else if k = 10 then c10 else c11, fun k => if k = 0 then iS0 else if k = 1 then iS1 else if k = 2 then iS2 else if k = 3 then iS3 else if k = 4 then iS4 else if k = 5 then iS5 else if k = 6 then iS6 else if k = 7 then iS7 else if k = 8 then iS8 else if k = 9 then iS9 else if k = 10 then iS10 else iS11, ?_⟩
    intro k q hq
    match k, hq with
    | 0, hq => cases hq; exact hKn0
    | 1, hq => cases hq; exact hKn1
    | 2, hq => cases hq; exact hKn2
    | 3, hq => cases hq; exact hKn3
    | 4, hq => cases hq; exact hKn4
    | 5, hq => cases hq; exact hKn5
    | 6, hq => cases hq; exact hKn6
    | 7, hq => cases hq; exact hKn7
    | 8, hq => cases hq; exact hKn8
    | 9, hq => cases hq; exact hKn9
    | 10, hq => cases hq; exact hKn10
    | 11, hq => cases hq; exact hKn11
    | k + 12, hq => simp [vwCl] at hq
  have harr : ∀ ty : FieldType, (ty = .byte ∨ ty = .int ∨ ty = .long) → (Cond.arrayClass ty).before #[Value.ref b] s = true → ∃ cA : ClassId, ArrOfT s cA ty ∧ va_RA s cA ty := by
    intro ty hty h
    obtain ⟨cA, kA, comp, h1, h2, h3⟩ := Cond.arrayClass_spec h
    exact ⟨cA, fun n z => ⟨fun k h => (by cases h), kA, h2, comp, h3⟩, by rcases hty with rfl | rfl | rfl <;> exact h1⟩
  obtain ⟨cB, hB⟩ := harr .byte (Or.inl rfl) (hts _ (by decide +kernel))
  obtain ⟨cI, hI⟩ := harr .int (Or.inr (Or.inl rfl)) (hts _ (by decide +kernel))
  obtain ⟨cJ, hJ⟩ := harr .long (Or.inr (Or.inr rfl)) (hts _ (by decide +kernel))
  obtain ⟨adK, adV, hSt, hAd⟩ := vk_Sof (args := #[Value.ref b]) (s := s) (N := 7) (tm := ztm) (len := zLen) (byt := zByt) (A := fun q : Nat => s.heap.size ≤ q) zs_len (fun i hi => hs _ (zs_ex i hi)) (fun i hi => hs _ (zs_co i hi)) (fun i hi => hs _ (zs_ar i hi)) (fun i hi => hs _ (zs_le i hi)) (fun i hi j hj => hs _ (zs_el i hi j hj)) (fun i j hi hj hij => (zs_ne i hi j hj hij).elim (fun h => Or.inl (hs _ h)) (fun h => Or.inr (hs _ h))) hA'
  let G : zG := ((dC, dI), cB, cI, cJ, adK, adV)
  have hK : va_K G.1 vwCl (zT G) s := by
    refine ⟨hKc, fun k q h => ?_⟩
    match k, h with
    | 0, h => cases h; exact hB
    | 1, h => cases h; exact hI
    | 2, h => cases h; exact hJ
    | k + 3, h => simp [zT] at h
  have hE : zE G (fun q : Nat => s.heap.size ≤ q) s s.heap := by
    refine ⟨⟨hSt, fun i hi => vk_R.of (hts _ (zs_ref i hi)) (hAd i hi)⟩, ⟨va_Zof (hts _ (by decide +kernel)) (hts _ (by decide +kernel)) (va_eqt (hs (Cond.eq (.static "java/lang/String" "COMPACT_STRINGS" "Z") (.int 1)) (by decide +kernel))) hA', va_Zqof (hts _ (by decide +kernel)) (hts _ (by decide +kernel)) (hs (Cond.isRef (.static "jdk/internal/util/Preconditions" "SIOOBE_FORMATTER" "Ljava/util/function/BiFunction;")) (by decide +kernel)) hA'⟩, fun q hq => va_Nw.of rfl (hts _ (zs_nest q hq)), fun q hq => va_Nw.of rfl (hts _ (zs_cast q hq)), fun q hq => va_Nc.of (hs _ (zs_no q hq))⟩
  let x0 : zX := (p, l, e, room_1, s, m, #[Value.ref b], below, meth, c, fun q : Nat => s.heap.size ≤ q, lw_Z below #[Value.ref b] s)
  have C : zC x0 G RL cL_law 4 (some .boolean) room_1 := ⟨hx, hb, hml, hown, htsU, hr, hlocks, hK, hA, rfl, hE⟩
  have hR : ∀ {ce sl : Nat} {lv : List (Nat × Value)} {w : va_W}, ce ≤ 600000 → sl ≤ 7302250 → zW x0 G ce sl 944 lv [.int 1] w := by
    intro ce sl lv w h1 h2 H locs ls hP hD hS hl
    refine va_forget (fun q hq => hS.2.2 q hq) ?_
    refine W.widen (k := 600000) (n := 7302250) h1 h2 ?_
    exact lw_ret hx hb hr hlocks dL_law_944
  have hX1 : va_X b L sc (xs x0) (xs x0).heap := hX
  have hbl1 : b < (xs x0).heap.size := hbl
  have hbA1 : ¬ xA x0 b := hbA
  have key : zW x0 G 0 0 0 [(0, .ref b)] [] [] := by
    clear_value x0 G
    refine z_new C (ci := 10) inzX11 tyX11 tyX11_ok rw_u_91 rw_u_92 rw_u_71 rfl [.null, .null, .null, .int 0, .null, .int 0, .int 0, .null, .null, .null, .null, .null, .null, .null] (by intro j hj; match j, hj with | 0, _ => rfl | 1, _ => rfl | 2, _ => rfl | 3, _ => rfl | 4, _ => rfl | 5, _ => rfl | 6, _ => rfl | 7, _ => rfl | 8, _ => rfl | 9, _ => rfl | 10, _ => rfl | 11, _ => rfl | 12, _ => rfl | 13, _ => rfl | j + 14, hj => exact absurd hj (by omega)) (Nat.le_of_ble_eq_true rfl) (Nat.le_of_ble_eq_true rfl) dL_law_0 (fun o1 => ?_)
    refine z_dup C dL_law_3 rfl ?_
    refine z_callI C 0 (As := []) (rest := [.ref o1]) rw_u_95 rw_u_71 rw_u_93 rw_u_94 rfl ⟨by decide, by decide, by decide +kernel⟩ (cX_init (o := o1)) rfl dL_law_4 (Nat.le_of_ble_eq_true rfl) (zrm rfl) (fun z => ?_)
    refine z_astore_n C dL_law_7 (by decide) (lvr := [(0, .ref b)]) rfl ?_
    refine z_new C (ci := 11) inzX12 tyX12 tyX12_ok rw_u_954 rw_u_955 rw_u_78 rfl [.int 0, .int 0, .null, .null, .null, .int 0, .int 0, .int 0, .int 0, .null, .null, .int 0, .int 0, .int 0, .null, .null, .null, .int 0, .int 0, .int 0, .int 0, .int 0, .int 0, .int 0, .int 0, .int 0, .int 0, .null, .int 0, .null, .null, .null, .null, .null, .null, .null, .null, .null, .null, .null, .int 0, .null, .null, .null, .null, .null, .null, .null, .null, .long 0, .null, .null, .null, .null, .int 0] (by intro j hj; match j, hj with | 0, _ => rfl | 1, _ => rfl | 2, _ => rfl | 3, _ => rfl | 4, _ => rfl | 5, _ => rfl | 6, _ => rfl | 7, _ => rfl | 8, _ => rfl | 9, _ => rfl | 10, _ => rfl | 11, _ => rfl | 12, _ => rfl | 13, _ => rfl | 14, _ => rfl | 15, _ => rfl | 16, _ => rfl | 17, _ => rfl | 18, _ => rfl | 19, _ => rfl | 20, _ => rfl | 21, _ => rfl | 22, _ => rfl | 23, _ => rfl | 24, _ => rfl | 25, _ => rfl | 26, _ => rfl | 27, _ => rfl | 28, _ => rfl | 29, _ => rfl | 30, _ => rfl | 31, _ => rfl | 32, _ => rfl | 33, _ => rfl | 34, _ => rfl | 35, _ => rfl | 36, _ => rfl | 37, _ => rfl | 38, _ => rfl | 39, _ => rfl | 40, _ => rfl | 41, _ => rfl | 42, _ => rfl | 43, _ => rfl | 44, _ => rfl | 45, _ => rfl | 46, _ => rfl | 47, _ => rfl | 48, _ => rfl | 49, _ => rfl | 50, _ => rfl | 51, _ => rfl | 52, _ => rfl | 53, _ => rfl | 54, _ => rfl | j + 55, hj => exact absurd hj (by omega)) (Nat.le_of_ble_eq_true rfl) (Nat.le_of_ble_eq_true rfl) dL_law_8 (fun o2 => ?_)
    refine z_dup C dL_law_11 rfl ?_
    refine z_callI C 0 (As := []) (rest := [.ref o2]) rw_u_958 rw_u_78 rw_u_956 rw_u_957 rfl ⟨by decide, by decide, by decide +kernel⟩ (Ctr.app (cM_init (o := o2)) (wdX G (zq o1 z.1) z.2.1 z.2.2.1 z.2.2.2.1 z.2.2.2.2.1 z.2.2.2.2.2.1 z.2.2.2.2.2.2.1 z.2.2.2.2.2.2.2.1 z.2.2.2.2.2.2.2.2.1 (zsAf zs0 1 (zfill 8 (-1) (zA zs0 1))) ++ (wdR G z.2.1 zs0 ++ (wdS G z.2.2.1 zs0 ++ (wdS G z.2.2.2.1 zs0 ++ (wdC G z.2.2.2.2.1 z.2.2.2.2.2.2.2.2.2.1 zs0 ++ (wdU G z.2.2.2.2.2.1 (zsJ zs0 7 1) ++ (wdC G z.2.2.2.2.2.2.1 z.2.2.2.2.2.2.2.2.2.2 zs0 ++ (wdU G z.2.2.2.2.2.2.2.1 (zsJ zs0 7 1) ++ (wdT G z.2.2.2.2.2.2.2.2.1 zs0)))))))))) rfl dL_law_12 (Nat.le_of_ble_eq_true rfl) (zrm rfl) (fun y => ?_)
    refine z_world (w' := wdX G (zq o1 z.1) z.2.1 z.2.2.1 z.2.2.2.1 z.2.2.2.2.1 z.2.2.2.2.2.1 z.2.2.2.2.2.2.1 z.2.2.2.2.2.2.2.1 z.2.2.2.2.2.2.2.2.1 (zsAf zs0 1 (zfill 8 (-1) (zA zs0 1))) ++ (wdR G z.2.1 zs0 ++ (wdS G z.2.2.1 zs0 ++ (wdS G z.2.2.2.1 zs0 ++ (wdC G z.2.2.2.2.1 z.2.2.2.2.2.2.2.2.2.1 zs0 ++ (wdU G z.2.2.2.2.2.1 (zsJ zs0 7 1) ++ (wdC G z.2.2.2.2.2.2.1 z.2.2.2.2.2.2.2.2.2.2 zs0 ++ (wdU G z.2.2.2.2.2.2.2.1 (zsJ zs0 7 1) ++ (wdT G z.2.2.2.2.2.2.2.2.1 zs0 ++ (wdM G (zq o2 y) (zsA (zsA (zsA (zsA (zsA (zsA (zsA (zsA zs0 2 0 (-1)) 2 1 (-1)) 2 2 (-1)) 2 3 (-1)) 2 4 (-1)) 2 5 (-1)) 2 6 (-1)) 2 7 (-1)))))))))))) [0, 1, 2, 3, 4, 5, 6, 7, 8, 9, 10, 11, 12, 13, 14, 15, 16, 17, 18, 19, 20, 21, 22, 23, 24, 25, 26, 27, 28, 29, 30, 31, 32, 33, 34, 35, 36, 37, 38, 39, 40, 41, 42, 43, 44, 45, 46, 47, 48, 49, 50, 51, 52, 53, 54, 55, 56, 57, 58, 59, 60, 61, 62, 63, 64, 65, 66, 67, 68, 69, 70, 71, 72, 73, 74, 75, 76, 77, 78, 79, 80, 81, 82, 83, 84, 85, 86, 87, 88, 89, 90, 91, 92, 93, 94, 95, 96, 97, 98, 99, 100, 101, 102, 103, 104, 105, 106, 107, 108, 109, 110] rfl rfl ?_
    refine z_astore_n C dL_law_15 (by decide) (lvr := [(1, .ref o1), (0, .ref b)]) rfl ?_
    refine z_iconst C 0 dL_law_16 (by decide) ?_
    refine z_istore_n C dL_law_17 (by decide) (lvr := [(2, .ref o2), (1, .ref o1), (0, .ref b)]) rfl ?_
    refine z_perm [3, 2, 1, 0] (lv' := [(0, .ref b), (1, .ref o1), (2, .ref o2), (3, .int (nI (6 * 0)))]) rfl ?_
    refine z_wide (ce' := 3000 - 1000) (sl' := 40000 - 3 * 1000) (Nat.le_of_ble_eq_true rfl) (Nat.le_of_ble_eq_true rfl) ?_
    exact law_loop C hX1 hbl1 hbA1 hL hR 1000 0 lu0 (zq o1 z.1) z.2.1 z.2.2.1 z.2.2.2.1 z.2.2.2.2.1 z.2.2.2.2.2.1 z.2.2.2.2.2.2.1 z.2.2.2.2.2.2.2.1 z.2.2.2.2.2.2.2.2.1 (zq o2 y) z.2.2.2.2.2.2.2.2.2.1 z.2.2.2.2.2.2.2.2.2.2 (by omega) (by omega) hrun
  have hl := lv_entry ([.ref b]) (n := 4) (Nat.le_of_ble_eq_true rfl)
  rw [lg_entry_eq]
  exact key s.heap [] _ (fun k q h => by simp at h) ⟨fun i j p q h => by simp at h, fun k q h => by simp at h⟩ va_S.rf (by show lv_has _ c.maxLocals _; rw [hml]; exact hl)

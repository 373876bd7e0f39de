/-! INSTRUCTION ROWS over zW. A pure function f gives the method's answer as an Option; 'h : f .. = some o' is taken apart row by row. -/
def zn {α β : Type} (e : α) (k : α → Option β) : Option β := k e
def zg {β : Type} (b : Bool) (k : Option β) : Option β := if b = true then k else none
def zix (i : Int32) (n : Nat) : Bool := decide (¬ (i < 0 ∨ n ≤ i.toNatClampNeg))
def znz (i : Int32) : Bool := decide (¬ i = 0)
def zlz (i : Int64) : Bool := decide (¬ i = 0)
def zb (b : Bool) : Int32 := if b = true then 1 else 0
def zbo (i : Int32) : Bool := decide (i = 0) || decide (i = 1)
theorem zbo_e {i : Int32} (h : zbo i = true) : i = zb (decide (i = 1)) := by
  simp only [zbo, Bool.or_eq_true, decide_eq_true_eq] at h
  rcases h with h | h <;> subst h <;> rfl
theorem zg_o {β : Type} {b : Bool} {k : Option β} {o : β} (h : zg b k = some o) : b = true ∧ k = some o := by
  unfold zg at h
  split at h
  · exact ⟨by assumption, h⟩
  · cases h
theorem bind_o {α β : Type} {e : Option α} {k : α → Option β} {o : β} (h : Option.bind e k = some o) : ∃ y, e = some y ∧ k y = some o := by
  cases e with
  | none => cases h
  | some y => exact ⟨y, rfl, h⟩
theorem zix_in {i : Int32} {n : Nat} (h : zix i n = true) : vp_in i n := by unfold vp_in; exact of_decide_eq_true h
theorem znz_ne {i : Int32} (h : znz i = true) : ¬ i = 0 := of_decide_eq_true h
theorem zlz_ne {i : Int64} (h : zlz i = true) : ¬ i = 0 := of_decide_eq_true h
/-- contracts whose end leaves something open -/
def zPostr (G : zG) (w : va_W) (sz : Nat) {Z : Type} (r : Z → Option Value) (w1 : Z → va_W) : Array Value → State → Outcome → State → Prop := fun a st oc t => ∃ z : Z, zPost G w sz (r z) (w1 z) a st oc t
def zOr (x : zX) (G : zG) {Z : Type} (r : Z → Option Value) (w1 : Z → va_W) (mc ms : Nat) : Prop := ∃ w0 : va_W, xA x = va_A w0 (xs x).heap.size ∧ xQ x = MQ (xb x) (zPostr G w0 (xs x).heap.size r w1) (xa x) (xs x) mc ms (xA x)
abbrev zO1 (x : zX) (G : zG) {Z : Type} (r : Option Value) (w1 : Z → va_W) (mc ms : Nat) : Prop := zOr x G (fun _ : Z => r) w1 mc ms
def Ctr (l : Launch) (G : zG) (y : MethodName) (cc : ByteArray) (maxL : Nat) (ret : Option FieldType) (rm : Room) (av : List Value) (w : va_W) {Z : Type} (r : Z → Option Value) (w1 : Z → va_W) : Prop := ∀ sz, Met l y (.code y cc maxL ret :: zU) rm (zPre G av w sz) (zPostr G w sz r w1) rm.cells rm.slots (va_A w sz)
theorem zMetr {l : Launch} {G : zG} {y : MethodName} {cc : ByteArray} {maxL : Nat} {ret : Option FieldType} {rm : Room} {av : List Value} {w : va_W} {Z : Type} {r : Z → Option Value} {w1 : Z → va_W} {own : String} (ho : y.cls = own) (hy : plainName y.cls = true) (hl : (lg_sl av).length ≤ maxL) (body : ∀ x : zX, xl x = l → zC x G own cc maxL ret rm → ((xt x).name = y.name) → zOr x G r w1 rm.cells rm.slots → zW x G 0 0 0 (lv_args 0 av) [] w) : Ctr l G y cc maxL ret rm av w r w1 := by
  intro sz
  refine Met.ofW (cc := cc) (maxL := maxL) (ret := ret) hy rfl ?_
  intro p e s m args below meth c s₁ B hml hv
  obtain ⟨rfl, hsz, hP, hK, hD0, hE⟩ := hv
  subst hsz
  have hts := atoms_spec (ws := .code y cc maxL ret :: zU) B.pre
  have hown : s.vm.findClass own = some m.cls := by rw [← ho]; exact findClass_of_methodNamed B.named
  have hD := hD0.self (sz := s.heap.size)
  have hl0 := lv_entry av (n := maxL) hl
  rw [lg_entry_eq]
  refine body (p, l, e, rm, s, m, av.toArray, below, meth, c, va_A w s.heap.size, MQ below (zPostr G w s.heap.size r w1) av.toArray s rm.cells rm.slots (va_A w s.heap.size)) rfl ⟨B.exec, B.bytes, hml, hown, fun v hv => hts v (List.mem_cons_of_mem _ hv), B.returns, B.notSynchronized, hK, fun q h => Or.inr h, rfl, hE⟩ (name_of_methodNamed B.named B.method).1 ⟨w, rfl, rfl⟩ s.heap [] _ hP hD va_S.rf ?_
  show lv_has _ c.maxLocals _
  rw [hml]
  exact hl0
section ZR
variable {x : zX} {G : zG} {ce sl pc : Nat} {lv : List (Nat × Value)} {st : List Value} {w : va_W} {own : String} {cc : ByteArray} {nL : Nat} {ret : Option FieldType} {rm : Room}
/-- locals in another order, or fewer -/
theorem z_perm (ks : List Nat) {lv' : List (Nat × Value)} (hl : lv_pick lv ks = lv') (K : zW x G ce sl pc lv' st w) : zW x G ce sl pc lv st w := fun H locs ls hP hD hS h => K H locs ls hP hD hS (lv_sub h ks hl)
theorem z_pc {pc' : Nat} (e : pc' = pc) (K : zW x G ce sl pc' lv st w) : zW x G ce sl pc lv st w := e ▸ K
theorem z_st {st' : List Value} (e : st = st') (K : zW x G ce sl pc lv st' w) : zW x G ce sl pc lv st w := e ▸ K
theorem z_wide {ce' sl' : Nat} (h1 : ce ≤ ce') (h2 : sl ≤ sl') (K : zW x G ce' sl' pc lv st w) : zW x G ce sl pc lv st w := fun H locs ls hP hD hS h => W.widen h1 h2 (K H locs ls hP hD hS h)
/-- a part of the world, or the same in another order -/
theorem z_world {w' : va_W} (is : List Nat) (hn : va_nd is = true) (hs : is.map (fun i => w[i]?) = w'.map some) (K : zW x G ce sl pc lv st w') : zW x G ce sl pc lv st w := fun H locs ls hP hD hS h => K H locs ls (by
    intro k q hq
    have h1 : (is.map (fun i => w[i]?))[k]? = some (some q) := by rw [hs, List.getElem?_map, hq]; rfl
    rw [List.getElem?_map] at h1
    cases hi : is[k]? with
    | none => rw [hi] at h1; cases h1
    | some i => rw [hi] at h1; exact hP i q (Option.some.inj h1)) (hD.sub is hn hs) hS h
theorem z_iconst (C : zC x G own cc nL ret rm) {n : Int} (v : Int32) (hd : decode cc pc = .ok (.iconst n, 1)) (hv : Int32.ofInt n = v) (K : zW x G ce sl (pc + 1) lv (.int v :: st) w) : zW x G ce sl pc lv (st) w := fun H locs ls hP hD hS hl => lv_iconst C.1 C.2.1 hd hv (K H locs ls hP hD hS hl)
theorem z_bipush (C : zC x G own cc nL ret rm) {n : Int} (v : Int32) (hd : decode cc pc = .ok (.bipush n, 2)) (hv : (Int8.ofInt n).toInt32 = v) (K : zW x G ce sl (pc + 2) lv (.int v :: st) w) : zW x G ce sl pc lv (st) w := fun H locs ls hP hD hS hl => lv_bipush C.1 C.2.1 hd hv (K H locs ls hP hD hS hl)
theorem z_sipush (C : zC x G own cc nL ret rm) {n : Int} (v : Int32) (hd : decode cc pc = .ok (.sipush n, 3)) (hv : (Int16.ofInt n).toInt32 = v) (K : zW x G ce sl (pc + 3) lv (.int v :: st) w) : zW x G ce sl pc lv (st) w := fun H locs ls hP hD hS hl => lv_sipush C.1 C.2.1 hd hv (K H locs ls hP hD hS hl)
theorem z_lconst (C : zC x G own cc nL ret rm) {n : Fin 2} (v : Int64) (hd : decode cc pc = .ok (.lconst n, 1)) (hv : Int64.ofNat (n : Nat) = v) (K : zW x G ce sl (pc + 1) lv (.long v :: st) w) : zW x G ce sl pc lv (st) w := fun H locs ls hP hD hS hl => lv_lconst C.1 C.2.1 hd hv (K H locs ls hP hD hS hl)
theorem z_ldc (C : zC x G own cc nL ret rm) {i : Nat} {v : Int32} (hk : Cond.constant own i v ∈ zU) (hd : decode cc pc = .ok (.ldc i, 2)) (K : zW x G ce sl (pc + 2) lv (.int v :: st) w) : zW x G ce sl pc lv st w := fun H locs ls hP hD hS hl => lv_ldc C.1 C.2.1 C.2.2.2.1 (C.2.2.2.2.1 _ hk) hd (K H locs ls hP hD hS hl)
theorem z_ldc2 (C : zC x G own cc nL ret rm) {i : Nat} {v : Int64} (hk : Cond.constantLong own i v ∈ zU) (hd : decode cc pc = .ok (.ldc2_w i, 3)) (K : zW x G ce sl (pc + 3) lv (.long v :: st) w) : zW x G ce sl pc lv st w := fun H locs ls hP hD hS hl => lv_ldc2 C.1 C.2.1 C.2.2.2.1 (C.2.2.2.2.1 _ hk) hd (K H locs ls hP hD hS hl)
theorem z_iload_n (C : zC x G own cc nL ret rm) {k : Fin 4} {v : Int32} (hd : decode cc pc = .ok (.iload_n k, 1)) (j : Nat) (hj : lv[j]? = some ((k : Nat), .int v)) (K : zW x G ce sl (pc + 1) lv (.int v :: st) w) : zW x G ce sl pc lv (st) w := fun H locs ls hP hD hS hl => lv_iload_n C.1 C.2.1 hd rfl (lv_at hl j hj) (K H locs ls hP hD hS hl)
theorem z_iload (C : zC x G own cc nL ret rm) {k : Nat} {v : Int32} (hd : decode cc pc = .ok (.iload k, 2)) (j : Nat) (hj : lv[j]? = some (k, .int v)) (K : zW x G ce sl (pc + 2) lv (.int v :: st) w) : zW x G ce sl pc lv (st) w := fun H locs ls hP hD hS hl => lv_iload C.1 C.2.1 hd (lv_at hl j hj) (K H locs ls hP hD hS hl)
theorem z_istore_n (C : zC x G own cc nL ret rm) {k : Fin 4} {v : Int32} (hd : decode cc pc = .ok (.istore_n k, 1)) (hn : (k : Nat) < nL) {lvr : List (Nat × Value)} (hl' : lv.filter (fun q => !(q.1 == (k : Nat)) && !(q.1 + 1 == (k : Nat) && q.2.category == 2)) = lvr) (K : zW x G ce sl (pc + 1) (((k : Nat), .int v) :: lvr) st w) : zW x G ce sl pc lv (.int v :: st) w := fun H locs ls hP hD hS hl => lv_istore_n C.1 C.2.1 hd rfl hl (by rw [C.2.2.1]; exact hn) (by rw [hl']) (fun ls' h2 => K H locs ls' hP hD hS h2)
theorem z_istore_nN (C : zC x G own cc nL ret rm) {k : Fin 4} {e : Int32} {α : Type} {o : α} {kk : Int32 → Option α} (hd : decode cc pc = .ok (.istore_n k, 1)) (hn : (k : Nat) < nL) {lvr : List (Nat × Value)} (hl' : lv.filter (fun q => !(q.1 == (k : Nat)) && !(q.1 + 1 == (k : Nat) && q.2.category == 2)) = lvr) (h : zn e kk = some o) (K : ∀ v : Int32, kk v = some o → zW x G ce sl (pc + 1) (((k : Nat), .int v) :: lvr) st w) : zW x G ce sl pc lv (.int e :: st) w := z_istore_n C hd hn hl' (K e h)
theorem z_istore (C : zC x G own cc nL ret rm) {k : Nat} {v : Int32} (hd : decode cc pc = .ok (.istore k, 2)) (hn : (k : Nat) < nL) {lvr : List (Nat × Value)} (hl' : lv.filter (fun q => !(q.1 == (k : Nat)) && !(q.1 + 1 == (k : Nat) && q.2.category == 2)) = lvr) (K : zW x G ce sl (pc + 2) (((k : Nat), .int v) :: lvr) st w) : zW x G ce sl pc lv (.int v :: st) w := fun H locs ls hP hD hS hl => lv_istore C.1 C.2.1 hd hl (by rw [C.2.2.1]; exact hn) (by rw [hl']) (fun ls' h2 => K H locs ls' hP hD hS h2)
theorem z_istoreN (C : zC x G own cc nL ret rm) {k : Nat} {e : Int32} {α : Type} {o : α} {kk : Int32 → Option α} (hd : decode cc pc = .ok (.istore k, 2)) (hn : (k : Nat) < nL) {lvr : List (Nat × Value)} (hl' : lv.filter (fun q => !(q.1 == (k : Nat)) && !(q.1 + 1 == (k : Nat) && q.2.category == 2)) = lvr) (h : zn e kk = some o) (K : ∀ v : Int32, kk v = some o → zW x G ce sl (pc + 2) (((k : Nat), .int v) :: lvr) st w) : zW x G ce sl pc lv (.int e :: st) w := z_istore C hd hn hl' (K e h)
theorem z_lload_n (C : zC x G own cc nL ret rm) {k : Fin 4} {v : Int64} (hd : decode cc pc = .ok (.lload_n k, 1)) (j : Nat) (hj : lv[j]? = some ((k : Nat), .long v)) (K : zW x G ce sl (pc + 1) lv (.long v :: st) w) : zW x G ce sl pc lv (st) w := fun H locs ls hP hD hS hl => lv_lload_n C.1 C.2.1 hd rfl (lv_at hl j hj) (K H locs ls hP hD hS hl)
theorem z_lload (C : zC x G own cc nL ret rm) {k : Nat} {v : Int64} (hd : decode cc pc = .ok (.lload k, 2)) (j : Nat) (hj : lv[j]? = some (k, .long v)) (K : zW x G ce sl (pc + 2) lv (.long v :: st) w) : zW x G ce sl pc lv (st) w := fun H locs ls hP hD hS hl => lv_lload C.1 C.2.1 hd (lv_at hl j hj) (K H locs ls hP hD hS hl)
theorem z_lstore_n (C : zC x G own cc nL ret rm) {k : Fin 4} {v : Int64} (hd : decode cc pc = .ok (.lstore_n k, 1)) (hn : (k : Nat) + 1 < nL) {lvr : List (Nat × Value)} (hl' : lv.filter (fun q => !(q.1 == (k : Nat)) && (!(q.1 == (k : Nat) + 1) && !(q.1 + 1 == (k : Nat) && q.2.category == 2))) = lvr) (K : zW x G ce sl (pc + 1) (((k : Nat), .long v) :: lvr) st w) : zW x G ce sl pc lv (.long v :: st) w := fun H locs ls hP hD hS hl => lv_lstore_n C.1 C.2.1 hd rfl hl (by rw [C.2.2.1]; exact hn) (by rw [hl']) (fun ls' h2 => K H locs ls' hP hD hS h2)
theorem z_lstore_nN (C : zC x G own cc nL ret rm) {k : Fin 4} {e : Int64} {α : Type} {o : α} {kk : Int64 → Option α} (hd : decode cc pc = .ok (.lstore_n k, 1)) (hn : (k : Nat) + 1 < nL) {lvr : List (Nat × Value)} (hl' : lv.filter (fun q => !(q.1 == (k : Nat)) && (!(q.1 == (k : Nat) + 1) && !(q.1 + 1 == (k : Nat) && q.2.category == 2))) = lvr) (h : zn e kk = some o) (K : ∀ v : Int64, kk v = some o → zW x G ce sl (pc + 1) (((k : Nat), .long v) :: lvr) st w) : zW x G ce sl pc lv (.long e :: st) w := z_lstore_n C hd hn hl' (K e h)
theorem z_lstore (C : zC x G own cc nL ret rm) {k : Nat} {v : Int64} (hd : decode cc pc = .ok (.lstore k, 2)) (hn : (k : Nat) + 1 < nL) {lvr : List (Nat × Value)} (hl' : lv.filter (fun q => !(q.1 == (k : Nat)) && (!(q.1 == (k : Nat) + 1) && !(q.1 + 1 == (k : Nat) && q.2.category == 2))) = lvr) (K : zW x G ce sl (pc + 2) (((k : Nat), .long v) :: lvr) st w) : zW x G ce sl pc lv (.long v :: st) w := fun H locs ls hP hD hS hl => lv_lstore C.1 C.2.1 hd hl (by rw [C.2.2.1]; exact hn) (by rw [hl']) (fun ls' h2 => K H locs ls' hP hD hS h2)
theorem z_lstoreN (C : zC x G own cc nL ret rm) {k : Nat} {e : Int64} {α : Type} {o : α} {kk : Int64 → Option α} (hd : decode cc pc = .ok (.lstore k, 2)) (hn : (k : Nat) + 1 < nL) {lvr : List (Nat × Value)} (hl' : lv.filter (fun q => !(q.1 == (k : Nat)) && (!(q.1 == (k : Nat) + 1) && !(q.1 + 1 == (k : Nat) && q.2.category == 2))) = lvr) (h : zn e kk = some o) (K : ∀ v : Int64, kk v = some o → zW x G ce sl (pc + 2) (((k : Nat), .long v) :: lvr) st w) : zW x G ce sl pc lv (.long e :: st) w := z_lstore C hd hn hl' (K e h)
theorem z_aload_n (C : zC x G own cc nL ret rm) {k : Fin 4} {v : Nat} (hd : decode cc pc = .ok (.aload_n k, 1)) (j : Nat) (hj : lv[j]? = some ((k : Nat), .ref v)) (K : zW x G ce sl (pc + 1) lv (.ref v :: st) w) : zW x G ce sl pc lv (st) w := fun H locs ls hP hD hS hl => lv_aload_n C.1 C.2.1 hd rfl (lv_at hl j hj) (K H locs ls hP hD hS hl)
theorem z_aload (C : zC x G own cc nL ret rm) {k : Nat} {v : Nat} (hd : decode cc pc = .ok (.aload k, 2)) (j : Nat) (hj : lv[j]? = some (k, .ref v)) (K : zW x G ce sl (pc + 2) lv (.ref v :: st) w) : zW x G ce sl pc lv (st) w := fun H locs ls hP hD hS hl => lv_aload C.1 C.2.1 hd (lv_at hl j hj) (K H locs ls hP hD hS hl)
theorem z_astore_n (C : zC x G own cc nL ret rm) {k : Fin 4} {v : Nat} (hd : decode cc pc = .ok (.astore_n k, 1)) (hn : (k : Nat) < nL) {lvr : List (Nat × Value)} (hl' : lv.filter (fun q => !(q.1 == (k : Nat)) && !(q.1 + 1 == (k : Nat) && q.2.category == 2)) = lvr) (K : zW x G ce sl (pc + 1) (((k : Nat), .ref v) :: lvr) st w) : zW x G ce sl pc lv (.ref v :: st) w := fun H locs ls hP hD hS hl => lv_astore_n C.1 C.2.1 hd rfl hl (by rw [C.2.2.1]; exact hn) (by rw [hl']) (fun ls' h2 => K H locs ls' hP hD hS h2)
theorem z_astore (C : zC x G own cc nL ret rm) {k : Nat} {v : Nat} (hd : decode cc pc = .ok (.astore k, 2)) (hn : (k : Nat) < nL) {lvr : List (Nat × Value)} (hl' : lv.filter (fun q => !(q.1 == (k : Nat)) && !(q.1 + 1 == (k : Nat) && q.2.category == 2)) = lvr) (K : zW x G ce sl (pc + 2) (((k : Nat), .ref v) :: lvr) st w) : zW x G ce sl pc lv (.ref v :: st) w := fun H locs ls hP hD hS hl => lv_astore C.1 C.2.1 hd hl (by rw [C.2.2.1]; exact hn) (by rw [hl']) (fun ls' h2 => K H locs ls' hP hD hS h2)
theorem z_iinc (C : zC x G own cc nL ret rm) {k : Nat} {n : Int} {y : Int32} {α : Type} {o : α} {kk : Int32 → Option α} (hd : decode cc pc = .ok (.iinc k n, 3)) (j : Nat) (hj : lv[j]? = some (k, .int y)) (c : Int32) (hc : Int32.ofInt n = c) (hn : k < nL) {lvr : List (Nat × Value)} (hl' : lv.filter (fun q => !(q.1 == k) && !(q.1 + 1 == k && q.2.category == 2)) = lvr) (h : zn (y + c) kk = some o) (K : ∀ v : Int32, kk v = some o → zW x G ce sl (pc + 3) ((k, .int v) :: lvr) st w) : zW x G ce sl pc lv st w := fun H locs ls hP hD hS hl => lv_iinc C.1 C.2.1 hd hl hj (v := y + c) (by rw [hc]) (by rw [C.2.2.1]; exact hn) (by rw [hl']) (fun ls' h2 => K _ h H locs ls' hP hD hS h2)
theorem z_iadd (C : zC x G own cc nL ret rm) {a b : Int32} (hd : decode cc pc = .ok (.iadd, 1))  (K : zW x G ce sl (pc + 1) lv (.int (a + b) :: st) w) : zW x G ce sl pc lv (.int b :: .int a :: st) w := fun H locs ls hP hD hS hl => lv_iadd C.1 C.2.1 hd (K H locs ls hP hD hS hl)
theorem z_isub (C : zC x G own cc nL ret rm) {a b : Int32} (hd : decode cc pc = .ok (.isub, 1))  (K : zW x G ce sl (pc + 1) lv (.int (a - b) :: st) w) : zW x G ce sl pc lv (.int b :: .int a :: st) w := fun H locs ls hP hD hS hl => lv_isub C.1 C.2.1 hd (K H locs ls hP hD hS hl)
theorem z_imul (C : zC x G own cc nL ret rm) {a b : Int32} (hd : decode cc pc = .ok (.imul, 1))  (K : zW x G ce sl (pc + 1) lv (.int (a * b) :: st) w) : zW x G ce sl pc lv (.int b :: .int a :: st) w := fun H locs ls hP hD hS hl => lv_imul C.1 C.2.1 hd (K H locs ls hP hD hS hl)
theorem z_iand (C : zC x G own cc nL ret rm) {a b : Int32} (hd : decode cc pc = .ok (.iand, 1))  (K : zW x G ce sl (pc + 1) lv (.int (a &&& b) :: st) w) : zW x G ce sl pc lv (.int b :: .int a :: st) w := fun H locs ls hP hD hS hl => lv_iand C.1 C.2.1 hd (K H locs ls hP hD hS hl)
theorem z_ior (C : zC x G own cc nL ret rm) {a b : Int32} (hd : decode cc pc = .ok (.ior, 1))  (K : zW x G ce sl (pc + 1) lv (.int (a ||| b) :: st) w) : zW x G ce sl pc lv (.int b :: .int a :: st) w := fun H locs ls hP hD hS hl => lv_ior C.1 C.2.1 hd (K H locs ls hP hD hS hl)
theorem z_ishl (C : zC x G own cc nL ret rm) {a b : Int32} (hd : decode cc pc = .ok (.ishl, 1))  (K : zW x G ce sl (pc + 1) lv (.int (a <<< (b &&& 31)) :: st) w) : zW x G ce sl pc lv (.int b :: .int a :: st) w := fun H locs ls hP hD hS hl => lv_ishl C.1 C.2.1 hd (K H locs ls hP hD hS hl)
theorem z_ishr (C : zC x G own cc nL ret rm) {a b : Int32} (hd : decode cc pc = .ok (.ishr, 1))  (K : zW x G ce sl (pc + 1) lv (.int (a >>> (b &&& 31)) :: st) w) : zW x G ce sl pc lv (.int b :: .int a :: st) w := fun H locs ls hP hD hS hl => lv_ishr C.1 C.2.1 hd (K H locs ls hP hD hS hl)
theorem z_ladd (C : zC x G own cc nL ret rm) {a b : Int64} (hd : decode cc pc = .ok (.ladd, 1))  (K : zW x G ce sl (pc + 1) lv (.long (a + b) :: st) w) : zW x G ce sl pc lv (.long b :: .long a :: st) w := fun H locs ls hP hD hS hl => lv_ladd C.1 C.2.1 hd (K H locs ls hP hD hS hl)
theorem z_lsub (C : zC x G own cc nL ret rm) {a b : Int64} (hd : decode cc pc = .ok (.lsub, 1))  (K : zW x G ce sl (pc + 1) lv (.long (a - b) :: st) w) : zW x G ce sl pc lv (.long b :: .long a :: st) w := fun H locs ls hP hD hS hl => lv_lsub C.1 C.2.1 hd (K H locs ls hP hD hS hl)
theorem z_lmul (C : zC x G own cc nL ret rm) {a b : Int64} (hd : decode cc pc = .ok (.lmul, 1))  (K : zW x G ce sl (pc + 1) lv (.long (a * b) :: st) w) : zW x G ce sl pc lv (.long b :: .long a :: st) w := fun H locs ls hP hD hS hl => lv_lmul C.1 C.2.1 hd (K H locs ls hP hD hS hl)
theorem z_land (C : zC x G own cc nL ret rm) {a b : Int64} (hd : decode cc pc = .ok (.land, 1))  (K : zW x G ce sl (pc + 1) lv (.long (a &&& b) :: st) w) : zW x G ce sl pc lv (.long b :: .long a :: st) w := fun H locs ls hP hD hS hl => lv_land C.1 C.2.1 hd (K H locs ls hP hD hS hl)
theorem z_lor (C : zC x G own cc nL ret rm) {a b : Int64} (hd : decode cc pc = .ok (.lor, 1))  (K : zW x G ce sl (pc + 1) lv (.long (a ||| b) :: st) w) : zW x G ce sl pc lv (.long b :: .long a :: st) w := fun H locs ls hP hD hS hl => lv_lor C.1 C.2.1 hd (K H locs ls hP hD hS hl)
theorem z_ineg (C : zC x G own cc nL ret rm) {a : Int32} (hd : decode cc pc = .ok (.ineg, 1))  (K : zW x G ce sl (pc + 1) lv (.int (-a) :: st) w) : zW x G ce sl pc lv (.int a :: st) w := fun H locs ls hP hD hS hl => lv_ineg C.1 C.2.1 hd (K H locs ls hP hD hS hl)
theorem z_lneg (C : zC x G own cc nL ret rm) {a : Int64} (hd : decode cc pc = .ok (.lneg, 1))  (K : zW x G ce sl (pc + 1) lv (.long (-a) :: st) w) : zW x G ce sl pc lv (.long a :: st) w := fun H locs ls hP hD hS hl => lv_lneg C.1 C.2.1 hd (K H locs ls hP hD hS hl)
theorem z_idiv (C : zC x G own cc nL ret rm) {a b : Int32} {α : Type} {o : α} {kk : Option α} (hd : decode cc pc = .ok (.idiv, 1)) (h : zg (znz b) kk = some o) (K : kk = some o → zW x G ce sl (pc + 1) lv (.int (a / b) :: st) w) : zW x G ce sl pc lv (.int b :: .int a :: st) w := fun H locs ls hP hD hS hl => lv_idiv C.1 C.2.1 hd (znz_ne (zg_o h).1) (K (zg_o h).2 H locs ls hP hD hS hl)
theorem z_irem (C : zC x G own cc nL ret rm) {a b : Int32} {α : Type} {o : α} {kk : Option α} (hd : decode cc pc = .ok (.irem, 1)) (h : zg (znz b) kk = some o) (K : kk = some o → zW x G ce sl (pc + 1) lv (.int (a - a / b * b) :: st) w) : zW x G ce sl pc lv (.int b :: .int a :: st) w := fun H locs ls hP hD hS hl => lv_irem C.1 C.2.1 hd (znz_ne (zg_o h).1) (K (zg_o h).2 H locs ls hP hD hS hl)
theorem z_ldiv (C : zC x G own cc nL ret rm) {a b : Int64} {α : Type} {o : α} {kk : Option α} (hd : decode cc pc = .ok (.ldiv, 1)) (h : zg (zlz b) kk = some o) (K : kk = some o → zW x G ce sl (pc + 1) lv (.long (a / b) :: st) w) : zW x G ce sl pc lv (.long b :: .long a :: st) w := fun H locs ls hP hD hS hl => lv_ldiv C.1 C.2.1 hd (zlz_ne (zg_o h).1) (K (zg_o h).2 H locs ls hP hD hS hl)
theorem z_lrem (C : zC x G own cc nL ret rm) {a b : Int64} {α : Type} {o : α} {kk : Option α} (hd : decode cc pc = .ok (.lrem, 1)) (h : zg (zlz b) kk = some o) (K : kk = some o → zW x G ce sl (pc + 1) lv (.long (a - a / b * b) :: st) w) : zW x G ce sl pc lv (.long b :: .long a :: st) w := fun H locs ls hP hD hS hl => lv_lrem C.1 C.2.1 hd (zlz_ne (zg_o h).1) (K (zg_o h).2 H locs ls hP hD hS hl)
theorem z_i2l (C : zC x G own cc nL ret rm) {a : Int32} (hd : decode cc pc = .ok (.i2l, 1))  (K : zW x G ce sl (pc + 1) lv (.long a.toInt64 :: st) w) : zW x G ce sl pc lv (.int a :: st) w := fun H locs ls hP hD hS hl => lv_i2l C.1 C.2.1 hd rfl (K H locs ls hP hD hS hl)
theorem z_l2i (C : zC x G own cc nL ret rm) {a : Int64} (hd : decode cc pc = .ok (.l2i, 1))  (K : zW x G ce sl (pc + 1) lv (.int a.toInt32 :: st) w) : zW x G ce sl pc lv (.long a :: st) w := fun H locs ls hP hD hS hl => lv_l2i C.1 C.2.1 hd rfl (K H locs ls hP hD hS hl)
theorem z_i2b (C : zC x G own cc nL ret rm) {a : Int32} (hd : decode cc pc = .ok (.i2b, 1))  (K : zW x G ce sl (pc + 1) lv (.int a.toInt8.toInt32 :: st) w) : zW x G ce sl pc lv (.int a :: st) w := fun H locs ls hP hD hS hl => lv_i2b C.1 C.2.1 hd rfl (K H locs ls hP hD hS hl)
theorem z_i2s (C : zC x G own cc nL ret rm) {a : Int32} (hd : decode cc pc = .ok (.i2s, 1))  (K : zW x G ce sl (pc + 1) lv (.int a.toInt16.toInt32 :: st) w) : zW x G ce sl pc lv (.int a :: st) w := fun H locs ls hP hD hS hl => lv_i2s C.1 C.2.1 hd rfl (K H locs ls hP hD hS hl)
theorem z_i2c (C : zC x G own cc nL ret rm) {a : Int32} (hd : decode cc pc = .ok (.i2c, 1))  (K : zW x G ce sl (pc + 1) lv (.int (a.toUInt32 % 65536).toInt32 :: st) w) : zW x G ce sl pc lv (.int a :: st) w := fun H locs ls hP hD hS hl => lv_i2c C.1 C.2.1 hd rfl (K H locs ls hP hD hS hl)
theorem z_lushr (C : zC x G own cc nL ret rm) {a : Int64} {b : Int32} (hd : decode cc pc = .ok (.lushr, 1))  (K : zW x G ce sl (pc + 1) lv (.long (a.toUInt64 >>> (b.toInt64.toUInt64 &&& Int64.toUInt64 63)).toInt64 :: st) w) : zW x G ce sl pc lv (.int b :: .long a :: st) w := fun H locs ls hP hD hS hl => lv_lushr C.1 C.2.1 hd rfl (K H locs ls hP hD hS hl)
theorem z_lshl (C : zC x G own cc nL ret rm) {a : Int64} {b : Int32} (hd : decode cc pc = .ok (.lshl, 1))  (K : zW x G ce sl (pc + 1) lv (.long (a <<< (b.toInt64 &&& 63)) :: st) w) : zW x G ce sl pc lv (.int b :: .long a :: st) w := fun H locs ls hP hD hS hl => lv_lshl C.1 C.2.1 hd rfl (K H locs ls hP hD hS hl)
theorem z_lshr (C : zC x G own cc nL ret rm) {a : Int64} {b : Int32} (hd : decode cc pc = .ok (.lshr, 1))  (K : zW x G ce sl (pc + 1) lv (.long (a >>> (b.toInt64 &&& 63)) :: st) w) : zW x G ce sl pc lv (.int b :: .long a :: st) w := fun H locs ls hP hD hS hl => lv_lshr C.1 C.2.1 hd rfl (K H locs ls hP hD hS hl)
theorem z_dup (C : zC x G own cc nL ret rm) {v : Value} (hd : decode cc pc = .ok (.dup, 1)) (hc : v.category = 1) (K : zW x G ce sl (pc + 1) lv (v :: v :: st) w) : zW x G ce sl pc lv (v :: st) w := fun H locs ls hP hD hS hl => lv_dup C.1 C.2.1 hd hc (K H locs ls hP hD hS hl)
theorem z_pop (C : zC x G own cc nL ret rm) {v : Value} (hd : decode cc pc = .ok (.pop, 1)) (hc : v.category = 1) (K : zW x G ce sl (pc + 1) lv (st) w) : zW x G ce sl pc lv (v :: st) w := fun H locs ls hP hD hS hl => lv_pop C.1 C.2.1 hd hc (K H locs ls hP hD hS hl)
theorem z_dup2 (C : zC x G own cc nL ret rm) {v u : Value} (hd : decode cc pc = .ok (.dup2, 1)) (hc : v.category = 1) (hc2 : u.category = 1) (K : zW x G ce sl (pc + 1) lv (v :: u :: v :: u :: st) w) : zW x G ce sl pc lv (v :: u :: st) w := fun H locs ls hP hD hS hl => lv_dup2_11 C.1 C.2.1 hd hc hc2 (K H locs ls hP hD hS hl)
theorem z_dup2L (C : zC x G own cc nL ret rm) {v : Int64} (hd : decode cc pc = .ok (.dup2, 1))  (K : zW x G ce sl (pc + 1) lv (.long v :: .long v :: st) w) : zW x G ce sl pc lv (.long v :: st) w := fun H locs ls hP hD hS hl => lv_dup2_2 C.1 C.2.1 hd rfl (K H locs ls hP hD hS hl)
theorem z_if_eq (C : zC x G own cc nL ret rm) {a : Int32} {off : Int} {α : Type} {o : α} {p q : Option α} {dd : Decidable (a = 0)} (hd : decode cc pc = .ok (.ifCond .eq off, 3)) (tgt : Nat) (ht : (pc : Int) + off = (tgt : Int)) (h : @ite _ (a = 0) dd p q = some o) (kt : p = some o → zW x G ce sl tgt lv st w) (kf : q = some o → zW x G ce sl (pc + 3) lv st w) : zW x G ce sl pc lv (.int a :: st) w := fun H locs ls hP hD hS hl => lv_if_eq C.1 C.2.1 hd ht (fun c0 => kt (by rw [if_pos c0] at h; exact h) H locs ls hP hD hS hl) (fun c0 => kf (by rw [if_neg c0] at h; exact h) H locs ls hP hD hS hl)
theorem z_icmp_eq (C : zC x G own cc nL ret rm) {a b : Int32} {off : Int} {α : Type} {o : α} {p q : Option α} {dd : Decidable (a = b)} (hd : decode cc pc = .ok (.if_icmp .eq off, 3)) (tgt : Nat) (ht : (pc : Int) + off = (tgt : Int)) (h : @ite _ (a = b) dd p q = some o) (kt : p = some o → zW x G ce sl tgt lv st w) (kf : q = some o → zW x G ce sl (pc + 3) lv st w) : zW x G ce sl pc lv (.int b :: .int a :: st) w := fun H locs ls hP hD hS hl => lv_icmp_eq C.1 C.2.1 hd ht (fun c0 => kt (by rw [if_pos c0] at h; exact h) H locs ls hP hD hS hl) (fun c0 => kf (by rw [if_neg c0] at h; exact h) H locs ls hP hD hS hl)
theorem z_if_ne (C : zC x G own cc nL ret rm) {a : Int32} {off : Int} {α : Type} {o : α} {p q : Option α} {dd : Decidable (a = 0)} (hd : decode cc pc = .ok (.ifCond .ne off, 3)) (tgt : Nat) (ht : (pc : Int) + off = (tgt : Int)) (h : @ite _ (a = 0) dd p q = some o) (kt : q = some o → zW x G ce sl tgt lv st w) (kf : p = some o → zW x G ce sl (pc + 3) lv st w) : zW x G ce sl pc lv (.int a :: st) w := fun H locs ls hP hD hS hl => lv_if_ne C.1 C.2.1 hd ht (fun c0 => kt (by rw [if_neg c0] at h; exact h) H locs ls hP hD hS hl) (fun c0 => kf (by rw [if_pos c0] at h; exact h) H locs ls hP hD hS hl)
theorem z_icmp_ne (C : zC x G own cc nL ret rm) {a b : Int32} {off : Int} {α : Type} {o : α} {p q : Option α} {dd : Decidable (a = b)} (hd : decode cc pc = .ok (.if_icmp .ne off, 3)) (tgt : Nat) (ht : (pc : Int) + off = (tgt : Int)) (h : @ite _ (a = b) dd p q = some o) (kt : q = some o → zW x G ce sl tgt lv st w) (kf : p = some o → zW x G ce sl (pc + 3) lv st w) : zW x G ce sl pc lv (.int b :: .int a :: st) w := fun H locs ls hP hD hS hl => lv_icmp_ne C.1 C.2.1 hd ht (fun c0 => kt (by rw [if_neg c0] at h; exact h) H locs ls hP hD hS hl) (fun c0 => kf (by rw [if_pos c0] at h; exact h) H locs ls hP hD hS hl)
theorem z_if_lt (C : zC x G own cc nL ret rm) {a : Int32} {off : Int} {α : Type} {o : α} {p q : Option α} {dd : Decidable (a < 0)} (hd : decode cc pc = .ok (.ifCond .lt off, 3)) (tgt : Nat) (ht : (pc : Int) + off = (tgt : Int)) (h : @ite _ (a < 0) dd p q = some o) (kt : p = some o → zW x G ce sl tgt lv st w) (kf : q = some o → zW x G ce sl (pc + 3) lv st w) : zW x G ce sl pc lv (.int a :: st) w := fun H locs ls hP hD hS hl => lv_if_lt C.1 C.2.1 hd ht (fun c0 => kt (by rw [if_pos c0] at h; exact h) H locs ls hP hD hS hl) (fun c0 => kf (by rw [if_neg c0] at h; exact h) H locs ls hP hD hS hl)
theorem z_icmp_lt (C : zC x G own cc nL ret rm) {a b : Int32} {off : Int} {α : Type} {o : α} {p q : Option α} {dd : Decidable (a < b)} (hd : decode cc pc = .ok (.if_icmp .lt off, 3)) (tgt : Nat) (ht : (pc : Int) + off = (tgt : Int)) (h : @ite _ (a < b) dd p q = some o) (kt : p = some o → zW x G ce sl tgt lv st w) (kf : q = some o → zW x G ce sl (pc + 3) lv st w) : zW x G ce sl pc lv (.int b :: .int a :: st) w := fun H locs ls hP hD hS hl => lv_icmp_lt C.1 C.2.1 hd ht (fun c0 => kt (by rw [if_pos c0] at h; exact h) H locs ls hP hD hS hl) (fun c0 => kf (by rw [if_neg c0] at h; exact h) H locs ls hP hD hS hl)
theorem z_if_ge (C : zC x G own cc nL ret rm) {a : Int32} {off : Int} {α : Type} {o : α} {p q : Option α} {dd : Decidable (0 ≤ a)} (hd : decode cc pc = .ok (.ifCond .ge off, 3)) (tgt : Nat) (ht : (pc : Int) + off = (tgt : Int)) (h : @ite _ (0 ≤ a) dd p q = some o) (kt : p = some o → zW x G ce sl tgt lv st w) (kf : q = some o → zW x G ce sl (pc + 3) lv st w) : zW x G ce sl pc lv (.int a :: st) w := fun H locs ls hP hD hS hl => lv_if_ge C.1 C.2.1 hd ht (fun c0 => kt (by rw [if_pos c0] at h; exact h) H locs ls hP hD hS hl) (fun c0 => kf (by rw [if_neg c0] at h; exact h) H locs ls hP hD hS hl)
theorem z_icmp_ge (C : zC x G own cc nL ret rm) {a b : Int32} {off : Int} {α : Type} {o : α} {p q : Option α} {dd : Decidable (b ≤ a)} (hd : decode cc pc = .ok (.if_icmp .ge off, 3)) (tgt : Nat) (ht : (pc : Int) + off = (tgt : Int)) (h : @ite _ (b ≤ a) dd p q = some o) (kt : p = some o → zW x G ce sl tgt lv st w) (kf : q = some o → zW x G ce sl (pc + 3) lv st w) : zW x G ce sl pc lv (.int b :: .int a :: st) w := fun H locs ls hP hD hS hl => lv_icmp_ge C.1 C.2.1 hd ht (fun c0 => kt (by rw [if_pos c0] at h; exact h) H locs ls hP hD hS hl) (fun c0 => kf (by rw [if_neg c0] at h; exact h) H locs ls hP hD hS hl)
theorem z_if_gt (C : zC x G own cc nL ret rm) {a : Int32} {off : Int} {α : Type} {o : α} {p q : Option α} {dd : Decidable (0 < a)} (hd : decode cc pc = .ok (.ifCond .gt off, 3)) (tgt : Nat) (ht : (pc : Int) + off = (tgt : Int)) (h : @ite _ (0 < a) dd p q = some o) (kt : p = some o → zW x G ce sl tgt lv st w) (kf : q = some o → zW x G ce sl (pc + 3) lv st w) : zW x G ce sl pc lv (.int a :: st) w := fun H locs ls hP hD hS hl => lv_if_gt C.1 C.2.1 hd ht (fun c0 => kt (by rw [if_pos c0] at h; exact h) H locs ls hP hD hS hl) (fun c0 => kf (by rw [if_neg c0] at h; exact h) H locs ls hP hD hS hl)
theorem z_icmp_gt (C : zC x G own cc nL ret rm) {a b : Int32} {off : Int} {α : Type} {o : α} {p q : Option α} {dd : Decidable (b < a)} (hd : decode cc pc = .ok (.if_icmp .gt off, 3)) (tgt : Nat) (ht : (pc : Int) + off = (tgt : Int)) (h : @ite _ (b < a) dd p q = some o) (kt : p = some o → zW x G ce sl tgt lv st w) (kf : q = some o → zW x G ce sl (pc + 3) lv st w) : zW x G ce sl pc lv (.int b :: .int a :: st) w := fun H locs ls hP hD hS hl => lv_icmp_gt C.1 C.2.1 hd ht (fun c0 => kt (by rw [if_pos c0] at h; exact h) H locs ls hP hD hS hl) (fun c0 => kf (by rw [if_neg c0] at h; exact h) H locs ls hP hD hS hl)
theorem z_if_le (C : zC x G own cc nL ret rm) {a : Int32} {off : Int} {α : Type} {o : α} {p q : Option α} {dd : Decidable (a ≤ 0)} (hd : decode cc pc = .ok (.ifCond .le off, 3)) (tgt : Nat) (ht : (pc : Int) + off = (tgt : Int)) (h : @ite _ (a ≤ 0) dd p q = some o) (kt : p = some o → zW x G ce sl tgt lv st w) (kf : q = some o → zW x G ce sl (pc + 3) lv st w) : zW x G ce sl pc lv (.int a :: st) w := fun H locs ls hP hD hS hl => lv_if_le C.1 C.2.1 hd ht (fun c0 => kt (by rw [if_pos c0] at h; exact h) H locs ls hP hD hS hl) (fun c0 => kf (by rw [if_neg c0] at h; exact h) H locs ls hP hD hS hl)
theorem z_icmp_le (C : zC x G own cc nL ret rm) {a b : Int32} {off : Int} {α : Type} {o : α} {p q : Option α} {dd : Decidable (a ≤ b)} (hd : decode cc pc = .ok (.if_icmp .le off, 3)) (tgt : Nat) (ht : (pc : Int) + off = (tgt : Int)) (h : @ite _ (a ≤ b) dd p q = some o) (kt : p = some o → zW x G ce sl tgt lv st w) (kf : q = some o → zW x G ce sl (pc + 3) lv st w) : zW x G ce sl pc lv (.int b :: .int a :: st) w := fun H locs ls hP hD hS hl => lv_icmp_le C.1 C.2.1 hd ht (fun c0 => kt (by rw [if_pos c0] at h; exact h) H locs ls hP hD hS hl) (fun c0 => kf (by rw [if_neg c0] at h; exact h) H locs ls hP hD hS hl)
theorem zb0 {b : Bool} (h : zb b = 0) : ¬ b = true := by cases b <;> simp_all [zb]
theorem zb1 {b : Bool} (h : ¬ zb b = 0) : b = true := by cases b <;> simp_all [zb]
theorem z_ifb_eq (C : zC x G own cc nL ret rm) {b : Bool} {off : Int} {α : Type} {o : α} {p q : Option α} {dd : Decidable (b = true)} (hd : decode cc pc = .ok (.ifCond .eq off, 3)) (tgt : Nat) (ht : (pc : Int) + off = (tgt : Int)) (h : @ite _ (b = true) dd p q = some o) (kt : q = some o → zW x G ce sl tgt lv st w) (kf : p = some o → zW x G ce sl (pc + 3) lv st w) : zW x G ce sl pc lv (.int (zb b) :: st) w := fun H locs ls hP hD hS hl => lv_if_eq C.1 C.2.1 hd ht (fun c0 => kt (by rw [if_neg (zb0 c0)] at h; exact h) H locs ls hP hD hS hl) (fun c0 => kf (by rw [if_pos (zb1 c0)] at h; exact h) H locs ls hP hD hS hl)
theorem z_ifb_ne (C : zC x G own cc nL ret rm) {b : Bool} {off : Int} {α : Type} {o : α} {p q : Option α} {dd : Decidable (b = true)} (hd : decode cc pc = .ok (.ifCond .ne off, 3)) (tgt : Nat) (ht : (pc : Int) + off = (tgt : Int)) (h : @ite _ (b = true) dd p q = some o) (kt : p = some o → zW x G ce sl tgt lv st w) (kf : q = some o → zW x G ce sl (pc + 3) lv st w) : zW x G ce sl pc lv (.int (zb b) :: st) w := fun H locs ls hP hD hS hl => lv_if_ne C.1 C.2.1 hd ht (fun c0 => kt (by rw [if_pos (zb1 c0)] at h; exact h) H locs ls hP hD hS hl) (fun c0 => kf (by rw [if_neg (zb0 c0)] at h; exact h) H locs ls hP hD hS hl)
theorem zcmp_eq (a b : Int64) : lg_cmp a b = 0 ↔ a = b := by
  unfold lg_cmp
  by_cases h1 : a > b
  · have h2 : ¬ a = b := by intro h; subst h; exact absurd h1 (by simp)
    simp [h1, h2]
  · by_cases h2 : a = b <;> simp [h1, h2]
theorem zcmp_lt (a b : Int64) : lg_cmp a b < 0 ↔ a < b := by
  have h := lg_cmp_ge a b
  constructor
  · intro h1
    rcases Int64.lt_or_le a b with h2 | h2
    · exact h2
    · exact absurd h1 (Int32.not_lt.mpr (h.mpr h2))
  · intro h1
    rcases Int32.lt_or_le (lg_cmp a b) 0 with h2 | h2
    · exact h2
    · exact absurd h1 (Int64.not_lt.mpr (h.mp h2))
theorem zcmp_gt (a b : Int64) : 0 < lg_cmp a b ↔ b < a := by
  unfold lg_cmp
  by_cases h1 : a > b
  · simp [h1]
  · have h3 : ¬ b < a := h1
    by_cases h2 : a = b <;> simp [h1, h2, h3]
theorem zcmp_le (a b : Int64) : lg_cmp a b ≤ 0 ↔ a ≤ b := by
  have h := zcmp_gt a b
  constructor
  · intro h1
    rcases Int64.lt_or_le b a with h2 | h2
    · exact absurd (h.mpr h2) (Int32.not_lt.mpr h1)
    · exact h2
  · intro h1
    rcases Int32.lt_or_le 0 (lg_cmp a b) with h2 | h2
    · exact absurd (h.mp h2) (Int64.not_lt.mpr h1)
    · exact h2
theorem z_lcmp_eq (C : zC x G own cc nL ret rm) {a b : Int64} {off : Int} {α : Type} {o : α} {p q : Option α} {dd : Decidable (a = b)} (hd0 : decode cc pc = .ok (.lcmp, 1)) (hd : decode cc (pc + 1) = .ok (.ifCond .eq off, 3)) (tgt : Nat) (ht : ((pc + 1 : Nat) : Int) + off = (tgt : Int)) (h : @ite _ (a = b) dd p q = some o) (kt : p = some o → zW x G ce sl tgt lv st w) (kf : q = some o → zW x G ce sl (pc + 1 + 3) lv st w) : zW x G ce sl pc lv (.long b :: .long a :: st) w := fun H locs ls hP hD hS hl => W.lcmp C.1 C.2.1 hd0 (lv_if_eq C.1 C.2.1 hd ht (fun c0 => kt (by rw [if_pos ((zcmp_eq a b).mp c0)] at h; exact h) H locs ls hP hD hS hl) (fun c0 => kf (by rw [if_neg (fun z => c0 ((zcmp_eq a b).mpr z))] at h; exact h) H locs ls hP hD hS hl))
theorem z_lcmp_ne (C : zC x G own cc nL ret rm) {a b : Int64} {off : Int} {α : Type} {o : α} {p q : Option α} {dd : Decidable (a = b)} (hd0 : decode cc pc = .ok (.lcmp, 1)) (hd : decode cc (pc + 1) = .ok (.ifCond .ne off, 3)) (tgt : Nat) (ht : ((pc + 1 : Nat) : Int) + off = (tgt : Int)) (h : @ite _ (a = b) dd p q = some o) (kt : q = some o → zW x G ce sl tgt lv st w) (kf : p = some o → zW x G ce sl (pc + 1 + 3) lv st w) : zW x G ce sl pc lv (.long b :: .long a :: st) w := fun H locs ls hP hD hS hl => W.lcmp C.1 C.2.1 hd0 (lv_if_ne C.1 C.2.1 hd ht (fun c0 => kt (by rw [if_neg (fun z => c0 ((zcmp_eq a b).mpr z))] at h; exact h) H locs ls hP hD hS hl) (fun c0 => kf (by rw [if_pos ((zcmp_eq a b).mp c0)] at h; exact h) H locs ls hP hD hS hl))
theorem z_lcmp_lt (C : zC x G own cc nL ret rm) {a b : Int64} {off : Int} {α : Type} {o : α} {p q : Option α} {dd : Decidable (a < b)} (hd0 : decode cc pc = .ok (.lcmp, 1)) (hd : decode cc (pc + 1) = .ok (.ifCond .lt off, 3)) (tgt : Nat) (ht : ((pc + 1 : Nat) : Int) + off = (tgt : Int)) (h : @ite _ (a < b) dd p q = some o) (kt : p = some o → zW x G ce sl tgt lv st w) (kf : q = some o → zW x G ce sl (pc + 1 + 3) lv st w) : zW x G ce sl pc lv (.long b :: .long a :: st) w := fun H locs ls hP hD hS hl => W.lcmp C.1 C.2.1 hd0 (lv_if_lt C.1 C.2.1 hd ht (fun c0 => kt (by rw [if_pos ((zcmp_lt a b).mp c0)] at h; exact h) H locs ls hP hD hS hl) (fun c0 => kf (by rw [if_neg (fun z => c0 ((zcmp_lt a b).mpr z))] at h; exact h) H locs ls hP hD hS hl))
theorem z_lcmp_ge (C : zC x G own cc nL ret rm) {a b : Int64} {off : Int} {α : Type} {o : α} {p q : Option α} {dd : Decidable (b ≤ a)} (hd0 : decode cc pc = .ok (.lcmp, 1)) (hd : decode cc (pc + 1) = .ok (.ifCond .ge off, 3)) (tgt : Nat) (ht : ((pc + 1 : Nat) : Int) + off = (tgt : Int)) (h : @ite _ (b ≤ a) dd p q = some o) (kt : p = some o → zW x G ce sl tgt lv st w) (kf : q = some o → zW x G ce sl (pc + 1 + 3) lv st w) : zW x G ce sl pc lv (.long b :: .long a :: st) w := fun H locs ls hP hD hS hl => W.lcmp C.1 C.2.1 hd0 (lv_if_ge C.1 C.2.1 hd ht (fun c0 => kt (by rw [if_pos ((lg_cmp_ge a b).mp c0)] at h; exact h) H locs ls hP hD hS hl) (fun c0 => kf (by rw [if_neg (fun z => c0 ((lg_cmp_ge a b).mpr z))] at h; exact h) H locs ls hP hD hS hl))
theorem z_lcmp_gt (C : zC x G own cc nL ret rm) {a b : Int64} {off : Int} {α : Type} {o : α} {p q : Option α} {dd : Decidable (b < a)} (hd0 : decode cc pc = .ok (.lcmp, 1)) (hd : decode cc (pc + 1) = .ok (.ifCond .gt off, 3)) (tgt : Nat) (ht : ((pc + 1 : Nat) : Int) + off = (tgt : Int)) (h : @ite _ (b < a) dd p q = some o) (kt : p = some o → zW x G ce sl tgt lv st w) (kf : q = some o → zW x G ce sl (pc + 1 + 3) lv st w) : zW x G ce sl pc lv (.long b :: .long a :: st) w := fun H locs ls hP hD hS hl => W.lcmp C.1 C.2.1 hd0 (lv_if_gt C.1 C.2.1 hd ht (fun c0 => kt (by rw [if_pos ((zcmp_gt a b).mp c0)] at h; exact h) H locs ls hP hD hS hl) (fun c0 => kf (by rw [if_neg (fun z => c0 ((zcmp_gt a b).mpr z))] at h; exact h) H locs ls hP hD hS hl))
theorem z_lcmp_le (C : zC x G own cc nL ret rm) {a b : Int64} {off : Int} {α : Type} {o : α} {p q : Option α} {dd : Decidable (a ≤ b)} (hd0 : decode cc pc = .ok (.lcmp, 1)) (hd : decode cc (pc + 1) = .ok (.ifCond .le off, 3)) (tgt : Nat) (ht : ((pc + 1 : Nat) : Int) + off = (tgt : Int)) (h : @ite _ (a ≤ b) dd p q = some o) (kt : p = some o → zW x G ce sl tgt lv st w) (kf : q = some o → zW x G ce sl (pc + 1 + 3) lv st w) : zW x G ce sl pc lv (.long b :: .long a :: st) w := fun H locs ls hP hD hS hl => W.lcmp C.1 C.2.1 hd0 (lv_if_le C.1 C.2.1 hd ht (fun c0 => kt (by rw [if_pos ((zcmp_le a b).mp c0)] at h; exact h) H locs ls hP hD hS hl) (fun c0 => kf (by rw [if_neg (fun z => c0 ((zcmp_le a b).mpr z))] at h; exact h) H locs ls hP hD hS hl))
theorem z_goto (C : zC x G own cc nL ret rm) {off : Int} (hd : decode cc pc = .ok (.goto off, 3)) (tgt : Nat) (ht : (pc : Int) + off = (tgt : Int)) (K : zW x G ce sl tgt lv st w) : zW x G ce sl pc lv st w := fun H locs ls hP hD hS hl => lv_goto C.1 C.2.1 hd ht (K H locs ls hP hD hS hl)
theorem z_tcase (C : zC x G own cc nL ret rm) {dflt lo hi : Int} {offs : Array Int} {len : Nat} {y : Int32} {off : Int} (hd : decode cc pc = .ok (.tableswitch dflt lo hi offs, len)) (v : Int32) (hy : y = v) (h1 : ¬ v.toInt < lo) (h2 : ¬ hi < v.toInt) (ho : offs[(v.toInt - lo).toNat]? = some off) (tgt : Nat) (ht : (pc : Int) + off = (tgt : Int)) (K : zW x G ce sl tgt lv st w) : zW x G ce sl pc lv (.int y :: st) w := fun H locs ls hP hD hS hl => by subst hy; exact lv_tableIn C.1 C.2.1 hd h1 h2 ho ht (K H locs ls hP hD hS hl)
theorem z_tout (C : zC x G own cc nL ret rm) {dflt lo hi : Int} {offs : Array Int} {len : Nat} {y : Int32} (hd : decode cc pc = .ok (.tableswitch dflt lo hi offs, len)) (hy : y.toInt < lo ∨ hi < y.toInt) (tgt : Nat) (ht : (pc : Int) + dflt = (tgt : Int)) (K : zW x G ce sl tgt lv st w) : zW x G ce sl pc lv (.int y :: st) w := fun H locs ls hP hD hS hl => lv_tableOut C.1 C.2.1 hd hy ht (K H locs ls hP hD hS hl)
theorem zite_t {α : Type} {P : Prop} {dd : Decidable P} {p q : Option α} {o : α} (h : @ite _ P dd p q = some o) (c : P) : p = some o := by rw [if_pos c] at h; exact h
theorem zite_f {α : Type} {P : Prop} {dd : Decidable P} {p q : Option α} {o : α} (h : @ite _ P dd p q = some o) (c : ¬ P) : q = some o := by rw [if_neg c] at h; exact h
theorem ztout {y : Int32} {lo hi : Int} (h : ∀ v : Int32, lo ≤ v.toInt → v.toInt ≤ hi → ¬ y = v) : y.toInt < lo ∨ hi < y.toInt := by
  rcases Int.lt_or_le y.toInt lo with h1 | h1
  · exact Or.inl h1
  · rcases Int.lt_or_le hi y.toInt with h2 | h2
    · exact Or.inr h2
    · exact absurd rfl (h y h1 h2)
theorem ztoutL {y : Int32} {lo hi : Int} (n : Nat) (hb : -2147483648 ≤ lo ∧ lo + n ≤ 2147483648 ∧ hi + 1 = lo + n) (h : ∀ k : Nat, k < n → ¬ y = Int32.ofInt (lo + k)) : y.toInt < lo ∨ hi < y.toInt := by
  rcases Int.lt_or_le y.toInt lo with h1 | h1
  · exact Or.inl h1
  · rcases Int.lt_or_le hi y.toInt with h2 | h2
    · exact Or.inr h2
    · refine absurd ?_ (h (y.toInt - lo).toNat (by omega))
      rw [show lo + ((y.toInt - lo).toNat : Int) = y.toInt by omega, Int32.ofInt_toInt]
theorem z_iret {v : Int32} {r : Option Value} {w1 : va_W} {mc ms : Nat} (C : zC x G own cc nL (some .int) rm) (O : zO x G r w1 mc ms) (hd : decode cc pc = .ok (.ireturn, 1)) (hr : some (.int v) = r) (hw : w = w1) : zW x G mc ms pc lv [.int v] w := by
  intro H locs ls hP hD hS hl
  obtain ⟨w0, hA, hQ⟩ := O
  subst hr; subst hw
  rw [hQ]
  exact W.iret C.1 C.2.1 C.2.2.2.2.2.1 (fun t ht hW => ⟨rfl, by rw [ht]; exact hP, va_K.moved hW.alike C.2.2.2.2.2.2.2.1, by rw [← hA]; exact hD, by rw [← hA]; exact hS.F ht⟩) hS.2.2 hd C.2.2.2.2.2.2.1
theorem z_lret {v : Int64} {r : Option Value} {w1 : va_W} {mc ms : Nat} (C : zC x G own cc nL (some .long) rm) (O : zO x G r w1 mc ms) (hd : decode cc pc = .ok (.lreturn, 1)) (hr : some (.long v) = r) (hw : w = w1) : zW x G mc ms pc lv [.long v] w := by
  intro H locs ls hP hD hS hl
  obtain ⟨w0, hA, hQ⟩ := O
  subst hr; subst hw
  rw [hQ]
  exact W.lret C.1 C.2.1 C.2.2.2.2.2.1 (fun t ht hW => ⟨rfl, by rw [ht]; exact hP, va_K.moved hW.alike C.2.2.2.2.2.2.2.1, by rw [← hA]; exact hD, by rw [← hA]; exact hS.F ht⟩) hS.2.2 hd C.2.2.2.2.2.2.1
theorem z_zret {v : Int32} {ty : FieldType} {r : Option Value} {w1 : va_W} {mc ms : Nat} (C : zC x G own cc nL (some ty) rm) (O : zO x G r w1 mc ms) (hd : decode cc pc = .ok (.ireturn, 1)) (hn : narrow ty (.int v) = .int v) (hr : some (.int v) = r) (hw : w = w1) : zW x G mc ms pc lv [.int v] w := by
  intro H locs ls hP hD hS hl
  obtain ⟨w0, hA, hQ⟩ := O
  subst hr; subst hw
  rw [hQ]
  exact W.zret C.1 C.2.1 C.2.2.2.2.2.1 hn (fun t ht hW => ⟨rfl, by rw [ht]; exact hP, va_K.moved hW.alike C.2.2.2.2.2.2.2.1, by rw [← hA]; exact hD, by rw [← hA]; exact hS.F ht⟩) hS.2.2 hd C.2.2.2.2.2.2.1
theorem zb_nar (b : Bool) : narrow .boolean (.int (zb b)) = .int (zb b) := by cases b <;> rfl
theorem z_vret {r : Option Value} {w1 : va_W} {mc ms : Nat} (C : zC x G own cc nL none rm) (O : zO x G r w1 mc ms) (hd : decode cc pc = .ok (.return_, 1)) (hr : none = r) (hw : w = w1) : zW x G mc ms pc lv [] w := by
  intro H locs ls hP hD hS hl
  obtain ⟨w0, hA, hQ⟩ := O
  subst hr; subst hw
  rw [hQ]
  exact W.vret C.1 C.2.1 C.2.2.2.2.2.1 (fun t ht hW => ⟨rfl, by rw [ht]; exact hP, va_K.moved hW.alike C.2.2.2.2.2.2.2.1, by rw [← hA]; exact hD, by rw [← hA]; exact hS.F ht⟩) hS.2.2 hd C.2.2.2.2.2.2.1
/-- getfield, of any class of vwCl -/
theorem z_get (C : zC x G own cc nL ret rm) {index ci N k : Nat} {ref Cn : String} {T : u_T} {a : Nat} {v : Value} {fs : List Value} (hin : ∀ v ∈ u_ws Cn T N, v ∈ zU) (hc : vwCl[ci]? = some (Cn, T, N)) (hk : k < N) (hl0 : Cond.fieldLink own index ref (T k).2.1 (T k).2.2.1 ∈ zU) (hsame : ∀ z, (xs x).fieldFound? (T k).1 (T k).2.1 (T k).2.2.1 = some z → (xs x).fieldFound? ref (T k).2.1 (T k).2.2.1 = some z) (q0 : Nat) (he : w[q0]? = some (a, .inr (ci, fs))) (hv : fs[k]? = some v) (hd : decode cc pc = .ok (.getfield index, 3)) (K : zW x G ce sl (pc + 3) lv (v :: st) w) : zW x G ce sl pc lv (.ref a :: st) w := fun H locs ls hP hD hS hl => va_get (D := G.1) (C := Cn) (T := T) (N := N) C.1 C.2.1 C.2.2.2.2.1 hin C.2.2.2.1 C.2.2.2.2.2.2.2.1 hP q0 he hc k hk (C.2.2.2.2.1 _ hl0) hsame hv hd (K H locs ls hP hD hS hl)
/-- putfield of a field that isn't final -/
theorem z_put (C : zC x G own cc nL ret rm) {index ci N k : Nat} {ref Cn : String} {T : u_T} {a : Nat} {v : Value} {fs : List Value} {ty : FieldType} {w' : va_W} (hin : ∀ v ∈ u_ws Cn T N, v ∈ zU) (tyf : Nat → FieldType) (htyf : ∀ k, k < N → parseFieldDescriptor (T k).2.2.1 = some (tyf k)) (hnm : ∀ a, a < N → ∀ b, b < N → a ≠ b → (T a).2.1 ≠ (T b).2.1) (hc : vwCl[ci]? = some (Cn, T, N)) (hk : k < N) (hl0 : Cond.fieldLink own index ref (T k).2.1 (T k).2.2.1 ∈ zU) (hsame : ∀ z, (xs x).fieldFound? (T k).1 (T k).2.1 (T k).2.2.1 = some z → (xs x).fieldFound? ref (T k).2.1 (T k).2.2.1 = some z) (hfin : (T k).2.2.2 = false) (q0 : Nat) (he : w[q0]? = some (a, .inr (ci, fs))) (hdt : parseFieldDescriptor (T k).2.2.1 = some ty) (hn : narrow ty v = v) (hfit : fits ty v = true) (hlf : k < fs.length) (hw : w.set q0 (a, .inr (ci, fs.set k v)) = w') (hd : decode cc pc = .ok (.putfield index, 3)) (K : zW x G ce sl (pc + 3) lv st w') : zW x G ce sl pc lv (v :: .ref a :: st) w := fun H locs ls hP hD hS hl => va_put (D := G.1) (C := Cn) (T := T) (N := N) C.1 C.2.1 C.2.2.2.2.1 hin tyf htyf hnm C.2.2.2.1 C.2.2.2.2.2.2.2.1 hP hD hS q0 he hc k hk (C.2.2.2.2.1 _ hl0) hsame hfin hdt hn hfit hlf hd (fun H1 locs1 hP1 hD1 hS1 => K H1 locs1 ls (hw ▸ hP1) (hw ▸ hD1) hS1 hl)
theorem z_iald (C : zC x G own cc nL ret rm) {a n : Nat} {f : Nat → Int32} {i : Int32} {α : Type} {o : α} {kk : Option α} (q0 : Nat) (he : w[q0]? = some (a, .inl (gI G, n, .inl f))) (hd : decode cc pc = .ok (.iaload, 1)) (h : zg (zix i n) kk = some o) (K : kk = some o → zW x G ce sl (pc + 1) lv (.int (f i.toNatClampNeg) :: st) w) : zW x G ce sl pc lv (.int i :: .ref a :: st) w := fun H locs ls hP hD hS hl => va_iald (D := G.1) C.1 C.2.1 C.2.2.2.2.2.2.2.1 hP q0 1 he rfl (zix_in (zg_o h).1) hd (K (zg_o h).2 H locs ls hP hD hS hl)
theorem z_iast (C : zC x G own cc nL ret rm) {a n : Nat} {f : Nat → Int32} {i : Int32} {v : Int32} {α : Type} {o : α} {kk : Option α} {w' : va_W} (q0 : Nat) (he : w[q0]? = some (a, .inl (gI G, n, .inl f))) (hw : w.set q0 (a, .inl (gI G, n, .inl (upd f i.toNatClampNeg v))) = w') (hd : decode cc pc = .ok (.iastore, 1)) (h : zg (zix i n) kk = some o) (K : kk = some o → zW x G ce sl (pc + 1) lv st w') : zW x G ce sl pc lv (.int v :: .int i :: .ref a :: st) w := fun H locs ls hP hD hS hl => va_iast (D := G.1) C.1 C.2.1 C.2.2.2.2.2.2.2.1 hP hD hS q0 1 he rfl (zix_in (zg_o h).1) hd (fun H1 locs1 hP1 hD1 hS1 => K (zg_o h).2 H1 locs1 ls (hw ▸ hP1) (hw ▸ hD1) hS1 hl)
theorem z_bald (C : zC x G own cc nL ret rm) {a n : Nat} {f : Nat → Int32} {i : Int32} {α : Type} {o : α} {kk : Option α} (q0 : Nat) (he : w[q0]? = some (a, .inl (gB G, n, .inl f))) (hd : decode cc pc = .ok (.baload, 1)) (h : zg (zix i n) kk = some o) (K : kk = some o → zW x G ce sl (pc + 1) lv (.int (f i.toNatClampNeg) :: st) w) : zW x G ce sl pc lv (.int i :: .ref a :: st) w := fun H locs ls hP hD hS hl => va_bald (D := G.1) C.1 C.2.1 C.2.2.2.2.2.2.2.1 hP q0 0 he rfl (zix_in (zg_o h).1) hd (K (zg_o h).2 H locs ls hP hD hS hl)
theorem z_bast (C : zC x G own cc nL ret rm) {a n : Nat} {f : Nat → Int32} {i : Int32} {v : Int32} {α : Type} {o : α} {kk : Option α} {w' : va_W} (q0 : Nat) (he : w[q0]? = some (a, .inl (gB G, n, .inl f))) (hw : w.set q0 (a, .inl (gB G, n, .inl (upd f i.toNatClampNeg (vp_nar .byte v)))) = w') (hd : decode cc pc = .ok (.bastore, 1)) (h : zg (zix i n) kk = some o) (K : kk = some o → zW x G ce sl (pc + 1) lv st w') : zW x G ce sl pc lv (.int v :: .int i :: .ref a :: st) w := fun H locs ls hP hD hS hl => va_bast (D := G.1) C.1 C.2.1 C.2.2.2.2.2.2.2.1 hP hD hS q0 0 he rfl (zix_in (zg_o h).1) hd (fun H1 locs1 hP1 hD1 hS1 => K (zg_o h).2 H1 locs1 ls (hw ▸ hP1) (hw ▸ hD1) hS1 hl)
theorem z_lald (C : zC x G own cc nL ret rm) {a n : Nat} {f : Nat → Int64} {i : Int32} {α : Type} {o : α} {kk : Option α} (q0 : Nat) (he : w[q0]? = some (a, .inl (gJ G, n, .inr (.inl f)))) (hd : decode cc pc = .ok (.laload, 1)) (h : zg (zix i n) kk = some o) (K : kk = some o → zW x G ce sl (pc + 1) lv (.long (f i.toNatClampNeg) :: st) w) : zW x G ce sl pc lv (.int i :: .ref a :: st) w := fun H locs ls hP hD hS hl => va_lald (D := G.1) C.1 C.2.1 C.2.2.2.2.2.2.2.1 hP q0 2 he rfl (zix_in (zg_o h).1) hd (K (zg_o h).2 H locs ls hP hD hS hl)
theorem z_last (C : zC x G own cc nL ret rm) {a n : Nat} {f : Nat → Int64} {i : Int32} {v : Int64} {α : Type} {o : α} {kk : Option α} {w' : va_W} (q0 : Nat) (he : w[q0]? = some (a, .inl (gJ G, n, .inr (.inl f)))) (hw : w.set q0 (a, .inl (gJ G, n, .inr (.inl (vp_updL f i.toNatClampNeg v)))) = w') (hd : decode cc pc = .ok (.lastore, 1)) (h : zg (zix i n) kk = some o) (K : kk = some o → zW x G ce sl (pc + 1) lv st w') : zW x G ce sl pc lv (.long v :: .int i :: .ref a :: st) w := fun H locs ls hP hD hS hl => va_last (D := G.1) C.1 C.2.1 C.2.2.2.2.2.2.2.1 hP hD hS q0 2 he rfl (zix_in (zg_o h).1) hd (fun H1 locs1 hP1 hD1 hS1 => K (zg_o h).2 H1 locs1 ls (hw ▸ hP1) (hw ▸ hD1) hS1 hl)
/-- behind a call: the world is the callee's -/
theorem z_back {H : Heap} {locs : List Loc} {ls : Array Slot} {st0 rest : List Value} {a : Array Value} {w1 : va_W} {r : Option Value} {mc ms : Nat} (hr : va_Run (xp x) (xl x) (xe x) (xR x) (xs x) (xm x) (xa x) (xb x) (xt x) (xc x) H locs ce sl mc ms (F0 (xm x) pc ls st0) rest (zPost G w H.size r w1 a) (va_A w H.size)) (hD : va_D (xA x) w) (hS : va_S (xA x) (xs x).heap H locs) (hA : ∀ q, (xs x).heap.size ≤ q → xA x q) (hl : lv_has ls (xc x).maxLocals lv) (K : zW x G (ce + mc) (sl + ms) (pc + 3) lv (r.toList ++ rest) w1) : W (xp x) (xl x) (xe x) (xR x) (xs x) (xm x) (xa x) (xb x) (xt x) (xc x) H locs ce sl (xQ x) (F0 (xm x) pc ls st0) := by
  intro T hT X
  obtain ⟨v, st₀, t, T', L, h0, X', hL, e1, e2, ⟨hv, hp, hk, hd, hz, hq⟩, go⟩ := hr T hT X
  cases hv
  rw [h0] at hz hq
  have hF : ∀ q, va_A w H.size q → xA x q := fun q h => by
    rcases h with ⟨k, e, h⟩ | h
    · exact hD.2 k (q, e) h
    · exact hA q (Nat.le_trans hS.1 h)
  obtain ⟨t2, a1, b1⟩ := K T'.heap (locs ++ L) ls (by rw [e1]; exact hp) (hd.weaken (fun _ _ _ h => hF _ h)) ⟨Nat.le_trans hS.1 (by rw [e1]; exact hz), fun q h1 h2 => by rw [e1, hq q (Nat.lt_of_lt_of_le h1 hS.1) (fun z => h2 (hF q z))]; exact hS.2.1 q h1 h2, fun q hq' => by
      rcases List.mem_append.mp hq' with h | h
      · exact hS.2.2 q h
      · exact hF _ (hL q h)⟩ hl T' rfl X'
  exact ⟨t2, go t2 a1, b1⟩
/-- the callee's start, out of the caller's state -/
theorem z_pre {H : Heap} {locs : List Loc} {av : List Value} (C : zC x G own cc nL ret rm) (hP : va_P G.1 vwCl w H) (hD : va_D (xA x) w) (hS : va_S (xA x) (xs x).heap H locs) (U : State) (hU : U.heap = H) (hW : (xs x).WarmedH U.vm) : zPre G av w H.size av.toArray U := by
  have hF : ∀ q, va_A w H.size q → xA x q := fun q h => by
    rcases h with ⟨k, e, h⟩ | h
    · exact hD.2 k (q, e) h
    · exact C.2.2.2.2.2.2.2.2.1 q (Nat.le_trans hS.1 h)
  refine ⟨rfl, by rw [hU], by rw [hU]; exact hP, va_K.moved hW.alike C.2.2.2.2.2.2.2.1, hD.weaken (fun _ _ _ _ => trivial), ?_⟩
  rw [hU]
  exact (((C.2.2.2.2.2.2.2.2.2.2.kept hS.2.1).narrow hF).warm hW)
def zRm (rm rm' : Room) (maxL ce sl : Nat) : Prop := (rm'.frames + 1 ≤ rm.frames ∧ 8 + (maxL + 11) + rm'.locals ≤ rm.locals) ∧ ce + rm'.cells ≤ rm.cells ∧ sl + rm'.slots ≤ rm.slots
theorem z_callV (C : zC x G own cc nL ret rm) {y : MethodName} {bytes : ByteArray} {maxL : Nat} {rt : Option FieldType} {rm' : Room} {b : Nat} {As rest : List Value} {r : Option Value} {w1 : va_W} {index ci : Nat} {fs : List Value} {Cn : String} {T : u_T} {N : Nat} (n : Nat)
    (hcode : Cond.code y bytes maxL rt ∈ zU) (hini : Cond.initialized y.cls ∈ zU) (hlink : Cond.methodLink own index y ∈ zU) (hinst : Cond.instanceMethod y ∈ zU) (hsel : Cond.selects Cn y y ∈ zU) (hdn : y.cls ≠ "java/lang/invoke/MethodHandle" ∧ y.cls ≠ "java/lang/invoke/VarHandle" ∧ (parseMethodDescriptor y.desc).map (fun d => d.parameters.length) = some n) (hci : vwCl[ci]? = some (Cn, T, N))
    (hc : Ct (xl x) G y bytes maxL rt rm' (.ref b :: As) w r w1) (hn : As.length = n) (q0 : Nat) (he : w[q0]? = some (b, .inr (ci, fs))) (hd : decode cc pc = .ok (.invokevirtual index, 3)) (hcat : (rest.map fun v => v.category).sum ≤ 8) (hrm : zRm rm rm' maxL ce sl) (K : zW x G (ce + rm'.cells) (sl + rm'.slots) (pc + 3) lv (r.toList ++ rest) w1) : zW x G ce sl pc lv (As.reverse ++ .ref b :: rest) w := by
  intro H locs ls hP hD hS hl
  have hts := C.2.2.2.2.1
  have hr1 : rm'.frames + 1 ≤ (xR x).frames ∧ 8 + (maxL + 11) + rm'.locals ≤ (xR x).locals := by rw [C.2.2.2.2.2.2.2.2.2.1]; exact hrm.1
  have hr2 : ce + rm'.cells ≤ (xR x).cells ∧ sl + rm'.slots ≤ (xR x).slots := by rw [C.2.2.2.2.2.2.2.2.2.1]; exact hrm.2
  refine z_back (w := w) (va_runV (n := n) (index := index) (y := y) (bytes := bytes) (maxL := maxL) (ret := rt) (C := Cn) (b := b) (As := As) (g := F0 (xm x) pc ls (As.reverse ++ .ref b :: rest)) ⟨C.1, C.2.1, C.2.2.1, C.2.2.2.1, hts⟩ (hc H.size) ⟨callB_of n hts (zgood hcode) rfl rfl rfl (hts _ hini) (hts _ hlink) hdn hr1, hts _ hinst, hts _ hsel⟩ ⟨zPre_blind, va_recv (q := (Cn, T, N)) C.2.2.2.2.2.2.2.1 hP hci he, fun U hU hW => z_pre C hP hD hS U hU hW⟩ rfl hn (hl.1.trans C.2.2.1) rfl (lv_room hcat) hd hr2) hD hS C.2.2.2.2.2.2.2.2.1 hl K
theorem z_callS (C : zC x G own cc nL ret rm) {y : MethodName} {bytes : ByteArray} {maxL : Nat} {rt : Option FieldType} {rm' : Room} {As rest : List Value} {r : Option Value} {w1 : va_W} {index : Nat} (n : Nat)
    (hcode : Cond.code y bytes maxL rt ∈ zU) (hini : Cond.initialized y.cls ∈ zU) (hlink : Cond.methodLink own index y ∈ zU) (hstat : Cond.static y ∈ zU) (hdn : y.cls ≠ "java/lang/invoke/MethodHandle" ∧ y.cls ≠ "java/lang/invoke/VarHandle" ∧ (parseMethodDescriptor y.desc).map (fun d => d.parameters.length) = some n)
    (hc : Ct (xl x) G y bytes maxL rt rm' As w r w1) (hn : As.length = n) (hd : decode cc pc = .ok (.invokestatic index, 3)) (hcat : (rest.map fun v => v.category).sum ≤ 8) (hrm : zRm rm rm' maxL ce sl) (K : zW x G (ce + rm'.cells) (sl + rm'.slots) (pc + 3) lv (r.toList ++ rest) w1) : zW x G ce sl pc lv (As.reverse ++ rest) w := by
  intro H locs ls hP hD hS hl
  have hts := C.2.2.2.2.1
  have hr1 : rm'.frames + 1 ≤ (xR x).frames ∧ 8 + (maxL + 11) + rm'.locals ≤ (xR x).locals := by rw [C.2.2.2.2.2.2.2.2.2.1]; exact hrm.1
  have hr2 : ce + rm'.cells ≤ (xR x).cells ∧ sl + rm'.slots ≤ (xR x).slots := by rw [C.2.2.2.2.2.2.2.2.2.1]; exact hrm.2
  refine z_back (w := w) (va_runS (n := n) (index := index) (y := y) (bytes := bytes) (maxL := maxL) (ret := rt) (As := As) (g := F0 (xm x) pc ls (As.reverse ++ rest)) ⟨C.1, C.2.1, C.2.2.1, C.2.2.2.1, hts⟩ (hc H.size) ⟨callB_of n hts (zgood hcode) rfl rfl rfl (hts _ hini) (hts _ hlink) hdn hr1, hts _ hstat⟩ ⟨zPre_blind, fun U hU hW => z_pre C hP hD hS U hU hW⟩ rfl hn (hl.1.trans C.2.2.1) rfl (lv_room hcat) hd hr2) hD hS C.2.2.2.2.2.2.2.2.1 hl K
/-- ends that leave something open (an address): Z says what -/
theorem z_lret1 {Z : Type} {v : Int64} {r : Option Value} {w1 : Z → va_W} {mc ms : Nat} (C : zC x G own cc nL (some .long) rm) (O : zO1 x G r w1 mc ms) (hd : decode cc pc = .ok (.lreturn, 1)) (z : Z) (hr : some (.long v) = r) (hw : w = w1 z) : zW x G mc ms pc lv [.long v] w := by
  intro H locs ls hP hD hS hl
  obtain ⟨w0, hA, hQ⟩ := O
  subst hr; subst hw
  rw [hQ]
  exact W.lret C.1 C.2.1 C.2.2.2.2.2.1 (fun t ht hW => ⟨z, rfl, by rw [ht]; exact hP, va_K.moved hW.alike C.2.2.2.2.2.2.2.1, by rw [← hA]; exact hD, by rw [← hA]; exact hS.F ht⟩) hS.2.2 hd C.2.2.2.2.2.2.1
theorem z_aret1 {Z : Type} {b : Nat} {r : Z → Option Value} {w1 : Z → va_W} {mc ms : Nat} {rt : FieldType} (C : zC x G own cc nL (some rt) rm) (O : zOr x G r w1 mc ms) (hrt : (∃ n, rt = .object n) ∨ ∃ t, rt = .array t) (hd : decode cc pc = .ok (.areturn, 1)) (z : Z) (hr : some (.ref b) = r z) (hw : w = w1 z) : zW x G mc ms pc lv [.ref b] w := by
  intro H locs ls hP hD hS hl
  obtain ⟨w0, hA, hQ⟩ := O
  subst hw
  rw [hQ]
  exact W.aret C.1 C.2.1 C.2.2.2.2.2.1 hrt (Or.inr ⟨b, rfl⟩) (fun t ht hW => ⟨z, by rw [hr], by rw [ht]; exact hP, va_K.moved hW.alike C.2.2.2.2.2.2.2.1, by rw [← hA]; exact hD, by rw [← hA]; exact hS.F ht⟩) hS.2.2 hd C.2.2.2.2.2.2.1
theorem z_vret1 {Z : Type} {r : Z → Option Value} {w1 : Z → va_W} {mc ms : Nat} (C : zC x G own cc nL none rm) (O : zOr x G r w1 mc ms) (hd : decode cc pc = .ok (.return_, 1)) (z : Z) (hr : none = r z) (hw : w = w1 z) : zW x G mc ms pc lv [] w := by
  intro H locs ls hP hD hS hl
  obtain ⟨w0, hA, hQ⟩ := O
  subst hw
  rw [hQ]
  exact W.vret C.1 C.2.1 C.2.2.2.2.2.1 (fun t ht hW => ⟨z, by rw [hr], by rw [ht]; exact hP, va_K.moved hW.alike C.2.2.2.2.2.2.2.1, by rw [← hA]; exact hD, by rw [← hA]; exact hS.F ht⟩) hS.2.2 hd C.2.2.2.2.2.2.1
theorem z_backr {Z : Type} {H : Heap} {locs : List Loc} {ls : Array Slot} {st0 rest : List Value} {a : Array Value} {w1 : Z → va_W} {r : Z → Option Value} {mc ms : Nat} (hr : va_Run (xp x) (xl x) (xe x) (xR x) (xs x) (xm x) (xa x) (xb x) (xt x) (xc x) H locs ce sl mc ms (F0 (xm x) pc ls st0) rest (zPostr G w H.size r w1 a) (va_A w H.size)) (hD : va_D (xA x) w) (hS : va_S (xA x) (xs x).heap H locs) (hA : ∀ q, (xs x).heap.size ≤ q → xA x q) (hl : lv_has ls (xc x).maxLocals lv) (K : ∀ z : Z, zW x G (ce + mc) (sl + ms) (pc + 3) lv ((r z).toList ++ rest) (w1 z)) : W (xp x) (xl x) (xe x) (xR x) (xs x) (xm x) (xa x) (xb x) (xt x) (xc x) H locs ce sl (xQ x) (F0 (xm x) pc ls st0) := by
  intro T hT X
  obtain ⟨v, st₀, t, T', L, h0, X', hL, e1, e2, ⟨z, hv, hp, hk, hd, hz, hq⟩, go⟩ := hr T hT X
  cases hv
  rw [h0] at hz hq
  have hF : ∀ q, va_A w H.size q → xA x q := fun q h => by
    rcases h with ⟨k, e, h⟩ | h
    · exact hD.2 k (q, e) h
    · exact hA q (Nat.le_trans hS.1 h)
  obtain ⟨t2, a1, b1⟩ := K z T'.heap (locs ++ L) ls (by rw [e1]; exact hp) (hd.weaken (fun _ _ _ h => hF _ h)) ⟨Nat.le_trans hS.1 (by rw [e1]; exact hz), fun q h1 h2 => by rw [e1, hq q (Nat.lt_of_lt_of_le h1 hS.1) (fun z => h2 (hF q z))]; exact hS.2.1 q h1 h2, fun q hq' => by
      rcases List.mem_append.mp hq' with h | h
      · exact hS.2.2 q h
      · exact hF _ (hL q h)⟩ hl T' rfl X'
  exact ⟨t2, go t2 a1, b1⟩
theorem z_callV1 {Z : Type} (C : zC x G own cc nL ret rm) {y : MethodName} {bytes : ByteArray} {maxL : Nat} {rt : Option FieldType} {rm' : Room} {b : Nat} {As rest : List Value} {r : Z → Option Value} {w1 : Z → va_W} {index ci : Nat} {fs : List Value} {Cn : String} {T : u_T} {N : Nat} (n : Nat)
    (hcode : Cond.code y bytes maxL rt ∈ zU) (hini : Cond.initialized y.cls ∈ zU) (hlink : Cond.methodLink own index y ∈ zU) (hinst : Cond.instanceMethod y ∈ zU) (hsel : Cond.selects Cn y y ∈ zU) (hdn : y.cls ≠ "java/lang/invoke/MethodHandle" ∧ y.cls ≠ "java/lang/invoke/VarHandle" ∧ (parseMethodDescriptor y.desc).map (fun d => d.parameters.length) = some n) (hci : vwCl[ci]? = some (Cn, T, N))
    (hc : Ctr (xl x) G y bytes maxL rt rm' (.ref b :: As) w r w1) (hn : As.length = n) (q0 : Nat) (he : w[q0]? = some (b, .inr (ci, fs))) (hd : decode cc pc = .ok (.invokevirtual index, 3)) (hcat : (rest.map fun v => v.category).sum ≤ 8) (hrm : zRm rm rm' maxL ce sl) (K : ∀ z : Z, zW x G (ce + rm'.cells) (sl + rm'.slots) (pc + 3) lv ((r z).toList ++ rest) (w1 z)) : zW x G ce sl pc lv (As.reverse ++ .ref b :: rest) w := by
  intro H locs ls hP hD hS hl
  have hts := C.2.2.2.2.1
  have hr1 : rm'.frames + 1 ≤ (xR x).frames ∧ 8 + (maxL + 11) + rm'.locals ≤ (xR x).locals := by rw [C.2.2.2.2.2.2.2.2.2.1]; exact hrm.1
  have hr2 : ce + rm'.cells ≤ (xR x).cells ∧ sl + rm'.slots ≤ (xR x).slots := by rw [C.2.2.2.2.2.2.2.2.2.1]; exact hrm.2
  refine z_backr (w := w) (va_runV (n := n) (index := index) (y := y) (bytes := bytes) (maxL := maxL) (ret := rt) (C := Cn) (b := b) (As := As) (g := F0 (xm x) pc ls (As.reverse ++ .ref b :: rest)) ⟨C.1, C.2.1, C.2.2.1, C.2.2.2.1, hts⟩ (hc H.size) ⟨callB_of n hts (zgood hcode) rfl rfl rfl (hts _ hini) (hts _ hlink) hdn hr1, hts _ hinst, hts _ hsel⟩ ⟨zPre_blind, va_recv (q := (Cn, T, N)) C.2.2.2.2.2.2.2.1 hP hci he, fun U hU hW => z_pre C hP hD hS U hU hW⟩ rfl hn (hl.1.trans C.2.2.1) rfl (lv_room hcat) hd hr2) hD hS C.2.2.2.2.2.2.2.2.1 hl K
end ZR

/-! THE BASE: universal words, contracts (Ct), the walk's judgement (zW), instruction rows over it -/
def zU : List Cond := lw_tbl.filter goodWord
theorem zm (i : Nat) {w : Cond} (h : lw_tbl[i]? = some w) (g : goodWord w = true) : w ∈ zU := List.mem_filter.mpr ⟨List.mem_of_getElem? h, g⟩
theorem zU_good : GoodIn zU zU := fun _ h => ⟨h, good_of_word (List.mem_filter.mp h).2⟩
theorem zgood {w : Cond} (h : w ∈ zU) : GoodIn zU (w :: zU) := fun v hv => (List.mem_cons.mp hv).elim (fun e => by subst e; exact zU_good _ h) (zU_good v)
theorem zin {ws : List Cond} (ps : List Nat) (hp : ws = ps.filterMap (fun i => lw_tbl[i]?)) (h : ws.all goodWord = true) : ∀ w ∈ ws, w ∈ zU := by
  intro w hw
  have h1 := List.all_eq_true.mp h w hw
  rw [hp] at hw
  obtain ⟨i, -, hi⟩ := List.mem_filterMap.mp hw
  exact zm i hi h1
/-- what is fixed over a run: classes' numbers and slots, the classes of byte, int and long arrays, the String constants and their rows -/
abbrev zG : Type := va_G × ClassId × ClassId × ClassId × (Nat → Nat) × (Nat → Nat)
abbrev gB (G : zG) : ClassId := G.2.1
abbrev gI (G : zG) : ClassId := G.2.2.1
abbrev gJ (G : zG) : ClassId := G.2.2.2.1
abbrev gK (G : zG) : Nat → Nat := G.2.2.2.2.1
abbrev gV (G : zG) : Nat → Nat := G.2.2.2.2.2
abbrev zT (G : zG) : List (ClassId × FieldType) := [(gB G, .byte), (gI G, .int), (gJ G, .long)]
def zTxt : List String := ["law", "own both", "most both", "sums parts worth less more", "stays all", "come buy put now owes land agree", "brought given earned heired"]
def zIdx : List Nat := [43, 64, 72, 77, 82, 97, 118]
def zByt : List (List Int32) := zTxt.map (fun t => t.toList.map (fun c => Int32.ofNat c.toNat))
def zLen : List Nat := [3, 8, 9, 26, 9, 32, 27]
def zNest : List (String × Nat × MethodName) := [(RX11, 21, yX6_init), (RX11, 28, yX7_init), (RX11, 38, yX2_init), (RX11, 45, yX8_init), (RX11, 58, yX10_init), (RX2, 11, yX7_init)]
def zCast : List (String × String) := [(RX3, RX5), (RX0, RX5), (RX0, RX3), (RX4, RX1)]
def zNo : List (String × String) := [(RX1, RX5), (RX4, RX5), (RX5, RX1), (RX3, RX1), (RX0, RX1), (RX5, RX3), (RX1, RX3), (RX4, RX3), (RX5, RX0), (RX3, RX0), (RX1, RX0), (RX4, RX0), (RX5, RX4), (RX3, RX4), (RX0, RX4), (RX1, RX4)]
/-- what stands outside all worlds: String constants, two statics, links to nest mates, which class is which -/
def zE (G : zG) (A : Nat → Prop) (U : State) (H : Heap) : Prop :=
  (vk_S 7 zLen zByt (gK G) (gV G) A U H ∧ (∀ i, i < 7 → vk_R RX6 (zIdx.getD i 0) (zTxt.getD i "") (gK G i) U)) ∧ (va_Z "java/lang/String" "COMPACT_STRINGS" "Z" (.int 1) A U H ∧ va_Zq "jdk/internal/util/Preconditions" "SIOOBE_FORMATTER" "Ljava/util/function/BiFunction;" A U H) ∧
  (∀ q ∈ zNest, va_Nw (.methodLinkNest q.1 q.2.1 q.2.2 RX11) U) ∧ (∀ q ∈ zCast, va_Nw (.castable q.1 q.2) U) ∧ ∀ q ∈ zNo, va_Nc q.1 q.2 U
theorem zE.same {G : zG} {A : Nat → Prop} {H : Heap} {u U : State} (hv : u.vm = U.vm) (h : zE G A u H) : zE G A U H := by
  have ha : u.vm.Alike U.vm := hv ▸ Vm.Alike.refl u.vm
  obtain ⟨⟨h1, h2⟩, ⟨h3, h4⟩, h5, h6, h7⟩ := h
  exact ⟨⟨h1.moved ha, fun i hi => (h2 i hi).same hv.symm⟩, ⟨h3.moved ha, h4.moved ha⟩, fun q hq => (h5 q hq).same rfl hv, fun q hq => (h6 q hq).same rfl hv, fun q hq => (h7 q hq).moved ha⟩
theorem zE.warm {G : zG} {A : Nat → Prop} {H : Heap} {u U : State} (hW : u.WarmedH U.vm) (h : zE G A u H) : zE G A U H := by
  have ha : u.vm.Alike U.vm := hW.alike
  obtain ⟨⟨h1, h2⟩, ⟨h3, h4⟩, h5, h6, h7⟩ := h
  exact ⟨⟨h1.moved ha, fun i hi => (h2 i hi).warm hW⟩, ⟨h3.moved ha, h4.moved ha⟩, fun q hq => (h5 q hq).warmM hW, fun q hq => (h6 q hq).warmC hW, fun q hq => (h7 q hq).moved ha⟩
theorem zE.kept {G : zG} {A : Nat → Prop} {H H1 : Heap} {U : State} (hq : ∀ a : Nat, a < H.size → ¬ A a → H1[a]? = H[a]?) (h : zE G A U H) : zE G A U H1 := by
  obtain ⟨⟨h1, h2⟩, ⟨h3, h4⟩, h5⟩ := h
  exact ⟨⟨h1.kept hq, h2⟩, ⟨h3.kept hq, h4.kept hq⟩, h5⟩
theorem zE.narrow {G : zG} {A B : Nat → Prop} {H : Heap} {U : State} (hq : ∀ q, B q → A q) (h : zE G A U H) : zE G B U H := by
  obtain ⟨⟨h1, h2⟩, ⟨h3, h4⟩, h5⟩ := h
  exact ⟨⟨h1.narrow hq, h2⟩, ⟨h3.narrow hq, h4.narrow hq⟩, h5⟩
/-- CONTRACTS: from the world w and the arguments av, y returns r, and the world is w1 -/
def zPre (G : zG) (av : List Value) (w : va_W) (sz : Nat) : Array Value → State → Prop := va_Pc av (fun U => U.heap.size = sz ∧ va_P G.1 vwCl w U.heap ∧ va_K G.1 vwCl (zT G) U ∧ va_D (fun _ => True) w ∧ zE G (va_A w sz) U U.heap)
def zPost (G : zG) (w : va_W) (sz : Nat) (r : Option Value) (w1 : va_W) : Array Value → State → Outcome → State → Prop := fun _ st oc t => oc = .returned r ∧ va_P G.1 vwCl w1 t.heap ∧ va_K G.1 vwCl (zT G) t ∧ va_D (va_A w sz) w1 ∧ va_F (va_A w sz) st t
def Ct (l : Launch) (G : zG) (y : MethodName) (cc : ByteArray) (maxL : Nat) (ret : Option FieldType) (rm : Room) (av : List Value) (w : va_W) (r : Option Value) (w1 : va_W) : Prop := ∀ sz, Met l y (.code y cc maxL ret :: zU) rm (zPre G av w sz) (zPost G w sz r w1) rm.cells rm.slots (va_A w sz)
theorem zPre_blind {G : zG} {av : List Value} {w : va_W} {sz : Nat} : FrameBlind (zPre G av w sz) := fun a U g mk q => by
  obtain ⟨q0, q1, qP, qK, qD, qE⟩ := q
  exact ⟨q0, q1, qP, va_K.moved (u := U) (U := U.calling g mk a) (Vm.Alike.refl U.vm) qK, qD, zE.same (u := U) (U := U.calling g mk a) rfl qE⟩
theorem zA_sub {w wc : va_W} {sz : Nat} (isC : List Nat) (hC : isC.map (fun i => w[i]?) = wc.map some) : ∀ q, va_A wc sz q → va_A w sz q := by
  intro q h
  rcases h with ⟨k, e, h⟩ | h
  · have h1 : (isC.map (fun i => w[i]?))[k]? = some (some (q, e)) := by rw [hC, List.getElem?_map, h]; rfl
    rw [List.getElem?_map] at h1
    cases hi : isC[k]? with
    | none => rw [hi] at h1; cases h1
    | some i => rw [hi] at h1; exact Or.inl ⟨i, e, Option.some.inj h1⟩
  · exact Or.inr h
theorem zD_self {w w1 : va_W} {sz : Nat} {A : Nat → Prop} (h : va_D A w1) (hA : ∀ q, A q → va_A w sz q) : va_D (va_A w sz) w1 := h.weaken (fun _ _ _ h => hA _ h)
/-- THE FRAME: a contract over a part of a world is one over the whole of it -/
theorem Ct.frame {l : Launch} {G : zG} {y : MethodName} {cc : ByteArray} {maxL : Nat} {ret : Option FieldType} {rm : Room} {av : List Value} {wc wc1 : va_W} {r : Option Value} (h : Ct l G y cc maxL ret rm av wc r wc1) {w w' wr : va_W} (isC isR isP : List Nat) (hC : isC.map (fun i => w[i]?) = wc.map some) (hnC : va_nd isC = true) (hR : isR.map (fun i => w[i]?) = wr.map some) (hnR : va_nd isR = true) (hdis : ∀ i ∈ isR, i ∉ isC) (hP' : isP.map (fun i => (wr ++ wc1)[i]?) = w'.map some) (hnP : va_nd isP = true) : Ct l G y cc maxL ret rm av w r w' := by
  intro sz p e ha hc hk s m args below hf happ hP _
  obtain ⟨q0, q1, qP, qK, qD, qE⟩ := hP
  have hsub := zA_sub (sz := sz) isC hC
  have hPc : va_P G.1 vwCl wc s.heap := by
    intro k q hq
    have h1 : (isC.map (fun i => w[i]?))[k]? = some (some q) := by rw [hC, List.getElem?_map, hq]; rfl
    rw [List.getElem?_map] at h1
    cases hi : isC[k]? with
    | none => rw [hi] at h1; cases h1
    | some i => rw [hi] at h1; exact qP i q (Option.some.inj h1)
  obtain ⟨n, o, a1, a2, a3, ⟨⟨b1, b2, b3, b4, b5⟩, L, b6, b7⟩⟩ := h sz p e ha hc hk s m args below hf happ ⟨q0, q1, hPc, qK, qD.sub isC hnC hC, zE.narrow hsub qE⟩ trivial
  refine ⟨n, o, a1, a2, a3, ⟨⟨b1, ?_⟩, L, b6, fun q hq => hsub _ (b7 q hq)⟩⟩
  subst q1
  obtain ⟨j1, j2⟩ := va_join (A0 := va_A w s.heap.size) (wr := wr) qP (qD.self (sz := s.heap.size)) isC isR hC hR hnR hdis (fun q h1 h2 => b5.2 q h1 h2) hsub b2 b4
  refine ⟨?_, b3, j2.sub isP hnP hP', b5.1, fun q h1 h2 => b5.2 q h1 (fun z => h2 (hsub q z))⟩
  intro k q hq
  have h1 : (isP.map (fun i => (wr ++ wc1)[i]?))[k]? = some (some q) := by rw [hP', List.getElem?_map, hq]; rfl
  rw [List.getElem?_map] at h1
  cases hi : isP[k]? with
  | none => rw [hi] at h1; cases h1
  | some i => rw [hi] at h1; exact j1 i q (Option.some.inj h1)
/-- a running method: all that stays as it is -/
abbrev zX : Type := Program × Launch × Env × Room × State × MethodId × Array Value × List Frame × Method × Code × (Nat → Prop) × (State → Prop)
abbrev xp (x : zX) : Program := x.1
abbrev xl (x : zX) : Launch := x.2.1
abbrev xe (x : zX) : Env := x.2.2.1
abbrev xR (x : zX) : Room := x.2.2.2.1
abbrev xs (x : zX) : State := x.2.2.2.2.1
abbrev xm (x : zX) : MethodId := x.2.2.2.2.2.1
abbrev xa (x : zX) : Array Value := x.2.2.2.2.2.2.1
abbrev xb (x : zX) : List Frame := x.2.2.2.2.2.2.2.1
abbrev xt (x : zX) : Method := x.2.2.2.2.2.2.2.2.1
abbrev xc (x : zX) : Code := x.2.2.2.2.2.2.2.2.2.1
abbrev xA (x : zX) : Nat → Prop := x.2.2.2.2.2.2.2.2.2.2.1
abbrev xQ (x : zX) : State → Prop := x.2.2.2.2.2.2.2.2.2.2.2
/-- the machine at pc, with locals lv, operand stack st, and the world w -/
def zW (x : zX) (G : zG) (ce sl pc : Nat) (lv : List (Nat × Value)) (st : List Value) (w : va_W) : Prop :=
  ∀ (H : Heap) (locs : List Loc) (ls : Array Slot), va_P G.1 vwCl w H → va_D (xA x) w → va_S (xA x) (xs x).heap H locs → lv_has ls (xc x).maxLocals lv → W (xp x) (xl x) (xe x) (xR x) (xs x) (xm x) (xa x) (xb x) (xt x) (xc x) H locs ce sl (xQ x) (F0 (xm x) pc ls st)
/-- what a row may use of a running method -/
def zC (x : zX) (G : zG) (own : String) (cc : ByteArray) (nL : Nat) (ret : Option FieldType) (rm : Room) : Prop :=
  (xp x).tables.exec = Jvm.exec ∧ (xc x).code = cc ∧ (xc x).maxLocals = nL ∧ (xs x).vm.findClass own = some (xm x).cls ∧ (∀ w ∈ zU, w.before (xa x) (xs x) = true) ∧ (xt x).sig.returnType = ret ∧ (xt x).locks = false ∧ va_K G.1 vwCl (zT G) (xs x) ∧ (∀ q, (xs x).heap.size ≤ q → xA x q) ∧ xR x = rm ∧ zE G (xA x) (xs x) (xs x).heap
/-- where its end must lead -/
def zO (x : zX) (G : zG) (r : Option Value) (w1 : va_W) (mc ms : Nat) : Prop := ∃ w0 : va_W, xA x = va_A w0 (xs x).heap.size ∧ xQ x = MQ (xb x) (zPost G w0 (xs x).heap.size r w1) (xa x) (xs x) mc ms (xA x)
theorem zMet {l : Launch} {G : zG} {y : MethodName} {cc : ByteArray} {maxL : Nat} {ret : Option FieldType} {rm : Room} {av : List Value} {w : va_W} {r : Option Value} {w1 : va_W} {own : String} (ho : y.cls = own) (hy : plainName y.cls = true) (hl : (lg_sl av).length ≤ maxL) (body : ∀ x : zX, xl x = l → zC x G own cc maxL ret rm → zO x G r w1 rm.cells rm.slots → zW x G 0 0 0 (lv_args 0 av) [] w) : Ct l G y cc maxL ret rm av w r w1 := by
  intro sz
  refine Met.ofW (cc := cc) (maxL := maxL) (ret := ret) hy rfl ?_
  intro p e s m args below meth c s₁ B hml hv
  obtain ⟨rfl, hsz, hP, hK, hD0, hE⟩ := hv
  subst hsz
  have hts := atoms_spec (ws := .code y cc maxL ret :: zU) B.pre
  have hown : s.vm.findClass own = some m.cls := by rw [← ho]; exact findClass_of_methodNamed B.named
  have hD := hD0.self (sz := s.heap.size)
  have hl0 := lv_entry av (n := maxL) hl
  rw [lg_entry_eq]
  refine body (p, l, e, rm, s, m, av.toArray, below, meth, c, va_A w s.heap.size, MQ below (zPost G w s.heap.size r w1) av.toArray s rm.cells rm.slots (va_A w s.heap.size)) rfl ⟨B.exec, B.bytes, hml, hown, fun v hv => hts v (List.mem_cons_of_mem _ hv), B.returns, B.notSynchronized, hK, fun q h => Or.inr h, rfl, hE⟩ ⟨w, rfl, rfl⟩ s.heap [] _ hP hD va_S.rf ?_
  show lv_has _ c.maxLocals _
  rw [hml]
  exact hl0

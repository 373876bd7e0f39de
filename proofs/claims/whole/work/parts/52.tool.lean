/-! TOOLS: guards with indices, literals, loops that are unrolled -/
theorem zg_ix {β : Type} {j n : Nat} {k : Option β} (h : j < n) (hn : n ≤ 1000) : zg (zix (nI j) n) k = k := zg_t (zix_t h hn)
theorem clampN {j : Nat} (h : j < 2 ^ 31) : (nI j).toNatClampNeg = j := nI_clamp h
theorem li0 : (0 : Int32) = nI 0 := rfl
theorem li1 : (1 : Int32) = nI 1 := rfl
theorem li2 : (2 : Int32) = nI 2 := rfl
theorem li3 : (3 : Int32) = nI 3 := rfl
theorem li4 : (4 : Int32) = nI 4 := rfl
theorem li5 : (5 : Int32) = nI 5 := rfl
theorem li6 : (6 : Int32) = nI 6 := rfl
theorem li7 : (7 : Int32) = nI 7 := rfl
theorem li8 : (8 : Int32) = nI 8 := rfl
theorem li9 : (9 : Int32) = nI 9 := rfl
theorem li10 : (10 : Int32) = nI 10 := rfl
theorem li12 : (12 : Int32) = nI 12 := rfl
theorem li13 : (13 : Int32) = nI 13 := rfl
theorem li14 : (14 : Int32) = nI 14 := rfl
theorem li16 : (16 : Int32) = nI 16 := rfl
theorem li20 : (20 : Int32) = nI 20 := rfl
theorem li21 : (21 : Int32) = nI 21 := rfl
theorem li22 : (22 : Int32) = nI 22 := rfl
theorem li23 : (23 : Int32) = nI 23 := rfl
theorem li26 : (26 : Int32) = nI 26 := rfl
theorem li30 : (30 : Int32) = nI 30 := rfl
theorem li32 : (32 : Int32) = nI 32 := rfl
theorem li40 : (40 : Int32) = nI 40 := rfl
theorem li48 : (48 : Int32) = nI 48 := rfl
theorem li50 : (50 : Int32) = nI 50 := rfl
theorem li57 : (57 : Int32) = nI 57 := rfl
theorem li59 : (59 : Int32) = nI 59 := rfl
theorem li97 : (97 : Int32) = nI 97 := rfl
theorem li99 : (99 : Int32) = nI 99 := rfl
theorem li100 : (100 : Int32) = nI 100 := rfl
theorem li122 : (122 : Int32) = nI 122 := rfl
theorem li128 : (128 : Int32) = nI 128 := rfl
theorem li180 : (180 : Int32) = nI 180 := rfl
theorem li320 : (320 : Int32) = nI 320 := rfl
theorem li500 : (500 : Int32) = nI 500 := rfl
theorem li999 : (999 : Int32) = nI 999 := rfl
theorem zI_zsA (s : zSt) (k i : Nat) (v : Int32) (j : Nat) : zI (zsA s k i v) j = zI s j := rfl
theorem zA_zsA (s : zSt) (k i : Nat) (v : Int32) (j : Nat) : zA (zsA s k i v) j = if j = k then upd (zA s k) i v else zA s j := rfl
theorem zJ_zsA (s : zSt) (k i : Nat) (v : Int32) (j : Nat) : zJ (zsA s k i v) j = zJ s j := rfl
theorem zL_zsA (s : zSt) (k i : Nat) (v : Int32) (j : Nat) : zL (zsA s k i v) j = zL s j := rfl
theorem zI_zsL (s : zSt) (k i : Nat) (v : Int64) (j : Nat) : zI (zsL s k i v) j = zI s j := rfl
theorem zA_zsL (s : zSt) (k i : Nat) (v : Int64) (j : Nat) : zA (zsL s k i v) j = zA s j := rfl
theorem zJ_zsL (s : zSt) (k i : Nat) (v : Int64) (j : Nat) : zJ (zsL s k i v) j = zJ s j := rfl
theorem zL_zsL (s : zSt) (k i : Nat) (v : Int64) (j : Nat) : zL (zsL s k i v) j = if j = k then vp_updL (zL s k) i v else zL s j := rfl
theorem zok_s {α : Type} {a : α} {Q : α → Prop} : zok (some a) Q = Q a := propext ⟨fun ⟨b, h, q⟩ => by cases h; exact q, fun h => ⟨a, rfl, h⟩⟩
theorem upd_same (f : Nat → Int32) (i : Nat) (v : Int32) : upd f i v i = v := by rw [upd_app, if_pos rfl]
theorem upd_ne {f : Nat → Int32} {i j : Nat} {v : Int32} (h : j ≠ i) : upd f i v j = f j := by rw [upd_app, if_neg h]
theorem updL_same (f : Nat → Int64) (i : Nat) (v : Int64) : vp_updL f i v i = v := by rw [updL_app, if_pos rfl]
theorem updL_ne {f : Nat → Int64} {i j : Nat} {v : Int64} (h : j ≠ i) : vp_updL f i v j = f j := by rw [updL_app, if_neg h]
theorem subN {a b : Nat} (h : b ≤ a) : nI a - nI b = nI (a - b) := pk_sub h
theorem ite_s {α : Type} {P : Prop} {d : Decidable P} (a b : α) : (@ite _ P d (some a) (some b)) = some (@ite _ P d a b) := by
  by_cases h : P
  · rw [if_pos h, if_pos h]
  · rw [if_neg h, if_neg h]
theorem nI_ne_m (n : Nat) (h : n < 2 ^ 31) : ¬ nI n = -1000000 := by
  intro e
  have e1 := congrArg Int32.toInt e
  rw [nI_int h] at e1
  have e2 : (-1000000 : Int32).toInt = -1000000 := by decide
  omega
theorem nI_ne_m1 (n : Nat) (h : n < 2 ^ 31) : ¬ nI n = -1 := by
  intro e
  have e1 := congrArg Int32.toInt e
  rw [nI_int h] at e1
  have e2 : (-1 : Int32).toInt = -1 := by decide
  omega

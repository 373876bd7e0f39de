/-! READER: words on both sides (the first rows are the kit's, to paste) -/
theorem wb_tb (n : Nat) : (lN n).toBitVec = BitVec.ofNat 64 n := rfl
theorem wb_inj {a b : Int64} (h : a.toBitVec = b.toBitVec) : a = b := Int64.toBitVec_inj.mp h
theorem wb_tn {n : Nat} (h : n < 2 ^ 64) : (lN n).toBitVec.toNat = n := by rw [wb_tb, BitVec.toNat_ofNat, Nat.mod_eq_of_lt h]
theorem wb_of (x : Int64) : ∃ n, n < 2 ^ 64 ∧ x = lN n := ⟨x.toBitVec.toNat, x.toBitVec.isLt, wb_inj (by rw [wb_tb]; simp)⟩
theorem wb_c : ∀ k, k < 64 → ((nI k).toInt64 &&& 63) = lN k := by decide +kernel
theorem wb_cu : ∀ k, k < 64 → ((nI k).toInt64.toUInt64 &&& Int64.toUInt64 63) = UInt64.ofNat k := by decide +kernel
theorem wb_sm : ∀ k, k < 64 → (BitVec.ofNat 64 k).smod 64 = BitVec.ofNat 64 k := by decide +kernel
theorem wb_pw {a b : Nat} (h : a ≤ b) : 2 ^ b = 2 ^ a * 2 ^ (b - a) := by rw [← Nat.pow_add]; congr 1; omega
theorem wb_lt2 {a b : Nat} (h : a < b) : 2 ^ a < 2 ^ b := Nat.pow_lt_pow_right (by decide) h
theorem wb_shr {n k : Nat} (hn : n < 2 ^ 64) (hk : k < 64) : ((lN n).toUInt64 >>> ((nI k).toInt64.toUInt64 &&& Int64.toUInt64 63)).toInt64 = lN (n / 2 ^ k) := by
  rw [wb_cu k hk]
  apply wb_inj
  apply BitVec.eq_of_toNat_eq
  show ((lN n).toUInt64 >>> UInt64.ofNat k).toNat = (BitVec.ofNat 64 _).toNat
  have h1 : (UInt64.ofNat k).toNat = k := by
    show (BitVec.ofNat 64 k).toNat = k
    rw [BitVec.toNat_ofNat, Nat.mod_eq_of_lt (by omega)]
  have h2 : (lN n).toUInt64.toNat = n := wb_tn hn
  rw [UInt64.toNat_shiftRight, h1, h2, Nat.mod_eq_of_lt hk, Nat.shiftRight_eq_div_pow, BitVec.toNat_ofNat, Nat.mod_eq_of_lt (Nat.lt_of_le_of_lt (Nat.div_le_self _ _) hn)]
theorem wb_shl (n : Nat) {k : Nat} (hk : k < 64) : lN n <<< ((nI k).toInt64 &&& 63) = lN (n * 2 ^ k) := by
  rw [wb_c k hk]
  apply wb_inj
  rw [Int64.toBitVec_shiftLeft, wb_tb, wb_tb, wb_tb, wb_sm k hk]
  apply BitVec.eq_of_toNat_eq
  rw [BitVec.shiftLeft_eq', BitVec.toNat_shiftLeft, BitVec.toNat_ofNat, BitVec.toNat_ofNat, BitVec.toNat_ofNat, Nat.mod_eq_of_lt (show k < 2 ^ 64 by omega), Nat.shiftLeft_eq, Nat.mul_mod, Nat.mod_mod, ← Nat.mul_mod]
theorem wb_and {a b : Nat} (ha : a < 2 ^ 64) (hb : b < 2 ^ 64) : lN a &&& lN b = lN (a &&& b) := by
  apply wb_inj
  rw [Int64.toBitVec_and, wb_tb, wb_tb, wb_tb]
  apply BitVec.eq_of_toNat_eq
  rw [BitVec.toNat_and, BitVec.toNat_ofNat, BitVec.toNat_ofNat, BitVec.toNat_ofNat, Nat.mod_eq_of_lt ha, Nat.mod_eq_of_lt hb, Nat.mod_eq_of_lt (Nat.and_lt_two_pow _ hb)]
theorem wb_mask {n k : Nat} (hn : n < 2 ^ 64) (hk : k < 64) : lN n &&& lN (2 ^ k - 1) = lN (n % 2 ^ k) := by
  rw [wb_and hn (by have := wb_lt2 hk; omega), Nat.and_two_pow_sub_one_eq_mod]
theorem u_tn {n : Nat} (h : n < 2 ^ 64) : (UInt64.ofNat n).toNat = n := Nat.mod_eq_of_lt h
theorem g_or {k p a b : Nat} (hp : 2 ^ k = p) (ha : a < p) (h : b * p + a < 2 ^ 64) : lN (b * p) ||| lN a = lN (b * p + a) := by
  subst hp
  have h1 : b * 2 ^ k ||| a = b * 2 ^ k + a := by rw [← Nat.shiftLeft_eq, Nat.shiftLeft_add_eq_or_of_lt ha]
  have h3 : UInt64.ofNat (b * 2 ^ k) ||| UInt64.ofNat a = UInt64.ofNat (b * 2 ^ k + a) := UInt64.toNat_inj.mp (by rw [UInt64.toNat_or, u_tn (by omega), u_tn (by omega), u_tn h, h1])
  have h2 := congrArg UInt64.toInt64 h3
  exact h2
def zcl : List (List Nat) := [[108, 97, 119], [111, 119, 110, 32, 98, 111, 116, 104], [109, 111, 115, 116, 32, 98, 111, 116, 104], [115, 117, 109, 115, 32, 112, 97, 114, 116, 115, 32, 119, 111, 114, 116, 104, 32, 108, 101, 115, 115, 32, 109, 111, 114, 101], [115, 116, 97, 121, 115, 32, 97, 108, 108], [99, 111, 109, 101, 32, 98, 117, 121, 32, 112, 117, 116, 32, 110, 111, 119, 32, 111, 119, 101, 115, 32, 108, 97, 110, 100, 32, 97, 103, 114, 101, 101], [98, 114, 111, 117, 103, 104, 116, 32, 103, 105, 118, 101, 110, 32, 101, 97, 114, 110, 101, 100, 32, 104, 101, 105, 114, 101, 100]]
theorem zch_tbl : ∀ i, i < 7 → ∀ k, k < zLen.getD i 0 → zch i (nI k) = nI ((zcl.getD i []).getD k 0) := by decide +kernel
theorem zcl_lt : ∀ i, i < 7 → ∀ k, k < zLen.getD i 0 → (zcl.getD i []).getD k 0 < 256 := by decide +kernel
theorem zLen_le : ∀ i, i < 7 → zLen.getD i 0 ≤ 32 := by decide +kernel
def w_rb (M : zSt) (s : Nat) : Nat → List Nat
  | 0 => []
  | m + 1 => bt M (s + m) :: w_rb M s m
def w_rw (L : List Nat) (s : Nat) : Nat → List Nat
  | 0 => []
  | m + 1 => L.getD (s + m) 0 :: w_rw L s m
def w_pk : List Nat → Nat
  | [] => 0
  | c :: l => 256 * w_pk l + c
def w_let (l : List Nat) : Prop := ∀ c, c ∈ l → 97 ≤ c ∧ c ≤ 122
theorem w_let_c {c : Nat} {l : List Nat} (h : w_let (c :: l)) : (97 ≤ c ∧ c ≤ 122) ∧ w_let l := ⟨h c (List.mem_cons_self ..), fun x hx => h x (List.mem_cons_of_mem _ hx)⟩
theorem w_inj : ∀ l l' : List Nat, w_let l → w_let l' → w_pk l = w_pk l' → l = l' := by
  intro l
  induction l with
  | nil =>
    intro l' h h' e
    cases l' with
    | nil => rfl
    | cons c l' =>
      have := (w_let_c h').1
      simp only [w_pk] at e
      omega
  | cons c l ih =>
    intro l' h h' e
    cases l' with
    | nil =>
      have := (w_let_c h).1
      simp only [w_pk] at e
      omega
    | cons c' l' =>
      have a := (w_let_c h).1
      have b := (w_let_c h').1
      simp only [w_pk] at e
      have e1 : c = c' := by omega
      have e2 : w_pk l = w_pk l' := by omega
      rw [e1, ih l' (w_let_c h).2 (w_let_c h').2 e2]
theorem w_lt : ∀ l : List Nat, w_let l → w_pk l < 256 ^ l.length := by
  intro l
  induction l with
  | nil => intro _; show 0 < 256 ^ 0; decide
  | cons c l ih =>
    intro h
    have a := (w_let_c h).1
    have b := ih (w_let_c h).2
    show 256 * w_pk l + c < 256 ^ (l.length + 1)
    rw [Nat.pow_succ]
    omega
theorem w_rbl (M : zSt) (s : Nat) : ∀ m, (w_rb M s m).length = m := by
  intro m
  induction m with
  | zero => rfl
  | succ m ih => show (w_rb M s m).length + 1 = m + 1; rw [ih]
theorem w_rwl (L : List Nat) (s : Nat) : ∀ m, (w_rw L s m).length = m := by
  intro m
  induction m with
  | zero => rfl
  | succ m ih => show (w_rw L s m).length + 1 = m + 1; rw [ih]
theorem w_rb_let {R M : zSt} {s h : Nat} (hC : ∀ k, s ≤ k → k < h → Ch R M 97 122 k) : ∀ m, s + m ≤ h → w_let (w_rb M s m) := by
  intro m
  induction m with
  | zero => intro _ c hc; cases hc
  | succ m ih =>
    intro hm c hc
    rcases List.mem_cons.mp hc with e | e
    · obtain ⟨d, d1, d2, d3, d4⟩ := hC (s + m) (by omega) (by omega)
      have : bt M (s + m) = d := by unfold bt; rw [d4, clampN (by omega)]
      omega
    · exact ih (by omega) c e
theorem w_eq (M : zSt) (L : List Nat) (s a : Nat) : ∀ m, (w_rb M s m = w_rw L a m) ↔ ∀ k, k < m → bt M (s + k) = L.getD (a + k) 0 := by
  intro m
  induction m with
  | zero => exact ⟨fun _ k hk => absurd hk (Nat.not_lt_zero k), fun _ => rfl⟩
  | succ m ih =>
    constructor
    · intro e k hk
      have e' : bt M (s + m) :: w_rb M s m = L.getD (a + m) 0 :: w_rw L a m := e
      obtain ⟨e1, e2⟩ := List.cons.inj e'
      by_cases z : k = m
      · subst z; exact e1
      · exact ih.mp e2 k (by omega)
    · intro e
      show bt M (s + m) :: w_rb M s m = L.getD (a + m) 0 :: w_rw L a m
      rw [e m (by omega), ih.mpr (fun k hk => e k (by omega))]
/-! the reference's word -/
theorem wl7_s (n : Nat) (M : zSt) (x : Int64) (y : Int32) : fM_word_l7 (n + 1) M x y = fM_word_l7b (fun v0 v1 v2 => fM_word_l7 n v0 v1 v2) M x y := rfl
theorem w_sh {a c : Nat} (ha : a < 72057594037927936) (hc : c < 256) : (lN a <<< ((nI 8).toInt64 &&& 63)) ||| (nI c).toInt64 = lN (256 * a + c) := by
  rw [wb_shl a (by omega), nI_l (by omega), g_or (k := 8) rfl (by omega) (by omega)]
  congr 1
  omega
theorem w_loop {R M : zSt} {s h : Nat} (hh : h ≤ 500) (h8 : h - s < 8) (hsh : s ≤ h) (m21 : zI M 21 = nI 2) (m22 : zI M 22 = nI s) (m23 : zI M 23 = nI h) (hC : ∀ k, s ≤ k → k < h → Ch R M 97 122 k) : ∀ (d j f : Nat), j + d = h → s ≤ j → d < f → fM_word_l7 f M (lN (w_pk (w_rb M s (j - s)))) (nI j) = fM_word_b56 M (lN (w_pk (w_rb M s (h - s)))) := by
  intro d
  induction d with
  | zero =>
    intro j f hd hsj hf
    obtain ⟨m, rfl⟩ : ∃ m, f = m + 1 := ⟨f - 1, by omega⟩
    have hj : j = h := by omega
    subst hj
    rw [wl7_s]
    unfold fM_word_l7b
    rw [m23, if_pos (Int32.le_refl _)]
  | succ d ih =>
    intro j f hd hsj hf
    obtain ⟨m, rfl⟩ : ∃ m, f = m + 1 := ⟨f - 1, by omega⟩
    obtain ⟨c, c1, c2, c3, c4⟩ := hC j hsj (by omega)
    have hj : ¬ h ≤ j := by omega
    have h8' : ¬ 8 ≤ h - s := by omega
    have e2 : bt M j = c := by unfold bt; rw [c4, clampN (by omega)]
    have e3 : w_pk (w_rb M s (j + 1 - s)) = 256 * w_pk (w_rb M s (j - s)) + c := by
      rw [show j + 1 - s = (j - s) + 1 from by omega]
      show 256 * w_pk (w_rb M s (j - s)) + bt M (s + (j - s)) = _
      rw [show s + (j - s) = j from by omega, e2]
    have hlt : w_pk (w_rb M s (j - s)) < 72057594037927936 := by
      have a := w_lt _ (w_rb_let hC (j - s) (by omega))
      rw [w_rbl] at a
      have b : 256 ^ (j - s) ≤ 256 ^ 7 := Nat.pow_le_pow_right (by omega) (by omega)
      omega
    have k := ih (j + 1) m (by omega) (by omega) (by omega)
    rw [wl7_s, ← k, e3]
    simp (disch := omega) only [fM_word_l7b, li0, li1, li2, li3, li4, li5, li6, li7, li8, li9, li10, li12, li13, li14, li16, li20, li21, li22, li23, li26, li30, li32, li40, li48, li50, li57, li59, li97, li99, li100, li122, li128, li180, li320, li500, li999, nI_add, pk_mul, subN, clampN, zg_ix, nlt, nle, neq, zn_eq, bind_s, ↓reduceIte, Nat.reduceAdd, Nat.reduceMul, Nat.reduceSub, Nat.reduceLeDiff, Nat.reduceEqDiff, Nat.add_zero, Nat.zero_add, Nat.reduceLT, Nat.mul_zero, m21, m22, m23, hj, h8', c4]
    rw [w_sh hlt (by omega)]
def w_tok (M : zSt) (s h : Nat) : List Nat := if zI M 21 = nI 2 then w_rb M s (h - s) else []
def w_v (l : List Nat) : Nat := if l.length < 8 then w_pk l else 0
theorem w_tok_let {R M : zSt} {n s h : Nat} (hk : TkR R M n s h) : w_let (w_tok M s h) := by
  obtain ⟨_, _, hsh, _, hc⟩ := hk
  unfold w_tok
  by_cases z : zI M 21 = nI 2
  · rw [if_pos z]
    rcases hc with ⟨_, e⟩ | ⟨_, _, hC⟩ | ⟨_, e, _⟩ | ⟨_, e⟩ | ⟨_, e⟩
    · rw [e, neq (by omega) (by omega)] at z; omega
    · exact w_rb_let hC _ (by omega)
    · rw [e, neq (by omega) (by omega)] at z; omega
    · rw [e, neq (by omega) (by omega)] at z; omega
    · rw [e, neq (by omega) (by omega)] at z; omega
  · rw [if_neg z]
    intro c hc; cases hc
theorem word_ref {R M : zSt} {n s h : Nat} (hn : n ≤ 500) (hk : TkR R M n s h) : fM_word M = fM_word_b56 M (lN (w_v (w_tok M s h))) := by
  obtain ⟨⟨_, m22⟩, ⟨_, m23, _⟩, hsh, hhn, hc⟩ := hk
  unfold fM_word
  rw [zn_eq, m22]
  by_cases z : zI M 21 = nI 2
  · have hC : ∀ k, s ≤ k → k < h → Ch R M 97 122 k := by
      rcases hc with ⟨_, e⟩ | ⟨_, _, hC⟩ | ⟨_, e, _⟩ | ⟨_, e⟩ | ⟨_, e⟩
      · rw [e, neq (by omega) (by omega)] at z; omega
      · exact hC
      · rw [e, neq (by omega) (by omega)] at z; omega
      · rw [e, neq (by omega) (by omega)] at z; omega
      · rw [e, neq (by omega) (by omega)] at z; omega
    have et : w_tok M s h = w_rb M s (h - s) := by unfold w_tok; rw [if_pos z]
    rw [et]
    unfold w_v
    rw [w_rbl]
    by_cases h8 : h - s < 8
    · rw [if_pos h8]
      have k := w_loop (by omega) h8 hsh z m22 m23 hC (h - s) s zF (by omega) (by omega) (by unfold zF; omega)
      rw [Nat.sub_self] at k
      exact k
    · rw [if_neg h8, show zF = 999 + 1 from rfl, wl7_s]
      have a : ¬ h ≤ s := by omega
      have b : 8 ≤ h - s := by omega
      simp (disch := omega) only [fM_word_l7b, li0, li1, li2, li3, li4, li5, li6, li7, li8, li9, li10, li12, li13, li14, li16, li20, li21, li22, li23, li26, li30, li32, li40, li48, li50, li57, li59, li97, li99, li100, li122, li128, li180, li320, li500, li999, nI_add, pk_mul, subN, clampN, zg_ix, nlt, nle, neq, zn_eq, bind_s, ↓reduceIte, Nat.reduceAdd, Nat.reduceMul, Nat.reduceSub, Nat.reduceLeDiff, Nat.reduceEqDiff, Nat.add_zero, Nat.zero_add, Nat.reduceLT, Nat.mul_zero, z, m22, m23, a, b]
      rfl
  · have et : w_tok M s h = [] := by unfold w_tok; rw [if_neg z]
    rw [et, show zF = 999 + 1 from rfl, wl7_s]
    unfold fM_word_l7b
    have z' : ¬ zI M 21 = 2 := z
    rw [if_neg z']
    split <;> rfl
theorem w_v_lt {l : List Nat} (h : w_let l) : w_v l < 2 ^ 63 := by
  unfold w_v
  by_cases z : l.length < 8
  · rw [if_pos z]
    have a := w_lt l h
    have b : 256 ^ l.length ≤ 256 ^ 7 := Nat.pow_le_pow_right (by omega) (by omega)
    omega
  · rw [if_neg z]; omega
theorem w_pos {l : List Nat} (h : w_let l) (h0 : l ≠ []) : 0 < w_pk l := by
  cases l with
  | nil => exact absurd rfl h0
  | cons c l =>
    have := (w_let_c h).1
    show 0 < 256 * w_pk l + c
    omega
theorem w_is {tok w : List Nat} (ht : w_let tok) (hw : w_let w) (hl : w.length < 8) (h0 : w ≠ []) : (lN (w_v tok) = lN (w_pk w)) ↔ tok = w := by
  have a := w_v_lt ht
  have b := w_v_lt hw
  have c : w_v w = w_pk w := by unfold w_v; rw [if_pos hl]
  rw [← c, pk_lEQ a b, c]
  have p := w_pos hw h0
  constructor
  · intro e
    unfold w_v at e
    by_cases z : tok.length < 8
    · rw [if_pos z] at e
      exact w_inj _ _ ht hw e
    · rw [if_neg z] at e
      omega
  · intro e
    rw [e, c]
def w_cho (tok : List Nat) : List (List Nat) → Nat → Int32
  | [], _ => -1
  | w :: ws, j => if tok = w then nI j else w_cho tok ws (j + 1)
def w_one (v : Int64) : List Int64 → Nat → Int32
  | [], _ => -1000000
  | a :: l, j => if v = a then nI j else w_one v l (j + 1)
theorem w_one_pad {tok : List Nat} (ht : w_let tok) : ∀ (pad : List Int64) (j : Nat), (∀ a, a ∈ pad → a = -1) → w_one (lN (w_v tok)) pad j = -1000000 := by
  intro pad
  induction pad with
  | nil => intro j _; rfl
  | cons a l ih =>
    intro j h
    have h1 := h a (List.mem_cons_self ..)
    have hv := w_v_lt ht
    show (if lN (w_v tok) = a then nI j else w_one (lN (w_v tok)) l (j + 1)) = _
    rw [if_neg, ih (j + 1) (fun x hx => h x (List.mem_cons_of_mem _ hx))]
    rw [h1]
    intro e
    have e1 := congrArg Int64.toInt e
    rw [pk_lT hv] at e1
    have e2 : (-1 : Int64).toInt = -1 := by decide
    omega
theorem one_cho {tok : List Nat} (ht : w_let tok) (pad : List Int64) (hp : ∀ a, a ∈ pad → a = -1) : ∀ (W : List (List Nat)) (j : Nat), (∀ w, w ∈ W → w_let w ∧ w.length < 8 ∧ w ≠ []) → (w_cho tok W j = -1 ∧ w_one (lN (w_v tok)) (W.map (fun w => lN (w_pk w)) ++ pad) j = -1000000) ∨ (∃ k, k < j + W.length ∧ w_cho tok W j = nI k ∧ w_one (lN (w_v tok)) (W.map (fun w => lN (w_pk w)) ++ pad) j = nI k ∧ ¬ lN (w_v tok) = 0) := by
  intro W
  induction W with
  | nil =>
    intro j _
    exact Or.inl ⟨rfl, w_one_pad ht pad j hp⟩
  | cons w W ih =>
    intro j hW
    obtain ⟨a1, a2, a3⟩ := hW w (List.mem_cons_self ..)
    have e := w_is ht a1 a2 a3
    have r := ih (j + 1) (fun x hx => hW x (List.mem_cons_of_mem _ hx))
    have u1 : w_cho tok (w :: W) j = if tok = w then nI j else w_cho tok W (j + 1) := rfl
    have u2 : w_one (lN (w_v tok)) ((w :: W).map (fun w => lN (w_pk w)) ++ pad) j = if lN (w_v tok) = lN (w_pk w) then nI j else w_one (lN (w_v tok)) (W.map (fun w => lN (w_pk w)) ++ pad) (j + 1) := rfl
    rw [u1, u2]
    by_cases z : tok = w
    · rw [if_pos z, if_pos (e.mpr z)]
      refine Or.inr ⟨j, by rw [List.length_cons]; omega, rfl, rfl, ?_⟩
      have hp := w_pos a1 a3
      have hv := w_v_lt ht
      have c : w_v tok = w_pk w := by rw [z]; unfold w_v; rw [if_pos a2]
      rw [lN0 hv]
      omega
    · rw [if_neg z, if_neg (fun y => z (e.mp y))]
      rcases r with r | ⟨k, k1, k2⟩
      · exact Or.inl r
      · exact Or.inr ⟨k, by rw [List.length_cons]; omega, k2⟩
theorem oneOf_eq {M : zSt} {v : Int64} (a b c d e : Int64) (hw : fM_word M = some v) : fM_oneOf M a b c d e = if v = 0 then fM_oneOf_b78 M (-1000000) else fM_oneOf_b78 M (w_one v [a, b, c, d, e] 0) := by
  unfold fM_oneOf
  rw [hw, bind_s]
  simp only [w_one]
  (repeat' split) <;> first | rfl | contradiction
theorem kindW_eq {M : zSt} {v : Int64} (hw : fM_word M = some v) : fM_kindOfWord M = some (w_one v [1668246885, 6452601, 7370100, 7237495, 1870095731, 1818324580, 418347378021] 0) := by
  unfold fM_kindOfWord
  rw [hw, bind_s]
  simp only [w_one]
  (repeat' split) <;> first | rfl | contradiction
/-! the class's choice -/
theorem isw_s (n : Nat) (R : zSt) (x : Nat) (a b c : Int32) : fR_isWord_l20 (n + 1) R x a b c = fR_isWord_l20b (fun v0 v1 v2 v3 v4 => fR_isWord_l20 n v0 v1 v2 v3 v4) R x a b c := rfl
theorem cho_s (n : Nat) (R : zSt) (x : Nat) (a b c : Int32) : fR_choice_l17 (n + 1) R x a b c = fR_choice_l17b (fun v0 v1 v2 v3 v4 => fR_choice_l17 n v0 v1 v2 v3 v4) R x a b c := rfl
theorem zg_7 {β : Type} {i : Nat} {k : Option β} (hi : i < 7) : zg (zs7 i) k = k := zg_t (decide_eq_true hi)
theorem zg_ch {β : Type} {i j : Nat} {k : Option β} (hi : i < 7) (hj : j < zLen.getD i 0) : zg (zs7 i && zix (nI j) (zLen.getD i 0)) k = k := by
  have h1 : zs7 i = true := decide_eq_true hi
  have h2 := zLen_le i hi
  rw [h1, zix_t hj (by omega)]
  rfl
theorem isw_loop {R : zSt} {i s a b : Nat} (hi : i < 7) (hb : b ≤ zLen.getD i 0) (hs : s + (b - a) ≤ 500) (r5 : zI R 5 = nI s) : ∀ (d j f : Nat), j + d = b → a ≤ j → d < f → ∃ q, fR_isWord_l20 f R i (nI a) (nI b) (nI j) = some q ∧ (q = true ↔ ∀ k, j ≤ k → k < b → zA R 0 (s + k - a) = nI ((zcl.getD i []).getD k 0)) := by
  have hb32 := zLen_le i hi
  intro d
  induction d with
  | zero =>
    intro j f hd ha hf
    obtain ⟨m, rfl⟩ : ∃ m, f = m + 1 := ⟨f - 1, by omega⟩
    refine ⟨true, ?_, ⟨fun _ k h1 h2 => by omega, fun _ => rfl⟩⟩
    rw [isw_s]
    unfold fR_isWord_l20b
    rw [if_pos (nI_le (by omega) (by omega))]
  | succ d ih =>
    intro j f hd ha hf
    obtain ⟨m, rfl⟩ : ∃ m, f = m + 1 := ⟨f - 1, by omega⟩
    obtain ⟨q, q1, q2⟩ := ih (j + 1) m (by omega) (by omega) (by omega)
    have hx : fR_isWord_l20 (m + 1) R i (nI a) (nI b) (nI j) = if nI ((zcl.getD i []).getD j 0) = zA R 0 (s + j - a) then some q else some false := by
      rw [isw_s]
      unfold fR_isWord_l20b
      rw [if_neg (nI_ge (by omega) (by omega)), zg_ch hi (by omega), r5, nI_add, pk_sub (by omega), zg_ix (by omega) (by omega), clampN (by omega), zch_tbl i hi j (by omega), zn_eq, nI_1]
      show (if _ then fR_isWord_l20 m R i (nI a) (nI b) (nI (j + 1)) else _) = _
      rw [q1]
    rw [hx]
    by_cases z : nI ((zcl.getD i []).getD j 0) = zA R 0 (s + j - a)
    · rw [if_pos z]
      refine ⟨q, rfl, ⟨fun y k h1 h2 => ?_, fun y => q2.mpr (fun k h1 h2 => y k (by omega) h2)⟩⟩
      by_cases w : k = j
      · subst w; exact z.symm
      · exact q2.mp y k (by omega) h2
    · rw [if_neg z]
      exact ⟨false, rfl, ⟨fun y => absurd y (by decide), fun y => absurd (y j (by omega) (by omega)).symm z⟩⟩
theorem isw_eq {R M : zSt} {i s h a b : Nat} (hi : i < 7) (hab : a ≤ b) (hb : b ≤ zLen.getD i 0) (hh : h ≤ 500) (hsh : s ≤ h) (r5 : zI R 5 = nI s) (r6 : zI R 6 = nI h) (hC : ∀ k, s ≤ k → k < h → Ch R M 97 122 k) : fR_isWord R i (nI a) (nI b) = some (decide (w_rb M s (h - s) = w_rw (zcl.getD i []) a (b - a))) := by
  have hb32 := zLen_le i hi
  unfold fR_isWord
  rw [pk_sub hab, r6, r5, pk_sub hsh]
  by_cases e : b - a = h - s
  · rw [if_pos (by rw [e])]
    obtain ⟨q, q1, q2⟩ := isw_loop (R := R) (s := s) (a := a) hi hb (by omega) r5 (b - a) a zF (by omega) (Nat.le_refl _) (by unfold zF; omega)
    rw [q1]
    congr 1
    apply Bool.eq_iff_iff.mpr
    rw [q2, decide_eq_true_iff, ← e, w_eq]
    constructor
    · intro y k hk
      have y1 := y (a + k) (by omega) (by omega)
      rw [show s + (a + k) - a = s + k from by omega] at y1
      obtain ⟨c, c1, c2, c3, c4⟩ := hC (s + k) (by omega) (by omega)
      have lt := zcl_lt i hi (a + k) (by omega)
      rw [c3, neq (by omega) (by omega)] at y1
      unfold bt
      rw [c4, clampN (by omega)]
      exact y1
    · intro y k h1 h2
      have y1 := y (k - a) (by omega)
      obtain ⟨c, c1, c2, c3, c4⟩ := hC (s + (k - a)) (by omega) (by omega)
      unfold bt at y1
      rw [c4, clampN (by omega), show a + (k - a) = k from by omega] at y1
      rw [show s + k - a = s + (k - a) from by omega, c3, y1]
  · rw [if_neg (by rw [neq (by omega) (by omega)]; exact e)]
    congr 1
    symm
    apply decide_eq_false
    intro y
    have y1 := congrArg List.length y
    rw [w_rbl, w_rwl] at y1
    omega
theorem cho_seg {R M : zSt} {i s h a b w : Nat} {tok wd : List Nat} (hi : i < 7) (hab : a ≤ b) (hb : b ≤ zLen.getD i 0) (hh : h ≤ 500) (hsh : s ≤ h) (r5 : zI R 5 = nI s) (r6 : zI R 6 = nI h) (hC : ∀ k, s ≤ k → k < h → Ch R M 97 122 k) (hns : ∀ k, k < b → a ≤ k → ¬ (zcl.getD i []).getD k 0 = 32) (hend : b = zLen.getD i 0 ∨ (b < zLen.getD i 0 ∧ (zcl.getD i []).getD b 0 = 32)) (ht : tok = w_rb M s (h - s)) (hwd : w_rw (zcl.getD i []) a (b - a) = wd) : ∀ (d j f : Nat), j + d = b → a ≤ j → fR_choice_l17 (f + d + 1) R i (nI w) (nI a) (nI j) = if tok = wd then some (nI w) else fR_choice_l17 f R i (nI (w + 1)) (nI (b + 1)) (nI (b + 1)) := by
  have hb32 := zLen_le i hi
  have hlast : ∀ f, fR_choice_b46 (fun v0 v1 v2 v3 v4 => fR_choice_l17 f v0 v1 v2 v3 v4) R i (nI w) (nI a) (nI b) = if tok = wd then some (nI w) else fR_choice_l17 f R i (nI (w + 1)) (nI (b + 1)) (nI (b + 1)) := by
    intro f
    unfold fR_choice_b46
    rw [isw_eq hi hab hb hh hsh r5 r6 hC, bind_s, hwd, ← ht]
    by_cases z : tok = wd
    · rw [decide_eq_true z, if_pos rfl, if_pos z]
    · rw [decide_eq_false z, if_neg Bool.false_ne_true, if_neg z, zn_eq, zn_eq, zn_eq, nI_1, nI_1]
  intro d
  induction d with
  | zero =>
    intro j f hd ha
    have hj : j = b := by omega
    subst hj
    rw [← hlast f, Nat.add_zero, cho_s]
    unfold fR_choice_l17b
    rw [zg_7 hi, if_neg (nI_nlt (by omega) (by omega)), zg_7 hi]
    rcases hend with z | ⟨z1, z2⟩
    · rw [if_pos (by rw [← z])]
    · rw [if_neg (by rw [neq (by omega) (by omega)]; omega), zg_ch hi z1, zch_tbl i hi j z1, z2, if_pos li32.symm]
  | succ d ih =>
    intro j f hd ha
    rw [← ih (j + 1) f (by omega) (by omega), show f + (d + 1) + 1 = (f + d + 1) + 1 from rfl, cho_s]
    unfold fR_choice_l17b
    have lt := zcl_lt i hi j (by omega)
    rw [zg_7 hi, if_neg (nI_nlt (by omega) (by omega)), zg_7 hi, if_neg (by rw [neq (by omega) (by omega)]; omega), zg_ch hi (by omega), zch_tbl i hi j (by omega), if_neg (by rw [li32, neq (by omega) (by omega)]; exact hns j (by omega) ha), zn_eq, nI_1]
theorem cho_no {R : zSt} {i w : Nat} {a : Int32} (f : Nat) (hi : i < 7) (b : Nat) (hb : b = zLen.getD i 0 + 1) : fR_choice_l17 (f + 1) R i (nI w) a (nI b) = some (-1) := by
  have hb32 := zLen_le i hi
  subst hb
  rw [cho_s]
  unfold fR_choice_l17b
  rw [zg_7 hi, if_pos (nI_lt (by omega) (by omega))]
theorem tok_or {R M : zSt} {n s h : Nat} (hk : TkR R M n s h) : (zI R 4 = nI 1 ∧ w_tok M s h = w_rb M s (h - s) ∧ ∀ k, s ≤ k → k < h → Ch R M 97 122 k) ∨ (¬ zI R 4 = nI 1 ∧ w_tok M s h = []) := by
  obtain ⟨_, _, hsh, _, hc⟩ := hk
  unfold w_tok
  rcases hc with ⟨e', e⟩ | ⟨e', e, hC⟩ | ⟨e', e, _⟩ | ⟨e', e⟩ | ⟨e', e⟩
  · right; rw [e, e', if_neg (by rw [neq (by omega) (by omega)]; omega), neq (by omega) (by omega)]; exact ⟨by omega, rfl⟩
  · left; rw [e, e', if_pos rfl]; exact ⟨rfl, rfl, hC⟩
  · right; rw [e, e', if_neg (by rw [neq (by omega) (by omega)]; omega), neq (by omega) (by omega)]; exact ⟨by omega, rfl⟩
  · right; rw [e, e', if_neg (by rw [neq (by omega) (by omega)]; omega), neq (by omega) (by omega)]; exact ⟨by omega, rfl⟩
  · right; rw [e, e', if_neg (by rw [neq (by omega) (by omega)]; omega), neq (by omega) (by omega)]; exact ⟨by omega, rfl⟩
def w_W0 : List (List Nat) := [[119, 97, 108]]
theorem choice_0 {R M : zSt} {n s h : Nat} (hn : n ≤ 500) (hk : TkR R M n s h) : fR_choice R 0 = some (w_cho (w_tok M s h) w_W0 0) := by
  have ho := tok_or hk
  obtain ⟨⟨r5, _⟩, ⟨r6, _, _⟩, hsh, hhn, _⟩ := hk
  unfold fR_choice
  rcases ho with ⟨e4, et, hC⟩ | ⟨e4, et⟩
  · have e4 : zI R 4 = 1 := e4
    rw [if_pos e4]
    have s0 := cho_seg (R := R) (M := M) (i := 0) (w := 0) (a := 0) (b := 3) (wd := [119, 97, 108]) (by decide) (by decide) (by decide) (by omega) hsh r5 r6 hC (by decide +kernel) (by decide +kernel) et rfl 3 0 996 rfl (by decide)
    have sn := cho_no (R := R) (i := 0) (w := 1) (a := nI 4) 995 (by decide) 4 rfl
    have s0 : fR_choice_l17 1000 R 0 (nI 0) (nI 0) (nI 0) = _ := s0
    have sn : fR_choice_l17 996 R 0 (nI 1) (nI 4) (nI 4) = _ := sn
    show fR_choice_l17 1000 R 0 (nI 0) (nI 0) (nI 0) = _
    rw [s0, sn]
    simp only [w_W0, w_cho, ite_s]
  · have e4 : ¬ zI R 4 = 1 := e4
    rw [if_neg e4, et]
    rfl
def w_W1 : List (List Nat) := [[110, 119, 111], [104, 116, 111, 98]]
theorem choice_1 {R M : zSt} {n s h : Nat} (hn : n ≤ 500) (hk : TkR R M n s h) : fR_choice R 1 = some (w_cho (w_tok M s h) w_W1 0) := by
  have ho := tok_or hk
  obtain ⟨⟨r5, _⟩, ⟨r6, _, _⟩, hsh, hhn, _⟩ := hk
  unfold fR_choice
  rcases ho with ⟨e4, et, hC⟩ | ⟨e4, et⟩
  · have e4 : zI R 4 = 1 := e4
    rw [if_pos e4]
    have s0 := cho_seg (R := R) (M := M) (i := 1) (w := 0) (a := 0) (b := 3) (wd := [110, 119, 111]) (by decide) (by decide) (by decide) (by omega) hsh r5 r6 hC (by decide +kernel) (by decide +kernel) et rfl 3 0 996 rfl (by decide)
    have s1 := cho_seg (R := R) (M := M) (i := 1) (w := 1) (a := 4) (b := 8) (wd := [104, 116, 111, 98]) (by decide) (by decide) (by decide) (by omega) hsh r5 r6 hC (by decide +kernel) (by decide +kernel) et rfl 4 4 991 rfl (by decide)
    have sn := cho_no (R := R) (i := 1) (w := 2) (a := nI 9) 990 (by decide) 9 rfl
    have s0 : fR_choice_l17 1000 R 1 (nI 0) (nI 0) (nI 0) = _ := s0
    have s1 : fR_choice_l17 996 R 1 (nI 1) (nI 4) (nI 4) = _ := s1
    have sn : fR_choice_l17 991 R 1 (nI 2) (nI 9) (nI 9) = _ := sn
    show fR_choice_l17 1000 R 1 (nI 0) (nI 0) (nI 0) = _
    rw [s0, s1, sn]
    simp only [w_W1, w_cho, ite_s]
  · have e4 : ¬ zI R 4 = 1 := e4
    rw [if_neg e4, et]
    rfl
def w_W2 : List (List Nat) := [[116, 115, 111, 109], [104, 116, 111, 98]]
theorem choice_2 {R M : zSt} {n s h : Nat} (hn : n ≤ 500) (hk : TkR R M n s h) : fR_choice R 2 = some (w_cho (w_tok M s h) w_W2 0) := by
  have ho := tok_or hk
  obtain ⟨⟨r5, _⟩, ⟨r6, _, _⟩, hsh, hhn, _⟩ := hk
  unfold fR_choice
  rcases ho with ⟨e4, et, hC⟩ | ⟨e4, et⟩
  · have e4 : zI R 4 = 1 := e4
    rw [if_pos e4]
    have s0 := cho_seg (R := R) (M := M) (i := 2) (w := 0) (a := 0) (b := 4) (wd := [116, 115, 111, 109]) (by decide) (by decide) (by decide) (by omega) hsh r5 r6 hC (by decide +kernel) (by decide +kernel) et rfl 4 0 995 rfl (by decide)
    have s1 := cho_seg (R := R) (M := M) (i := 2) (w := 1) (a := 5) (b := 9) (wd := [104, 116, 111, 98]) (by decide) (by decide) (by decide) (by omega) hsh r5 r6 hC (by decide +kernel) (by decide +kernel) et rfl 4 5 990 rfl (by decide)
    have sn := cho_no (R := R) (i := 2) (w := 2) (a := nI 10) 989 (by decide) 10 rfl
    have s0 : fR_choice_l17 1000 R 2 (nI 0) (nI 0) (nI 0) = _ := s0
    have s1 : fR_choice_l17 995 R 2 (nI 1) (nI 5) (nI 5) = _ := s1
    have sn : fR_choice_l17 990 R 2 (nI 2) (nI 10) (nI 10) = _ := sn
    show fR_choice_l17 1000 R 2 (nI 0) (nI 0) (nI 0) = _
    rw [s0, s1, sn]
    simp only [w_W2, w_cho, ite_s]
  · have e4 : ¬ zI R 4 = 1 := e4
    rw [if_neg e4, et]
    rfl
def w_W3 : List (List Nat) := [[115, 109, 117, 115], [115, 116, 114, 97, 112], [104, 116, 114, 111, 119], [115, 115, 101, 108], [101, 114, 111, 109]]
theorem choice_3 {R M : zSt} {n s h : Nat} (hn : n ≤ 500) (hk : TkR R M n s h) : fR_choice R 3 = some (w_cho (w_tok M s h) w_W3 0) := by
  have ho := tok_or hk
  obtain ⟨⟨r5, _⟩, ⟨r6, _, _⟩, hsh, hhn, _⟩ := hk
  unfold fR_choice
  rcases ho with ⟨e4, et, hC⟩ | ⟨e4, et⟩
  · have e4 : zI R 4 = 1 := e4
    rw [if_pos e4]
    have s0 := cho_seg (R := R) (M := M) (i := 3) (w := 0) (a := 0) (b := 4) (wd := [115, 109, 117, 115]) (by decide) (by decide) (by decide) (by omega) hsh r5 r6 hC (by decide +kernel) (by decide +kernel) et rfl 4 0 995 rfl (by decide)
    have s1 := cho_seg (R := R) (M := M) (i := 3) (w := 1) (a := 5) (b := 10) (wd := [115, 116, 114, 97, 112]) (by decide) (by decide) (by decide) (by omega) hsh r5 r6 hC (by decide +kernel) (by decide +kernel) et rfl 5 5 989 rfl (by decide)
    have s2 := cho_seg (R := R) (M := M) (i := 3) (w := 2) (a := 11) (b := 16) (wd := [104, 116, 114, 111, 119]) (by decide) (by decide) (by decide) (by omega) hsh r5 r6 hC (by decide +kernel) (by decide +kernel) et rfl 5 11 983 rfl (by decide)
    have s3 := cho_seg (R := R) (M := M) (i := 3) (w := 3) (a := 17) (b := 21) (wd := [115, 115, 101, 108]) (by decide) (by decide) (by decide) (by omega) hsh r5 r6 hC (by decide +kernel) (by decide +kernel) et rfl 4 17 978 rfl (by decide)
    have s4 := cho_seg (R := R) (M := M) (i := 3) (w := 4) (a := 22) (b := 26) (wd := [101, 114, 111, 109]) (by decide) (by decide) (by decide) (by omega) hsh r5 r6 hC (by decide +kernel) (by decide +kernel) et rfl 4 22 973 rfl (by decide)
    have sn := cho_no (R := R) (i := 3) (w := 5) (a := nI 27) 972 (by decide) 27 rfl
    have s0 : fR_choice_l17 1000 R 3 (nI 0) (nI 0) (nI 0) = _ := s0
    have s1 : fR_choice_l17 995 R 3 (nI 1) (nI 5) (nI 5) = _ := s1
    have s2 : fR_choice_l17 989 R 3 (nI 2) (nI 11) (nI 11) = _ := s2
    have s3 : fR_choice_l17 983 R 3 (nI 3) (nI 17) (nI 17) = _ := s3
    have s4 : fR_choice_l17 978 R 3 (nI 4) (nI 22) (nI 22) = _ := s4
    have sn : fR_choice_l17 973 R 3 (nI 5) (nI 27) (nI 27) = _ := sn
    show fR_choice_l17 1000 R 3 (nI 0) (nI 0) (nI 0) = _
    rw [s0, s1, s2, s3, s4, sn]
    simp only [w_W3, w_cho, ite_s]
  · have e4 : ¬ zI R 4 = 1 := e4
    rw [if_neg e4, et]
    rfl
def w_W4 : List (List Nat) := [[115, 121, 97, 116, 115], [108, 108, 97]]
theorem choice_4 {R M : zSt} {n s h : Nat} (hn : n ≤ 500) (hk : TkR R M n s h) : fR_choice R 4 = some (w_cho (w_tok M s h) w_W4 0) := by
  have ho := tok_or hk
  obtain ⟨⟨r5, _⟩, ⟨r6, _, _⟩, hsh, hhn, _⟩ := hk
  unfold fR_choice
  rcases ho with ⟨e4, et, hC⟩ | ⟨e4, et⟩
  · have e4 : zI R 4 = 1 := e4
    rw [if_pos e4]
    have s0 := cho_seg (R := R) (M := M) (i := 4) (w := 0) (a := 0) (b := 5) (wd := [115, 121, 97, 116, 115]) (by decide) (by decide) (by decide) (by omega) hsh r5 r6 hC (by decide +kernel) (by decide +kernel) et rfl 5 0 994 rfl (by decide)
    have s1 := cho_seg (R := R) (M := M) (i := 4) (w := 1) (a := 6) (b := 9) (wd := [108, 108, 97]) (by decide) (by decide) (by decide) (by omega) hsh r5 r6 hC (by decide +kernel) (by decide +kernel) et rfl 3 6 990 rfl (by decide)
    have sn := cho_no (R := R) (i := 4) (w := 2) (a := nI 10) 989 (by decide) 10 rfl
    have s0 : fR_choice_l17 1000 R 4 (nI 0) (nI 0) (nI 0) = _ := s0
    have s1 : fR_choice_l17 994 R 4 (nI 1) (nI 6) (nI 6) = _ := s1
    have sn : fR_choice_l17 990 R 4 (nI 2) (nI 10) (nI 10) = _ := sn
    show fR_choice_l17 1000 R 4 (nI 0) (nI 0) (nI 0) = _
    rw [s0, s1, sn]
    simp only [w_W4, w_cho, ite_s]
  · have e4 : ¬ zI R 4 = 1 := e4
    rw [if_neg e4, et]
    rfl
def w_W5 : List (List Nat) := [[101, 109, 111, 99], [121, 117, 98], [116, 117, 112], [119, 111, 110], [115, 101, 119, 111], [100, 110, 97, 108], [101, 101, 114, 103, 97]]
theorem choice_5 {R M : zSt} {n s h : Nat} (hn : n ≤ 500) (hk : TkR R M n s h) : fR_choice R 5 = some (w_cho (w_tok M s h) w_W5 0) := by
  have ho := tok_or hk
  obtain ⟨⟨r5, _⟩, ⟨r6, _, _⟩, hsh, hhn, _⟩ := hk
  unfold fR_choice
  rcases ho with ⟨e4, et, hC⟩ | ⟨e4, et⟩
  · have e4 : zI R 4 = 1 := e4
    rw [if_pos e4]
    have s0 := cho_seg (R := R) (M := M) (i := 5) (w := 0) (a := 0) (b := 4) (wd := [101, 109, 111, 99]) (by decide) (by decide) (by decide) (by omega) hsh r5 r6 hC (by decide +kernel) (by decide +kernel) et rfl 4 0 995 rfl (by decide)
    have s1 := cho_seg (R := R) (M := M) (i := 5) (w := 1) (a := 5) (b := 8) (wd := [121, 117, 98]) (by decide) (by decide) (by decide) (by omega) hsh r5 r6 hC (by decide +kernel) (by decide +kernel) et rfl 3 5 991 rfl (by decide)
    have s2 := cho_seg (R := R) (M := M) (i := 5) (w := 2) (a := 9) (b := 12) (wd := [116, 117, 112]) (by decide) (by decide) (by decide) (by omega) hsh r5 r6 hC (by decide +kernel) (by decide +kernel) et rfl 3 9 987 rfl (by decide)
    have s3 := cho_seg (R := R) (M := M) (i := 5) (w := 3) (a := 13) (b := 16) (wd := [119, 111, 110]) (by decide) (by decide) (by decide) (by omega) hsh r5 r6 hC (by decide +kernel) (by decide +kernel) et rfl 3 13 983 rfl (by decide)
    have s4 := cho_seg (R := R) (M := M) (i := 5) (w := 4) (a := 17) (b := 21) (wd := [115, 101, 119, 111]) (by decide) (by decide) (by decide) (by omega) hsh r5 r6 hC (by decide +kernel) (by decide +kernel) et rfl 4 17 978 rfl (by decide)
    have s5 := cho_seg (R := R) (M := M) (i := 5) (w := 5) (a := 22) (b := 26) (wd := [100, 110, 97, 108]) (by decide) (by decide) (by decide) (by omega) hsh r5 r6 hC (by decide +kernel) (by decide +kernel) et rfl 4 22 973 rfl (by decide)
    have s6 := cho_seg (R := R) (M := M) (i := 5) (w := 6) (a := 27) (b := 32) (wd := [101, 101, 114, 103, 97]) (by decide) (by decide) (by decide) (by omega) hsh r5 r6 hC (by decide +kernel) (by decide +kernel) et rfl 5 27 967 rfl (by decide)
    have sn := cho_no (R := R) (i := 5) (w := 7) (a := nI 33) 966 (by decide) 33 rfl
    have s0 : fR_choice_l17 1000 R 5 (nI 0) (nI 0) (nI 0) = _ := s0
    have s1 : fR_choice_l17 995 R 5 (nI 1) (nI 5) (nI 5) = _ := s1
    have s2 : fR_choice_l17 991 R 5 (nI 2) (nI 9) (nI 9) = _ := s2
    have s3 : fR_choice_l17 987 R 5 (nI 3) (nI 13) (nI 13) = _ := s3
    have s4 : fR_choice_l17 983 R 5 (nI 4) (nI 17) (nI 17) = _ := s4
    have s5 : fR_choice_l17 978 R 5 (nI 5) (nI 22) (nI 22) = _ := s5
    have s6 : fR_choice_l17 973 R 5 (nI 6) (nI 27) (nI 27) = _ := s6
    have sn : fR_choice_l17 967 R 5 (nI 7) (nI 33) (nI 33) = _ := sn
    show fR_choice_l17 1000 R 5 (nI 0) (nI 0) (nI 0) = _
    rw [s0, s1, s2, s3, s4, s5, s6, sn]
    simp only [w_W5, w_cho, ite_s]
  · have e4 : ¬ zI R 4 = 1 := e4
    rw [if_neg e4, et]
    rfl
def w_W6 : List (List Nat) := [[116, 104, 103, 117, 111, 114, 98], [110, 101, 118, 105, 103], [100, 101, 110, 114, 97, 101], [100, 101, 114, 105, 101, 104]]
theorem choice_6 {R M : zSt} {n s h : Nat} (hn : n ≤ 500) (hk : TkR R M n s h) : fR_choice R 6 = some (w_cho (w_tok M s h) w_W6 0) := by
  have ho := tok_or hk
  obtain ⟨⟨r5, _⟩, ⟨r6, _, _⟩, hsh, hhn, _⟩ := hk
  unfold fR_choice
  rcases ho with ⟨e4, et, hC⟩ | ⟨e4, et⟩
  · have e4 : zI R 4 = 1 := e4
    rw [if_pos e4]
    have s0 := cho_seg (R := R) (M := M) (i := 6) (w := 0) (a := 0) (b := 7) (wd := [116, 104, 103, 117, 111, 114, 98]) (by decide) (by decide) (by decide) (by omega) hsh r5 r6 hC (by decide +kernel) (by decide +kernel) et rfl 7 0 992 rfl (by decide)
    have s1 := cho_seg (R := R) (M := M) (i := 6) (w := 1) (a := 8) (b := 13) (wd := [110, 101, 118, 105, 103]) (by decide) (by decide) (by decide) (by omega) hsh r5 r6 hC (by decide +kernel) (by decide +kernel) et rfl 5 8 986 rfl (by decide)
    have s2 := cho_seg (R := R) (M := M) (i := 6) (w := 2) (a := 14) (b := 20) (wd := [100, 101, 110, 114, 97, 101]) (by decide) (by decide) (by decide) (by omega) hsh r5 r6 hC (by decide +kernel) (by decide +kernel) et rfl 6 14 979 rfl (by decide)
    have s3 := cho_seg (R := R) (M := M) (i := 6) (w := 3) (a := 21) (b := 27) (wd := [100, 101, 114, 105, 101, 104]) (by decide) (by decide) (by decide) (by omega) hsh r5 r6 hC (by decide +kernel) (by decide +kernel) et rfl 6 21 972 rfl (by decide)
    have sn := cho_no (R := R) (i := 6) (w := 4) (a := nI 28) 971 (by decide) 28 rfl
    have s0 : fR_choice_l17 1000 R 6 (nI 0) (nI 0) (nI 0) = _ := s0
    have s1 : fR_choice_l17 992 R 6 (nI 1) (nI 8) (nI 8) = _ := s1
    have s2 : fR_choice_l17 986 R 6 (nI 2) (nI 14) (nI 14) = _ := s2
    have s3 : fR_choice_l17 979 R 6 (nI 3) (nI 21) (nI 21) = _ := s3
    have sn : fR_choice_l17 972 R 6 (nI 4) (nI 28) (nI 28) = _ := sn
    show fR_choice_l17 1000 R 6 (nI 0) (nI 0) (nI 0) = _
    rw [s0, s1, s2, s3, sn]
    simp only [w_W6, w_cho, ite_s]
  · have e4 : ¬ zI R 4 = 1 := e4
    rw [if_neg e4, et]
    rfl
theorem w_ok0 : ∀ w, w ∈ w_W0 → w_let w ∧ w.length < 8 ∧ w ≠ [] := by unfold w_let w_W0; decide +kernel
theorem w_ok1 : ∀ w, w ∈ w_W1 → w_let w ∧ w.length < 8 ∧ w ≠ [] := by unfold w_let w_W1; decide +kernel
theorem w_ok2 : ∀ w, w ∈ w_W2 → w_let w ∧ w.length < 8 ∧ w ≠ [] := by unfold w_let w_W2; decide +kernel
theorem w_ok3 : ∀ w, w ∈ w_W3 → w_let w ∧ w.length < 8 ∧ w ≠ [] := by unfold w_let w_W3; decide +kernel
theorem w_ok4 : ∀ w, w ∈ w_W4 → w_let w ∧ w.length < 8 ∧ w ≠ [] := by unfold w_let w_W4; decide +kernel
theorem w_ok5 : ∀ w, w ∈ w_W5 → w_let w ∧ w.length < 8 ∧ w ≠ [] := by unfold w_let w_W5; decide +kernel
theorem w_ok6 : ∀ w, w ∈ w_W6 → w_let w ∧ w.length < 8 ∧ w ≠ [] := by unfold w_let w_W6; decide +kernel

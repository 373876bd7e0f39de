/-! READER: tokens taken on both sides -/
def RdR (R M : zSt) (n : Nat) : Prop := TpR R M n ∧ zI M 19 = nI n ∧ (∃ s h, TkR R M n s h) ∧ ((zI R 2 = nI 0 ∧ zI M 24 = nI 0) ∨ ∃ k s, 1 ≤ k ∧ k ≤ 3 ∧ s ≤ 500 ∧ zI R 2 = nI k ∧ zI M 24 = nI k ∧ zI R 3 = nI s ∧ zI M 25 = nI s)
def Fr (R R' M M' : zSt) : Prop := (∀ k, zA R' k = zA R k) ∧ zI R' 1 = zI R 1 ∧ (∀ k, k < 20 ∨ 25 < k → zI M' k = zI M k) ∧ (zI R' 2 = nI 0 → zI R 2 = nI 0) ∧ (¬ zI R 2 = nI 0 → R' = R ∧ zI M' 24 = zI M 24 ∧ zI M' 25 = zI M 25)
theorem Fr.refl (R M : zSt) : Fr R R M M := ⟨fun _ => rfl, rfl, fun _ _ => rfl, id, fun _ => ⟨rfl, rfl, rfl⟩⟩
theorem Fr.trans {A B C X Y Z : zSt} (h : Fr A B X Y) (g : Fr B C Y Z) : Fr A C X Z := by
  refine ⟨fun k => (g.1 k).trans (h.1 k), g.2.1.trans h.2.1, fun k a => (g.2.2.1 k a).trans (h.2.2.1 k a), fun z => h.2.2.2.1 (g.2.2.2.1 z), fun z => ?_⟩
  obtain ⟨e1, e2, e3⟩ := h.2.2.2.2 z
  have z' : ¬ zI B 2 = nI 0 := by rw [e1]; exact z
  obtain ⟨f1, f2, f3⟩ := g.2.2.2.2 z'
  exact ⟨f1.trans e1, f2.trans e2, f3.trans e3⟩
theorem Fr.setA {R R' M M' : zSt} (h : Fr R R' M M') (a i : Nat) (v : Int32) : Fr R R' M (zsA M' a i v) := ⟨h.1, h.2.1, h.2.2.1, h.2.2.2.1, h.2.2.2.2⟩
theorem TkR.congr {R R' M M' : zSt} {n s h : Nat} (t : TkR R M n s h) (r4 : zI R' 4 = zI R 4) (r5 : zI R' 5 = zI R 5) (r6 : zI R' 6 = zI R 6) (r7 : zI R' 7 = zI R 7) (a : zA R' 0 = zA R 0) (m20 : zI M' 20 = zI M 20) (m21 : zI M' 21 = zI M 21) (m22 : zI M' 22 = zI M 22) (m23 : zI M' 23 = zI M 23) (b : zA M' 16 = zA M 16) : TkR R' M' n s h := by
  unfold TkR Ch at t ⊢
  rw [r4, r5, r6, r7, a, m20, m21, m22, m23, b, dv_eq b]
  exact t
theorem RdR.congr {R M M' : zSt} {n : Nat} (h : RdR R M n) (b : zA M' 16 = zA M 16) (m : ∀ k, 19 ≤ k → k ≤ 25 → zI M' k = zI M k) : RdR R M' n := by
  obtain ⟨⟨t1, t2, t3⟩, h19, ⟨s, hh, hk⟩, hf⟩ := h
  refine ⟨⟨t1, t2, by rw [b]; exact t3⟩, by rw [m 19 (by omega) (by omega)]; exact h19, ⟨s, hh, hk.congr rfl rfl rfl rfl rfl (m 20 (by omega) (by omega)) (m 21 (by omega) (by omega)) (m 22 (by omega) (by omega)) (m 23 (by omega) (by omega)) b⟩, ?_⟩
  rw [m 24 (by omega) (by omega), m 25 (by omega) (by omega)]
  exact hf
theorem RdR.setA {R M : zSt} {n : Nat} (h : RdR R M n) (a i : Nat) (v : Int32) (ha : a < 16) : RdR R (zsA M a i v) n := h.congr (by simp only [zA_zsA]; rw [if_neg (by omega)]) (fun _ _ _ => rfl)
theorem RdR.flag {R M : zSt} {n : Nat} (h : RdR R M n) : zI R 2 = zI M 24 := by
  obtain ⟨_, _, _, hf⟩ := h
  rcases hf with ⟨a, b⟩ | ⟨k, s, _, _, _, a, b, _⟩ <;> rw [a, b]
theorem step_rd {R M : zSt} {n : Nat} (h : RdR R M n) (r2 : zI R 2 = nI 0) : ∃ R' M', fR_step R = some R' ∧ fM_next M = some M' ∧ RdR R' M' n ∧ zI R' 2 = nI 0 ∧ (∀ k, zA M' k = zA M k) ∧ Fr R R' M M' := by
  have m24 : zI M 24 = nI 0 := h.flag.symm.trans r2
  obtain ⟨hT, h19, ⟨s, hh, hk⟩, hf⟩ := h
  obtain ⟨R', M', s', h', t1, t2, t3, t4, t5⟩ := step_sim hT h19 hk.2.2.2.1 r2 hk.2.1.1 hk.2.1.2.2
  have r2' : zI R' 2 = nI 0 := by rw [t4.2 2 (by omega) (by omega) (by omega) (by omega)]; exact r2
  refine ⟨R', M', t1, t2, ⟨hT.keep t4 t5, by rw [t5.2 19 (by omega) (by omega) (by omega) (by omega)]; exact h19, ⟨s', h', t3⟩, Or.inl ⟨r2', by rw [t5.2 24 (by omega) (by omega) (by omega) (by omega)]; exact m24⟩⟩, r2', t5.1, ⟨t4.1, t4.2 1 (by omega) (by omega) (by omega) (by omega), fun k hk => t5.2 k (by omega) (by omega) (by omega) (by omega), fun _ => r2, fun z => absurd r2 z⟩⟩
theorem fail_rd {R M : zSt} {n : Nat} (h : RdR R M n) (r2 : zI R 2 = nI 0) (k : Nat) (hk : 1 ≤ k ∧ k ≤ 3) : ∃ R' M', fR_fail R (nI k) = some R' ∧ fM_bad M (nI k) = some M' ∧ RdR R' M' n ∧ ¬ zI R' 2 = nI 0 ∧ (∀ a, zA M' a = zA M a) ∧ Fr R R' M M' := by
  have m24 : zI M 24 = nI 0 := h.flag.symm.trans r2
  have r2' : zI R 2 = 0 := r2
  have m24' : zI M 24 = 0 := m24
  obtain ⟨hT, h19, ⟨s, hh, ht⟩, hf⟩ := h
  refine ⟨zsI (zsI R 2 (nI k)) 3 (nI s), zsI (zsI M 24 (nI k)) 25 (nI s), ?_, ?_, ⟨hT, h19, ⟨s, hh, ht.congr rfl rfl rfl rfl rfl rfl rfl rfl rfl rfl⟩, Or.inr ⟨k, s, hk.1, hk.2, ?_, rfl, rfl, rfl, rfl⟩⟩, ?_, fun _ => rfl, ⟨fun _ => rfl, rfl, fun q hq => ?_, fun _ => r2, fun z => absurd r2 z⟩⟩
  · unfold fR_fail
    rw [if_pos r2', zn_eq, zn_eq]
    show some (zsI (zsI R 2 (nI k)) 3 (zI R 5)) = _
    rw [ht.1.1]
  · unfold fM_bad
    rw [if_pos m24', zn_eq, zn_eq]
    show some (zsI (zsI M 24 (nI k)) 25 (zI M 22)) = _
    rw [ht.1.2]
  · have := ht.2.2.1
    have := ht.2.2.2.1
    have := hT.2.1
    omega
  · show ¬ nI k = nI 0
    rw [neq (by omega) (by omega)]
    omega
  · simp only [zI_zsI]
    rw [if_neg (by omega), if_neg (by omega)]
theorem must_bad {M : zSt} (x : Int32) (h : ¬ zI M 24 = nI 0) : fM_must M x = some M := by
  have h' : ¬ zI M 24 = 0 := h
  simp only [fM_must, fM_bad, fM_must_b9, h', if_false, bind_s, ite_self]
theorem must_1 {M M' : zSt} (h : zI M 24 = nI 0) (e : fM_next M = some M') : fM_must M 1 = some M' := by
  have h' : zI M 24 = 0 := h
  unfold fM_must fM_must_b9
  rw [if_neg (by decide), if_pos h', e, bind_s]
theorem must_0 {M M' : zSt} (e : fM_bad M (nI 1) = some M') (h : ¬ zI M' 24 = nI 0) : fM_must M 0 = some M' := by
  have h' : ¬ zI M' 24 = 0 := h
  have e' : fM_bad M 1 = some M' := e
  unfold fM_must fM_must_b9
  rw [if_pos rfl, e', bind_s, if_neg h']
theorem step_bad {R : zSt} (h : ¬ zI R 2 = nI 0) : fR_step R = some R := by
  have h' : ¬ zI R 2 = 0 := h
  unfold fR_step
  rw [if_neg h']
theorem fail_bad {R : zSt} (x : Int32) (h : ¬ zI R 2 = nI 0) : fR_fail R x = some R := by
  have h' : ¬ zI R 2 = 0 := h
  unfold fR_fail
  rw [if_neg h']
theorem word_0 {R M : zSt} {n s h : Nat} (hn : n ≤ 500) (hk : TkR R M n s h) (m24 : zI M 24 = nI 0) : fM_word M = some (lN (w_v (w_tok M s h))) := by
  have m' : zI M 24 = 0 := m24
  rw [word_ref hn hk]
  unfold fM_word_b56
  rw [if_pos m']
theorem word_b {R M : zSt} {n s h : Nat} (hn : n ≤ 500) (hk : TkR R M n s h) (m24 : ¬ zI M 24 = nI 0) : fM_word M = some 0 := by
  have m' : ¬ zI M 24 = 0 := m24
  rw [word_ref hn hk]
  unfold fM_word_b56
  rw [if_neg m']
theorem word_sim {R M : zSt} {n i : Nat} {W : List (List Nat)} (a b c d e : Int64) (pad : List Int64) (hch : ∀ {s h : Nat}, n ≤ 500 → TkR R M n s h → fR_choice R i = some (w_cho (w_tok M s h) W 0)) (hW : ∀ w, w ∈ W → w_let w ∧ w.length < 8 ∧ w ≠ []) (hl : W.length ≤ 8) (hpad : ∀ a, a ∈ pad → a = -1) (hab : W.map (fun w => lN (w_pk w)) ++ pad = [a, b, c, d, e]) (h : RdR R M n) : ∃ v v' R' M', fR_word R i = some (v, R') ∧ fM_oneOf M a b c d e = some (v', M') ∧ RdR R' M' n ∧ (∀ k, zA M' k = zA M k) ∧ Fr R R' M M' ∧ (zI R' 2 = nI 0 → ∃ k, k < W.length ∧ v = nI k ∧ v' = nI k) := by
  have fl := h.flag
  have h' := h
  obtain ⟨hT, h19, ⟨s, hh, hk⟩, hf⟩ := h'
  have hn := hT.2.1
  have ec := hch hn hk
  have key := one_cho (w_tok_let hk) pad hpad W 0 hW
  rw [hab] at key
  by_cases r2 : zI R 2 = nI 0
  · have m24 : zI M 24 = nI 0 := fl.symm.trans r2
    have m24' : zI M 24 = 0 := m24
    have ew := word_0 hn hk m24
    rcases key with ⟨k1, k2⟩ | ⟨k, k0, k1, k2, k3⟩
    · obtain ⟨R', M', f1, f2, f3, f4, f5, f6⟩ := fail_rd h r2 1 (by omega)
      have f1' : fR_fail R 1 = some R' := f1
      have g4 : ¬ zI M' 24 = nI 0 := by rw [← f3.flag]; exact f4
      refine ⟨0, -1000000, R', M', ?_, ?_, f3, f5, f6, fun z => absurd z f4⟩
      · unfold fR_word
        rw [ec, bind_s, k1, if_neg (by decide), f1', bind_s]
      · rw [oneOf_eq a b c d e ew, k2, ite_self]
        unfold fM_oneOf_b78
        rw [if_pos m24', if_pos rfl, must_0 f2 g4, bind_s]
    · obtain ⟨R', M', f1, f2, f3, f4, f5, f6⟩ := step_rd h r2
      refine ⟨nI k, nI k, R', M', ?_, ?_, f3, f5, f6, fun _ => ⟨k, by omega, rfl, rfl⟩⟩
      · unfold fR_word
        rw [ec, bind_s, k1, if_pos (nI_pos' (by omega)), f1, bind_s]
      · rw [oneOf_eq a b c d e ew, k2, if_neg k3]
        unfold fM_oneOf_b78
        rw [if_pos m24', if_neg (nI_ne_m k (by omega)), must_1 m24 f2, bind_s]
  · have m24 : ¬ zI M 24 = nI 0 := by rw [← fl]; exact r2
    have m24' : ¬ zI M 24 = 0 := m24
    have ew := word_b hn hk m24
    obtain ⟨r, hr⟩ : ∃ r, r = w_cho (w_tok M s hh) W 0 := ⟨_, rfl⟩
    rw [← hr] at ec
    refine ⟨if 0 ≤ r then r else 0, -1000000, R, M, ?_, ?_, h, fun _ => rfl, Fr.refl R M, fun z => absurd z r2⟩
    · unfold fR_word
      rw [ec, bind_s, step_bad r2, fail_bad 1 r2, bind_s, bind_s]
      by_cases z : 0 ≤ r
      · rw [if_pos z, if_pos z]
      · rw [if_neg z, if_neg z]
    · rw [oneOf_eq a b c d e ew, if_pos rfl]
      unfold fM_oneOf_b78
      rw [if_neg m24']
theorem nin_s (n : Nat) (M : zSt) (x1 x2 x3 x4 : Int32) : fM_numberIn_l17 (n + 1) M x1 x2 x3 x4 = fM_numberIn_l17b (fun v0 v1 v2 v3 v4 => fM_numberIn_l17 n v0 v1 v2 v3 v4) M x1 x2 x3 x4 := rfl
theorem nin_loop {R M : zSt} {s h : Nat} (x y : Int32) (hs : h ≤ s + 3) (hh : h ≤ 500) (m21 : zI M 21 = nI 3) (m23 : zI M 23 = nI h) (hC : ∀ k, s ≤ k → k < h → Ch R M 48 57 k) : ∀ (d j f : Nat), j + d = h → s ≤ j → d < f → fM_numberIn_l17 f M x y (nI (dv M s (j - s))) (nI j) = fM_numberIn_b56 M x y (nI (dv M s (h - s))) := by
  intro d
  induction d with
  | zero =>
    intro j f hd hsj hf
    obtain ⟨m, rfl⟩ : ∃ m, f = m + 1 := ⟨f - 1, by omega⟩
    have hj : j = h := by omega
    subst hj
    rw [nin_s]
    unfold fM_numberIn_l17b
    rw [m23, if_pos (Int32.le_refl _)]
  | succ d ih =>
    intro j f hd hsj hf
    obtain ⟨m, rfl⟩ : ∃ m, f = m + 1 := ⟨f - 1, by omega⟩
    obtain ⟨c, c1, c2, c3, c4⟩ := hC j hsj (by omega)
    have hj : ¬ h ≤ j := by omega
    have e2 : bt M j = c := by unfold bt; rw [c4, clampN (by omega)]
    have e3 : dv M s (j + 1 - s) = 10 * dv M s (j - s) + c - 48 := by
      rw [show j + 1 - s = (j - s) + 1 from by omega]
      show 10 * dv M s (j - s) + (bt M (s + (j - s)) - 48) = _
      rw [show s + (j - s) = j from by omega, e2]
      omega
    have k := ih (j + 1) m (by omega) (by omega) (by omega)
    rw [nin_s, ← k, e3]
    simp (disch := omega) only [fM_numberIn_l17b, li0, li1, li2, li3, li4, li5, li6, li7, li8, li9, li10, li12, li13, li14, li16, li20, li21, li22, li23, li26, li30, li32, li40, li48, li50, li57, li59, li97, li99, li100, li122, li128, li180, li320, li500, li999, nI_add, pk_mul, subN, clampN, zg_ix, nlt, nle, neq, zn_eq, bind_s, ↓reduceIte, Nat.reduceAdd, Nat.reduceMul, Nat.reduceSub, Nat.reduceLeDiff, Nat.reduceEqDiff, Nat.add_zero, Nat.zero_add, Nat.reduceLT, Nat.mul_zero, m21, m23, hj, c4]
theorem number_0 {R : zSt} (x y : Int32) (h : ¬ zI R 2 = nI 0) : ∃ v, fR_number R x y = some (v, R) := by
  unfold fR_number fR_number_b30
  rw [zn_eq, fail_bad 2 h, fail_bad 1 h, step_bad h, bind_s, bind_s]
  by_cases a : zI R 4 = 2
  · rw [if_pos a]
    by_cases b : zI R 7 < x
    · rw [if_pos b]; exact ⟨_, rfl⟩
    · rw [if_neg b]
      by_cases c : zI R 7 ≤ y
      · rw [if_pos c]; exact ⟨_, rfl⟩
      · rw [if_neg c]; exact ⟨_, rfl⟩
  · rw [if_neg a]; exact ⟨_, rfl⟩
theorem nin_no {M : zSt} {s h : Nat} (x y : Int32) (z : ¬ zI M 21 = nI 3) (m22 : zI M 22 = nI s) (m24 : zI M 24 = nI 0) : fM_numberIn M x y = Option.bind (fM_must M 0) fun y2 => some (0, y2) := by
  have z' : ¬ zI M 21 = 3 := z
  unfold fM_numberIn
  rw [m24, if_pos (by decide), zn_eq, m22, show zF = 999 + 1 from rfl, nin_s]
  unfold fM_numberIn_l17b
  rw [if_neg z', ite_self]
  unfold fM_numberIn_b56
  rw [if_neg z']
  unfold fM_numberIn_b81
  rw [if_neg z']
theorem in32 (v x y : Int32) : fM_in v.toInt64 x.toInt64 y.toInt64 = some (decide (x ≤ v ∧ v ≤ y)) := by
  rw [fM_in_int]
  congr 1
  apply decide_eq_decide.mpr
  rw [toInt64_toInt, toInt64_toInt, Int32.le_iff_toInt_le, Int32.le_iff_toInt_le]
theorem num_sim {R M : zSt} {n : Nat} (x y x' y' : Int32) (h : RdR R M n) (hxy : zI R 2 = nI 0 → x = x' ∧ y = y') : ∃ v v' R' M', fR_number R x y = some (v, R') ∧ fM_numberIn M x' y' = some (v', M') ∧ RdR R' M' n ∧ (∀ k, zA M' k = zA M k) ∧ Fr R R' M M' ∧ (zI R' 2 = nI 0 → ∃ k, k < 1000 ∧ v = nI k ∧ v' = nI k ∧ x ≤ nI k ∧ nI k ≤ y) := by
  have fl := h.flag
  have h' := h
  obtain ⟨hT, h19, ⟨s, hh, hk⟩, hf⟩ := h'
  have hn := hT.2.1
  by_cases r2 : zI R 2 = nI 0
  · obtain ⟨rfl, rfl⟩ := hxy r2
    have m24 : zI M 24 = nI 0 := fl.symm.trans r2
    have m24' : zI M 24 = 0 := m24
    have hk' := hk
    obtain ⟨⟨r5, m22⟩, ⟨r6, m23, m20⟩, hsh, hhn, hc⟩ := hk'
    have no : ¬ zI R 4 = nI 2 → ¬ zI M 21 = nI 3 → ∃ v v' R' M', fR_number R x y = some (v, R') ∧ fM_numberIn M x y = some (v', M') ∧ RdR R' M' n ∧ (∀ k, zA M' k = zA M k) ∧ Fr R R' M M' ∧ (zI R' 2 = nI 0 → ∃ k, k < 1000 ∧ v = nI k ∧ v' = nI k ∧ x ≤ nI k ∧ nI k ≤ y) := by
      intro e1 e2
      have e1' : ¬ zI R 4 = 2 := e1
      obtain ⟨R', M', f1, f2, f3, f4, f5, f6⟩ := fail_rd h r2 1 (by omega)
      have f1' : fR_fail R 1 = some R' := f1
      have g4 : ¬ zI M' 24 = nI 0 := by rw [← f3.flag]; exact f4
      refine ⟨0, 0, R', M', ?_, ?_, f3, f5, f6, fun z => absurd z f4⟩
      · unfold fR_number
        rw [zn_eq, if_neg e1', f1', bind_s]
      · rw [nin_no (h := hh) x y e2 m22 m24, must_0 f2 g4, bind_s]
    rcases hc with ⟨e1, e2⟩ | ⟨e1, e2, _⟩ | ⟨e1, e2, h3, hC, r7⟩ | ⟨e1, e2⟩ | ⟨e1, e2⟩
    · exact no (by rw [e1, neq (by omega) (by omega)]; omega) (by rw [e2, neq (by omega) (by omega)]; omega)
    · exact no (by rw [e1, neq (by omega) (by omega)]; omega) (by rw [e2, neq (by omega) (by omega)]; omega)
    · have e1' : zI R 4 = 2 := e1
      have e2' : zI M 21 = 3 := e2
      obtain ⟨q, hq⟩ : ∃ q, q = dv M s (hh - s) := ⟨_, rfl⟩
      have q3 : q < 1000 := by
        have a := dv_lt hC (hh - s) (by omega)
        have b : 10 ^ (hh - s) ≤ 10 ^ 3 := Nat.pow_le_pow_right (by omega) (by omega)
        omega
      have eL := nin_loop x y h3 (by omega) e2 m23 hC (hh - s) s zF (by omega) (Nat.le_refl _) (by unfold zF; omega)
      rw [Nat.sub_self, ← hq] at eL
      have eM : fM_numberIn M x y = fM_numberIn_b56 M x y (nI q) := by
        unfold fM_numberIn
        rw [m24, if_pos (by decide), zn_eq, m22]
        exact eL
      rw [← hq] at r7
      have eB : fM_numberIn M x y = if x ≤ nI q ∧ nI q ≤ y then fM_numberIn_b81 M (nI q) else Option.bind (fM_bad M 2) fun y5 => fM_numberIn_b81 y5 (nI q) := by
        rw [eM]
        unfold fM_numberIn_b56
        rw [if_pos e2', in32, bind_s]
        by_cases z : x ≤ nI q ∧ nI q ≤ y
        · rw [decide_eq_true z, if_pos rfl, if_pos z]
        · rw [decide_eq_false z, if_neg Bool.false_ne_true, if_neg z]
      by_cases z : x ≤ nI q ∧ nI q ≤ y
      · obtain ⟨R', M', f1, f2, f3, f4, f5, f6⟩ := step_rd h r2
        refine ⟨nI q, nI q, R', M', ?_, ?_, f3, f5, f6, fun _ => ⟨q, q3, rfl, rfl, z.1, z.2⟩⟩
        · unfold fR_number
          rw [zn_eq, if_pos e1', r7, if_neg (Int32.not_lt.mpr z.1), if_pos z.2, f1, bind_s]
        · rw [eB, if_pos z]
          unfold fM_numberIn_b81
          rw [if_pos e2', must_1 m24 f2, bind_s]
      · obtain ⟨R', M', f1, f2, f3, f4, f5, f6⟩ := fail_rd h r2 2 (by omega)
        have f1' : fR_fail R 2 = some R' := f1
        have f2' : fM_bad M 2 = some M' := f2
        have g4 : ¬ zI M' 24 = nI 0 := by rw [← f3.flag]; exact f4
        refine ⟨0, nI q, R', M', ?_, ?_, f3, f5, f6, fun w => absurd w f4⟩
        · unfold fR_number fR_number_b30
          rw [zn_eq, if_pos e1', r7, f1', bind_s]
          by_cases w : nI q < x
          · rw [if_pos w]
          · rw [if_neg w, if_neg (fun u => z ⟨Int32.not_lt.mp w, u⟩)]
        · rw [eB, if_neg z, f2', bind_s]
          unfold fM_numberIn_b81
          rw [must_bad 1 g4, must_bad 0 g4, bind_s, ite_self]
    · exact no (by rw [e1, neq (by omega) (by omega)]; omega) (by rw [e2, neq (by omega) (by omega)]; omega)
    · exact no (by rw [e1, neq (by omega) (by omega)]; omega) (by rw [e2, neq (by omega) (by omega)]; omega)
  · obtain ⟨v, hv⟩ := number_0 x y r2
    refine ⟨v, 0, R, M, hv, ?_, h, fun _ => rfl, Fr.refl R M, fun z => absurd z r2⟩
    rcases hf with ⟨a, _⟩ | ⟨k, s', k1, k2, k3, k4, k5, _⟩
    · exact absurd a r2
    · unfold fM_numberIn
      rw [k5, if_neg (by rw [li0, nle (by omega) (by omega)]; omega)]
theorem semi_sim {R M : zSt} {n : Nat} (h : RdR R M n) : ∃ R' M', fR_semicolon R = some R' ∧ fM_mustEnd M = some M' ∧ RdR R' M' n ∧ (∀ k, zA M' k = zA M k) ∧ Fr R R' M M' := by
  have fl := h.flag
  have h' := h
  obtain ⟨hT, h19, ⟨s, hh, hk⟩, hf⟩ := h'
  by_cases r2 : zI R 2 = nI 0
  · have m24 : zI M 24 = nI 0 := fl.symm.trans r2
    have m24' : zI M 24 = 0 := m24
    have e : (zI R 4 = nI 3 ∧ zI M 21 = nI 4) ∨ (¬ zI R 4 = nI 3 ∧ ¬ zI M 21 = nI 4) := by
      obtain ⟨_, _, _, _, hc⟩ := hk
      rcases hc with ⟨e1, e2⟩ | ⟨e1, e2, _⟩ | ⟨e1, e2, _⟩ | ⟨e1, e2⟩ | ⟨e1, e2⟩
      · right; rw [e1, e2, neq (by omega) (by omega), neq (by omega) (by omega)]; omega
      · right; rw [e1, e2, neq (by omega) (by omega), neq (by omega) (by omega)]; omega
      · right; rw [e1, e2, neq (by omega) (by omega), neq (by omega) (by omega)]; omega
      · left; exact ⟨e1, e2⟩
      · right; rw [e1, e2, neq (by omega) (by omega), neq (by omega) (by omega)]; omega
    rcases e with ⟨e1, e2⟩ | ⟨e1, e2⟩
    · have e1' : zI R 4 = 3 := e1
      have e2' : zI M 21 = 4 := e2
      obtain ⟨R', M', f1, f2, f3, f4, f5, f6⟩ := step_rd h r2
      refine ⟨R', M', ?_, ?_, f3, f5, f6⟩
      · unfold fR_semicolon
        rw [if_pos e1', f1, bind_s]
      · unfold fM_mustEnd
        rw [if_pos m24', if_pos e2', must_1 m24 f2, bind_s]
    · have e1' : ¬ zI R 4 = 3 := e1
      have e2' : ¬ zI M 21 = 4 := e2
      obtain ⟨R', M', f1, f2, f3, f4, f5, f6⟩ := fail_rd h r2 1 (by omega)
      have f1' : fR_fail R 1 = some R' := f1
      have g4 : ¬ zI M' 24 = nI 0 := by rw [← f3.flag]; exact f4
      refine ⟨R', M', ?_, ?_, f3, f5, f6⟩
      · unfold fR_semicolon
        rw [if_neg e1', f1', bind_s]
      · unfold fM_mustEnd
        rw [if_pos m24', if_neg e2', must_0 f2 g4, bind_s]
  · have m24 : ¬ zI M 24 = nI 0 := by rw [← fl]; exact r2
    have m24' : ¬ zI M 24 = 0 := m24
    refine ⟨R, M, ?_, ?_, h, fun _ => rfl, Fr.refl R M⟩
    · unfold fR_semicolon
      rw [step_bad r2, fail_bad 1 r2, bind_s, ite_self]
    · unfold fM_mustEnd
      rw [if_neg m24']

/-! COURSE: runs through the events -/
theorem goC_s (n : Nat) (C S : zSt) (x y : Int32) : fC_goThrough_l2 (n + 1) C S x y = fC_goThrough_l2b (fun v0 v1 v2 v3 => fC_goThrough_l2 n v0 v1 v2 v3) C S x y := rfl
theorem goM_s (n : Nat) (M : zSt) (x1 x2 x3 x4 x7 x8 : Int32) : fM_goThrough_l89 (n + 1) M x1 x2 x3 x4 x7 x8 = fM_goThrough_l89b (fun v0 v1 v2 v3 v4 v5 v6 => fM_goThrough_l89 n v0 v1 v2 v3 v4 v5 v6) M x1 x2 x3 x4 x7 x8 := rfl
theorem StR.day {S M : zSt} {l e t k : Nat} (h : StR S M l e t) (hk : k < e) : ∃ d, d ≤ 999 ∧ zA S 9 k = nI d ∧ zA M 10 (6 * k + 1) = nI d := by
  obtain ⟨⟨S0, M6⟩, hl, ⟨S1, M7⟩, he, ⟨S2, M8⟩, htt, ht10, hLw, hEv, hday⟩ := h
  obtain ⟨k', d, a, b, c, hk6, hd, ⟨v8, m0⟩, ⟨v9, m1⟩, _⟩ := hEv k hk
  exact ⟨d, hd, v9, m1⟩
theorem goC_end (n : Nat) (C S : zSt) (j : Nat) : fC_goThrough_l2 (n + 1) C S (nI j) (nI j) = some C := by
  rw [goC_s]
  unfold fC_goThrough_l2b
  rw [if_pos (Int32.le_refl _)]
def CRi (fb : Prop) (S C M : zSt) (l i : Nat) : Prop := CR fb S C M l i (thn (zA S 8) i) (i + 2 * thn (zA S 8) i)
theorem seg {fb : Prop} {S : zSt} {l e tt : Nat} (x1 x2 x3 x4 x7 : Int32) (h7 : x7 = nI 0 ∨ x7 = nI 1) : ∀ (d i j : Nat) (C M : zSt), i + d = j → j ≤ e → StR S M l e tt → CRi fb S C M l i → (∀ k, i ≤ k → k < j → ¬ x1 < zA S 9 k ∧ ¬ nI k = x2 ∧ (x7 = nI 0 → zA S 9 k < x3)) → ∃ C' M', (∀ f, d < f → fC_goThrough_l2 f C S (nI j) (nI i) = some C') ∧ (∀ f, fM_goThrough_l89 (f + d) M x1 x2 x3 x4 x7 (nI i) = fM_goThrough_l89 f M' x1 x2 x3 x4 x7 (nI j)) ∧ CRi fb S C' M' l j ∧ MF M M' := by
  intro d
  induction d with
  | zero =>
    intro i j C M hd hj hS hC hx
    have : i = j := by omega
    subst this
    refine ⟨C, M, fun f hf => ?_, fun f => rfl, hC, MF.refl M⟩
    obtain ⟨n, rfl⟩ : ∃ n, f = n + 1 := ⟨f - 1, by omega⟩
    exact goC_end n C S i
  | succ d ih =>
    intro i j C M hd hj hS hC hx
    have hie : i < e := by omega
    obtain ⟨C1, M1, e1, e2, e3, e4⟩ := ev_sim hS hie hC
    obtain ⟨C2, M2, f1, f2, f3, f4⟩ := ih (i + 1) j C1 M1 (by omega) hj (hS.mf e4) e3 (fun k a b => hx k (by omega) b)
    obtain ⟨g1, g2, g3⟩ := hx i (Nat.le_refl _) (by omega)
    obtain ⟨dd, d1, d2, d3⟩ := hS.day hie
    obtain ⟨⟨S0, M6⟩, hl, ⟨S1, M7⟩, he, _⟩ := hS
    have hij : ¬ j ≤ i := by omega
    have hei : ¬ e ≤ i := by omega
    rw [d2] at g1 g3
    refine ⟨C2, M2, fun f hf => ?_, fun f => ?_, f3, e4.trans f4⟩
    · obtain ⟨n, rfl⟩ : ∃ n, f = n + 1 := ⟨f - 1, by omega⟩
      rw [goC_s]
      simp (disch := omega) only [fC_goThrough_l2b, li0, li1, li2, li3, li4, li5, li6, li7, li8, li9, li10, li12, li13, li14, li16, li20, li21, li22, li23, li26, li30, li32, li40, li48, li50, li57, li59, li97, li99, li100, li122, li128, li180, li320, li500, li999, nI_add, pk_mul, subN, clampN, zg_ix, nlt, nle, neq, zn_eq, bind_s, ↓reduceIte, Nat.reduceAdd, Nat.reduceMul, Nat.reduceSub, Nat.reduceLeDiff, Nat.reduceEqDiff, Nat.add_zero, Nat.zero_add, Nat.reduceLT, Nat.mul_zero, hij, e1, f1 n (by omega)]
    · rw [show f + (d + 1) = (f + d) + 1 from rfl, goM_s]
      rcases h7 with rfl | rfl
      · have g3' := g3 rfl
        simp (disch := omega) only [fM_goThrough_l89b, fM_goThrough_b134, li0, li1, li2, li3, li4, li5, li6, li7, li8, li9, li10, li12, li13, li14, li16, li20, li21, li22, li23, li26, li30, li32, li40, li48, li50, li57, li59, li97, li99, li100, li122, li128, li180, li320, li500, li999, nI_add, pk_mul, subN, clampN, zg_ix, nlt, nle, neq, zn_eq, bind_s, ↓reduceIte, Nat.reduceAdd, Nat.reduceMul, Nat.reduceSub, Nat.reduceLeDiff, Nat.reduceEqDiff, Nat.add_zero, Nat.zero_add, Nat.reduceLT, Nat.mul_zero, M7, d3, hei, g1, g2, g3', e2]
        exact f2 f
      · simp (disch := omega) only [fM_goThrough_l89b, fM_goThrough_b134, li0, li1, li2, li3, li4, li5, li6, li7, li8, li9, li10, li12, li13, li14, li16, li20, li21, li22, li23, li26, li30, li32, li40, li48, li50, li57, li59, li97, li99, li100, li122, li128, li180, li320, li500, li999, nI_add, pk_mul, subN, clampN, zg_ix, nlt, nle, neq, zn_eq, bind_s, ↓reduceIte, Nat.reduceAdd, Nat.reduceMul, Nat.reduceSub, Nat.reduceLeDiff, Nat.reduceEqDiff, Nat.add_zero, Nat.zero_add, Nat.reduceLT, Nat.mul_zero, M7, d3, hei, g1, g2, e2]
        exact f2 f
theorem goM_end {S M : zSt} {l e tt : Nat} (n : Nat) (x1 x2 x3 x4 : Int32) (hS : StR S M l e tt) : fM_goThrough_l89 (n + 1) M x1 x2 x3 x4 (nI 1) (nI e) = some M := by
  obtain ⟨⟨S0, M6⟩, hl, ⟨S1, M7⟩, he, _⟩ := hS
  rw [goM_s]
  simp (disch := omega) only [fM_goThrough_l89b, li0, li1, li2, li3, li4, li5, li6, li7, li8, li9, li10, li12, li13, li14, li16, li20, li21, li22, li23, li26, li30, li32, li40, li48, li50, li57, li59, li97, li99, li100, li122, li128, li180, li320, li500, li999, nI_add, pk_mul, subN, clampN, zg_ix, nlt, nle, neq, zn_eq, bind_s, ↓reduceIte, Nat.reduceAdd, Nat.reduceMul, Nat.reduceSub, Nat.reduceLeDiff, Nat.reduceEqDiff, Nat.add_zero, Nat.zero_add, Nat.reduceLT, Nat.mul_zero, M7, Nat.le_refl]
theorem goM_end0 {S M : zSt} {l e tt : Nat} (n : Nat) (x1 x2 x3 x4 : Int32) (hS : StR S M l e tt) : fM_goThrough_l89 (n + 1) M x1 x2 x3 x4 (nI 0) (nI e) = fM_move M x4 (nI e) := by
  obtain ⟨⟨S0, M6⟩, hl, ⟨S1, M7⟩, he, _⟩ := hS
  rw [goM_s]
  simp (disch := omega) only [fM_goThrough_l89b, li0, li1, li2, li3, li4, li5, li6, li7, li8, li9, li10, li12, li13, li14, li16, li20, li21, li22, li23, li26, li30, li32, li40, li48, li50, li57, li59, li97, li99, li100, li122, li128, li180, li320, li500, li999, nI_add, pk_mul, subN, clampN, zg_ix, nlt, nle, neq, zn_eq, bind_s, ↓reduceIte, Nat.reduceAdd, Nat.reduceMul, Nat.reduceSub, Nat.reduceLeDiff, Nat.reduceEqDiff, Nat.add_zero, Nat.zero_add, Nat.reduceLT, Nat.mul_zero, M7, Nat.le_refl]
  cases fM_move M x4 (nI e) <;> rfl
theorem goM_skip1 {S M : zSt} {l e tt k : Nat} (n : Nat) (x1 x2 x3 x4 : Int32) (hS : StR S M l e tt) (hk : k < e) (h : x1 < zA S 9 k ∨ nI k = x2) : fM_goThrough_l89 (n + 1) M x1 x2 x3 x4 (nI 1) (nI k) = fM_goThrough_l89 n M x1 x2 x3 x4 (nI 1) (nI (k + 1)) := by
  obtain ⟨dd, d1, d2, d3⟩ := hS.day hk
  obtain ⟨⟨S0, M6⟩, hl, ⟨S1, M7⟩, he, _⟩ := hS
  have hei : ¬ e ≤ k := by omega
  rw [d2] at h
  rw [goM_s]
  rcases h with h | rfl
  · simp (disch := omega) only [fM_goThrough_l89b, fM_goThrough_b134, li0, li1, li2, li3, li4, li5, li6, li7, li8, li9, li10, li12, li13, li14, li16, li20, li21, li22, li23, li26, li30, li32, li40, li48, li50, li57, li59, li97, li99, li100, li122, li128, li180, li320, li500, li999, nI_add, pk_mul, subN, clampN, zg_ix, nlt, nle, neq, zn_eq, bind_s, ↓reduceIte, Nat.reduceAdd, Nat.reduceMul, Nat.reduceSub, Nat.reduceLeDiff, Nat.reduceEqDiff, Nat.add_zero, Nat.zero_add, Nat.reduceLT, Nat.mul_zero, M7, d3, hei, h]
  · by_cases z : x1 < nI dd
    · simp (disch := omega) only [fM_goThrough_l89b, fM_goThrough_b134, li0, li1, li2, li3, li4, li5, li6, li7, li8, li9, li10, li12, li13, li14, li16, li20, li21, li22, li23, li26, li30, li32, li40, li48, li50, li57, li59, li97, li99, li100, li122, li128, li180, li320, li500, li999, nI_add, pk_mul, subN, clampN, zg_ix, nlt, nle, neq, zn_eq, bind_s, ↓reduceIte, Nat.reduceAdd, Nat.reduceMul, Nat.reduceSub, Nat.reduceLeDiff, Nat.reduceEqDiff, Nat.add_zero, Nat.zero_add, Nat.reduceLT, Nat.mul_zero, M7, d3, hei, z]
    · simp (disch := omega) only [fM_goThrough_l89b, fM_goThrough_b134, li0, li1, li2, li3, li4, li5, li6, li7, li8, li9, li10, li12, li13, li14, li16, li20, li21, li22, li23, li26, li30, li32, li40, li48, li50, li57, li59, li97, li99, li100, li122, li128, li180, li320, li500, li999, nI_add, pk_mul, subN, clampN, zg_ix, nlt, nle, neq, zn_eq, bind_s, ↓reduceIte, Nat.reduceAdd, Nat.reduceMul, Nat.reduceSub, Nat.reduceLeDiff, Nat.reduceEqDiff, Nat.add_zero, Nat.zero_add, Nat.reduceLT, Nat.mul_zero, M7, d3, hei, z]
theorem goM_skips {S M : zSt} {l e tt : Nat} (x1 x2 x3 x4 : Int32) (hS : StR S M l e tt) : ∀ (d k f : Nat), k + d = e → (∀ q, k ≤ q → q < e → x1 < zA S 9 q) → fM_goThrough_l89 (f + d) M x1 x2 x3 x4 (nI 1) (nI k) = fM_goThrough_l89 f M x1 x2 x3 x4 (nI 1) (nI e) := by
  intro d
  induction d with
  | zero => intro k f h _; have : k = e := by omega
            subst this; rfl
  | succ d ih =>
    intro k f h hx
    rw [show f + (d + 1) = (f + d) + 1 from rfl, goM_skip1 _ x1 x2 x3 x4 hS (by omega) (Or.inl (hx k (Nat.le_refl _) (by omega)))]
    exact ih (k + 1) f (by omega) (fun q a b => hx q (by omega) b)
/-- at the first event of a day or later the reference moves -/
theorem goM_mv {S M M' : zSt} {l e tt k : Nat} (n : Nat) (x1 x2 x3 x4 : Int32) (hS : StR S M l e tt) (hk : k < e) (h : x3 ≤ zA S 9 k) (hm : fM_move M x4 (nI k) = some M') (hf : MF M M') : fM_goThrough_l89 (n + 1) M x1 x2 x3 x4 (nI 0) (nI k) = fM_goThrough_l89 (n + 1) M' x1 x2 x3 x4 (nI 1) (nI k) := by
  obtain ⟨dd, d1, d2, d3⟩ := hS.day hk
  obtain ⟨_, _, _, d3'⟩ := (hS.mf hf).day hk
  have d3'' : zA M' 10 (6 * k + 1) = nI dd := by rw [hf.2 10 (by omega)]; exact d3
  obtain ⟨⟨S0, M6⟩, hl, ⟨S1, M7⟩, he, _⟩ := hS
  have hei : ¬ e ≤ k := by omega
  rw [d2] at h
  have h' : ¬ nI dd < x3 := Int32.not_lt.mpr h
  have M7' : zI M' 7 = nI e := by rw [hf.1 7 (by omega) (by omega) (by omega)]; exact M7
  rw [goM_s, goM_s]
  simp (disch := omega) only [fM_goThrough_l89b, li0, li1, li2, li3, li4, li5, li6, li7, li8, li9, li10, li12, li13, li14, li16, li20, li21, li22, li23, li26, li30, li32, li40, li48, li50, li57, li59, li97, li99, li100, li122, li128, li180, li320, li500, li999, nI_add, pk_mul, subN, clampN, zg_ix, nlt, nle, neq, zn_eq, bind_s, ↓reduceIte, Nat.reduceAdd, Nat.reduceMul, Nat.reduceSub, Nat.reduceLeDiff, Nat.reduceEqDiff, Nat.add_zero, Nat.zero_add, Nat.reduceLT, Nat.mul_zero, M7, M7', d3, d3'', hei, h', hm]
theorem first_s (n : Nat) (S : zSt) (x y : Int32) : fS_firstEventFrom_l2 (n + 1) S x y = fS_firstEventFrom_l2b (fun v0 v1 v2 => fS_firstEventFrom_l2 n v0 v1 v2) S x y := rfl
theorem first_loop {S : zSt} {e : Nat} (x : Int32) (he : e ≤ 30) (h1 : zI S 1 = nI e) (hday : ∀ i j, i ≤ j → j < e → zA S 9 i ≤ zA S 9 j) : ∀ (d f k : Nat), k + d = e → d < f → (∀ q, q < k → zA S 9 q < x) → ∃ y, y ≤ e ∧ fS_firstEventFrom_l2 f S x (nI k) = some (nI y) ∧ (∀ q, q < y → zA S 9 q < x) ∧ (∀ q, y ≤ q → q < e → x ≤ zA S 9 q) := by
  intro d
  induction d with
  | zero =>
    intro f k h hf hq
    obtain ⟨n, rfl⟩ : ∃ n, f = n + 1 := ⟨f - 1, by omega⟩
    have hk : e ≤ k := by omega
    refine ⟨k, by omega, ?_, hq, fun q a b => by omega⟩
    rw [first_s]
    simp (disch := omega) only [fS_firstEventFrom_l2b, li0, li1, li2, li3, li4, li5, li6, li7, li8, li9, li10, li12, li13, li14, li16, li20, li21, li22, li23, li26, li30, li32, li40, li48, li50, li57, li59, li97, li99, li100, li122, li128, li180, li320, li500, li999, nI_add, pk_mul, subN, clampN, zg_ix, nlt, nle, neq, zn_eq, bind_s, ↓reduceIte, Nat.reduceAdd, Nat.reduceMul, Nat.reduceSub, Nat.reduceLeDiff, Nat.reduceEqDiff, Nat.add_zero, Nat.zero_add, Nat.reduceLT, Nat.mul_zero, h1, hk]
  | succ d ih =>
    intro f k h hf hq
    obtain ⟨n, rfl⟩ : ∃ n, f = n + 1 := ⟨f - 1, by omega⟩
    have hk : ¬ e ≤ k := by omega
    by_cases z : x ≤ zA S 9 k
    · refine ⟨k, by omega, ?_, hq, fun q a b => Int32.le_trans z (hday k q a b)⟩
      rw [first_s]
      simp (disch := omega) only [fS_firstEventFrom_l2b, li0, li1, li2, li3, li4, li5, li6, li7, li8, li9, li10, li12, li13, li14, li16, li20, li21, li22, li23, li26, li30, li32, li40, li48, li50, li57, li59, li97, li99, li100, li122, li128, li180, li320, li500, li999, nI_add, pk_mul, subN, clampN, zg_ix, nlt, nle, neq, zn_eq, bind_s, ↓reduceIte, Nat.reduceAdd, Nat.reduceMul, Nat.reduceSub, Nat.reduceLeDiff, Nat.reduceEqDiff, Nat.add_zero, Nat.zero_add, Nat.reduceLT, Nat.mul_zero, h1, hk, z]
    · obtain ⟨y, y1, y2, y3, y4⟩ := ih n (k + 1) (by omega) (by omega) (fun q hqk => by
        by_cases w : q = k
        · subst w; exact Int32.not_le.mp z
        · exact hq q (by omega))
      refine ⟨y, y1, ?_, y3, y4⟩
      rw [first_s]
      simp (disch := omega) only [fS_firstEventFrom_l2b, li0, li1, li2, li3, li4, li5, li6, li7, li8, li9, li10, li12, li13, li14, li16, li20, li21, li22, li23, li26, li30, li32, li40, li48, li50, li57, li59, li97, li99, li100, li122, li128, li180, li320, li500, li999, nI_add, pk_mul, subN, clampN, zg_ix, nlt, nle, neq, zn_eq, bind_s, ↓reduceIte, Nat.reduceAdd, Nat.reduceMul, Nat.reduceSub, Nat.reduceLeDiff, Nat.reduceEqDiff, Nat.add_zero, Nat.zero_add, Nat.reduceLT, Nat.mul_zero, h1, hk, z]
      exact y2
theorem first_eq {S M : zSt} {l e t : Nat} (x : Int32) (h : StR S M l e t) : ∃ y, y ≤ e ∧ fS_firstEventFrom S x = some (nI y) ∧ (∀ q, q < y → zA S 9 q < x) ∧ (∀ q, y ≤ q → q < e → x ≤ zA S 9 q) := by
  obtain ⟨⟨S0, M6⟩, hl, ⟨S1, M7⟩, he, ⟨S2, M8⟩, htt, ht10, hLw, hEv, hday⟩ := h
  exact first_loop x he S1 hday e zF 0 (by omega) (by unfold zF; omega) (fun q hq => by omega)
/-- how the reference's run begins -/
theorem go18_s (n : Nat) (M : zSt) (x1 x2 x3 x4 x5 x6 x7 : Int32) : fM_goThrough_l18 (n + 1) M x1 x2 x3 x4 x5 x6 x7 = fM_goThrough_l18b (fun v0 v1 v2 v3 v4 v5 v6 v7 => fM_goThrough_l18 n v0 v1 v2 v3 v4 v5 v6 v7) M x1 x2 x3 x4 x5 x6 x7 := rfl
theorem go54_s (n : Nat) (M : zSt) (x1 x2 x3 x4 x7 : Int32) : fM_goThrough_l54 (n + 1) M x1 x2 x3 x4 x7 = fM_goThrough_l54b (fun v0 v1 v2 v3 v4 v5 => fM_goThrough_l54 n v0 v1 v2 v3 v4 v5) M x1 x2 x3 x4 x7 := rfl
theorem go54_run (x1 x2 x3 x4 : Int32) : ∀ (d j f : Nat) (M : zSt), j + d = 3 → d < f → ∃ M', fM_goThrough_l54 f M x1 x2 x3 x4 (nI j) = fM_goThrough_l89 zF M' x1 x2 x3 x4 (if nI 0 ≤ x4 then nI 0 else nI 1) (nI 0) ∧ (∀ p, p < 3 → zA M' 39 p = if j ≤ p then nI 0 else zA M 39 p) ∧ (∀ k, k ≠ 39 → zA M' k = zA M k) ∧ (∀ k, zI M' k = zI M k) := by
  intro d
  induction d with
  | zero =>
    intro j f M h hf
    obtain ⟨n, rfl⟩ : ∃ n, f = n + 1 := ⟨f - 1, by omega⟩
    have hj : 3 ≤ j := by omega
    refine ⟨M, ?_, fun p hp => by rw [if_neg (by omega)], fun _ _ => rfl, fun _ => rfl⟩
    rw [go54_s]
    by_cases z : nI 0 ≤ x4
    · simp (disch := omega) only [fM_goThrough_l54b, li0, li1, li2, li3, li4, li5, li6, li7, li8, li9, li10, li12, li13, li14, li16, li20, li21, li22, li23, li26, li30, li32, li40, li48, li50, li57, li59, li97, li99, li100, li122, li128, li180, li320, li500, li999, nI_add, pk_mul, subN, clampN, zg_ix, nlt, nle, neq, zn_eq, bind_s, ↓reduceIte, Nat.reduceAdd, Nat.reduceMul, Nat.reduceSub, Nat.reduceLeDiff, Nat.reduceEqDiff, Nat.add_zero, Nat.zero_add, Nat.reduceLT, Nat.mul_zero, hj, z]
    · simp (disch := omega) only [fM_goThrough_l54b, li0, li1, li2, li3, li4, li5, li6, li7, li8, li9, li10, li12, li13, li14, li16, li20, li21, li22, li23, li26, li30, li32, li40, li48, li50, li57, li59, li97, li99, li100, li122, li128, li180, li320, li500, li999, nI_add, pk_mul, subN, clampN, zg_ix, nlt, nle, neq, zn_eq, bind_s, ↓reduceIte, Nat.reduceAdd, Nat.reduceMul, Nat.reduceSub, Nat.reduceLeDiff, Nat.reduceEqDiff, Nat.add_zero, Nat.zero_add, Nat.reduceLT, Nat.mul_zero, hj, z]
  | succ d ih =>
    intro j f M h hf
    obtain ⟨n, rfl⟩ : ∃ n, f = n + 1 := ⟨f - 1, by omega⟩
    have hj : ¬ 3 ≤ j := by omega
    obtain ⟨M', e1, e2, e3, e4⟩ := ih (j + 1) n (zsA M 39 j (nI 0)) (by omega) (by omega)
    refine ⟨M', ?_, fun p hp => ?_, fun k hk => ?_, fun k => e4 k⟩
    · rw [go54_s]
      simp (disch := omega) only [fM_goThrough_l54b, li0, li1, li2, li3, li4, li5, li6, li7, li8, li9, li10, li12, li13, li14, li16, li20, li21, li22, li23, li26, li30, li32, li40, li48, li50, li57, li59, li97, li99, li100, li122, li128, li180, li320, li500, li999, nI_add, pk_mul, subN, clampN, zg_ix, nlt, nle, neq, zn_eq, bind_s, ↓reduceIte, Nat.reduceAdd, Nat.reduceMul, Nat.reduceSub, Nat.reduceLeDiff, Nat.reduceEqDiff, Nat.add_zero, Nat.zero_add, Nat.reduceLT, Nat.mul_zero, hj]
      exact e1
    · rw [e2 p hp]
      simp only [zI_zsI, zI_zsAf, zI_zsJ, zI_zsLf, zA_zsI, zA_zsAf, zA_zsJ, zA_zsLf, zJ_zsI, zJ_zsAf, zJ_zsJ, zJ_zsLf, zL_zsI, zL_zsAf, zL_zsJ, zL_zsLf, zI_zsA, zA_zsA, zJ_zsA, zL_zsA, zI_zsL, zA_zsL, zJ_zsL, zL_zsL, zn_eq, li0, li1, li2, li3, li4, li5, li6, li7, li8, li9, li10, li12, li13, li14, li16, li20, li21, li22, li23, li26, li30, li32, li40, li48, li50, li57, li59, li97, li99, li100, li122, li128, li180, li320, li500, li999, nI_add, pk_mul, subN, clampN, zg_ix, nlt, nle, neq, zn_eq, bind_s, ↓reduceIte, Nat.reduceAdd, Nat.reduceMul, Nat.reduceSub, Nat.reduceLeDiff, Nat.reduceEqDiff, Nat.add_zero, Nat.zero_add, Nat.reduceLT, Nat.mul_zero]
      by_cases z : p = j
      · subst z
        rw [if_neg (by omega), if_pos (by omega), upd_same]
      · rw [upd_ne z]
        by_cases y : j + 1 ≤ p
        · rw [if_pos y, if_pos (by omega)]
        · rw [if_neg y, if_neg (by omega)]
    · rw [e3 k hk]
      simp only [zI_zsI, zI_zsAf, zI_zsJ, zI_zsLf, zA_zsI, zA_zsAf, zA_zsJ, zA_zsLf, zJ_zsI, zJ_zsAf, zJ_zsJ, zJ_zsLf, zL_zsI, zL_zsAf, zL_zsJ, zL_zsLf, zI_zsA, zA_zsA, zJ_zsA, zL_zsA, zI_zsL, zA_zsL, zJ_zsL, zL_zsL, zn_eq, li0, li1, li2, li3, li4, li5, li6, li7, li8, li9, li10, li12, li13, li14, li16, li20, li21, li22, li23, li26, li30, li32, li40, li48, li50, li57, li59, li97, li99, li100, li122, li128, li180, li320, li500, li999, nI_add, pk_mul, subN, clampN, zg_ix, nlt, nle, neq, zn_eq, bind_s, ↓reduceIte, Nat.reduceAdd, Nat.reduceMul, Nat.reduceSub, Nat.reduceLeDiff, Nat.reduceEqDiff, Nat.add_zero, Nat.zero_add, Nat.reduceLT, Nat.mul_zero, hk]
theorem go18_run (x1 x2 x3 x4 x5 x6 : Int32) : ∀ (d j f : Nat) (M : zSt), j + d = 5 → d < f → ∃ M', fM_goThrough_l18 f M x1 x2 x3 x4 x5 x6 (nI j) = fM_goThrough_l89 zF M' x1 x2 x3 x4 (if nI 0 ≤ x4 then nI 0 else nI 1) (nI 0) ∧ (∀ w, w < 5 → zA M' 27 w = if j ≤ w then (if nI w = x5 then x6 else -1000000) else zA M 27 w) ∧ (∀ p, p < 3 → zA M' 39 p = nI 0) ∧ (∀ k, k ≠ 27 → k ≠ 39 → zA M' k = zA M k) ∧ (∀ k, zI M' k = zI M k) := by
  intro d
  induction d with
  | zero =>
    intro j f M h hf
    obtain ⟨n, rfl⟩ : ∃ n, f = n + 1 := ⟨f - 1, by omega⟩
    have hj : 5 ≤ j := by omega
    obtain ⟨M', e1, e2, e3, e4⟩ := go54_run x1 x2 x3 x4 3 0 zF M (by omega) (by unfold zF; omega)
    refine ⟨M', ?_, fun w hw => ?_, fun p hp => ?_, fun k a b => e3 k b, e4⟩
    · rw [go18_s, ← e1]
      simp (disch := omega) only [fM_goThrough_l18b, li0, li1, li2, li3, li4, li5, li6, li7, li8, li9, li10, li12, li13, li14, li16, li20, li21, li22, li23, li26, li30, li32, li40, li48, li50, li57, li59, li97, li99, li100, li122, li128, li180, li320, li500, li999, nI_add, pk_mul, subN, clampN, zg_ix, nlt, nle, neq, zn_eq, bind_s, ↓reduceIte, Nat.reduceAdd, Nat.reduceMul, Nat.reduceSub, Nat.reduceLeDiff, Nat.reduceEqDiff, Nat.add_zero, Nat.zero_add, Nat.reduceLT, Nat.mul_zero, hj]
    · rw [if_neg (by omega), e3 27 (by omega)]
    · rw [e2 p hp, if_pos (by omega)]
  | succ d ih =>
    intro j f M h hf
    obtain ⟨n, rfl⟩ : ∃ n, f = n + 1 := ⟨f - 1, by omega⟩
    have hj : ¬ 5 ≤ j := by omega
    obtain ⟨v, hv⟩ : ∃ v, v = if nI j = x5 then x6 else (-1000000 : Int32) := ⟨_, rfl⟩
    obtain ⟨M', e1, e2, e3, e4, e5⟩ := ih (j + 1) n (zsA M 27 j v) (by omega) (by omega)
    refine ⟨M', ?_, fun w hw => ?_, e3, fun k a b => ?_, fun k => e5 k⟩
    · rw [go18_s, ← e1]
      by_cases z : nI j = x5
      · rw [if_pos z] at hv
        subst z
        simp (disch := omega) only [fM_goThrough_l18b, li0, li1, li2, li3, li4, li5, li6, li7, li8, li9, li10, li12, li13, li14, li16, li20, li21, li22, li23, li26, li30, li32, li40, li48, li50, li57, li59, li97, li99, li100, li122, li128, li180, li320, li500, li999, nI_add, pk_mul, subN, clampN, zg_ix, nlt, nle, neq, zn_eq, bind_s, ↓reduceIte, Nat.reduceAdd, Nat.reduceMul, Nat.reduceSub, Nat.reduceLeDiff, Nat.reduceEqDiff, Nat.add_zero, Nat.zero_add, Nat.reduceLT, Nat.mul_zero, hj, hv]
      · rw [if_neg z] at hv
        simp (disch := omega) only [fM_goThrough_l18b, li0, li1, li2, li3, li4, li5, li6, li7, li8, li9, li10, li12, li13, li14, li16, li20, li21, li22, li23, li26, li30, li32, li40, li48, li50, li57, li59, li97, li99, li100, li122, li128, li180, li320, li500, li999, nI_add, pk_mul, subN, clampN, zg_ix, nlt, nle, neq, zn_eq, bind_s, ↓reduceIte, Nat.reduceAdd, Nat.reduceMul, Nat.reduceSub, Nat.reduceLeDiff, Nat.reduceEqDiff, Nat.add_zero, Nat.zero_add, Nat.reduceLT, Nat.mul_zero, hj, z, hv]
    · rw [e2 w hw]
      simp only [zI_zsI, zI_zsAf, zI_zsJ, zI_zsLf, zA_zsI, zA_zsAf, zA_zsJ, zA_zsLf, zJ_zsI, zJ_zsAf, zJ_zsJ, zJ_zsLf, zL_zsI, zL_zsAf, zL_zsJ, zL_zsLf, zI_zsA, zA_zsA, zJ_zsA, zL_zsA, zI_zsL, zA_zsL, zJ_zsL, zL_zsL, zn_eq, li0, li1, li2, li3, li4, li5, li6, li7, li8, li9, li10, li12, li13, li14, li16, li20, li21, li22, li23, li26, li30, li32, li40, li48, li50, li57, li59, li97, li99, li100, li122, li128, li180, li320, li500, li999, nI_add, pk_mul, subN, clampN, zg_ix, nlt, nle, neq, zn_eq, bind_s, ↓reduceIte, Nat.reduceAdd, Nat.reduceMul, Nat.reduceSub, Nat.reduceLeDiff, Nat.reduceEqDiff, Nat.add_zero, Nat.zero_add, Nat.reduceLT, Nat.mul_zero]
      by_cases z : w = j
      · subst z
        rw [if_neg (by omega), if_pos (by omega), upd_same, hv]
      · rw [upd_ne z]
        by_cases y : j + 1 ≤ w
        · have y' : j ≤ w := by omega
          simp only [y, y', if_true]
        · have y' : ¬ j ≤ w := by omega
          simp only [y, y', if_false]
    · rw [e4 k a b]
      simp only [zI_zsI, zI_zsAf, zI_zsJ, zI_zsLf, zA_zsI, zA_zsAf, zA_zsJ, zA_zsLf, zJ_zsI, zJ_zsAf, zJ_zsJ, zJ_zsLf, zL_zsI, zL_zsAf, zL_zsJ, zL_zsLf, zI_zsA, zA_zsA, zJ_zsA, zL_zsA, zI_zsL, zA_zsL, zJ_zsL, zL_zsL, zn_eq, li0, li1, li2, li3, li4, li5, li6, li7, li8, li9, li10, li12, li13, li14, li16, li20, li21, li22, li23, li26, li30, li32, li40, li48, li50, li57, li59, li97, li99, li100, li122, li128, li180, li320, li500, li999, nI_add, pk_mul, subN, clampN, zg_ix, nlt, nle, neq, zn_eq, bind_s, ↓reduceIte, Nat.reduceAdd, Nat.reduceMul, Nat.reduceSub, Nat.reduceLeDiff, Nat.reduceEqDiff, Nat.add_zero, Nat.zero_add, Nat.reduceLT, Nat.mul_zero, a]
theorem go_init (M : zSt) (x1 x2 x3 x4 x5 x6 : Int32) : ∃ M', fM_goThrough M x1 x2 x3 x4 x5 x6 = fM_goThrough_l89 zF M' x1 x2 x3 x4 (if nI 0 ≤ x4 then nI 0 else nI 1) (nI 0) ∧ (∀ w, w < 5 → zA M' 27 w = if nI w = x5 then x6 else -1000000) ∧ (∀ p, p < 3 → zA M' 39 p = nI 0) ∧ zI M' 26 = nI 0 ∧ zI M' 28 = nI 0 ∧ zI M' 40 = nI 0 ∧ MF M M' := by
  obtain ⟨M', e1, e2, e3, e4, e5⟩ := go18_run x1 x2 x3 x4 x5 x6 5 0 zF (zsI (zsI (zsI M 26 0) 28 0) 40 0) (by omega) (by unfold zF; omega)
  refine ⟨M', e1, fun w hw => by rw [e2 w hw, if_pos (by omega)], e3, ?_, ?_, ?_, fun k a b c => ?_, fun k hk => ?_⟩
  · rw [e5]; rfl
  · rw [e5]; rfl
  · rw [e5]; rfl
  · rw [e5]; simp only [zI_zsI, zI_zsAf, zI_zsJ, zI_zsLf, zA_zsI, zA_zsAf, zA_zsJ, zA_zsLf, zJ_zsI, zJ_zsAf, zJ_zsJ, zJ_zsLf, zL_zsI, zL_zsAf, zL_zsJ, zL_zsLf, zI_zsA, zA_zsA, zJ_zsA, zL_zsA, zI_zsL, zA_zsL, zJ_zsL, zL_zsL, zn_eq, li0, li1, li2, li3, li4, li5, li6, li7, li8, li9, li10, li12, li13, li14, li16, li20, li21, li22, li23, li26, li30, li32, li40, li48, li50, li57, li59, li97, li99, li100, li122, li128, li180, li320, li500, li999, nI_add, pk_mul, subN, clampN, zg_ix, nlt, nle, neq, zn_eq, bind_s, ↓reduceIte, Nat.reduceAdd, Nat.reduceMul, Nat.reduceSub, Nat.reduceLeDiff, Nat.reduceEqDiff, Nat.add_zero, Nat.zero_add, Nat.reduceLT, Nat.mul_zero, a, b, c]
  · rw [e4 k (by omega) (by omega)]; rfl
theorem begin_eq (C : zSt) : ∃ C', fC_begin C = some C' ∧ zI C' 1 = nI 0 ∧ zI C' 4 = nI 0 ∧ zI C' 13 = nI 0 ∧ (∀ w, w < 5 → zA C' 2 w = -1000000) ∧ (∀ p, p < 3 → zA C' 3 p = nI 0) := by
  refine ⟨_, rfl, rfl, rfl, rfl, fun w hw => ?_, fun p hp => ?_⟩
  · show zfill 5 (-1000000) _ w = _
    unfold zfill
    rw [if_pos hw]
  · show zfill 3 0 _ p = _
    unfold zfill
    rw [if_pos hp]
    rfl
theorem CR0 {fb : Prop} {S C M : zSt} {l : Nat} (hl : 1 ≤ l) (c1 : zI C 1 = nI 0) (c4 : zI C 4 = nI 0) (c13 : zI C 13 = nI 0) (c3 : ∀ p, p < 3 → zA C 3 p = nI 0) (m26 : zI M 26 = nI 0) (m28 : zI M 28 = nI 0) (m40 : zI M 40 = nI 0) (m39 : ∀ p, p < 3 → zA M 39 p = nI 0) (hA : AgR C M) : CRi fb S C M l 0 :=
  ⟨0, 0, hl, c1, m26, hA, fun p hp => ⟨0, by omega, c3 p hp, m39 p hp⟩, c4, m28, fun j hj => by simp only [thn] at hj; omega, c13, m40, by omega, fun k hk => by omega⟩
